/-! ===== more acts that keep the history ===== -/
theorem cz_row {S : hs_S} {u j : Nat} {q : Nat → Int32} (h : gh u = false) : cz (hs_row S u j q) = hs_row (cz S) u j q := by
  refine Prod.ext (funext fun a => funext fun b => funext fun c => ?_) rfl
  show (if gh a = true then (0 : Int32) else if a = u ∧ b = j then q c else S.1 a b c) = if a = u ∧ b = j then q c else if gh a = true then 0 else S.1 a b c
  by_cases z : a = u ∧ b = j
  · rw [if_pos z, if_pos z, z.1, h]; rfl
  · rw [if_neg z, if_neg z]
theorem cz_row20 {S : hs_S} {j : Nat} {q : Nat → Int32} : cz (hs_row S 20 j q) = hs_row (cz S) 20 j q := cz_row rfl
theorem cz_cpy {S : hs_S} {t i i' : Nat} {a b w : Int32} (h : gh t = false) : cz (hs_cpy S t i t i' a b w) = hs_cpy (cz S) t i t i' a b w := by
  refine Prod.ext (funext fun x => funext fun y => funext fun z => ?_) rfl
  have e1 : ∀ j, (cz S).1 t j = S.1 t j := fun j => funext fun p => by
    show (if gh t = true then 0 else S.1 t j p) = _
    rw [h]; rfl
  show (if gh x = true then (0 : Int32) else if x = t ∧ y = i' then va_cpy (S.1 t i) (S.1 t i') a.toNatClampNeg b.toNatClampNeg w.toNatClampNeg z else S.1 x y z) = if x = t ∧ y = i' then va_cpy ((cz S).1 t i) ((cz S).1 t i') a.toNatClampNeg b.toNatClampNeg w.toNatClampNeg z else if gh x = true then 0 else S.1 x y z
  rw [e1, e1]
  by_cases q : x = t ∧ y = i'
  · rw [if_pos q, if_pos q, q.1, h]; rfl
  · rw [if_neg q, if_neg q]
theorem cz_cpy20 {S : hs_S} {i i' : Nat} {a b w : Int32} : cz (hs_cpy S 20 i 20 i' a b w) = hs_cpy (cz S) 20 i 20 i' a b w := cz_cpy rfl
theorem cz_cpy21 {S : hs_S} {i i' : Nat} {a b w : Int32} : cz (hs_cpy S 21 i 21 i' a b w) = hs_cpy (cz S) 21 i 21 i' a b w := cz_cpy rfl
theorem takes_p {a : Nat} {w : Int32} (h : tkN w ≤ a) (ha : a < 100) : nI a + (1 - F_takes w) = nI (a + 1 - tkN w) := by
  rw [takes_n]
  have h1 : (1 : Int32) - nI (tkN w) = nI 1 - nI (tkN w) := rfl
  have e1 : (nI a).toInt = a := nI_toInt (by omega)
  have e2 : (nI (tkN w)).toInt = tkN w := nI_toInt (by omega)
  have e3 : (nI (a + 1 - tkN w)).toInt = ((a + 1 - tkN w : Nat) : Int) := nI_toInt (by omega)
  have e4 : (1 : Int32).toInt = 1 := rfl
  refine i32_eq.mpr ?_
  rw [e3]
  have s1 : ((1 : Int32) - nI (tkN w)).toInt = 1 - (tkN w : Int) := by
    rw [Int32.toInt_sub, e4, e2]
    exact bm32 (by omega)
  rw [i32_add (by rw [s1, e1]; omega), s1, e1]
  omega
theorem kp_word {n : Nat} {U : hs_S} {a1 a2 a3 : Int32} {g p : Nat} (h : KS n U) (ho : wdOk a1 a2 a3) (hg : U.1 5 (U.2.1 9 1 4) 3 = nI g) (hp : U.1 5 (U.2.1 9 1 4) 4 = nI p) (hg12 : g < 12) (hp12 : p ≤ 12) (ht : tkN a1 ≤ p) : KS n (E_Fml_append (U.2.1 9 1 4) a1 a2 a3 U) := by
  obtain ⟨V, hR⟩ := h
  obtain ⟨ev, ng, nl, nE, nB, nR, nd, ⟨hA, hG, hH, hE, hF, hN, hB, hC⟩, hL, hQ, hM⟩ := id hR
  obtain ⟨⟨f1, f2, f3⟩, f4, f5, f6, f7⟩ := hF
  have hnd : nd ≤ 12 := hA.1.2.2.2.2
  have f4' : U.1 5 (U.2.1 9 1 4) 3 = nI nd := f4
  have eg : g = nd := (hl_inj (by omega) (by omega)).mp (hg.symm.trans f4')
  subst eg
  have hc12 : ∀ k, cht (mrg U V) (U.2.1 9 1 4) k ≤ k := fun k => by
    induction k with
    | zero => exact Nat.le_refl _
    | succ k ih =>
      show cht (mrg U V) (U.2.1 9 1 4) k + 1 - _ ≤ k + 1
      omega
  have f6' : U.1 5 (U.2.1 9 1 4) 4 = nI (cht (mrg U V) (U.2.1 9 1 4) g) := f6
  have hcg := hc12 g
  have ep : p = cht (mrg U V) (U.2.1 9 1 4) g := (hl_inj (by omega) (by omega)).mp (hp.symm.trans f6')
  have e10 : (mrg U V).1 11 1 10 = nI g := hA.2.1.2.2.2.2.2.2.2
  refine KS_of (word_RR (y := 0) hR ho e10 hg12 (by rw [ep] at ht; exact ht)) ?_
  unfold E_Fml_append
  rw [hg, hp, hl_cl (by omega), nI_1, takes_p ht (by omega), ep]
  simp only [cg11, cg42, cg43, cg44, cg46, cg47, cg48, cg49, cg51, cg53, cg54, cg55, cg56, cg57, cg58, cg60, cg61, cg62, cg63, cg65, cg66, cg67, cg68, cg69, cg70, cg71, cg72, cg73, cg74, cg77, cg78, cg79, cg80, cg81, cg82, cg83, cg84, cg87, cg88, ci0, ci3, ci5, ci8, ci10, ci20, ci21, ci22, ci23, ci24, ci25, ci27, ci35, ci36, ci37, cw_59, cw_72, cw_21, cz_R, cz_L, cz_as, cz_add, cz_nw, cz_mrg]
  rfl
/-- a formula is told -/
def enU (U : hs_S) (k o : Int32) : hs_S := hs_wI (hs_wR (E_Fml_init (U.2.2.2 5 + 1) (hs_nw (E_Sht_tell k o (U.1 10 1 5) (U.2.1 9 1 4) U) 5)) 9 1 4 (U.2.2.2 5 + 1)) 10 1 5 (U.1 10 1 5 + 1)
theorem kp_enter {n : Nat} {U : hs_S} {k o : Nat} (h : KS n U) (hk : k < 24) (hn : n < 512) (hE : hs_sz U 12 < 60) (h1 : U.1 5 (U.2.1 9 1 4) 4 = 1) : KS (n + 1) (enU U (nI k) (nI o)) := by
  obtain ⟨V, ev, ng, nl, nE, nB, nR, nd, hX, hL, hQ, hM⟩ := h
  have e5 : U.1 10 1 5 = nI ev := hX.1.2.1.1
  have hz : hs_sz U 12 = nE := hX.1.2.2.1.1
  have h3 : U.2.2.2 3 = nE := hX.1.2.2.1.2.1
  obtain ⟨⟨f1, f2, f3⟩, f4, f5, f6, f7⟩ := hX.2.2.2.2.1
  have f2' : U.2.1 9 1 4 = U.2.2.2 5 := f2
  have f6' : U.1 5 (U.2.1 9 1 4) 4 = nI (cht (mrg U V) (U.2.1 9 1 4) nd) := f6
  have hnd : nd ≤ 12 := hX.1.1.2.2.2.2
  have hc12 : ∀ k, cht (mrg U V) (U.2.1 9 1 4) k ≤ k := fun k => by
    induction k with
    | zero => exact Nat.le_refl _
    | succ k ih =>
      show cht (mrg U V) (U.2.1 9 1 4) k + 1 - _ ≤ k + 1
      omega
  have hp : cht (mrg U V) (U.2.2.2 5) nd = 1 := by
    rw [← f2']
    have := hc12 nd
    exact (hl_inj (b := 1) (by omega) (by omega)).mp (f6'.symm.trans h1)
  obtain ⟨m, hm, em, _⟩ := ntc (U := mrg U V) (V := mrg U V) (c := k / 6) (ev := ev) hX.2.2.2.2.2.1 (by omega)
  have em' : nI ev + (if (1 : Int32) < U.1 25 1 (k / 6) then U.1 25 1 (k / 6) else 1) = nI m := em
  refine KS_of (enter_RR (y := 0) (o := o) (d := U.2.2.2 5) (q := fun p => if 36 * nE ≤ p ∧ p < 36 * nE + 3 * nd then (mrg U V).1 51 1 (p - 36 * nE) else (mrg U V).1 59 1 p) hX hL hQ hM hk hm (by omega) hn f2 hp (fun _ => rfl)) ?_
  unfold enU E_Sht_tell entT tellT
  rw [e5, hz, h3, f2', nI_div6 (by omega), hl_cl (by omega), em', nI_1]
  unfold fmT edU E_Edit_init E_Fml_init
  simp only [cg11, cg42, cg43, cg44, cg46, cg47, cg48, cg49, cg51, cg53, cg54, cg55, cg56, cg57, cg58, cg60, cg61, cg62, cg63, cg65, cg66, cg67, cg68, cg69, cg70, cg71, cg72, cg73, cg74, cg77, cg78, cg79, cg80, cg81, cg82, cg83, cg84, cg87, cg88, ci0, ci3, ci5, ci8, ci10, ci20, ci21, ci22, ci23, ci24, ci25, ci27, ci35, ci36, ci37, cw_59, cw_72, cw_21, cz_R, cz_L, cz_as, cz_add, cz_nw, cz_mrg]
  rfl
theorem kp_bid {n : Nat} {U : hs_S} {o c m l : Nat} {a3 : Int32} (h : KS n U) (hn : n < 512) (ho : o < 6) (hc : c < 4) (h3 : a3 = 0 ∨ a3 = 1) (hm : 1 ≤ m ∧ m ≤ 100) (hl : l ≤ 9999) (hB : hs_sz U 13 < 80) :
    KS (n + 1) (hs_wI (hs_add (E_Bid_init (U.2.2.2 0 + 1) (nI (hs_sz U 13)) (nI o) (U.2.1 26 1 c) a3 (nI m) (nI l) (U.1 10 1 5) (hs_nw U 0)) 13 (U.2.2.2 0 + 1)) 10 1 5 (U.1 10 1 5 + 1)) := by
  obtain ⟨V, ev, ng, nl, nE, nB, nR, nd, hS⟩ := h
  have e5 : U.1 10 1 5 = nI ev := hS.1.1.2.1.1
  have hz : hs_sz U 13 = nB := hS.1.1.2.2.1.2.2.1
  have h0 : U.2.2.2 0 = nB := hS.1.1.2.2.1.2.2.2.1
  refine KS_of (bid_RR (y := 0) hS hn ho hc h3 hm hl (by omega)) ?_
  rw [e5, hz, h0, nI_1]
  unfold nbT nbM nbC E_Bid_init
  simp only [cg11, cg42, cg43, cg44, cg46, cg47, cg48, cg49, cg51, cg53, cg54, cg55, cg56, cg57, cg58, cg60, cg61, cg62, cg63, cg65, cg66, cg67, cg68, cg69, cg70, cg71, cg72, cg73, cg74, cg77, cg78, cg79, cg80, cg81, cg82, cg83, cg84, cg87, cg88, ci0, ci3, ci5, ci8, ci10, ci20, ci21, ci22, ci23, ci24, ci25, ci27, ci35, ci36, ci37, cw_59, cw_72, cw_21, cz_R, cz_L, cz_as, cz_add, cz_nw, cz_mrg]
  rfl
theorem kp_wdr {n b : Nat} {U : hs_S} (h : KS n U) (hn : n < 512) (hb : b < hs_sz U 13) (h7 : U.1 0 (b + 1) 7 = 2147483647) (hc : F_Rnd_isCleared (U.2.1 0 (b + 1) 2) U = 0) : KS (n + 1) (hs_wI (hs_wI U 0 (b + 1) 7 (U.1 10 1 5)) 10 1 5 (U.1 10 1 5 + 1)) := by
  obtain ⟨V, ev, ng, nl, nE, nB, nR, nd, hX, hL, hQ, hM⟩ := h
  have e5 : U.1 10 1 5 = nI ev := hX.1.2.1.1
  have hz : hs_sz U 13 = nB := hX.1.2.2.1.2.2.1
  rw [hz] at hb
  have hev := hX.1.1.1
  obtain ⟨i, i10⟩ := hX.2.2.2.2.2.2.1 b hb
  obtain ⟨_, c, _, _, _, j4⟩ := bid_rd (nB := nB) i10 hX.2.2.2.2.2.2.2 (by omega) hX.1.1.2.2.2.1
  have h71 : (mrg U V).1 71 1 b = -1 := by
    rcases i.2.2.2.2.2.1 with w | ⟨w, hw, _, w2⟩
    · exact w.1
    · exact absurd (w2.symm.trans h7) (neMax (by omega))
  refine KS_of (wdr_RR (y := 0) hX hL hQ hM hb (j4.mp hc) h71 hn) ?_
  rw [e5, nI_1]
  unfold wdrT
  simp only [cg11, cg42, cg43, cg44, cg46, cg47, cg48, cg49, cg51, cg53, cg54, cg55, cg56, cg57, cg58, cg60, cg61, cg62, cg63, cg65, cg66, cg67, cg68, cg69, cg70, cg71, cg72, cg73, cg74, cg77, cg78, cg79, cg80, cg81, cg82, cg83, cg84, cg87, cg88, ci0, ci3, ci5, ci8, ci10, ci20, ci21, ci22, ci23, ci24, ci25, ci27, ci35, ci36, ci37, cw_59, cw_72, cw_21, cz_R, cz_L, cz_as, cz_add, cz_nw, cz_mrg]
theorem kp_freeze {n c : Nat} {U : hs_S} (h : KS n U) (hn : n < 512) (hc : c < 4) : KS (n + 1) (hs_wI (E_Rnd_freeze (U.2.1 26 1 c) (U.1 10 1 5) (U.1 27 1 c) 1 U) 10 1 5 (U.1 10 1 5 + 1)) := by
  obtain ⟨V, ev, ng, nl, nE, nB, nR, nd, hS⟩ := h
  have e5 : U.1 10 1 5 = nI ev := hS.1.1.2.1.1
  have e27 : U.1 27 1 c = (mrg U V).1 61 1 c := (hS.1.2.2.2.2.2.1 c hc).2.1
  refine KS_of (freeze_RR (y := 0) hS hc hn) ?_
  rw [e5, nI_1, e27]
  unfold frT E_Rnd_freeze E_Rts_copy
  simp only [cg11, cg42, cg43, cg44, cg46, cg47, cg48, cg49, cg51, cg53, cg54, cg55, cg56, cg57, cg58, cg60, cg61, cg62, cg63, cg65, cg66, cg67, cg68, cg69, cg70, cg71, cg72, cg73, cg74, cg77, cg78, cg79, cg80, cg81, cg82, cg83, cg84, cg87, cg88, ci0, ci3, ci5, ci8, ci10, ci20, ci21, ci22, ci23, ci24, ci25, ci27, ci35, ci36, ci37, cw_59, cw_72, cw_21, cz_R, cz_L, cz_as, cz_add, cz_nw, cz_mrg, cz_cpy20, cz_cpy21]
  rfl
theorem co_cz {S T : hs_S} (h : cz T = cz S) : hs_co T = hs_co S := by
  obtain ⟨h1, h2⟩ := cz_2 h
  refine co_of (fun t i p a b _ _ => cz_pt h ?_) (fun t i p _ => by rw [h1]) h2
  unfold gh
  rw [beq_false_of_ne b, decide_eq_false (by omega)]; rfl
theorem cz_close1 {S : hs_S} {r : Nat} {a : Int32} : cz (E_Book_close r a S) = E_Book_close r a (cz S) := by
  have h8 : (cz S).1 8 r 0 = S.1 8 r 0 := rfl
  unfold E_Book_close E_Rnd_init Rnd0 E_Rts_init Rts0 Close0
  rw [h8]
  simp only [cg11, cg42, cg43, cg44, cg46, cg47, cg48, cg49, cg51, cg53, cg54, cg55, cg56, cg57, cg58, cg60, cg61, cg62, cg63, cg65, cg66, cg67, cg68, cg69, cg70, cg71, cg72, cg73, cg74, cg77, cg78, cg79, cg80, cg81, cg82, cg83, cg84, cg87, cg88, ci0, ci3, ci5, ci8, ci10, ci20, ci21, ci22, ci23, ci24, ci25, ci27, ci35, ci36, ci37, cw_59, cw_72, cw_21, cz_R, cz_L, cz_as, cz_add, cz_nw, cz_mrg, cz_row20]
  rfl
theorem cz_close {S T : hs_S} {r : Nat} {a : Int32} (h : cz T = cz S) : cz (E_Book_close r a T) = cz (E_Book_close r a S) := by
  rw [cz_close1, cz_close1, h]
