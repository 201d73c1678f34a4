/-! ===== edits ===== -/
theorem nw_ne {S : hs_S} {t i : Nat} (h : i ≠ S.2.2.2 t + 1) : (hs_nw S t).1 t i = S.1 t i := funext fun p => (if_neg (fun z => h z.2) : (if t = t ∧ i = S.2.2.2 t + 1 then 0 else S.1 t i p) = _)
theorem nw_neR {S : hs_S} {t i : Nat} (h : i ≠ S.2.2.2 t + 1) : (hs_nw S t).2.1 t i = S.2.1 t i := funext fun p => (if_neg (fun z => h z.2) : (if t = t ∧ i = S.2.2.2 t + 1 then 0 else S.2.1 t i p) = _)
abbrev edU (S : hs_S) (nE : Nat) (k o e m : Int32) (f : Nat) : hs_S := hs_add (E_Edit_init (nE + 1) (nI nE) k o e m f (hs_nw S 3)) 12 (nE + 1)
theorem edU_old {S : hs_S} {nE f i : Nat} {k o e m : Int32} (h3 : S.2.2.2 3 = nE) (h : i ≠ nE + 1) : (edU S nE k o e m f).1 3 i = S.1 3 i ∧ (edU S nE k o e m f).2.1 3 i = S.2.1 3 i :=
  ⟨(wI_ne h).trans ((wI_ne h).trans ((wI_ne h).trans ((wI_ne h).trans ((wI_ne h).trans ((wI_ne h).trans (nw_ne (by omega))))))), (wR_ne h).trans (nw_neR (by omega))⟩
theorem edU_new {S : hs_S} {nE f : Nat} {k o e m : Int32} : (edU S nE k o e m f).1 3 (nE + 1) 0 = nI nE ∧ (edU S nE k o e m f).1 3 (nE + 1) 1 = k ∧ (edU S nE k o e m f).1 3 (nE + 1) 2 = o ∧ (edU S nE k o e m f).1 3 (nE + 1) 3 = e ∧ (edU S nE k o e m f).1 3 (nE + 1) 4 = m ∧ (edU S nE k o e m f).1 3 (nE + 1) 6 = 0 ∧ (edU S nE k o e m f).2.1 3 (nE + 1) 5 = f := by
  show (hs_wI (hs_wI (hs_wI (hs_wI (hs_wI (hs_wI (hs_nw S 3) 3 (nE + 1) 6 0) 3 (nE + 1) 0 (nI nE)) 3 (nE + 1) 1 k) 3 (nE + 1) 2 o) 3 (nE + 1) 3 e) 3 (nE + 1) 4 m).1 3 (nE + 1) 0 = nI nE ∧ (hs_wI (hs_wI (hs_wI (hs_wI (hs_wI (hs_wI (hs_nw S 3) 3 (nE + 1) 6 0) 3 (nE + 1) 0 (nI nE)) 3 (nE + 1) 1 k) 3 (nE + 1) 2 o) 3 (nE + 1) 3 e) 3 (nE + 1) 4 m).1 3 (nE + 1) 1 = k ∧ (hs_wI (hs_wI (hs_wI (hs_wI (hs_wI (hs_wI (hs_nw S 3) 3 (nE + 1) 6 0) 3 (nE + 1) 0 (nI nE)) 3 (nE + 1) 1 k) 3 (nE + 1) 2 o) 3 (nE + 1) 3 e) 3 (nE + 1) 4 m).1 3 (nE + 1) 2 = o ∧ (hs_wI (hs_wI (hs_wI (hs_wI (hs_wI (hs_wI (hs_nw S 3) 3 (nE + 1) 6 0) 3 (nE + 1) 0 (nI nE)) 3 (nE + 1) 1 k) 3 (nE + 1) 2 o) 3 (nE + 1) 3 e) 3 (nE + 1) 4 m).1 3 (nE + 1) 3 = e ∧ (hs_wI (hs_wI (hs_wI (hs_wI (hs_wI (hs_wI (hs_nw S 3) 3 (nE + 1) 6 0) 3 (nE + 1) 0 (nI nE)) 3 (nE + 1) 1 k) 3 (nE + 1) 2 o) 3 (nE + 1) 3 e) 3 (nE + 1) 4 m).1 3 (nE + 1) 4 = m ∧ (hs_wI (hs_wI (hs_wI (hs_wI (hs_wI (hs_wI (hs_nw S 3) 3 (nE + 1) 6 0) 3 (nE + 1) 0 (nI nE)) 3 (nE + 1) 1 k) 3 (nE + 1) 2 o) 3 (nE + 1) 3 e) 3 (nE + 1) 4 m).1 3 (nE + 1) 6 = 0 ∧ (hs_wR (hs_nw S 3) 3 (nE + 1) 5 f).2.1 3 (nE + 1) 5 = f
  simp only [wI_at, wR_at]
  exact ⟨rfl, rfl, rfl, rfl, rfl, rfl, rfl⟩
theorem edU_12 {S : hs_S} {nE f : Nat} {k o e m : Int32} (hz : hs_sz S 12 = nE) (j : Nat) : (edU S nE k o e m f).2.1 12 1 j = if j = nE then nE + 1 else S.2.1 12 1 j := by
  by_cases q : j = nE
  · exact (if_pos ⟨rfl, rfl, q.trans hz.symm⟩ : (if 12 = 12 ∧ 1 = 1 ∧ j = (hs_nw S 3).2.1 12 2 0 then nE + 1 else if 12 = 12 ∧ (1 : Nat) = 2 ∧ j = 0 then (hs_nw S 3).2.1 12 2 0 + 1 else S.2.1 12 1 j) = nE + 1).trans (if_pos q).symm
  · exact ((if_neg fun z => q (z.2.2.trans hz) : (if 12 = 12 ∧ 1 = 1 ∧ j = (hs_nw S 3).2.1 12 2 0 then nE + 1 else if 12 = 12 ∧ (1 : Nat) = 2 ∧ j = 0 then (hs_nw S 3).2.1 12 2 0 + 1 else S.2.1 12 1 j) = _).trans (if_neg fun z => absurd z.2.1 (by decide))).trans (if_neg q).symm
abbrev tellT (X : hs_S) (nE : Nat) (k o e m g e' : Int32) (q : Nat → Int32) : hs_S := hs_wI (hs_wI (hs_rw (hs_wI (hs_wI (hs_wI (hs_wI (hs_wI X 53 1 nE k) 54 1 nE o) 55 1 nE e) 56 1 nE m) 57 1 nE g) 59 q) 11 1 12 (nI (nE + 1))) 11 1 0 e'
section
variable {X : hs_S} {nE j : Nat} {k o e m g e' : Int32} {q : Nat → Int32}
theorem tl53 : (tellT X nE k o e m g e' q).1 53 1 j = if j = nE then k else X.1 53 1 j := wI_at (S := X) (t := 53) (i := 1) (j := nE) (x := k)
theorem tl54 : (tellT X nE k o e m g e' q).1 54 1 j = if j = nE then o else X.1 54 1 j := wI_at (S := X) (t := 54) (i := 1) (j := nE) (x := o)
theorem tl55 : (tellT X nE k o e m g e' q).1 55 1 j = if j = nE then e else X.1 55 1 j := wI_at (S := X) (t := 55) (i := 1) (j := nE) (x := e)
theorem tl56 : (tellT X nE k o e m g e' q).1 56 1 j = if j = nE then m else X.1 56 1 j := wI_at (S := X) (t := 56) (i := 1) (j := nE) (x := m)
theorem tl57 : (tellT X nE k o e m g e' q).1 57 1 j = if j = nE then g else X.1 57 1 j := wI_at (S := X) (t := 57) (i := 1) (j := nE) (x := g)
end
/-- the edits, with one more -/
theorem tell_E {U V U' V' : hs_S} {ev nE f m : Nat} {k o : Nat} (hE : rE U V ev nE) (hk : k < 24) (hm : m < ev + 51)
    (h3 : ∀ i, i ≠ nE + 1 → U'.1 3 i = U.1 3 i ∧ U'.2.1 3 i = U.2.1 3 i)
    (hn : U'.1 3 (nE + 1) 0 = nI nE ∧ U'.1 3 (nE + 1) 1 = nI k ∧ U'.1 3 (nE + 1) 2 = nI o ∧ U'.1 3 (nE + 1) 3 = nI ev ∧ U'.1 3 (nE + 1) 4 = nI m ∧ U'.1 3 (nE + 1) 6 = 0 ∧ U'.2.1 3 (nE + 1) 5 = f)
    (h12 : ∀ j, U'.2.1 12 1 j = if j = nE then nE + 1 else U.2.1 12 1 j)
    (r53 : ∀ j, V'.1 53 1 j = if j = nE then nI k else V.1 53 1 j) (r54 : ∀ j, V'.1 54 1 j = if j = nE then nI o else V.1 54 1 j)
    (r55 : ∀ j, V'.1 55 1 j = if j = nE then nI ev else V.1 55 1 j) (r56 : ∀ j, V'.1 56 1 j = if j = nE then nI m else V.1 56 1 j)
    (r58 : V'.1 58 1 = V.1 58 1) (hz : V.1 58 1 nE = 0) (hf : fC U' V' f nE)
    (hfo : ∀ j, j < nE → fC U V (U.2.1 3 (j + 1) 5) j → fC U' V' (U.2.1 3 (j + 1) 5) j) : rE U' V' (ev + 1) (nE + 1) := by
  intro j hj
  unfold rE1
  rw [h12, r53, r54, r55, r56, r58]
  by_cases q : j = nE
  · subst q
    obtain ⟨n0, n1, n2, n3, n4, n6, n5⟩ := hn
    rw [if_pos rfl, if_pos rfl, if_pos rfl, if_pos rfl, if_pos rfl, n5]
    exact ⟨⟨⟨rfl, n0⟩, ⟨k, hk, rfl, n1⟩, ⟨n2, n3, n4, m, by omega, rfl⟩, n6.trans hz.symm, Or.inl hz⟩, hf⟩
  · obtain ⟨⟨g1, g2, ⟨g3, g4, g5, m', hm', g6⟩, g7⟩, g8⟩ := hE j (by omega)
    obtain ⟨q1, q2⟩ := h3 (j + 1) (by omega)
    rw [if_neg q, if_neg q, if_neg q, if_neg q, if_neg q, q1, q2]
    exact ⟨⟨g1, g2, ⟨g3, g4, g5, m', by omega, g6⟩, g7⟩, hfo j (by omega) g8⟩
theorem frz_iff {U V : hs_S} {ev ng nl c : Nat} (h : rC2 U V ev ng nl c) (hev : ev ≤ 512) : V.1 62 1 c = -1 ↔ U.1 8 (U.2.1 26 1 c) 1 = 2147483647 := by
  obtain ⟨_, _, h3, _⟩ := h
  rcases h3 with ⟨w1, w2⟩ | ⟨f, hf, w1, w2, _⟩
  · exact ⟨fun _ => w2, fun _ => w1⟩
  · have e1 : (nI f).toInt = f := nI_toInt (by omega)
    refine ⟨fun z => ?_, fun z => ?_⟩
    · have e2 : (nI f).toInt = -1 := by rw [← w1, z]; rfl
      omega
    · have e2 : (nI f).toInt = 2147483647 := by rw [← w2, z]; rfl
      omega
/-- who may not edit -/
theorem M_empty_bad {n : Nat} {S : hs_S} {o c r : Nat} (h : RR n S) (hn : n < 512) (hw : hs_Wi S) (ho : o < 6) (hc : c < 4) (hr : r < 6) (q : ¬ (S.1 20 1 (6 * c + r) = nI o ∧ S.1 62 1 c = -1 ∧ ¬ S.1 11 1 12 = 60)) : m_M_empty (nI o) (nI c) (nI r) S (fun r T => OK n 2 r T) := by
  obtain ⟨ev, ng, nl, nE, nB, nR, nd, ⟨hA, hG, _⟩, _⟩ := id h
  have hng := hA.1.2.1.1
  have hev := hA.1.1
  have own : F_ownerAt (nI (6 * c + r)) (S.1 11 1 0) (E_asks 1 S) = S.1 20 1 (6 * c + r) := by
    have := own_at (T := E_asks 1 S) hG (k := 6 * c + r) (by omega) (by omega) hA.2.1.2.2.1 rfl rfl rfl
    rw [← hA.2.1.2.1] at this
    exact this
  refine ok_M_empty hw ?_
  unfold vc_M_empty
  rintro x hx
  rw [oc_y ho hc hr] at hx
  subst hx
  refine ⟨Or.inr rfl, ?_⟩
  rintro _ rfl
  rw [nI_6c, hl_cl (by omega)]
  have hb : OK n 2 0 (E_fails 2 (E_asks 1 S)) := OK_g h hn (by decide)
  refine ⟨fun _ => ⟨⟨ng, by omega, hA.2.1.2.2.1⟩, ?_, fun q1 => ⟨hl_ix (by omega) (by omega), ?_, fun q2 => ⟨fun q3 => ?_, ?_⟩⟩⟩, fun z => absurd z (by decide)⟩
  · rintro _ _ rfl; exact hb
  · rintro _ _ rfl; exact hb
  · exact absurd ⟨own.symm.trans q1, q2, q3⟩ q
  · rintro _ _ rfl; exact hb
set_option maxRecDepth 100000 in
theorem empty_RR {n : Nat} {S : hs_S} {k o m : Nat} {q : Nat → Int32} {y : Int64} {ev ng nl nE nB nR nd : Nat} (hX : RX n S S ev ng nl nE nB nR nd) (hL : rL S S) (hQ : rQ S S nB nR) (hM : rM S ng nl nE nB nR) (hk : k < 24) (hm : ev < m ∧ m < ev + 51) (hE60 : nE < 60) (hn : n < 512)
    (hq : ∀ p, q p = if 36 * nE ≤ p ∧ p < 36 * nE + 3 * 0 then S.1 51 1 (p - 36 * nE) else S.1 59 1 p) :
    RR (n + 1) (tellT (E_asks 1 (hs_wL (hs_wI (edU S nE (nI k) (nI o) (nI ev) (nI m) 1) 10 1 5 (nI (ev + 1))) 100 1 (0 : Int32).toNatClampNeg y)) nE (nI k) (nI o) (nI ev) (nI m) (nI 0) (nI (ev + 1)) q) := by
  obtain ⟨hA, hG, hH, hE, hF, hN, hB, hC⟩ := hX
  have hev := hA.1.1.1
  have hz := hA.2.2.1.1
  have h3 := hA.2.2.1.2.1
  have hq' : ∀ p, q p = S.1 59 1 p := fun p => by rw [hq, if_neg (by omega)]
  have hg2 : ∀ r, r < nR → ∃ f : Nat, f < ev ∧ S.1 78 1 r = nI f := fun r hr => by
    obtain ⟨_, _, ⟨f, l, g1, g2, _⟩, _⟩ := hC.1 r hr
    exact ⟨f, by omega, g2⟩
  have hzz : S.1 58 1 nE = 0 := hL.2.2.2.1 nE (by rw [hA.2.1.2.2.2.2.1, hl_cl (by omega)]; exact Nat.le_refl _) hE60
  refine ⟨ev + 1, ng, nl, nE + 1, nB, nR, nd, ⟨⟨⟨⟨by omega, by omega⟩, by have := hA.1.2; omega⟩, ⟨rfl, rfl, hA.2.1.2.2.1, hA.2.1.2.2.2.1, rfl, hA.2.1.2.2.2.2.2⟩, ⟨?_, ?_, hA.2.2.1.2.2⟩, hA.2.2.2⟩, rG_up hH (by omega) hG, rH_up hH, ?_, hF, hN, rB_up hB, rC_up hC⟩, ⟨hL.1, hL.2.1, hL.2.2.1, fun j h1 h2 => ?_, hL.2.2.2.2⟩, hQ, fun r hr => ⟨?_, (hM r hr).2⟩⟩
  · exact congrArg (· + 1) hz
  · exact congrArg (· + 1) h3
  · refine tell_E (U := S) (V := S) (k := k) (o := o) (m := m) (f := 1) hE hk (by omega) (fun i hi => edU_old h3 hi) edU_new (fun j => edU_12 hz j) (fun j => tl53) (fun j => tl54) (fun j => tl55) (fun j => tl56) rfl hzz ?_ (fun j hj hf => ?_)
    · refine ⟨by decide, ?_, ⟨0, by omega, hF.1.2.2, fun i hi => absurd hi (by omega)⟩, 0, by omega, hF.1.2.2, tl57.trans (if_pos rfl), fun z => absurd z (by omega), fun i hi => absurd hi (by omega)⟩
      exact Nat.lt_of_lt_of_le (by decide) hF.1.1
    · obtain ⟨f1, f2, f3, g, f4, f5, f6, f7, f8⟩ := hf
      refine ⟨f1, f2, f3, g, f4, f5, tl57.trans ((if_neg (by omega)).trans f6), f7, fun i hi => ?_⟩
      obtain ⟨w1, w2, w3⟩ := f8 i hi
      exact ⟨w1.trans (hq' _).symm, w2.trans (hq' _).symm, w3.trans (hq' _).symm⟩
  · refine hL.2.2.2.1 j ?_ h2
    have e1 : (nI (nE + 1)).toNatClampNeg ≤ j := h1
    rw [hl_cl (by omega)] at e1
    rw [hA.2.1.2.2.2.2.1, hl_cl (by omega)]
    omega
  · obtain ⟨f, hf, ef⟩ := hg2 r hr
    obtain ⟨_, ⟨c, hc, ec, _⟩, _⟩ := hC.1 r hr
    refine mR_1 (V := S) (hM r hr) hc ec (mX_eq hE (by omega) (fun _ => rfl) (fun _ _ => rfl) (fun c => ?_) (fun j hj => ⟨tl57.trans (if_neg (by omega)), fun i _ => hq' _⟩) (fun _ => rfl) (fun _ => rfl))
    refine edR_old (fun j hj => ⟨tl53.trans (if_neg (by omega)), tl56.trans (if_neg (by omega)), rfl⟩) (nE + 1) (by omega) fun j g1 g2 => ?_
    have e : j = nE := by omega
    have e2 : S.1 78 1 r < nI m := by rw [ef]; exact nI_lt2 (by omega) (by omega)
    rw [tl56, if_pos e]
    exact e2
/-- the first round behind: notice -/
theorem ntc {U V : hs_S} {c ev : Nat} (hN : rN U V) (hc : c < 4) : ∃ m : Nat, (ev < m ∧ m < ev + 51) ∧ nI ev + (if (1 : Int32) < U.1 25 1 c then U.1 25 1 c else 1) = nI m ∧ nI ev + (if (1 : Int32) ≤ V.1 60 1 c then V.1 60 1 c else 1) = nI m := by
  obtain ⟨⟨h1, w, hw, h2⟩, _⟩ := hN c hc
  rw [h1, h2]
  have e1 : ((1 : Int32) < nI w) ↔ 1 < w := hl_lt (a := 1) (by omega) (by omega)
  have e2 : ((1 : Int32) ≤ nI w) ↔ 1 ≤ w := hl_le (a := 1) (by omega) (by omega)
  have eA : ∀ x : Nat, nI ev + nI x = nI (ev + x) := fun x => nI_add ev x
  by_cases q : 1 < w
  · exact ⟨ev + w, by omega, by rw [if_pos (e1.mpr q), eA], by rw [if_pos (e2.mpr (by omega)), eA]⟩
  · refine ⟨ev + 1, by omega, by rw [if_neg fun z => q (e1.mp z)]; exact nI_1 ev, ?_⟩
    by_cases q2 : 1 ≤ w
    · have : w = 1 := by omega
      subst this
      rw [if_pos (e2.mpr (by omega)), eA]
    · rw [if_neg fun z => q2 (e2.mp z)]; exact nI_1 ev
theorem call_empty {n : Nat} {S : hs_S} {a1 a2 a3 : Int32} (h : RR n S) (hn : n < 512) (hw : hs_Wi S) : m_L_empty a1 a2 a3 S (fun k S2 => hs_Wi S2 → m_M_empty a1 a2 a3 S2 (fun r T => OK n k r T)) := by
  obtain ⟨ev, ng, nl, nE, nB, nR, nd, hX, hL, hQ, hM⟩ := id h
  obtain ⟨hA, hG, hH, hE, hF, hN, hB, hC⟩ := id hX
  have hev := hA.1.1
  have hng := hA.1.2.1.1
  have hE60 := hA.1.2.2.1.1
  have hz := hA.2.2.1.1
  have h3 := hA.2.2.1.2.1
  have bad : (F_isOwner a1 = 0 ∨ F_isCell a2 a3 = 0) → hs_Wi S → m_M_empty a1 a2 a3 S (fun r T => OK n 1 r T) := fun e hw2 => by
    refine ok_M_empty hw2 ?_
    rintro x hx
    rw [oc_n e] at hx
    subst hx
    refine ⟨Or.inl rfl, ?_⟩
    rintro _ rfl
    exact ⟨fun z => absurd rfl z, fun _ => OK_f h hn rfl⟩
  refine ok_L_empty hw fun _ => ok_C_empty hw fun _ => t_needOwner hw (fun o ho eo => fun _ => t_cellAt hw (fun c r hc hr e2 e3 => fun _ => ?_) (fun e => Or.inl ⟨rfl, bad (Or.inr e)⟩)) (fun e => Or.inl ⟨rfl, bad (Or.inl e)⟩)
  subst eo e2 e3
  have hk6 : (6 * c + r) / 6 = c := by omega
  have h62 := frz_iff (hC.2.1 c hc) (by omega)
  have e12 : S.1 11 1 12 = 60 ↔ nE = 60 := by rw [hA.2.1.2.2.2.2.1]; exact hl_inj (b := 60) (by omega) (by omega)
  refine t_needEditable hw (by omega) (by rw [hk6]; have := (hC.2.1 c hc).1.1; omega) (by rw [show hs_sz S 12 = nE from hz]; exact hE60) (fun q1 q2 q3 => ?_) (fun q => Or.inr ⟨rfl, fun hw2 => M_empty_bad h hn hw2 ho hc hr fun z => q ⟨z.1, ?_, ?_⟩⟩)
  · rw [hk6] at q2
    rw [show hs_sz S 12 = nE from hz] at q3
    refine ⟨⟨⟨6 * c + r, by omega, rfl⟩, by rw [show hs_sz S 12 = nE from hz]; omega, by decide⟩, ?_⟩
    rintro _ S8 ⟨rfl, h8⟩ S11 h11 S5 h5 hw2
    obtain ⟨m, hm, em1, em2⟩ := ntc (ev := ev) hN hc
    have e8 : S8 = edU S nE (nI (6 * c + r)) (nI o) (nI ev) (nI m) 1 := by
      rw [h8]
      unfold E_Sht_tell edU
      rw [show hs_sz S 12 = nE from hz, show S.2.2.2 3 = nE from h3, show S.1 10 1 5 = nI ev from hA.2.1.1, nI_div6 (by omega), hk6, hl_cl (by omega), em1]
    have e10 : S8.1 10 1 5 + 1 = nI (ev + 1) := by
      rw [e8]
      show S.1 10 1 5 + 1 = _
      rw [hA.2.1.1]; exact nI_1 ev
    rw [e10, e8] at h11
    rw [h11, show nI (hs_sz S 12) = nI nE from congrArg nI hz] at h5
    obtain ⟨X, hXe⟩ : ∃ X, X = hs_wI (edU S nE (nI (6 * c + r)) (nI o) (nI ev) (nI m) 1) 10 1 5 (nI (ev + 1)) := ⟨_, rfl⟩
    refine ok_M_empty hw2 ?_
    unfold vc_M_empty
    rintro x hx
    rw [oc_y ho hc hr] at hx
    subst hx
    refine ⟨Or.inr rfl, ?_⟩
    intro S3 h3'
    rw [h5] at h3'
    have d1 : S3.1 11 1 1 = nI ng := by rw [h3']; exact hA.2.1.2.2.1
    have d0 : S3.1 11 1 0 = nI ev := by rw [h3']; exact hA.2.1.2.1
    have d12 : S3.1 11 1 12 = nI nE := by rw [h3']; exact hA.2.1.2.2.2.2.1
    have d62 : S3.1 62 1 c = -1 := by rw [h3']; exact h62.mpr q2
    have d60 : S3.1 60 1 c = S.1 60 1 c := by rw [h3']; rfl
    have own : F_ownerAt (nI (6 * c + r)) (nI ev) S3 = nI o := (own_at (T := S3) hG (by omega) (by omega) d1 (by rw [h3']; rfl) (by rw [h3']; rfl) (by rw [h3']; rfl)).trans q1
    rw [nI_6c, hl_cl (by omega), d0, own, d62, d12]
    refine ⟨fun _ => ⟨⟨ng, by omega, d1⟩, fun z => absurd rfl z, fun _ => ⟨hl_ix (by omega) (by omega), fun z => absurd rfl z, fun _ => ⟨fun _ => ⟨⟨⟨nE, by omega, d12⟩, ⟨6 * c + r, by omega, rfl⟩, 0, by omega, rfl⟩, fun r' S13 hR => ?_⟩, fun z => ?_⟩⟩⟩, fun z => absurd z (by decide)⟩
    · obtain ⟨er, q, eT, hq⟩ := hR
      have eT' : S13 = tellT (E_asks 1 (hs_wL (hs_wI (edU S nE (nI (6 * c + r)) (nI o) (nI ev) (nI m) 1) 10 1 5 (nI (ev + 1))) 100 1 (0 : Int32).toNatClampNeg (nI nE).toInt64)) nE (nI (6 * c + r)) (nI o) (nI ev) (nI m) (nI 0) (nI (ev + 1)) q := by
        rw [eT]
        unfold E_tells tellT
        rw [d12, d0, hl_cl (by omega), nI_div6 (by omega), hk6, hl_cl (by omega), d60, em2, nI_1, nI_1, h3']
        rfl
      rw [eT', er, d12]
      refine ⟨empty_RR hX hL hQ hM (by omega) hm q3 hn fun p => ?_, rfl, fun _ => rfl⟩
      rw [hq nE 0 (by omega) d12 (by omega) rfl p, h3']
      rfl
    · have := (hl_inj (a := nE) (b := 60) (by omega) (by omega)).mp z
      omega
  · rw [hk6]; exact h62.mp z.2.1
  · rw [show hs_sz S 12 = nE from hz]
    have : nE ≠ 60 := fun w => z.2.2 (e12.mpr w)
    omega
