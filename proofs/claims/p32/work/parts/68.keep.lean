/-! ===== a history beside a state ===== -/
def gh (t : Nat) : Bool := t == 11 || decide (42 ≤ t)
def mrg (U V : hs_S) : hs_S := (fun t i p => if gh t = true then V.1 t i p else U.1 t i p, (U.2.1, (V.2.2.1, U.2.2.2)))
def cz (S : hs_S) : hs_S := (fun t i p => if gh t = true then 0 else S.1 t i p, (S.2.1, ((fun _ _ _ => 0), S.2.2.2)))
theorem cz_mrg {U V : hs_S} : cz (mrg U V) = cz U := by
  refine Prod.ext (funext fun t => funext fun i => funext fun p => ?_) rfl
  show (if gh t = true then (0 : Int32) else if gh t = true then V.1 t i p else U.1 t i p) = if gh t = true then 0 else U.1 t i p
  by_cases h : gh t = true
  · rw [if_pos h, if_pos h]
  · rw [if_neg h, if_neg h, if_neg h]
theorem cz_g {S : hs_S} {t i p : Nat} {x : Int32} (h : gh t = true) : cz (hs_wI S t i p x) = cz S := by
  refine Prod.ext (funext fun a => funext fun b => funext fun c => ?_) rfl
  show (if gh a = true then (0 : Int32) else if a = t ∧ b = i ∧ c = p then x else S.1 a b c) = if gh a = true then 0 else S.1 a b c
  by_cases q : gh a = true
  · rw [if_pos q, if_pos q]
  · rw [if_neg q, if_neg q]
    exact if_neg fun z => q (by rw [z.1]; exact h)
theorem cz_I {S : hs_S} {t i p : Nat} {x : Int32} (h : gh t = false) : cz (hs_wI S t i p x) = hs_wI (cz S) t i p x := by
  refine Prod.ext (funext fun a => funext fun b => funext fun c => ?_) rfl
  show (if gh a = true then (0 : Int32) else if a = t ∧ b = i ∧ c = p then x else S.1 a b c) = if a = t ∧ b = i ∧ c = p then x else if gh a = true then 0 else S.1 a b c
  by_cases q : a = t ∧ b = i ∧ c = p
  · rw [if_pos q, if_pos q, q.1, h]; rfl
  · rw [if_neg q, if_neg q]
theorem cz_R {S : hs_S} {t i p x : Nat} : cz (hs_wR S t i p x) = hs_wR (cz S) t i p x := rfl
theorem cz_L {S : hs_S} {t i p : Nat} {x : Int64} : cz (hs_wL S t i p x) = cz S := rfl
theorem cz_rw {S : hs_S} {u : Nat} {q : Nat → Int32} (h : gh u = true) : cz (hs_rw S u q) = cz S := by
  refine Prod.ext (funext fun a => funext fun b => funext fun c => ?_) rfl
  show (if gh a = true then (0 : Int32) else if a = u ∧ b = 1 then q c else S.1 a b c) = if gh a = true then 0 else S.1 a b c
  by_cases z : gh a = true
  · rw [if_pos z, if_pos z]
  · rw [if_neg z, if_neg z]
    exact if_neg fun w => z (by rw [w.1]; exact h)
theorem cz_rw2 {S : hs_S} {u : Nat} {q : Nat → Int32} (h : gh u = false) : cz (hs_rw S u q) = hs_rw (cz S) u q := by
  refine Prod.ext (funext fun a => funext fun b => funext fun c => ?_) rfl
  show (if gh a = true then (0 : Int32) else if a = u ∧ b = 1 then q c else S.1 a b c) = if a = u ∧ b = 1 then q c else if gh a = true then 0 else S.1 a b c
  by_cases z : a = u ∧ b = 1
  · rw [if_pos z, if_pos z, z.1, h]; rfl
  · rw [if_neg z, if_neg z]
theorem cz_nw {S : hs_S} {t : Nat} : cz (hs_nw S t) = hs_nw (cz S) t := by
  refine Prod.ext (funext fun a => funext fun b => funext fun c => ?_) (Prod.ext rfl (Prod.ext (funext fun a => funext fun b => funext fun c => ?_) rfl))
  · show (if gh a = true then (0 : Int32) else if a = t ∧ b = S.2.2.2 t + 1 then 0 else S.1 a b c) = if a = t ∧ b = S.2.2.2 t + 1 then 0 else if gh a = true then 0 else S.1 a b c
    by_cases q : a = t ∧ b = S.2.2.2 t + 1
    · rw [if_pos q, if_pos q]; split <;> rfl
    · rw [if_neg q, if_neg q]
  · show (0 : Int64) = if a = t ∧ b = S.2.2.2 t + 1 then 0 else 0
    split <;> rfl
theorem cz_add {S : hs_S} {t r : Nat} : cz (hs_add S t r) = hs_add (cz S) t r := rfl
theorem cz_as {S : hs_S} {x : Int32} : cz (E_asks x S) = cz S := cz_g rfl
theorem cz_pt {S T : hs_S} (h : cz T = cz S) {t i p : Nat} (q : gh t = false) : T.1 t i p = S.1 t i p := by
  have := congrFun (congrFun (congrFun (congrArg Prod.fst h) t) i) p
  have e : (if gh t = true then 0 else T.1 t i p) = if gh t = true then 0 else S.1 t i p := this
  rw [q] at e
  exact e
theorem cz_2 {S T : hs_S} (h : cz T = cz S) : T.2.1 = S.2.1 ∧ T.2.2.2 = S.2.2.2 := ⟨congrArg (fun z => z.2.1) h, congrArg (fun z => z.2.2.2) h⟩
theorem mrg_self {T T' : hs_S} (h : cz T = cz T') : mrg T T' = T' := by
  obtain ⟨h1, h2⟩ := cz_2 h
  refine Prod.ext (funext fun t => funext fun i => funext fun p => ?_) (Prod.ext h1 (Prod.ext rfl h2))
  show (if gh t = true then T'.1 t i p else T.1 t i p) = T'.1 t i p
  by_cases q : gh t = true
  · rw [if_pos q]
  · rw [if_neg q]
    exact cz_pt h (by cases z : gh t with | true => exact absurd z q | false => rfl)
theorem cg11 {S : hs_S} {i p : Nat} {x : Int32} : cz (hs_wI S 11 i p x) = cz S := cz_g rfl
theorem cg42 {S : hs_S} {i p : Nat} {x : Int32} : cz (hs_wI S 42 i p x) = cz S := cz_g rfl
theorem cg43 {S : hs_S} {i p : Nat} {x : Int32} : cz (hs_wI S 43 i p x) = cz S := cz_g rfl
theorem cg44 {S : hs_S} {i p : Nat} {x : Int32} : cz (hs_wI S 44 i p x) = cz S := cz_g rfl
theorem cg46 {S : hs_S} {i p : Nat} {x : Int32} : cz (hs_wI S 46 i p x) = cz S := cz_g rfl
theorem cg47 {S : hs_S} {i p : Nat} {x : Int32} : cz (hs_wI S 47 i p x) = cz S := cz_g rfl
theorem cg48 {S : hs_S} {i p : Nat} {x : Int32} : cz (hs_wI S 48 i p x) = cz S := cz_g rfl
theorem cg49 {S : hs_S} {i p : Nat} {x : Int32} : cz (hs_wI S 49 i p x) = cz S := cz_g rfl
theorem cg51 {S : hs_S} {i p : Nat} {x : Int32} : cz (hs_wI S 51 i p x) = cz S := cz_g rfl
theorem cg53 {S : hs_S} {i p : Nat} {x : Int32} : cz (hs_wI S 53 i p x) = cz S := cz_g rfl
theorem cg54 {S : hs_S} {i p : Nat} {x : Int32} : cz (hs_wI S 54 i p x) = cz S := cz_g rfl
theorem cg55 {S : hs_S} {i p : Nat} {x : Int32} : cz (hs_wI S 55 i p x) = cz S := cz_g rfl
theorem cg56 {S : hs_S} {i p : Nat} {x : Int32} : cz (hs_wI S 56 i p x) = cz S := cz_g rfl
theorem cg57 {S : hs_S} {i p : Nat} {x : Int32} : cz (hs_wI S 57 i p x) = cz S := cz_g rfl
theorem cg58 {S : hs_S} {i p : Nat} {x : Int32} : cz (hs_wI S 58 i p x) = cz S := cz_g rfl
theorem cg60 {S : hs_S} {i p : Nat} {x : Int32} : cz (hs_wI S 60 i p x) = cz S := cz_g rfl
theorem cg61 {S : hs_S} {i p : Nat} {x : Int32} : cz (hs_wI S 61 i p x) = cz S := cz_g rfl
theorem cg62 {S : hs_S} {i p : Nat} {x : Int32} : cz (hs_wI S 62 i p x) = cz S := cz_g rfl
theorem cg63 {S : hs_S} {i p : Nat} {x : Int32} : cz (hs_wI S 63 i p x) = cz S := cz_g rfl
theorem cg65 {S : hs_S} {i p : Nat} {x : Int32} : cz (hs_wI S 65 i p x) = cz S := cz_g rfl
theorem cg66 {S : hs_S} {i p : Nat} {x : Int32} : cz (hs_wI S 66 i p x) = cz S := cz_g rfl
theorem cg67 {S : hs_S} {i p : Nat} {x : Int32} : cz (hs_wI S 67 i p x) = cz S := cz_g rfl
theorem cg68 {S : hs_S} {i p : Nat} {x : Int32} : cz (hs_wI S 68 i p x) = cz S := cz_g rfl
theorem cg69 {S : hs_S} {i p : Nat} {x : Int32} : cz (hs_wI S 69 i p x) = cz S := cz_g rfl
theorem cg70 {S : hs_S} {i p : Nat} {x : Int32} : cz (hs_wI S 70 i p x) = cz S := cz_g rfl
theorem cg71 {S : hs_S} {i p : Nat} {x : Int32} : cz (hs_wI S 71 i p x) = cz S := cz_g rfl
theorem cg72 {S : hs_S} {i p : Nat} {x : Int32} : cz (hs_wI S 72 i p x) = cz S := cz_g rfl
theorem cg73 {S : hs_S} {i p : Nat} {x : Int32} : cz (hs_wI S 73 i p x) = cz S := cz_g rfl
theorem cg74 {S : hs_S} {i p : Nat} {x : Int32} : cz (hs_wI S 74 i p x) = cz S := cz_g rfl
theorem cg77 {S : hs_S} {i p : Nat} {x : Int32} : cz (hs_wI S 77 i p x) = cz S := cz_g rfl
theorem cg78 {S : hs_S} {i p : Nat} {x : Int32} : cz (hs_wI S 78 i p x) = cz S := cz_g rfl
theorem cg79 {S : hs_S} {i p : Nat} {x : Int32} : cz (hs_wI S 79 i p x) = cz S := cz_g rfl
theorem cg80 {S : hs_S} {i p : Nat} {x : Int32} : cz (hs_wI S 80 i p x) = cz S := cz_g rfl
theorem cg81 {S : hs_S} {i p : Nat} {x : Int32} : cz (hs_wI S 81 i p x) = cz S := cz_g rfl
theorem cg82 {S : hs_S} {i p : Nat} {x : Int32} : cz (hs_wI S 82 i p x) = cz S := cz_g rfl
theorem cg83 {S : hs_S} {i p : Nat} {x : Int32} : cz (hs_wI S 83 i p x) = cz S := cz_g rfl
theorem cg84 {S : hs_S} {i p : Nat} {x : Int32} : cz (hs_wI S 84 i p x) = cz S := cz_g rfl
theorem cg87 {S : hs_S} {i p : Nat} {x : Int32} : cz (hs_wI S 87 i p x) = cz S := cz_g rfl
theorem cg88 {S : hs_S} {i p : Nat} {x : Int32} : cz (hs_wI S 88 i p x) = cz S := cz_g rfl
theorem ci0 {S : hs_S} {i p : Nat} {x : Int32} : cz (hs_wI S 0 i p x) = hs_wI (cz S) 0 i p x := cz_I rfl
theorem ci3 {S : hs_S} {i p : Nat} {x : Int32} : cz (hs_wI S 3 i p x) = hs_wI (cz S) 3 i p x := cz_I rfl
theorem ci5 {S : hs_S} {i p : Nat} {x : Int32} : cz (hs_wI S 5 i p x) = hs_wI (cz S) 5 i p x := cz_I rfl
theorem ci8 {S : hs_S} {i p : Nat} {x : Int32} : cz (hs_wI S 8 i p x) = hs_wI (cz S) 8 i p x := cz_I rfl
theorem ci10 {S : hs_S} {i p : Nat} {x : Int32} : cz (hs_wI S 10 i p x) = hs_wI (cz S) 10 i p x := cz_I rfl
theorem ci20 {S : hs_S} {i p : Nat} {x : Int32} : cz (hs_wI S 20 i p x) = hs_wI (cz S) 20 i p x := cz_I rfl
theorem ci21 {S : hs_S} {i p : Nat} {x : Int32} : cz (hs_wI S 21 i p x) = hs_wI (cz S) 21 i p x := cz_I rfl
theorem ci22 {S : hs_S} {i p : Nat} {x : Int32} : cz (hs_wI S 22 i p x) = hs_wI (cz S) 22 i p x := cz_I rfl
theorem ci23 {S : hs_S} {i p : Nat} {x : Int32} : cz (hs_wI S 23 i p x) = hs_wI (cz S) 23 i p x := cz_I rfl
theorem ci24 {S : hs_S} {i p : Nat} {x : Int32} : cz (hs_wI S 24 i p x) = hs_wI (cz S) 24 i p x := cz_I rfl
theorem ci25 {S : hs_S} {i p : Nat} {x : Int32} : cz (hs_wI S 25 i p x) = hs_wI (cz S) 25 i p x := cz_I rfl
theorem ci27 {S : hs_S} {i p : Nat} {x : Int32} : cz (hs_wI S 27 i p x) = hs_wI (cz S) 27 i p x := cz_I rfl
theorem ci35 {S : hs_S} {i p : Nat} {x : Int32} : cz (hs_wI S 35 i p x) = hs_wI (cz S) 35 i p x := cz_I rfl
theorem ci36 {S : hs_S} {i p : Nat} {x : Int32} : cz (hs_wI S 36 i p x) = hs_wI (cz S) 36 i p x := cz_I rfl
theorem ci37 {S : hs_S} {i p : Nat} {x : Int32} : cz (hs_wI S 37 i p x) = hs_wI (cz S) 37 i p x := cz_I rfl
theorem cw_59 {S : hs_S} {q : Nat → Int32} : cz (hs_rw S 59 q) = cz S := cz_rw rfl
theorem cw_72 {S : hs_S} {q : Nat → Int32} : cz (hs_rw S 72 q) = cz S := cz_rw rfl
theorem cw_21 {S : hs_S} {q : Nat → Int32} : cz (hs_rw S 21 q) = hs_rw (cz S) 21 q := cz_rw2 rfl
/-- the state has a history -/
def KS (n : Nat) (U : hs_S) : Prop := ∃ V : hs_S, RR n (mrg U V)
theorem KS_of {n : Nat} {T T' : hs_S} (h : RR n T') (e : cz T = cz T') : KS n T := ⟨T', by rw [mrg_self e]; exact h⟩
theorem KS_up {n : Nat} {U : hs_S} (h : KS n U) (hn : n < 512) : KS (n + 1) U := by
  obtain ⟨V, h⟩ := h
  exact ⟨V, RR_up h hn⟩
theorem cl_mrg {U T V : hs_S} (h : hs_cl T = hs_cl U) : hs_cl (mrg T V) = hs_cl (mrg U V) := by
  refine Prod.ext (funext fun t => funext fun i => funext fun p => ?_) (Prod.ext (congrArg (fun z => z.2.1) h) (Prod.ext rfl (congrArg (fun z => z.2.2.2) h)))
  have e : (if hs_scr t p = true then 0 else T.1 t i p) = if hs_scr t p = true then 0 else U.1 t i p := congrFun (congrFun (congrFun (congrArg Prod.fst h) t) i) p
  show (if hs_scr t p = true then (0 : Int32) else if gh t = true then V.1 t i p else T.1 t i p) = if hs_scr t p = true then 0 else if gh t = true then V.1 t i p else U.1 t i p
  by_cases q : hs_scr t p = true
  · rw [if_pos q, if_pos q]
  · rw [if_neg q, if_neg q] at e ⊢
    by_cases w : gh t = true
    · rw [if_pos w, if_pos w]
    · rw [if_neg w, if_neg w]; exact e
theorem KS_cl {n : Nat} {U T : hs_S} (h : hs_cl T = hs_cl U) (k : KS n U) : KS n T := by
  obtain ⟨V, k⟩ := k
  exact ⟨V, RR_cl (cl_mrg h) k⟩
/-! ===== acts keep it ===== -/
theorem kp_give {n : Nat} {U : hs_S} {k o : Nat} (h : KS n U) (hk : k < 24) (ho : o < 6) (hn : n < 512) : KS (n + 1) (hs_wI (hs_wI U 20 1 k (nI o)) 10 1 5 (U.1 10 1 5 + 1)) := by
  obtain ⟨V, ev, ng, nl, nE, nB, nR, nd, hX, hL, hQ, hM⟩ := h
  have e5 : U.1 10 1 5 = nI ev := hX.1.2.1.1
  refine KS_of (give_RR (y := 0) hX hL hQ hM hk ho hn).2 ?_
  rw [e5, nI_1]
  unfold giveT
  simp only [cg11, cg42, cg43, cg44, cg46, cg47, cg48, cg49, cg51, cg53, cg54, cg55, cg56, cg57, cg58, cg60, cg61, cg62, cg63, cg65, cg66, cg67, cg68, cg69, cg70, cg71, cg72, cg73, cg74, cg77, cg78, cg79, cg80, cg81, cg82, cg83, cg84, cg87, cg88, ci0, ci3, ci5, ci8, ci10, ci20, ci21, ci22, ci23, ci24, ci25, ci27, ci35, ci36, ci37, cw_59, cw_72, cw_21, cz_R, cz_L, cz_as, cz_add, cz_nw, cz_mrg]
theorem kp_let {n : Nat} {U T : hs_S} {q : Nat → Int32} {c r1 r2 o1 o2 : Nat} {is : Int32} (h : KS n U) (hc : c < 4) (hr1 : r1 < 6) (hr2 : r2 < 6) (h1 : o1 < 6) (h2 : o2 < 6) (hn : n < 512)
    (hq : ∀ p, q p = if 6 * c + r1 ≤ p ∧ p ≤ 6 * c + r2 ∧ U.1 20 1 p = nI o1 then cRB U 1 (nI o2) is p else U.1 21 1 p) (hT : cz T = cz (hs_rw (hs_wI U 10 1 5 (U.1 10 1 5 + 1)) 21 q)) : KS (n + 1) T := by
  obtain ⟨V, ev, ng, nl, nE, nB, nR, nd, hX, hL, hQ, hM⟩ := h
  have e5 : U.1 10 1 5 = nI ev := hX.1.2.1.1
  have hb : (is = 0 ∧ (if is = 0 then 0 else 1) = 0) ∨ (¬ is = 0 ∧ (if is = 0 then 0 else 1) = 1) := by
    by_cases z : is = 0
    · exact Or.inl ⟨z, if_pos z⟩
    · exact Or.inr ⟨z, if_neg z⟩
  refine KS_of (let_RR (y := 0) (q := q) hX hL hQ hM hc hr1 hr2 h1 h2 hb hn hq) ?_
  rw [hT, e5, nI_1]
  unfold letT
  simp only [cg11, cg42, cg43, cg44, cg46, cg47, cg48, cg49, cg51, cg53, cg54, cg55, cg56, cg57, cg58, cg60, cg61, cg62, cg63, cg65, cg66, cg67, cg68, cg69, cg70, cg71, cg72, cg73, cg74, cg77, cg78, cg79, cg80, cg81, cg82, cg83, cg84, cg87, cg88, ci0, ci3, ci5, ci8, ci10, ci20, ci21, ci22, ci23, ci24, ci25, ci27, ci35, ci36, ci37, cw_59, cw_72, cw_21, cz_R, cz_L, cz_as, cz_add, cz_nw, cz_mrg]
theorem kp_notice {n : Nat} {U : hs_S} {c m : Nat} (h : KS n U) (hc : c < 4) (hm : m ≤ 50) (hn : n < 512) : KS (n + 1) (hs_wI (hs_wI U 25 1 c (nI m)) 10 1 5 (U.1 10 1 5 + 1)) := by
  obtain ⟨V, ev, ng, nl, nE, nB, nR, nd, ⟨hA, hG, hH, hE, hF, hN, hB, hC⟩, hL, hQ, hM⟩ := h
  have e5 : U.1 10 1 5 = nI ev := hA.2.1.1
  have hev := hA.1.1.1
  have e1 : (mrg U V).1 10 1 5 + 1 = nI (ev + 1) := by rw [hA.2.1.1]; exact nI_1 ev
  refine KS_of (T' := hs_wI (hs_wI (hs_wI (hs_wI (mrg U V) 25 1 c (nI m)) 10 1 5 ((mrg U V).1 10 1 5 + 1)) 60 1 c (nI m)) 11 1 0 (nI (ev + 1))) ⟨ev + 1, ng, nl, nE, nB, nR, nd, ⟨⟨⟨⟨by omega, by omega⟩, by have := hA.1.2; omega⟩, ⟨e1, rfl, hA.2.1.2.2⟩, hA.2.2⟩, rG_up hH (by omega) hG, rH_up hH, rE_up hE, hF, fun c' hc' => ?_, rB_up hB, rC_up hC⟩, hL, hQ, hM⟩ ?_
  · obtain ⟨⟨h1, h2⟩, h3⟩ := hN c' hc'
    refine ⟨?_, h3⟩
    have g1 := wI_at (S := mrg U V) (t := 25) (i := 1) (j := c) (j' := c') (x := nI m)
    have g2 := wI_at (S := mrg U V) (t := 60) (i := 1) (j := c) (j' := c') (x := nI m)
    by_cases q : c' = c
    · rw [if_pos q] at g1 g2
      exact ⟨g1.trans g2.symm, m, hm, g2⟩
    · rw [if_neg q] at g1 g2
      exact ⟨g1.trans (h1.trans g2.symm), by obtain ⟨m', hm', e⟩ := h2; exact ⟨m', hm', g2.trans e⟩⟩
  · simp only [cg11, cg42, cg43, cg44, cg46, cg47, cg48, cg49, cg51, cg53, cg54, cg55, cg56, cg57, cg58, cg60, cg61, cg62, cg63, cg65, cg66, cg67, cg68, cg69, cg70, cg71, cg72, cg73, cg74, cg77, cg78, cg79, cg80, cg81, cg82, cg83, cg84, cg87, cg88, ci0, ci3, ci5, ci8, ci10, ci20, ci21, ci22, ci23, ci24, ci25, ci27, ci35, ci36, ci37, cw_59, cw_72, cw_21, cz_R, cz_L, cz_as, cz_add, cz_nw, cz_mrg]; rfl
theorem kp_share {n : Nat} {U : hs_S} {c : Nat} {a2 : Int32} (h : KS n U) (hc : c < 4) (h2 : a2 = 0 ∨ a2 = 1) (hn : n < 512) : KS (n + 1) (hs_wI (hs_wI U 27 1 c a2) 10 1 5 (U.1 10 1 5 + 1)) := by
  obtain ⟨V, ev, ng, nl, nE, nB, nR, nd, ⟨hA, hG, hH, hE, hF, hN, hB, hC⟩, hL, hQ, hM⟩ := h
  have hev := hA.1.1.1
  have e1 : (mrg U V).1 10 1 5 + 1 = nI (ev + 1) := by rw [hA.2.1.1]; exact nI_1 ev
  refine KS_of (T' := hs_wI (hs_wI (hs_wI (hs_wI (mrg U V) 27 1 c a2) 10 1 5 ((mrg U V).1 10 1 5 + 1)) 61 1 c a2) 11 1 0 (nI (ev + 1))) ⟨ev + 1, ng, nl, nE, nB, nR, nd, ⟨⟨⟨⟨by omega, by omega⟩, by have := hA.1.2; omega⟩, ⟨e1, rfl, hA.2.1.2.2⟩, hA.2.2⟩, rG_up hH (by omega) hG, rH_up hH, rE_up hE, hF, fun c' hc' => ?_, rB_up hB, rC_up hC⟩, hL, hQ, hM⟩ ?_
  · obtain ⟨w1, w2, w3⟩ := hN c' hc'
    have g1 := wI_at (S := mrg U V) (t := 27) (i := 1) (j := c) (j' := c') (x := a2)
    have g2 := wI_at (S := mrg U V) (t := 61) (i := 1) (j := c) (j' := c') (x := a2)
    refine ⟨w1, ?_⟩
    by_cases q : c' = c
    · rw [if_pos q] at g1 g2
      exact ⟨g1.trans g2.symm, h2.imp g2.trans g2.trans⟩
    · rw [if_neg q] at g1 g2
      exact ⟨g1.trans (w2.trans g2.symm), w3.imp g2.trans g2.trans⟩
  · simp only [cg11, cg42, cg43, cg44, cg46, cg47, cg48, cg49, cg51, cg53, cg54, cg55, cg56, cg57, cg58, cg60, cg61, cg62, cg63, cg65, cg66, cg67, cg68, cg69, cg70, cg71, cg72, cg73, cg74, cg77, cg78, cg79, cg80, cg81, cg82, cg83, cg84, cg87, cg88, ci0, ci3, ci5, ci8, ci10, ci20, ci21, ci22, ci23, ci24, ci25, ci27, ci35, ci36, ci37, cw_59, cw_72, cw_21, cz_R, cz_L, cz_as, cz_add, cz_nw, cz_mrg]; rfl
theorem kp_limit {n : Nat} {U : hs_S} {o m : Nat} (h : KS n U) (ho : o < 6) (hm : m ≤ 1000000000) (hn : n < 512) : KS (n + 1) (hs_wI (hs_wI U 37 1 o (nI m)) 10 1 5 (U.1 10 1 5 + 1)) := by
  obtain ⟨V, ev, ng, nl, nE, nB, nR, nd, ⟨hA, hG, hH, hE, hF, hN, hB, hC⟩, hL, hQ, hM⟩ := h
  have hev := hA.1.1.1
  have e1 : (mrg U V).1 10 1 5 + 1 = nI (ev + 1) := by rw [hA.2.1.1]; exact nI_1 ev
  refine KS_of (T' := hs_wI (hs_wI (hs_wI (hs_wI (mrg U V) 37 1 o (nI m)) 10 1 5 ((mrg U V).1 10 1 5 + 1)) 88 1 o (nI m)) 11 1 0 (nI (ev + 1))) ⟨ev + 1, ng, nl, nE, nB, nR, nd, ⟨⟨⟨⟨by omega, by omega⟩, by have := hA.1.2; omega⟩, ⟨e1, rfl, hA.2.1.2.2⟩, hA.2.2⟩, rG_up hH (by omega) hG, rH_up hH, rE_up hE, hF, hN, rB_up hB, rC_up hC⟩, ⟨fun o' ho' => ?_, hL.2⟩, hQ, hM⟩ ?_
  · obtain ⟨h1, h2, h3⟩ := hL.1 o' ho'
    refine ⟨h1, ?_⟩
    have g1 := wI_at (S := mrg U V) (t := 37) (i := 1) (j := o) (j' := o') (x := nI m)
    have g2 := wI_at (S := mrg U V) (t := 88) (i := 1) (j := o) (j' := o') (x := nI m)
    by_cases q : o' = o
    · rw [if_pos q] at g1 g2
      exact ⟨g1.trans g2.symm, m, hm, g2⟩
    · rw [if_neg q] at g1 g2
      exact ⟨g1.trans (h2.trans g2.symm), by obtain ⟨m', hm', e⟩ := h3; exact ⟨m', hm', g2.trans e⟩⟩
  · simp only [cg11, cg42, cg43, cg44, cg46, cg47, cg48, cg49, cg51, cg53, cg54, cg55, cg56, cg57, cg58, cg60, cg61, cg62, cg63, cg65, cg66, cg67, cg68, cg69, cg70, cg71, cg72, cg73, cg74, cg77, cg78, cg79, cg80, cg81, cg82, cg83, cg84, cg87, cg88, ci0, ci3, ci5, ci8, ci10, ci20, ci21, ci22, ci23, ci24, ci25, ci27, ci35, ci36, ci37, cw_59, cw_72, cw_21, cz_R, cz_L, cz_as, cz_add, cz_nw, cz_mrg]; rfl
theorem kp_wipe {n : Nat} {U : hs_S} (h : KS n U) : KS n (E_Fml_clear (U.2.1 9 1 4) U) := by
  obtain ⟨V, ev, ng, nl, nE, nB, nR, nd, ⟨hA, hG, hH, hE, hF, hN, hB, hC⟩, hL, hQ, hM⟩ := h
  obtain ⟨⟨f1, f2, f3⟩, f4, f5, f6, f7⟩ := hF
  obtain ⟨S, hS⟩ : ∃ S, S = mrg U V := ⟨_, rfl⟩
  have hd : U.2.1 9 1 4 = S.2.1 9 1 4 := by rw [hS]; rfl
  rw [← hS] at hA hG hH hE hN hB hC hL hQ hM f1 f2 f3 f4 f5 f6 f7
  have hne : ∀ f, f ≠ S.2.1 9 1 4 → (E_Fml_clear (S.2.1 9 1 4) S).1 5 f = S.1 5 f := fun f hf => (wI_ne hf).trans (wI_ne hf)
  refine KS_of (T' := hs_wI (E_Fml_clear (S.2.1 9 1 4) S) 11 1 10 0) ⟨ev, ng, nl, nE, nB, nR, 0, ⟨⟨by have := hA.1; omega, ⟨hA.2.1.1, hA.2.1.2.1, hA.2.1.2.2.1, hA.2.1.2.2.2.1, hA.2.1.2.2.2.2.1, hA.2.1.2.2.2.2.2.1, hA.2.1.2.2.2.2.2.2.1, rfl⟩, hA.2.2⟩, hG, hH, fun k hk => ⟨(hE k hk).1, fC_fr (U := S) (V := S) (hne _ ?_) rfl rfl rfl (Nat.le_refl _) (hE k hk).2⟩, ⟨⟨f1, f2, ?_⟩, ?_, ?_, ?_, fun i hi => absurd hi (by omega)⟩, hN, hB, hC⟩, hL, hQ, hM⟩ ?_
  · have h9 : S.2.1 3 (k + 1) 5 < S.2.1 9 1 4 := (hE k hk).2.2.1
    exact Nat.ne_of_lt h9
  · exact (congrFun (hne 1 (by omega)) 3).trans f3
  · show (hs_wI (hs_wI S 5 (S.2.1 9 1 4) 3 0) 5 (S.2.1 9 1 4) 4 0).1 5 (S.2.1 9 1 4) 3 = 0
    rw [wI_at, if_neg (by decide), wI_at, if_pos rfl]
  · refine ⟨0, by omega, ?_, fun i hi => absurd hi (by omega)⟩
    show (hs_wI (hs_wI S 5 (S.2.1 9 1 4) 3 0) 5 (S.2.1 9 1 4) 4 0).1 5 (S.2.1 9 1 4) 3 = 0
    rw [wI_at, if_neg (by decide), wI_at, if_pos rfl]
  · show (hs_wI (hs_wI S 5 (S.2.1 9 1 4) 3 0) 5 (S.2.1 9 1 4) 4 0).1 5 (S.2.1 9 1 4) 4 = 0
    rw [wI_at, if_pos rfl]
  · rw [hd]
    unfold E_Fml_clear
    simp only [cg11, cg42, cg43, cg44, cg46, cg47, cg48, cg49, cg51, cg53, cg54, cg55, cg56, cg57, cg58, cg60, cg61, cg62, cg63, cg65, cg66, cg67, cg68, cg69, cg70, cg71, cg72, cg73, cg74, cg77, cg78, cg79, cg80, cg81, cg82, cg83, cg84, cg87, cg88, ci0, ci3, ci5, ci8, ci10, ci20, ci21, ci22, ci23, ci24, ci25, ci27, ci35, ci36, ci37, cw_59, cw_72, cw_21, cz_R, cz_L, cz_as, cz_add, cz_nw, cz_mrg, hS]
theorem kp_empty {n : Nat} {U : hs_S} {k o : Nat} (h : KS n U) (hk : k < 24) (hn : n < 512) (hE : hs_sz U 12 < 60) : KS (n + 1) (hs_wI (E_Sht_tell (nI k) (nI o) (U.1 10 1 5) 1 U) 10 1 5 (U.1 10 1 5 + 1)) := by
  obtain ⟨V, ev, ng, nl, nE, nB, nR, nd, hX, hL, hQ, hM⟩ := h
  have e5 : U.1 10 1 5 = nI ev := hX.1.2.1.1
  have hz : hs_sz U 12 = nE := hX.1.2.2.1.1
  have h3 : U.2.2.2 3 = nE := hX.1.2.2.1.2.1
  obtain ⟨m, hm, em, _⟩ := ntc (U := mrg U V) (V := mrg U V) (c := k / 6) (ev := ev) hX.2.2.2.2.2.1 (by omega)
  have em' : nI ev + (if (1 : Int32) < U.1 25 1 (k / 6) then U.1 25 1 (k / 6) else 1) = nI m := em
  refine KS_of (empty_RR (y := 0) (o := o) (q := fun p => if 36 * nE ≤ p ∧ p < 36 * nE + 3 * 0 then (mrg U V).1 51 1 (p - 36 * nE) else (mrg U V).1 59 1 p) hX hL hQ hM hk hm (by omega) hn (fun _ => rfl)) ?_
  unfold E_Sht_tell tellT
  rw [e5, hz, h3, nI_div6 (by omega), hl_cl (by omega), em', nI_1]
  unfold edU E_Edit_init
  simp only [cg11, cg42, cg43, cg44, cg46, cg47, cg48, cg49, cg51, cg53, cg54, cg55, cg56, cg57, cg58, cg60, cg61, cg62, cg63, cg65, cg66, cg67, cg68, cg69, cg70, cg71, cg72, cg73, cg74, cg77, cg78, cg79, cg80, cg81, cg82, cg83, cg84, cg87, cg88, ci0, ci3, ci5, ci8, ci10, ci20, ci21, ci22, ci23, ci24, ci25, ci27, ci35, ci36, ci37, cw_59, cw_72, cw_21, cz_R, cz_L, cz_as, cz_add, cz_nw, cz_mrg]
