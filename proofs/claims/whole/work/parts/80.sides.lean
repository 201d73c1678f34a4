/-! ===== the class's rows alone, the reference's rows alone ===== -/
def hs_ko (t p : Nat) : Bool := decide (42 ≤ t) || (t == 11 || (hs_fr t p || hs_scr t p))
def hs_co (S : hs_S) : hs_S := (fun t i p => if hs_ko t p = true then 0 else S.1 t i p, (fun t i p => if hs_scR t p = true then 0 else S.2.1 t i p, (fun _ _ _ => 0, S.2.2.2)))
def hs_km (t p : Nat) : Bool := (decide (t < 42) && !(t == 11)) || (hs_scr t p || (t == 11 && p == 59))
def hs_mo (S : hs_S) : hs_S := (fun t i p => if hs_km t p = true then 0 else S.1 t i p, (fun _ _ _ => 0, (fun t i p => if t == 86 then S.2.2.1 t i p else 0, fun _ => 0)))
theorem co_of {S T : hs_S} (h1 : ∀ t i p, t < 42 → t ≠ 11 → hs_fr t p = false → hs_scr t p = false → T.1 t i p = S.1 t i p) (h2 : ∀ t i p, hs_scR t p = false → T.2.1 t i p = S.2.1 t i p) (h3 : T.2.2.2 = S.2.2.2) : hs_co T = hs_co S := by
  refine Prod.ext (funext fun t => funext fun i => funext fun p => ?_) (Prod.ext (funext fun t => funext fun i => funext fun p => ?_) (Prod.ext rfl h3))
  · show (if hs_ko t p = true then 0 else T.1 t i p) = if hs_ko t p = true then 0 else S.1 t i p
    by_cases q : hs_ko t p = true
    · rw [if_pos q, if_pos q]
    · rw [if_neg q, if_neg q]
      unfold hs_ko at q
      simp only [Bool.or_eq_true, decide_eq_true_eq, beq_iff_eq, not_or, Bool.not_eq_true] at q
      exact h1 t i p (by omega) q.2.1 q.2.2.1 q.2.2.2
  · show (if hs_scR t p = true then 0 else T.2.1 t i p) = if hs_scR t p = true then 0 else S.2.1 t i p
    by_cases q : hs_scR t p = true
    · rw [if_pos q, if_pos q]
    · rw [if_neg q, if_neg q]
      exact h2 t i p (by cases z : hs_scR t p with | true => exact absurd z q | false => rfl)
theorem mo_of {S T : hs_S} (h1 : ∀ t i p, 42 ≤ t ∨ t = 11 → hs_scr t p = false → ¬ (t = 11 ∧ p = 59) → T.1 t i p = S.1 t i p) (h2 : ∀ i p, T.2.2.1 86 i p = S.2.2.1 86 i p) : hs_mo T = hs_mo S := by
  refine Prod.ext (funext fun t => funext fun i => funext fun p => ?_) (Prod.ext rfl (Prod.ext (funext fun t => funext fun i => funext fun p => ?_) rfl))
  · show (if hs_km t p = true then 0 else T.1 t i p) = if hs_km t p = true then 0 else S.1 t i p
    by_cases q : hs_km t p = true
    · rw [if_pos q, if_pos q]
    · rw [if_neg q, if_neg q]
      unfold hs_km at q
      simp only [Bool.or_eq_true, Bool.and_eq_true, decide_eq_true_eq, Bool.not_eq_true', beq_eq_false_iff_ne, not_or, not_and, Bool.not_eq_true, ne_eq, Classical.not_not] at q
      simp only [beq_iff_eq] at q
      refine h1 t i p ?_ q.2.1 (fun z => q.2.2 z.1 z.2)
      by_cases z : 42 ≤ t
      · exact Or.inl z
      · exact Or.inr (q.1 (by omega))
  · show (if (t == 86) = true then T.2.2.1 t i p else 0) = if (t == 86) = true then S.2.2.1 t i p else 0
    by_cases q : (t == 86) = true
    · rw [if_pos q, if_pos q]
      have : t = 86 := beq_iff_eq.mp q
      rw [this]; exact h2 i p
    · rw [if_neg q, if_neg q]
theorem RX_cm {n : Nat} {U V U' V' : hs_S} {ev ng nl nE nB nR nd : Nat} (hu : hs_co U' = hs_co U) (hv : hs_mo V' = hs_mo V) (k : RX n U V ev ng nl nE nB nR nd) : RX n U' V' ev ng nl nE nB nR nd := by
  have k1 : RX n (hs_co U) (hs_mo V) ev ng nl nE nB nR nd := by
    obtain ⟨a, b, c, d, e, f, g, i⟩ := k
    exact ⟨a, b, c, d, e, f, g, i⟩
  rw [← hu, ← hv] at k1
  obtain ⟨a, b, c, d, e, f, g, i⟩ := k1
  exact ⟨a, b, c, d, e, f, g, i⟩
theorem rL_cm {U V U' V' : hs_S} (hu : hs_co U' = hs_co U) (hv : hs_mo V' = hs_mo V) (k : rL U V) : rL U' V' := by
  have k1 : rL (hs_co U) (hs_mo V) := k
  rw [← hu, ← hv] at k1
  exact k1
theorem mR_mo {V V' : hs_S} {ng nl nE nB nR r : Nat} (hv : hs_mo V' = hs_mo V) (k : mR V ng nl nE nB nR r) : mR V' ng nl nE nB nR r := by
  have k1 : mR (hs_mo V) ng nl nE nB nR r := k
  rw [← hv] at k1
  exact k1
theorem cl_co {S T : hs_S} (h : hs_cl T = hs_cl S) : hs_co T = hs_co S := by
  refine co_of (fun t i p _ _ _ h4 => ?_) (fun t i p h4 => ?_) (congrArg (fun z => z.2.2.2) h)
  · have := congrFun (congrFun (congrFun (congrArg Prod.fst h) t) i) p
    have e1 : (if hs_scr t p = true then 0 else T.1 t i p) = if hs_scr t p = true then 0 else S.1 t i p := this
    rw [h4] at e1
    exact e1
  · have := congrFun (congrFun (congrFun (congrArg (fun z => z.2.1) h) t) i) p
    have e1 : (if hs_scR t p = true then 0 else T.2.1 t i p) = if hs_scR t p = true then 0 else S.2.1 t i p := this
    rw [h4] at e1
    exact e1
theorem cl_mo {S T : hs_S} (h : hs_cl T = hs_cl S) : hs_mo T = hs_mo S := by
  refine mo_of (fun t i p _ h4 _ => ?_) (fun i p => congrFun (congrFun (congrFun (congrArg (fun z => z.2.2.1) h) 86) i) p)
  have := congrFun (congrFun (congrFun (congrArg Prod.fst h) t) i) p
  have e1 : (if hs_scr t p = true then 0 else T.1 t i p) = if hs_scr t p = true then 0 else S.1 t i p := this
  rw [h4] at e1
  exact e1
