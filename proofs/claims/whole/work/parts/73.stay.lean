/-! ===== rounds that stay as they were reckoned ===== -/
theorem sI_x {f g : Nat → Int} {n : Nat} : ∀ m, n ≤ m → (∀ k, k < n → f k = g k) → (∀ k, n ≤ k → k < m → f k = 0) → sI f m = sI g n := by
  have base : ∀ j, j ≤ n → (∀ k, k < n → f k = g k) → sI f j = sI g j := by
    intro j
    induction j with
    | zero => intro _ _; rfl
    | succ j ih => intro hj h; show sI f j + f j = sI g j + g j; rw [ih (by omega) h, h j (by omega)]
  intro m
  induction m with
  | zero => intro h _ _; have : n = 0 := by omega
            subst this; rfl
  | succ m ih =>
    intro h h1 h2
    by_cases q : n = m + 1
    · subst q; exact base _ (Nat.le_refl _) h1
    · show sI f m + f m = _
      rw [ih (by omega) h1 (fun k a b => h2 k a (by omega)), h2 m (by omega) (by omega), Int.add_zero]
section
variable {V V' : hs_S} {nB nB' r : Nat}
def mSame (V V' : hs_S) (nB nB' r : Nat) : Prop := (nB ≤ nB' ∧ nB' ≤ 80 ∧ r < 30) ∧
  (∀ b, b < nB → (V'.1 72 1 b = nI r ↔ V.1 72 1 b = nI r)) ∧
  (∀ b, nB ≤ b → b < nB' → ¬ V'.1 72 1 b = nI r) ∧
  (∀ b, b < nB → V.1 72 1 b = nI r → (V'.1 67 1 b = V.1 67 1 b ∧ V'.1 68 1 b = V.1 68 1 b ∧ V'.1 69 1 b = V.1 69 1 b) ∧ V'.1 71 1 b = V.1 71 1 b ∧ V'.1 73 1 b = V.1 73 1 b ∧ V'.1 74 1 b = V.1 74 1 b) ∧
  V'.1 80 1 r = V.1 80 1 r ∧ V'.1 81 1 r = V.1 81 1 r ∧ V'.1 82 1 r = V.1 82 1 r
theorem sm_tp (h : mSame V V' nB nB' r) {b : Nat} (hb : b < nB') : mTP V' b (nI r) ↔ (b < nB ∧ mTP V b (nI r)) := by
  have hc : (nI r).toNatClampNeg = r := hl_cl (by have := h.1; omega)
  by_cases q : b < nB
  · by_cases q2 : V.1 72 1 b = nI r
    · obtain ⟨⟨r1, r2, r3⟩, r4, r5, r6⟩ := h.2.2.2.1 b q q2
      unfold mTP
      rw [hc, r1, r3, r4, r5, h.2.2.2.2.2.1]
      exact ⟨fun z => ⟨q, (h.2.1 b q).mp z.1, z.2⟩, fun z => ⟨(h.2.1 b q).mpr z.2.1, z.2.2⟩⟩
    · exact ⟨fun z => absurd ((h.2.1 b q).mp z.1) q2, fun z => absurd z.2.1 q2⟩
  · exact ⟨fun z => absurd z.1 (h.2.2.1 b (by omega) hb), fun z => absurd z.1 q⟩
theorem sm_T (h : mSame V V' nB nB' r) {u : Int32} {b : Nat} (hb : b < nB') : shT V' (nI r) u b = true ↔ (b < nB ∧ shT V (nI r) u b = true) := by
  have hbc : (nI b).toNatClampNeg = b := hl_cl (by have := h.1; omega)
  unfold shT F_takesPart
  rw [decide_eq_true_eq, decide_eq_true_eq, hbc, bI_eq0, bI_eq0, Classical.not_not, Classical.not_not, sm_tp h hb]
  refine ⟨fun z => ⟨z.2.1, ?_, z.2.2⟩, fun z => ⟨?_, z.1, z.2.2⟩⟩
  · rw [← (h.2.2.2.1 b z.2.1 z.2.2.1).1.1]; exact z.1
  · rw [(h.2.2.2.1 b z.1 z.2.2.1).1.1]; exact z.2.1
theorem shT_r {S : hs_S} {r u : Int32} {b : Nat} (hb : b < 80) (h : shT S r u b = true) : S.1 72 1 b = r := by
  unfold shT F_takesPart at h
  rw [decide_eq_true_eq, hl_cl (by omega), bI_eq0, Classical.not_not] at h
  exact h.2.1
theorem sm_all (h : mSame V V' nB nB' r) {u : Int32} : allR V' nB' r u = allR V nB r u := by
  have hc : (nI r).toNatClampNeg = r := hl_cl (by have := h.1; omega)
  have tp : ∀ {W : hs_S} (b : Nat), tpR (W.1 67 1) (W.1 69 1) (W.1 71 1) (W.1 72 1) (W.1 73 1) (W.1 81 1) b r ↔ mTP W b (nI r) := fun {W} b => by unfold tpR mTP; rw [hc]
  have base : ∀ j, j ≤ nB → sumR (V'.1 67 1) (V'.1 68 1) (V'.1 69 1) (V'.1 71 1) (V'.1 72 1) (V'.1 73 1) (V'.1 81 1) r u j = sumR (V.1 67 1) (V.1 68 1) (V.1 69 1) (V.1 71 1) (V.1 72 1) (V.1 73 1) (V.1 81 1) r u j := by
    intro j
    induction j with
    | zero => intro _; rfl
    | succ j ih =>
      intro hj
      unfold sumR
      rw [ih (by omega)]
      have ht := sm_tp h (b := j) (by have := h.1; omega)
      by_cases q : mTP V j (nI r)
      · obtain ⟨⟨r1, r2, r3⟩, r4, r5, r6⟩ := h.2.2.2.1 j (by omega) q.1
        have q' := ht.mpr ⟨by omega, q⟩
        by_cases q2 : V.1 67 1 j = u
        · rw [if_pos ⟨by rw [r1]; exact q2, (tp j).mpr q'⟩, if_pos ⟨q2, (tp j).mpr q⟩, r2]
        · rw [if_neg fun z => q2 (by rw [← r1]; exact z.1), if_neg fun z => q2 z.1]
      · rw [if_neg fun z => q (ht.mp ((tp j).mp z.2)).2, if_neg fun z => q ((tp j).mp z.2)]
  have up : ∀ m, nB ≤ m → m ≤ nB' → sumR (V'.1 67 1) (V'.1 68 1) (V'.1 69 1) (V'.1 71 1) (V'.1 72 1) (V'.1 73 1) (V'.1 81 1) r u m = sumR (V.1 67 1) (V.1 68 1) (V.1 69 1) (V.1 71 1) (V.1 72 1) (V.1 73 1) (V.1 81 1) r u nB := by
    intro m
    induction m with
    | zero => intro h1 _; have : nB = 0 := by omega
              rw [this]; rfl
    | succ m ih =>
      intro h1 h2
      by_cases q : nB = m + 1
      · rw [← q]; exact base _ (Nat.le_refl _)
      · refine Eq.trans ?_ (ih (by omega) (by omega))
        conv => lhs; unfold sumR
        rw [if_neg fun z => h.2.2.1 m (by omega) (by omega) ((tp m).mp z.2).1, Int32.add_zero]
  exact up nB' h.1.1 (Nat.le_refl _)
theorem sm_K (h : mSame V V' nB nB' r) {u all : Int32} {b : Nat} (hb : b < nB) (h2 : V.1 72 1 b = nI r) : shK V' (nI r) u all b = shK V (nI r) u all b ∧ shB V' (nI r) all b = shB V (nI r) all b ∧ shW V' (nI r) b = shW V (nI r) b := by
  have hc : (nI r).toNatClampNeg = r := hl_cl (by have := h.1; omega)
  obtain ⟨⟨r1, r2, r3⟩, r4, r5, r6⟩ := h.2.2.2.1 b hb h2
  obtain ⟨w1, w2, w3⟩ := h.2.2.2.2
  unfold shK shB shW shV0
  rw [hc, w1, w3, r2, r3]
  exact ⟨rfl, rfl, rfl⟩
theorem sm_G (h : mSame V V' nB nB' r) {u all : Int32} {b : Nat} (hb : b < nB) (h2 : V.1 72 1 b = nI r) : shG V' (nI r) u all nB' b = shG V (nI r) u all nB b := by
  have hc : (nI r).toNatClampNeg = r := hl_cl (by have := h.1; omega)
  obtain ⟨_, l80, _⟩ := h.1
  have h72 : ∀ c, c < nB → shT V (nI r) u c = true → V.1 72 1 c = nI r := fun c hc ht => shT_r (by omega) ht
  have eV : shV V' (nI r) u all nB' = shV V (nI r) u all nB := by
    unfold shV shV0
    rw [hc, h.2.2.2.2.2.2]
    congr 1
    refine sI_x nB' h.1.1 (fun c hcb => ?_) (fun c h1 h2 => ?_)
    · have ht := sm_T h (u := u) (b := c) (by omega)
      by_cases q : shT V (nI r) u c = true
      · rw [if_pos q, if_pos (ht.mpr ⟨hcb, q⟩), (sm_K (u := u) (all := all) h hcb (h72 c hcb q)).2.1]
      · rw [if_neg q, if_neg fun z => q (ht.mp z).2]
    · rw [if_neg fun z => absurd (sm_T h (u := u) (b := c) h2 |>.mp z).1 (by omega)]
  have eL : shL V' (nI r) u all nB' b = shL V (nI r) u all nB b := by
    unfold shL
    rw [eV]
    congr 1
    refine sI_x nB' h.1.1 (fun c hcb => ?_) (fun c h1 h3 => ?_)
    · have ht := sm_T h (u := u) (b := c) (by omega)
      by_cases q : shT V (nI r) u c = true
      · have q' := ht.mpr ⟨hcb, q⟩
        obtain ⟨k1, k2, k3⟩ := sm_K (u := u) (all := all) h hcb (h72 c hcb q)
        obtain ⟨k4, _⟩ := sm_K (u := u) (all := all) h hb h2
        have eP : shP V' (nI r) u all c b = shP V (nI r) u all c b := by unfold shP; rw [k1, k4]
        rw [q, q', eP, k3]
      · have q' : ¬ shT V' (nI r) u c = true := fun z => q (ht.mp z).2
        rw [if_neg (fun z => q' (by rw [Bool.and_eq_true] at z; exact z.1)), if_neg (fun z => q (by rw [Bool.and_eq_true] at z; exact z.1))]
    · have q' : ¬ shT V' (nI r) u c = true := fun z => absurd (sm_T h (u := u) (b := c) h3 |>.mp z).1 (by omega)
      rw [if_neg (fun z => q' (by rw [Bool.and_eq_true] at z; exact z.1))]
  obtain ⟨_, k2, k3⟩ := sm_K (u := u) (all := all) h hb h2
  unfold shG
  rw [eL, k2, k3]
/-- what a reckoned round has come to, while its bids stay -/
theorem mR_2 (h : mSame V V' nB nB' r) (h1 : V.1 82 1 r = (if allR V nB r 0 ≤ allR V nB r 1 then allR V nB r 0 else allR V nB r 1)) (h2 : ∀ b, b < nB → V.1 72 1 b = nI r → (V.1 74 1 b).toInt = gotR V nB r b) (h3 : ∀ u : Int32, u = 0 ∨ u = 1 → sI (fun b => if shT V (nI r) u b then (V.1 74 1 b).toInt else 0) nB = (V.1 82 1 r).toInt) :
    V'.1 82 1 r = (if allR V' nB' r 0 ≤ allR V' nB' r 1 then allR V' nB' r 0 else allR V' nB' r 1) ∧ (∀ b, b < nB' → V'.1 72 1 b = nI r → (V'.1 74 1 b).toInt = gotR V' nB' r b) ∧ ∀ u : Int32, u = 0 ∨ u = 1 → sI (fun b => if shT V' (nI r) u b then (V'.1 74 1 b).toInt else 0) nB' = (V'.1 82 1 r).toInt := by
  obtain ⟨_, l80, _⟩ := h.1
  refine ⟨by rw [sm_all h, sm_all h, h.2.2.2.2.2.2]; exact h1, fun b hb hr => ?_, fun u hu => ?_⟩
  · by_cases q : b < nB
    · have q2 := (h.2.1 b q).mp hr
      rw [(h.2.2.2.1 b q q2).2.2.2, h2 b q q2]
      unfold gotR
      have t1 := sm_T h (u := 1) hb
      have t0 := sm_T h (u := 0) hb
      have e1 : shT V' (nI r) 1 b = shT V (nI r) 1 b := by
        rw [Bool.eq_iff_iff]; exact t1.trans ⟨fun z => z.2, fun z => ⟨q, z⟩⟩
      have e0 : shT V' (nI r) 0 b = shT V (nI r) 0 b := by
        rw [Bool.eq_iff_iff]; exact t0.trans ⟨fun z => z.2, fun z => ⟨q, z⟩⟩
      rw [e1, e0, sm_all h, sm_all h, sm_G h q q2, sm_G h q q2]
    · exact absurd hr (h.2.2.1 b (by omega) hb)
  · rw [h.2.2.2.2.2.2, ← h3 u hu]
    refine sI_x nB' h.1.1 (fun c hcb => ?_) (fun c h1 h3 => ?_)
    · have ht := sm_T h (u := u) (b := c) (by omega)
      by_cases q : shT V (nI r) u c = true
      · rw [if_pos q, if_pos (ht.mpr ⟨hcb, q⟩), (h.2.2.2.1 c hcb (shT_r (by omega) q)).2.2.2]
      · rw [if_neg q, if_neg fun z => q (ht.mp z).2]
    · rw [if_neg fun z => absurd (sm_T h (u := u) (b := c) h3 |>.mp z).1 (by omega)]
end
