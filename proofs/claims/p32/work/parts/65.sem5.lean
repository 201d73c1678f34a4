def cnN (a53 : Nat → Int32) (c : Int32) : Nat → Nat
  | 0 => 0
  | k + 1 => if a53 k = c then cnN a53 c k + 1 else cnN a53 c k
theorem cnN_le {a53 : Nat → Int32} {c : Int32} : ∀ k, cnN a53 c k ≤ k := by
  intro k
  induction k with
  | zero => exact Nat.le_refl _
  | succ k ih => unfold cnN; by_cases q : a53 k = c <;> simp [q] <;> omega
theorem cnN_mono {a53 : Nat → Int32} {c : Int32} {j : Nat} : ∀ k, j ≤ k → cnN a53 c j ≤ cnN a53 c k := by
  intro k
  induction k with
  | zero => intro h; have : j = 0 := by omega
            subst this; exact Nat.le_refl _
  | succ k ih =>
    intro h
    by_cases q : j = k + 1
    · subst q; exact Nat.le_refl _
    · have := ih (by omega)
      have h2 : cnN a53 c (k + 1) = if a53 k = c then cnN a53 c k + 1 else cnN a53 c k := rfl
      rw [h2]
      by_cases q : a53 k = c
      · rw [if_pos q]; omega
      · rw [if_neg q]; exact this
theorem cnN_s {a53 : Nat → Int32} {c : Int32} {j k : Nat} (h : j < k) (hj : a53 j = c) : cnN a53 c j < cnN a53 c k := by
  have h1 : cnN a53 c (j + 1) = cnN a53 c j + 1 := if_pos hj
  have := cnN_mono (a53 := a53) (c := c) (j := j + 1) k h
  omega
theorem cnN_ex {a53 : Nat → Int32} {c : Int32} {p : Nat} : ∀ n, p < cnN a53 c n → ∃ k, k < n ∧ a53 k = c ∧ cnN a53 c k = p := by
  intro n
  induction n with
  | zero => intro h; exact absurd h (Nat.not_lt_zero _)
  | succ n ih =>
    intro h
    by_cases q : p < cnN a53 c n
    · obtain ⟨k, hk, h⟩ := ih q
      exact ⟨k, by omega, h⟩
    · by_cases q2 : a53 n = c
      · have h1 : cnN a53 c (n + 1) = cnN a53 c n + 1 := if_pos q2
        exact ⟨n, by omega, q2, by omega⟩
      · have h1 : cnN a53 c (n + 1) = cnN a53 c n := if_neg q2
        omega
theorem mEO_n {V : hs_S} {c : Int32} : ∀ k, mEO V c k = nI (cnN (V.1 53 1) c k) := by
  intro k
  induction k with
  | zero => rfl
  | succ k ih =>
    unfold mEO cnN
    rw [ih]
    by_cases q : V.1 53 1 k = c
    · rw [if_pos q, if_pos q]; exact nI_1 _
    · rw [if_neg q, if_neg q, Int32.add_zero]
section
variable {U V : hs_S} {ev nE : Nat} {c : Int32}
theorem plc_at (hE : ∀ j, j < nE → rE1 U V ev j) (h60 : nE ≤ 60) {k : Nat} (hk : k < nE) (h1 : V.1 53 1 k = c) {a : Int32} (h2 : nI (cnN (V.1 53 1) c k) = a) : ∀ n, n ≤ nE → nE - n ≤ k → cPlc U c a nE n = k + 1 := by
  intro n
  induction n with
  | zero => intro _ h; omega
  | succ n ih =>
    intro hn hm
    have hj : nE - (n + 1) < nE := by omega
    obtain ⟨⟨e1, _⟩, ⟨x, hx, e2, e3⟩, _⟩ := hE _ hj
    unfold cPlc
    have e1' : ed U (nE - (n + 1)) = nE - (n + 1) + 1 := e1
    have e4 : U.1 3 (nE - (n + 1) + 1) 1 = V.1 53 1 (nE - (n + 1)) := e3.trans e2.symm
    have e5 : cEO U c (nE - (n + 1)) = nI (cnN (V.1 53 1) c (nE - (n + 1))) := (cEO_r _ fun j hj => hE j (by omega)).trans (mEO_n _)
    rw [e1', e4, e5]
    by_cases q : V.1 53 1 (nE - (n + 1)) = c ∧ nI (cnN (V.1 53 1) c (nE - (n + 1))) = a
    · rw [if_pos q]
      have l1 := cnN_le (a53 := V.1 53 1) (c := c) (nE - (n + 1))
      have l2 := cnN_le (a53 := V.1 53 1) (c := c) k
      have e6 : cnN (V.1 53 1) c (nE - (n + 1)) = cnN (V.1 53 1) c k := (hl_inj (by omega) (by omega)).mp (q.2.trans h2.symm)
      rcases Nat.lt_trichotomy (nE - (n + 1)) k with z | z | z
      · have := cnN_s z q.1; omega
      · rw [z]
      · have := cnN_s z h1; omega
    · rw [if_neg q]
      refine ih (by omega) ?_
      by_cases z : nE - (n + 1) = k
      · rw [z] at q; exact absurd ⟨h1, h2⟩ q
      · omega
theorem plc_no (hE : ∀ j, j < nE → rE1 U V ev j) {a : Int32} (h : ∀ k, k < nE → ¬ (V.1 53 1 k = c ∧ nI (cnN (V.1 53 1) c k) = a)) : ∀ n, n ≤ nE → cPlc U c a nE n = 0 := by
  intro n
  induction n with
  | zero => intro _; rfl
  | succ n ih =>
    intro hn
    have hj : nE - (n + 1) < nE := by omega
    obtain ⟨⟨e1, _⟩, ⟨x, hx, e2, e3⟩, _⟩ := hE _ hj
    unfold cPlc
    have e1' : ed U (nE - (n + 1)) = nE - (n + 1) + 1 := e1
    have e4 : U.1 3 (nE - (n + 1) + 1) 1 = V.1 53 1 (nE - (n + 1)) := e3.trans e2.symm
    have e5 : cEO U c (nE - (n + 1)) = nI (cnN (V.1 53 1) c (nE - (n + 1))) := (cEO_r _ fun j hj => hE j (by omega)).trans (mEO_n _)
    rw [e1', e4, e5, if_neg (h _ hj)]
    exact ih (by omega)
theorem ct_r (hE : ∀ j, j < nE → rE1 U V ev j) {e : Int32} : ∀ n, n ≤ nE → (cCt U c e n = 0 ∧ edR (V.1 53 1) (V.1 56 1) (V.1 58 1) c e n = -1) ∨ ∃ k, k < n ∧ cCt U c e n = k + 1 ∧ edR (V.1 53 1) (V.1 56 1) (V.1 58 1) c e n = nI k := by
  intro n
  induction n with
  | zero => intro _; exact Or.inl ⟨rfl, rfl⟩
  | succ n ih =>
    intro hn
    obtain ⟨⟨e1, _⟩, ⟨x, hx, e2, e3⟩, ⟨_, _, e4, _⟩, e5, _⟩ := hE n (by omega)
    have e1' : ed U n = n + 1 := e1
    have e6 : (U.1 3 (n + 1) 1 = c ∧ ¬ F_Edit_countsAt (n + 1) e U = 0) ↔ (V.1 53 1 n = c ∧ ¬ e < V.1 56 1 n ∧ V.1 58 1 n = 0) := by
      unfold F_Edit_countsAt
      rw [bI_eq0, e3, e2, e4, e5]
      exact ⟨fun z => ⟨z.1, (Classical.not_not.mp z.2).2, (Classical.not_not.mp z.2).1⟩, fun z => ⟨z.1, Classical.not_not.mpr ⟨z.2.2, z.2.1⟩⟩⟩
    unfold cCt edR
    rw [e1']
    by_cases q : V.1 53 1 n = c ∧ ¬ e < V.1 56 1 n ∧ V.1 58 1 n = 0
    · rw [if_pos q, if_pos (e6.mpr q)]
      exact Or.inr ⟨n, by omega, rfl, rfl⟩
    · rw [if_neg q, if_neg fun z => q (e6.mp z)]
      rcases ih (by omega) with z | ⟨k, hk, z⟩
      · exact Or.inl z
      · exact Or.inr ⟨k, by omega, z⟩
end
theorem sI_x {f g : Nat → Int} {n : Nat} : ∀ m, n ≤ m → (∀ k, k < n → f k = g k) → (∀ k, n ≤ k → k < m → f k = 0) → sI f m = sI g n := by
  have base : ∀ j, j ≤ n → (∀ k, k < n → f k = g k) → sI f j = sI g j := by
    intro j
    induction j with
    | zero => intro _ _; rfl
    | succ j ih => intro hj h; show sI f j + f j = sI g j + g j; rw [ih (by omega) h, h j (by omega)]
  intro m
  induction m with
  | zero => intro h _ _; have : n = 0 := by omega
            subst this; rfl
  | succ m ih =>
    intro h h1 h2
    by_cases q : n = m + 1
    · subst q; exact base _ (Nat.le_refl _) h1
    · show sI f m + f m = _
      rw [ih (by omega) h1 (fun k a b => h2 k a (by omega)), h2 m (by omega) (by omega), Int.add_zero]
section
variable {V V' : hs_S} {nB nB' r : Nat}
def mSame (V V' : hs_S) (nB nB' r : Nat) : Prop := (nB ≤ nB' ∧ nB' ≤ 80 ∧ r < 30) ∧
  (∀ b, b < nB → (V'.1 72 1 b = nI r ↔ V.1 72 1 b = nI r)) ∧
  (∀ b, nB ≤ b → b < nB' → ¬ V'.1 72 1 b = nI r) ∧
  (∀ b, b < nB → V.1 72 1 b = nI r → (V'.1 67 1 b = V.1 67 1 b ∧ V'.1 68 1 b = V.1 68 1 b ∧ V'.1 69 1 b = V.1 69 1 b) ∧ V'.1 71 1 b = V.1 71 1 b ∧ V'.1 73 1 b = V.1 73 1 b ∧ V'.1 74 1 b = V.1 74 1 b) ∧
  V'.1 80 1 r = V.1 80 1 r ∧ V'.1 81 1 r = V.1 81 1 r ∧ V'.1 82 1 r = V.1 82 1 r
theorem sm_tp (h : mSame V V' nB nB' r) {b : Nat} (hb : b < nB') : mTP V' b (nI r) ↔ (b < nB ∧ mTP V b (nI r)) := by
  have hc : (nI r).toNatClampNeg = r := hl_cl (by have := h.1; omega)
  by_cases q : b < nB
  · by_cases q2 : V.1 72 1 b = nI r
    · obtain ⟨⟨r1, r2, r3⟩, r4, r5, r6⟩ := h.2.2.2.1 b q q2
      unfold mTP
      rw [hc, r1, r3, r4, r5, h.2.2.2.2.2.1]
      exact ⟨fun z => ⟨q, (h.2.1 b q).mp z.1, z.2⟩, fun z => ⟨(h.2.1 b q).mpr z.2.1, z.2.2⟩⟩
    · exact ⟨fun z => absurd ((h.2.1 b q).mp z.1) q2, fun z => absurd z.2.1 q2⟩
  · exact ⟨fun z => absurd z.1 (h.2.2.1 b (by omega) hb), fun z => absurd z.1 q⟩
theorem sm_T (h : mSame V V' nB nB' r) {u : Int32} {b : Nat} (hb : b < nB') : shT V' (nI r) u b = true ↔ (b < nB ∧ shT V (nI r) u b = true) := by
  have hbc : (nI b).toNatClampNeg = b := hl_cl (by have := h.1; omega)
  unfold shT F_takesPart
  rw [decide_eq_true_eq, decide_eq_true_eq, hbc, bI_eq0, bI_eq0, Classical.not_not, Classical.not_not, sm_tp h hb]
  refine ⟨fun z => ⟨z.2.1, ?_, z.2.2⟩, fun z => ⟨?_, z.1, z.2.2⟩⟩
  · rw [← (h.2.2.2.1 b z.2.1 z.2.2.1).1.1]; exact z.1
  · rw [(h.2.2.2.1 b z.1 z.2.2.1).1.1]; exact z.2.1
theorem shT_r {S : hs_S} {r u : Int32} {b : Nat} (hb : b < 80) (h : shT S r u b = true) : S.1 72 1 b = r := by
  unfold shT F_takesPart at h
  rw [decide_eq_true_eq, hl_cl (by omega), bI_eq0, Classical.not_not] at h
  exact h.2.1
theorem sm_all (h : mSame V V' nB nB' r) {u : Int32} : allR V' nB' r u = allR V nB r u := by
  have hc : (nI r).toNatClampNeg = r := hl_cl (by have := h.1; omega)
  have tp : ∀ {W : hs_S} (b : Nat), tpR (W.1 67 1) (W.1 69 1) (W.1 71 1) (W.1 72 1) (W.1 73 1) (W.1 81 1) b r ↔ mTP W b (nI r) := fun {W} b => by unfold tpR mTP; rw [hc]
  have base : ∀ j, j ≤ nB → sumR (V'.1 67 1) (V'.1 68 1) (V'.1 69 1) (V'.1 71 1) (V'.1 72 1) (V'.1 73 1) (V'.1 81 1) r u j = sumR (V.1 67 1) (V.1 68 1) (V.1 69 1) (V.1 71 1) (V.1 72 1) (V.1 73 1) (V.1 81 1) r u j := by
    intro j
    induction j with
    | zero => intro _; rfl
    | succ j ih =>
      intro hj
      unfold sumR
      rw [ih (by omega)]
      have ht := sm_tp h (b := j) (by have := h.1; omega)
      by_cases q : mTP V j (nI r)
      · obtain ⟨⟨r1, r2, r3⟩, r4, r5, r6⟩ := h.2.2.2.1 j (by omega) q.1
        have q' := ht.mpr ⟨by omega, q⟩
        by_cases q2 : V.1 67 1 j = u
        · rw [if_pos ⟨by rw [r1]; exact q2, (tp j).mpr q'⟩, if_pos ⟨q2, (tp j).mpr q⟩, r2]
        · rw [if_neg fun z => q2 (by rw [← r1]; exact z.1), if_neg fun z => q2 z.1]
      · rw [if_neg fun z => q (ht.mp ((tp j).mp z.2)).2, if_neg fun z => q ((tp j).mp z.2)]
  have up : ∀ m, nB ≤ m → m ≤ nB' → sumR (V'.1 67 1) (V'.1 68 1) (V'.1 69 1) (V'.1 71 1) (V'.1 72 1) (V'.1 73 1) (V'.1 81 1) r u m = sumR (V.1 67 1) (V.1 68 1) (V.1 69 1) (V.1 71 1) (V.1 72 1) (V.1 73 1) (V.1 81 1) r u nB := by
    intro m
    induction m with
    | zero => intro h1 _; have : nB = 0 := by omega
              rw [this]; rfl
    | succ m ih =>
      intro h1 h2
      by_cases q : nB = m + 1
      · rw [← q]; exact base _ (Nat.le_refl _)
      · refine Eq.trans ?_ (ih (by omega) (by omega))
        conv => lhs; unfold sumR
        rw [if_neg fun z => h.2.2.1 m (by omega) (by omega) ((tp m).mp z.2).1, Int32.add_zero]
  exact up nB' h.1.1 (Nat.le_refl _)
theorem sm_K (h : mSame V V' nB nB' r) {u all : Int32} {b : Nat} (hb : b < nB) (h2 : V.1 72 1 b = nI r) : shK V' (nI r) u all b = shK V (nI r) u all b ∧ shB V' (nI r) all b = shB V (nI r) all b ∧ shW V' (nI r) b = shW V (nI r) b := by
  have hc : (nI r).toNatClampNeg = r := hl_cl (by have := h.1; omega)
  obtain ⟨⟨r1, r2, r3⟩, r4, r5, r6⟩ := h.2.2.2.1 b hb h2
  obtain ⟨w1, w2, w3⟩ := h.2.2.2.2
  unfold shK shB shW shV0
  rw [hc, w1, w3, r2, r3]
  exact ⟨rfl, rfl, rfl⟩
theorem sm_G (h : mSame V V' nB nB' r) {u all : Int32} {b : Nat} (hb : b < nB) (h2 : V.1 72 1 b = nI r) : shG V' (nI r) u all nB' b = shG V (nI r) u all nB b := by
  have hc : (nI r).toNatClampNeg = r := hl_cl (by have := h.1; omega)
  obtain ⟨_, l80, _⟩ := h.1
  have h72 : ∀ c, c < nB → shT V (nI r) u c = true → V.1 72 1 c = nI r := fun c hc ht => shT_r (by omega) ht
  have eV : shV V' (nI r) u all nB' = shV V (nI r) u all nB := by
    unfold shV shV0
    rw [hc, h.2.2.2.2.2.2]
    congr 1
    refine sI_x nB' h.1.1 (fun c hcb => ?_) (fun c h1 h2 => ?_)
    · have ht := sm_T h (u := u) (b := c) (by omega)
      by_cases q : shT V (nI r) u c = true
      · rw [if_pos q, if_pos (ht.mpr ⟨hcb, q⟩), (sm_K (u := u) (all := all) h hcb (h72 c hcb q)).2.1]
      · rw [if_neg q, if_neg fun z => q (ht.mp z).2]
    · rw [if_neg fun z => absurd (sm_T h (u := u) (b := c) h2 |>.mp z).1 (by omega)]
  have eL : shL V' (nI r) u all nB' b = shL V (nI r) u all nB b := by
    unfold shL
    rw [eV]
    congr 1
    refine sI_x nB' h.1.1 (fun c hcb => ?_) (fun c h1 h3 => ?_)
    · have ht := sm_T h (u := u) (b := c) (by omega)
      by_cases q : shT V (nI r) u c = true
      · have q' := ht.mpr ⟨hcb, q⟩
        obtain ⟨k1, k2, k3⟩ := sm_K (u := u) (all := all) h hcb (h72 c hcb q)
        obtain ⟨k4, _⟩ := sm_K (u := u) (all := all) h hb h2
        have eP : shP V' (nI r) u all c b = shP V (nI r) u all c b := by unfold shP; rw [k1, k4]
        rw [q, q', eP, k3]
      · have q' : ¬ shT V' (nI r) u c = true := fun z => q (ht.mp z).2
        rw [if_neg (fun z => q' (by rw [Bool.and_eq_true] at z; exact z.1)), if_neg (fun z => q (by rw [Bool.and_eq_true] at z; exact z.1))]
    · have q' : ¬ shT V' (nI r) u c = true := fun z => absurd (sm_T h (u := u) (b := c) h3 |>.mp z).1 (by omega)
      rw [if_neg (fun z => q' (by rw [Bool.and_eq_true] at z; exact z.1))]
  obtain ⟨_, k2, k3⟩ := sm_K (u := u) (all := all) h hb h2
  unfold shG
  rw [eL, k2, k3]
/-- what a reckoned round has come to, while its bids stay -/
theorem mR_2 (h : mSame V V' nB nB' r) (h1 : V.1 82 1 r = (if allR V nB r 0 ≤ allR V nB r 1 then allR V nB r 0 else allR V nB r 1)) (h2 : ∀ b, b < nB → V.1 72 1 b = nI r → (V.1 74 1 b).toInt = gotR V nB r b) (h3 : ∀ u : Int32, u = 0 ∨ u = 1 → sI (fun b => if shT V (nI r) u b then (V.1 74 1 b).toInt else 0) nB = (V.1 82 1 r).toInt) :
    V'.1 82 1 r = (if allR V' nB' r 0 ≤ allR V' nB' r 1 then allR V' nB' r 0 else allR V' nB' r 1) ∧ (∀ b, b < nB' → V'.1 72 1 b = nI r → (V'.1 74 1 b).toInt = gotR V' nB' r b) ∧ ∀ u : Int32, u = 0 ∨ u = 1 → sI (fun b => if shT V' (nI r) u b then (V'.1 74 1 b).toInt else 0) nB' = (V'.1 82 1 r).toInt := by
  obtain ⟨_, l80, _⟩ := h.1
  refine ⟨by rw [sm_all h, sm_all h, h.2.2.2.2.2.2]; exact h1, fun b hb hr => ?_, fun u hu => ?_⟩
  · by_cases q : b < nB
    · have q2 := (h.2.1 b q).mp hr
      rw [(h.2.2.2.1 b q q2).2.2.2, h2 b q q2]
      unfold gotR
      have t1 := sm_T h (u := 1) hb
      have t0 := sm_T h (u := 0) hb
      have e1 : shT V' (nI r) 1 b = shT V (nI r) 1 b := by
        rw [Bool.eq_iff_iff]; exact t1.trans ⟨fun z => z.2, fun z => ⟨q, z⟩⟩
      have e0 : shT V' (nI r) 0 b = shT V (nI r) 0 b := by
        rw [Bool.eq_iff_iff]; exact t0.trans ⟨fun z => z.2, fun z => ⟨q, z⟩⟩
      rw [e1, e0, sm_all h, sm_all h, sm_G h q q2, sm_G h q q2]
    · exact absurd hr (h.2.2.1 b (by omega) hb)
  · rw [h.2.2.2.2.2.2, ← h3 u hu]
    refine sI_x nB' h.1.1 (fun c hcb => ?_) (fun c h1 h3 => ?_)
    · have ht := sm_T h (u := u) (b := c) (by omega)
      by_cases q : shT V (nI r) u c = true
      · rw [if_pos q, if_pos (ht.mpr ⟨hcb, q⟩), (h.2.2.2.1 c hcb (shT_r (by omega) q)).2.2.2]
      · rw [if_neg q, if_neg fun z => q (ht.mp z).2]
    · rw [if_neg fun z => absurd (sm_T h (u := u) (b := c) h3 |>.mp z).1 (by omega)]
end
theorem neg1 {k : Nat} (h : k < 2147483648) : ¬ nI k = -1 := fun z => by
  have e1 : (nI k).toInt = k := nI_toInt (by omega)
  have e2 : (nI k).toInt = -1 := by rw [z]; rfl
  omega
theorem neMax {k : Nat} (h : k < 2147483647) : ¬ nI k = 2147483647 := fun z => by
  have e1 : (nI k).toInt = k := nI_toInt (by omega)
  have e2 : (nI k).toInt = 2147483647 := by rw [z]; rfl
  omega
/-- the round that a bid is in: its column, and whether it is over -/
theorem bid_rd {U V : hs_S} {ev ng nl nB nR b : Nat} (hB : rB2 U V nR b) (hC : rC U V ev ng nl nR) (hev : ev ≤ 512) (hR : nR ≤ 30) : U.2.1 0 (b + 1) 2 ≠ 0 ∧ ∃ c : Nat, c < 4 ∧ V.1 66 1 b = nI c ∧ U.1 8 (U.2.1 0 (b + 1) 2) 0 = nI c ∧ (F_Rnd_isCleared (U.2.1 0 (b + 1) 2) U = 0 ↔ V.1 72 1 b = -1) := by
  obtain ⟨c, hc, h1, h2⟩ := hB
  rcases h2 with ⟨h3, h4⟩ | ⟨r, hr, h3, h4, h5⟩
  · obtain ⟨g1, ⟨g2, g3⟩, _⟩ := hC.2.1 c hc
    rw [h4]
    refine ⟨by have := g1.1; omega, c, hc, h1, g2, fun _ => h3, fun _ => ?_⟩
    exact bI_eq0.mpr (Classical.not_not.mpr g3)
  · obtain ⟨g1, ⟨c', hc', g2, g3⟩, ⟨f, l, ⟨g4, g5⟩, g6⟩, _⟩ := hC.1 r hr
    have ecc : c' = c := (hl_inj (by omega) (by omega)).mp (g2.symm.trans h5)
    subst ecc
    rw [h4]
    refine ⟨by have := g1.1; omega, c', hc, h1, g3, fun z => ?_, fun z => ?_⟩
    · have z' : U.1 8 (U.2.1 14 1 r) 2 = 2147483647 := Classical.not_not.mp (bI_eq0.mp z)
      rw [g6.2.2.2] at z'
      exact absurd z' (neMax (by omega))
    · rw [h3] at z
      exact absurd z (neg1 (by omega))
abbrev wdrT (S : hs_S) (b : Nat) (e e' : Int32) (y : Int64) : hs_S := hs_wI (hs_wI (E_asks 1 (hs_wL (hs_wI (hs_wI S 0 (b + 1) 7 e) 10 1 5 e') 100 1 (0 : Int32).toNatClampNeg y)) 71 1 b e) 11 1 0 e'
theorem wdr_RR {n : Nat} {S : hs_S} {b : Nat} {y : Int64} {ev ng nl nE nB nR nd : Nat} (hX : RX n S S ev ng nl nE nB nR nd) (hL : rL S S) (hQ : rQ S S nB nR) (hM : rM S ng nl nE nB nR) (hb : b < nB) (h72 : S.1 72 1 b = -1) (h71 : S.1 71 1 b = -1) (hn : n < 512) : RR (n + 1) (wdrT S b (nI ev) (nI (ev + 1)) y) := by
  obtain ⟨hA, hG, hH, hE, hF, hN, hB, hC⟩ := hX
  have hev := hA.1.1
  have hB80 := hA.1.2.2.1.2
  have hR30 := hA.1.2.2.2.1
  have a71 : ∀ j, (wdrT S b (nI ev) (nI (ev + 1)) y).1 71 1 j = if j = b then nI ev else S.1 71 1 j := fun j => wI_at (S := S) (t := 71) (i := 1) (j := b) (x := nI ev)
  have a0 : ∀ k, (wdrT S b (nI ev) (nI (ev + 1)) y).1 0 (b + 1) k = if k = 7 then nI ev else S.1 0 (b + 1) k := fun k => wI_at (S := S) (t := 0) (i := b + 1) (j := 7) (x := nI ev)
  have an : ∀ i, i ≠ b + 1 → (wdrT S b (nI ev) (nI (ev + 1)) y).1 0 i = S.1 0 i := fun i hi => wI_ne (S := S) (t := 0) (i := b + 1) hi
  have hg2 : ∀ r, r < nR → ∃ f : Nat, f < ev ∧ S.1 78 1 r = nI f := fun r hr => by
    obtain ⟨_, _, ⟨f, l, g1, g2, _⟩, _⟩ := hC.1 r hr
    exact ⟨f, by omega, g2⟩
  have eQ : ∀ j k, k ≠ 7 → (wdrT S b (nI ev) (nI (ev + 1)) y).1 0 (j + 1) k = S.1 0 (j + 1) k := fun j k hk => by
    by_cases q : j = b
    · rw [q]; exact (a0 k).trans (if_neg hk)
    · exact congrFun (an (j + 1) (by omega)) k
  refine ⟨ev + 1, ng, nl, nE, nB, nR, nd, ⟨⟨⟨⟨by omega, by omega⟩, by have := hA.1.2; omega⟩, ⟨rfl, rfl, hA.2.1.2.2⟩, hA.2.2⟩, rG_up hH (by omega) hG, rH_up hH, rE_up hE, hF, hN, fun j hj => ?_, rC_up hC⟩, hL, ⟨hQ.1, fun j hj => ⟨(eQ j 9 (by decide)).trans (hQ.2 j hj).1, (hQ.2 j hj).2⟩⟩, fun r hr => ?_⟩
  · obtain ⟨⟨⟨g1, g2, o, g3, g4, g5⟩, ⟨g6, g7⟩, ⟨m, hm, g8, g9⟩, ⟨l, hl, g10, g11⟩, g12, g13, ⟨g14, g15⟩⟩, g16⟩ := (rB_up hB) j hj
    refine ⟨⟨⟨g1, (eQ j 0 (by decide)).trans g2, o, g3, g4, (eQ j 1 (by decide)).trans g5⟩, ⟨(eQ j 3 (by decide)).trans g6, g7⟩, ⟨m, hm, g8, (eQ j 4 (by decide)).trans g9⟩, ⟨l, hl, g10, (eQ j 5 (by decide)).trans g11⟩, ?_, ?_, (eQ j 8 (by decide)).trans g14, g15⟩, g16⟩
    · obtain ⟨w, hw, w1, w2⟩ := g12
      exact ⟨w, hw, w1, (eQ j 6 (by decide)).trans w2⟩
    · by_cases q : j = b
      · right
        refine ⟨ev, by omega, (a71 j).trans (if_pos q), ?_⟩
        rw [q]
        exact (a0 7).trans (if_pos rfl)
      · have e1 := (a71 j).trans (if_neg q)
        have e2 := congrFun (an (j + 1) (by omega)) 7
        rcases g13 with ⟨w1, w2⟩ | ⟨w, hw, w1, w2⟩
        · exact Or.inl ⟨e1.trans w1, e2.trans w2⟩
        · exact Or.inr ⟨w, hw, e1.trans w1, e2.trans w2⟩
  · obtain ⟨f, hf, ef⟩ := hg2 r hr
    obtain ⟨_, ⟨c, hc, ec, _⟩, _⟩ := hC.1 r hr
    have hS : mSame S (wdrT S b (nI ev) (nI (ev + 1)) y) nB nB r := ⟨⟨Nat.le_refl _, hB80, by omega⟩, fun _ _ => Iff.rfl, fun j h1 h2 => absurd h1 (by omega), fun j hj hr' => ⟨⟨rfl, rfl, rfl⟩, (a71 j).trans (if_neg fun z => ?_), rfl, rfl⟩, rfl, rfl, rfl⟩
    · refine ⟨?_, mR_2 hS (hM r hr).2.1 (hM r hr).2.2.1 (hM r hr).2.2.2⟩
      refine mR_1 (V := S) (hM r hr) hc ec (mX_eq hE hA.1.2.2.1.1 (fun _ => rfl) (fun _ _ => rfl) (fun _ => rfl) (fun _ _ => ⟨rfl, fun _ _ => rfl⟩) (fun _ => rfl) (fun c => ?_))
      refine baR_old (fun j hj => ⟨⟨rfl, rfl, rfl, rfl⟩, ?_⟩) nB (Nat.le_refl _) fun j h1 h2 => absurd h1 (by omega)
      unfold thR
      refine and_congr Iff.rfl (and_congr Iff.rfl (and_congr ?_ Iff.rfl))
      by_cases q : j = b
      · have e1 := (a71 j).trans (if_pos q)
        have le : S.1 78 1 r ≤ nI ev := by rw [ef]; exact (hl_le (by omega) (by omega)).mpr (by omega)
        refine ⟨fun _ => Or.inl (by rw [q]; exact h71), fun _ => Or.inr ?_⟩
        exact Eq.mpr (congrArg (fun z => S.1 78 1 r ≤ z) e1) le
      · have e1 := (a71 j).trans (if_neg q)
        exact Eq.to_iff (congrArg (fun z => z = -1 ∨ S.1 78 1 r ≤ z) e1)
    · rw [z, h72] at hr'
      exact neg1 (by omega) hr'.symm
section
variable {U V : hs_S} {ev ng nl nE nB nR : Nat} {c e : Int32}
theorem form_ed (hE : rE U V ev nE) {e : Int32} : ∀ n, n ≤ nE → (edR (V.1 53 1) (V.1 56 1) (V.1 58 1) c e n = -1 ∧ cForm U e c n = 1) ∨ ∃ k, k < n ∧ edR (V.1 53 1) (V.1 56 1) (V.1 58 1) c e n = nI k ∧ cForm U e c n = U.2.1 3 (k + 1) 5 := by
  intro n
  induction n with
  | zero => intro _; exact Or.inl ⟨rfl, rfl⟩
  | succ n ih =>
    intro hn
    obtain ⟨⟨⟨e1, _⟩, ⟨x, hx, e2, e3⟩, ⟨_, _, e4, _⟩, e5, _⟩, _⟩ := hE n (by omega)
    have e1' : ed U n = n + 1 := e1
    have e6 : (U.1 3 (n + 1) 1 = c ∧ ¬ F_Edit_countsAt (n + 1) e U = 0) ↔ (V.1 53 1 n = c ∧ ¬ e < V.1 56 1 n ∧ V.1 58 1 n = 0) := by
      unfold F_Edit_countsAt
      rw [bI_eq0, e3, e2, e4, e5]
      exact ⟨fun z => ⟨z.1, (Classical.not_not.mp z.2).2, (Classical.not_not.mp z.2).1⟩, fun z => ⟨z.1, Classical.not_not.mpr ⟨z.2.2, z.2.1⟩⟩⟩
    unfold cForm edR
    rw [e1']
    by_cases q : V.1 53 1 n = c ∧ ¬ e < V.1 56 1 n ∧ V.1 58 1 n = 0
    · rw [if_pos q, if_pos (e6.mpr q)]
      exact Or.inr ⟨n, by omega, rfl, rfl⟩
    · rw [if_neg q, if_neg fun z => q (e6.mp z)]
      rcases ih (by omega) with z | ⟨k, hk, z⟩
      · exact Or.inl z
      · exact Or.inr ⟨k, by omega, z⟩
theorem min_eq {a b : Int32} : (if a < b then a else b) = if b ≤ a then b else a := by
  by_cases q : a < b
  · rw [if_pos q, if_neg (nle.mpr q)]
  · rw [if_neg q, if_pos (nlt.mp q)]
theorem max_eq {a b : Int32} : (if b < a then a else b) = if a ≤ b then b else a := by
  by_cases q : b < a
  · rw [if_pos q, if_neg (nle.mpr q)]
  · rw [if_neg q, if_pos (nlt.mp q)]
theorem maxlt {m : Nat} (h : m < 2147483647) : ¬ (2147483647 : Int32) < nI m := fun z => by
  rw [i32_lt, nI_toInt (by omega)] at z
  have e : (2147483647 : Int32).toInt = 2147483647 := rfl
  omega
theorem ba_eq (hB : rB U V ev nB nR) (hC : rC U V ev ng nl nR) (hR : nR ≤ 30) (hev : ev ≤ 512) {m : Nat} (hm : m ≤ ev) : ∀ n, n ≤ nB → cBA U c (nI m) n = baR (V.1 66 1) (V.1 67 1) (V.1 68 1) (V.1 69 1) (V.1 70 1) (V.1 71 1) (V.1 72 1) (V.1 73 1) (V.1 79 1) c (nI m) n := by
  intro n
  induction n with
  | zero => intro _; rfl
  | succ n ih =>
    intro hn
    obtain ⟨⟨⟨b1, b2, _⟩, ⟨b3, _⟩, ⟨a, ha, b4, b5⟩, ⟨l, hl, b6, b7⟩, ⟨p, hp, b8, b9⟩, b10, ⟨b11, _⟩⟩, hB2⟩ := hB n (by omega)
    obtain ⟨_, c', hc', r1, r2, r3⟩ := bid_rd (nB := nB) hB2 hC (by omega) hR
    have eb : bd U n = n + 1 := b1
    have er : br U n = U.2.1 0 (n + 1) 2 := congrArg (fun z => U.2.1 0 z 2) eb
    have hth : ¬ F_Bid_standsAt (n + 1) (nI m) U = 0 ↔ thR (V.1 70 1) (V.1 71 1) (V.1 72 1) (V.1 73 1) (V.1 79 1) n (nI m) := by
      unfold F_Bid_standsAt thR
      rw [bI_eq0, Classical.not_not, b9, b11, b8]
      have h7 : ¬ U.1 0 (n + 1) 7 < nI m ↔ (V.1 71 1 n = -1 ∨ nI m ≤ V.1 71 1 n) := by
        rcases b10 with ⟨w1, w2⟩ | ⟨w, hw, w1, w2⟩
        · rw [w1, w2]; exact ⟨fun _ => Or.inl rfl, fun _ => maxlt (by omega)⟩
        · rw [w1, w2]
          exact ⟨fun z => Or.inr (nlt.mp z), fun z => nlt.mpr (z.resolve_left (neg1 (by omega)))⟩
      have h8 : ¬ U.1 8 (U.2.1 0 (n + 1) 2) 2 < nI m ↔ (V.1 72 1 n = -1 ∨ nI m ≤ V.1 79 1 (V.1 72 1 n).toNatClampNeg) := by
        obtain ⟨c0, hc0, _, w⟩ := hB2
        rcases w with ⟨w1, w2⟩ | ⟨r, hr, w1, w2, _⟩
        · rw [w1, w2, (hC.2.1 c0 hc0).2.1.2]; exact ⟨fun _ => Or.inl rfl, fun _ => maxlt (by omega)⟩
        · obtain ⟨_, _, ⟨f, l, _, _, _, g1, g2⟩, _⟩ := hC.1 r hr
          rw [w1, w2, hl_cl (by omega), g1, g2]
          exact ⟨fun z => Or.inr (nlt.mp z), fun z => nlt.mpr (z.resolve_left (neg1 (by omega)))⟩
      rw [h7, h8]
      exact ⟨fun z => ⟨z.1, z.2.2.1, z.2.1, z.2.2.2⟩, fun z => ⟨z.1, z.2.2.1, z.2.1, z.2.2.2⟩⟩
    have e6 : (U.1 8 (br U n) 0 = c ∧ ¬ F_Bid_standsAt (bd U n) (nI m) U = 0) ↔ (V.1 66 1 n = c ∧ thR (V.1 70 1) (V.1 71 1) (V.1 72 1) (V.1 73 1) (V.1 79 1) n (nI m)) := by
      rw [er, eb, r2, r1, hth]
    unfold cBA baR
    rw [ih (by omega)]
    by_cases q : V.1 66 1 n = c ∧ thR (V.1 70 1) (V.1 71 1) (V.1 72 1) (V.1 73 1) (V.1 79 1) n (nI m)
    · rw [if_pos (e6.mpr q), eb, b3, b5, ← b4, b7, ← b6, if_pos q, min_eq, max_eq]
    · rw [if_neg fun z => q (e6.mp z), if_neg q]
theorem ls_eq (hC : rC U V ev ng nl nR) {m : Nat} (hp : ∀ r, r < nR → ¬ nI m ≤ V.1 79 1 r → U.1 8 (U.2.1 14 1 r) 5 = V.1 81 1 r) : ∀ n, n ≤ nR → cLs U c (nI m) n = lastR (V.1 77 1) (V.1 79 1) (V.1 81 1) c (nI m) n := by
  intro n
  induction n with
  | zero => intro _; rfl
  | succ n ih =>
    intro hn
    obtain ⟨_, ⟨c', hc', r1, r2⟩, ⟨f, l, _, _, _, g1, g2⟩, _⟩ := hC.1 n (by omega)
    unfold cLs lastR
    rw [ih (by omega), r2, ← r1, g2, ← g1]
    by_cases q : nI m ≤ V.1 79 1 n
    · rw [if_neg fun z => z.2.1 q, if_neg fun z => z.2.1 q]
    · rw [hp n (by omega) q]
end
/-- both sides' tables say the same of an event -/
theorem br_eq {U V T : hs_S} {n ev ng nl nE nB nR nd m i : Nat} (hX : RX n U V ev ng nl nE nB nR nd) (hm : m ≤ ev) (hG : rGs U V i ng nl (nI m)) (hp : ∀ r, r < nR → ¬ nI m ≤ V.1 79 1 r → U.1 8 (U.2.1 14 1 r) 5 = V.1 81 1 r) (hT : R_Fnd_goTo (nI m) i U T) : gEq (cEnv T) (mX V ng nl nE nB nR (nI m)) := by
  obtain ⟨hA, _, _, hE, hF, _, hB, hC⟩ := hX
  have hev := hA.1.1
  obtain ⟨g1, g2, g3, g4⟩ := hT
  have row : ∀ t, t ≠ 29 → t ≠ 33 → T.1 t = U.1 t := fun t a b => funext fun i => funext fun p => g1.2.2 t i p a b
  have r5 := row 5 (by decide) (by decide)
  have r20 := row 20 (by decide) (by decide)
  have r21 := row 21 (by decide) (by decide)
  have r22 := row 22 (by decide) (by decide)
  have r23 := row 23 (by decide) (by decide)
  have r24 := row 24 (by decide) (by decide)
  have hz12 : hs_sz U 12 = nE := hA.2.2.1.1
  have hz13 : hs_sz U 13 = nB := hA.2.2.1.2.2.1
  have hz14 : hs_sz U 14 = nR := hA.2.2.1.2.2.2.2
  intro c hc
  have hcc : (nI c).toNatClampNeg = c := hl_cl (by omega)
  have ef := (g3 c hc).2
  rw [hz12] at ef
  have s1 : (cEnv T).1 (nI c) = (U.1 5 (cForm U (nI m) (nI c) nE) 3).toNatClampNeg := by
    show (T.1 5 (T.2.1 28 1 (nI c).toNatClampNeg) 3).toNatClampNeg = _
    rw [hcc, ef, r5]
  rcases form_ed (c := nI c) (e := nI m) hE nE (Nat.le_refl _) with ⟨ek, ec⟩ | ⟨k, hk, ek, ec⟩
  · have s2 : (cEnv T).1 (nI c) = 0 := by rw [s1, ec, hF.1.2.2]; rfl
    have s3 : (mX V ng nl nE nB nR (nI m)).1 (nI c) = 0 := by
      show (if edR (V.1 53 1) (V.1 56 1) (V.1 58 1) (nI c) (nI m) nE = -1 then 0 else _) = 0
      rw [if_pos ek]
    exact ⟨s2.trans s3.symm, fun i hi => absurd hi (by rw [s2]; omega)⟩
  · have h60 := hA.1.2.2.1.1
    have ck : (nI k).toNatClampNeg = k := hl_cl (by omega)
    have nk : ¬ nI k = -1 := neg1 (by omega)
    obtain ⟨_, _, ⟨g', hg', eg', hok⟩, g, hg, eg, eg2, _, hwd⟩ := (hE k hk).2
    have egg : g' = g := (hl_inj (by omega) (by omega)).mp (eg'.symm.trans eg)
    subst egg
    have s2 : (cEnv T).1 (nI c) = g' := by rw [s1, ec, eg', hl_cl (by omega)]
    have s3 : (mX V ng nl nE nB nR (nI m)).1 (nI c) = g' := by
      show (if edR (V.1 53 1) (V.1 56 1) (V.1 58 1) (nI c) (nI m) nE = -1 then 0 else (V.1 57 1 (edR (V.1 53 1) (V.1 56 1) (V.1 58 1) (nI c) (nI m) nE).toNatClampNeg).toNatClampNeg) = g'
      rw [ek, if_neg nk, ck, eg2, hl_cl (by omega)]
    refine ⟨s2.trans s3.symm, fun i' hi => ?_⟩
    rw [s2] at hi
    obtain ⟨q1, q2, q3⟩ := hwd i' hi
    obtain ⟨hw15, _, hask, hone⟩ := hok i' hi
    have c0 : (nI (36 * k + 3 * i')).toNatClampNeg = 36 * k + 3 * i' := hl_cl (by omega)
    have c1 : (nI (36 * k + 3 * i') + 1).toNatClampNeg = 36 * k + 3 * i' + 1 := by rw [nI_1]; exact hl_cl (by omega)
    have c2 : (nI (36 * k + 3 * i') + 2).toNatClampNeg = 36 * k + 3 * i' + 2 := by rw [show (2 : Int32) = nI 2 from rfl, nI_addI (by omega)]; exact hl_cl (by omega)
    have w0 : (cEnv T).2.1 (nI c) i' = U.1 22 (U.2.1 3 (k + 1) 5) i' := by
      show T.1 22 (T.2.1 28 1 (nI c).toNatClampNeg) i' = _
      rw [hcc, ef, r22, ec]
    have w0' : (mX V ng nl nE nB nR (nI m)).2.1 (nI c) i' = U.1 22 (U.2.1 3 (k + 1) 5) i' := by
      show V.1 59 1 (nI (36 * (edR (V.1 53 1) (V.1 56 1) (V.1 58 1) (nI c) (nI m) nE).toNatClampNeg + 3 * i')).toNatClampNeg = _
      rw [ek, ck, c0, q1]
    have w1 : (cEnv T).2.2.1 (nI c) i' = 6 * U.1 23 (U.2.1 3 (k + 1) 5) i' + U.1 24 (U.2.1 3 (k + 1) 5) i' := by
      show T.1 23 (T.2.1 28 1 (nI c).toNatClampNeg) i' * 6 + T.1 24 (T.2.1 28 1 (nI c).toNatClampNeg) i' = _
      rw [hcc, ef, r23, r24, ec, Int32.mul_comm]
    have w1' : (mX V ng nl nE nB nR (nI m)).2.2.1 (nI c) i' = 6 * U.1 23 (U.2.1 3 (k + 1) 5) i' + U.1 24 (U.2.1 3 (k + 1) 5) i' := by
      show 6 * V.1 59 1 (nI (36 * (edR (V.1 53 1) (V.1 56 1) (V.1 58 1) (nI c) (nI m) nE).toNatClampNeg + 3 * i') + 1).toNatClampNeg + V.1 59 1 (nI (36 * (edR (V.1 53 1) (V.1 56 1) (V.1 58 1) (nI c) (nI m) nE).toNatClampNeg + 3 * i') + 2).toNatClampNeg = _
      rw [ek, ck, c1, c2, q2, q3]
    refine ⟨w0.trans w0'.symm, fun hw => ⟨w1.trans w1'.symm, ?_, ?_⟩, fun hw p => ?_⟩
    · rw [w0] at hw
      obtain ⟨a, b, ha, hb, ea, eb⟩ := hask hw
      exact ⟨6 * a + b, by omega, w1.trans (by rw [ea, eb, nI_6c])⟩
    · rw [w0] at hw
      obtain ⟨a, b, ha, hb, ea, eb⟩ := hask hw
      have w1n : (cEnv T).2.2.1 (nI c) i' = nI (6 * a + b) := w1.trans (by rw [ea, eb, nI_6c])
      rw [w1n]
      show (!decide (bI (T.1 20 (T.2.1 4 1 2) (nI (6 * a + b)).toNatClampNeg = T.1 20 (T.2.1 4 1 2) (nI c).toNatClampNeg ∨ (T.1 21 (T.2.1 4 1 2) (nI (6 * a + b)).toNatClampNeg >>> (T.1 20 (T.2.1 4 1 2) (nI c).toNatClampNeg &&& 31)) &&& 1 = 1) = 0)) = (!decide (rdR (V.1 42 1) (V.1 43 1) (V.1 44 1) ng (V.1 46 1) (V.1 47 1) (V.1 48 1) (V.1 49 1) nl (ownR (V.1 42 1) (V.1 43 1) (V.1 44 1) (nI c) (nI m) ng) (nI (6 * a + b)) (nI m) = 0))
      obtain ⟨o1, ⟨o, ho, o2⟩, _⟩ := hG c hc
      rw [g2, r20, r21, hcc, hl_cl (by omega), ← o1, o2, rd_now hG (by omega) ho]
    · rw [w0] at hw
      have hw0 : U.1 22 (U.2.1 3 (k + 1) 5) i' ≠ 1 := hw
      show cStp (T.1 33) (T.1 22 (T.2.1 28 1 (nI c).toNatClampNeg) i') (T.1 23 (T.2.1 28 1 (nI c).toNatClampNeg) i') p = (if 8 ≤ V.1 59 1 (nI (36 * (edR (V.1 53 1) (V.1 56 1) (V.1 58 1) (nI c) (nI m) nE).toNatClampNeg + 3 * i')).toNatClampNeg then lrk (V.1 59 1 (nI (36 * (edR (V.1 53 1) (V.1 56 1) (V.1 58 1) (nI c) (nI m) nE).toNatClampNeg + 3 * i')).toNatClampNeg) p else lpush (if V.1 59 1 (nI (36 * (edR (V.1 53 1) (V.1 56 1) (V.1 58 1) (nI c) (nI m) nE).toNatClampNeg + 3 * i')).toNatClampNeg = 0 then (V.1 59 1 (nI (36 * (edR (V.1 53 1) (V.1 56 1) (V.1 58 1) (nI c) (nI m) nE).toNatClampNeg + 3 * i') + 1).toNatClampNeg).toInt64 else if V.1 59 1 (nI (36 * (edR (V.1 53 1) (V.1 56 1) (V.1 58 1) (nI c) (nI m) nE).toNatClampNeg + 3 * i')).toNatClampNeg = 7 then (lastR (V.1 77 1) (V.1 79 1) (V.1 81 1) (V.1 59 1 (nI (36 * (edR (V.1 53 1) (V.1 56 1) (V.1 58 1) (nI c) (nI m) nE).toNatClampNeg + 3 * i') + 1).toNatClampNeg) (nI m) nR).toInt64 else (mBS (V.1 59 1 (nI (36 * (edR (V.1 53 1) (V.1 56 1) (V.1 58 1) (nI c) (nI m) nE).toNatClampNeg + 3 * i')).toNatClampNeg) (baR (V.1 66 1) (V.1 67 1) (V.1 68 1) (V.1 69 1) (V.1 70 1) (V.1 71 1) (V.1 72 1) (V.1 73 1) (V.1 79 1) (V.1 59 1 (nI (36 * (edR (V.1 53 1) (V.1 56 1) (V.1 58 1) (nI c) (nI m) nE).toNatClampNeg + 3 * i') + 1).toNatClampNeg) (nI m) nB)).toInt64) p)
      rw [ek, ck, c0, c1, hcc, ef, r22, r23, ec, ← q1, ← q2]
      obtain ⟨w, hw, ew⟩ := hw15
      rw [ew] at hone hw0 ⊢
      unfold cStp
      by_cases z8 : (8 : Int32) ≤ nI w
      · rw [if_pos z8, if_pos z8]
      · rw [if_neg z8, if_neg z8]
        have l8 : w < 8 := by
          have : ¬ 8 ≤ w := fun z => z8 ((hl_le (a := 8) (by omega) (by omega)).mpr z)
          omega
        by_cases z0 : nI w = 0
        · rw [if_pos z0, if_pos z0]
        · rw [if_neg z0, if_neg z0]
          have l0 : w ≠ 0 := fun z => z0 (by rw [z]; rfl)
          have l1 : w ≠ 1 := fun z => hw0 (by rw [z]; rfl)
          obtain ⟨x, hx, _, ex⟩ := hl_of (n := 4) (hone ((hl_le (a := 1) (by omega) (by omega)).mpr (by omega)) ((hl_le (b := 7) (by omega) (by omega)).mpr (by omega)))
          obtain ⟨a1, a2⟩ := g4 x hx
          rw [hz13] at a1
          rw [hz14, ls_eq hC hp nR (Nat.le_refl _)] at a2
          rw [ba_eq hB hC hA.1.2.2.2.1 (by omega) hm nB (Nat.le_refl _)] at a1
          rw [ex, hl_cl (by omega), hl_cl (by omega)]
          by_cases z7 : nI w = 7
          · have : w = 7 := (hl_inj (b := 7) (by omega) (by omega)).mp z7
            subst this
            rw [if_pos z7, a2]
          · rw [if_neg z7, ← a1]
            have n7 : w ≠ 7 := fun z => z7 (by rw [z]; rfl)
            have cases5 : w = 2 ∨ w = 3 ∨ w = 4 ∨ w = 5 ∨ w = 6 := by omega
            rcases cases5 with z | z | z | z | z <;> subst z <;> rfl
theorem GF_cl {S T : hs_S} (h : GF S T) : hs_cl T = hs_cl S := by
  refine Prod.ext (funext fun t => funext fun i => funext fun p => ?_) (Prod.ext (funext fun t => funext fun i => funext fun p => ?_) h.1)
  · show (if hs_scr t p = true then 0 else T.1 t i p) = if hs_scr t p = true then 0 else S.1 t i p
    by_cases q : hs_scr t p = true
    · rw [if_pos q, if_pos q]
    · rw [if_neg q, if_neg q]
      exact h.2.2 t i p (fun z => q (by rw [z]; rfl)) (fun z => q (by rw [z]; rfl))
  · show (if hs_scR t p = true then 0 else T.2.1 t i p) = if hs_scR t p = true then 0 else S.2.1 t i p
    by_cases q : hs_scR t p = true
    · rw [if_pos q, if_pos q]
    · rw [if_neg q, if_neg q]
      exact h.2.1 t i p (fun z => q (by rw [z]; rfl)) (fun z => q (by rw [z.1, z.2]; rfl))
theorem FS_cl {S T : hs_S} (h : FS S T) : hs_cl T = hs_cl S := by
  refine Prod.ext (funext fun t => funext fun i => funext fun p => ?_) ?_
  · show (if hs_scr t p = true then 0 else T.1 t i p) = if hs_scr t p = true then 0 else S.1 t i p
    by_cases q : hs_scr t p = true
    · rw [if_pos q, if_pos q]
    · rw [if_neg q, if_neg q]
      refine h.2 t i p ?_
      unfold hs_scr at q
      unfold hs_fs
      simp only [Bool.or_eq_true, Bool.and_eq_true, beq_iff_eq, not_or, not_and] at q
      simp only [Bool.or_eq_false_iff, Bool.and_eq_false_iff, beq_eq_false_iff_ne]
      omega
  · show (_, _) = (_, _)
    rw [h.1]
def RS (n : Nat) (S : hs_S) (ev ng nl nE nB nR nd : Nat) : Prop := RX n S S ev ng nl nE nB nR nd ∧ rL S S ∧ rQ S S nB nR ∧ rM S ng nl nE nB nR
theorem RS_cl {n : Nat} {S T : hs_S} {ev ng nl nE nB nR nd : Nat} (h : hs_cl T = hs_cl S) (k : RS n S ev ng nl nE nB nR nd) : RS n T ev ng nl nE nB nR nd := by
  have k1 : RS n (hs_cl S) ev ng nl nE nB nR nd := by
    obtain ⟨⟨a, b, c, d, e, f, g, i⟩, hL, hQ, hM⟩ := k
    exact ⟨⟨a, b, c, d, e, f, g, i⟩, hL, hQ, hM⟩
  rw [← h] at k1
  obtain ⟨⟨a, b, c, d, e, f, g, i⟩, hL, hQ, hM⟩ := k1
  exact ⟨⟨a, b, c, d, e, f, g, i⟩, hL, hQ, hM⟩
theorem RR_cl {n : Nat} {S T : hs_S} (h : hs_cl T = hs_cl S) (k : RR n S) : RR n T := by
  obtain ⟨ev, ng, nl, nE, nB, nR, nd, k⟩ := k
  exact ⟨ev, ng, nl, nE, nB, nR, nd, RS_cl h k⟩
theorem P_goTo_of {n : Nat} {U V : hs_S} {ev ng nl nE nB nR nd : Nat} {a : Int32} {i : Nat} (hX : RX n U V ev ng nl nE nB nR nd) : P_Fnd_goTo a i U ∧ fOk U 1 ∧ ∀ k, k < hs_sz U 12 → fOk U (U.2.1 3 (ed U k) 5) := by
  obtain ⟨hA, _, _, hE, hF, _, hB, hC⟩ := hX
  have hev := hA.1.1
  have hz12 : hs_sz U 12 = nE := hA.2.2.1.1
  have hz13 : hs_sz U 13 = nB := hA.2.2.1.2.2.1
  have hz14 : hs_sz U 14 = nR := hA.2.2.1.2.2.2.2
  refine ⟨⟨⟨nE, hA.1.2.2.1.1, hz12, fun k hk => ?_⟩, ⟨nB, hA.1.2.2.1.2, hz13, fun k hk => ?_⟩, nR, hA.1.2.2.2.1, hz14, fun k hk => ?_⟩, ⟨0, by omega, hF.1.2.2, fun i hi => absurd hi (by omega)⟩, fun k hk => ?_⟩
  · obtain ⟨⟨⟨e1, _⟩, ⟨x, hx, _, e3⟩, _⟩, hf⟩ := hE k hk
    have e1' : ed U k = k + 1 := e1
    rw [e1']
    exact ⟨Nat.succ_ne_zero _, ⟨x, hx, e3⟩, hf.1⟩
  · obtain ⟨⟨⟨b1, _⟩, _⟩, hB2⟩ := hB k hk
    obtain ⟨j1, c, hc, _, j3, _⟩ := bid_rd (nB := nB) hB2 hC (by omega) hA.1.2.2.2.1
    have eb : bd U k = k + 1 := b1
    have er : br U k = U.2.1 0 (k + 1) 2 := congrArg (fun z => U.2.1 0 z 2) eb
    rw [eb, er]
    exact ⟨Nat.succ_ne_zero _, j1, c, hc, j3⟩
  · obtain ⟨h1, ⟨c, hc, _, h2⟩, _⟩ := hC.1 k hk
    exact ⟨by have := h1.1; show U.2.1 14 1 k ≠ 0; omega, c, hc, h2⟩
  · rw [hz12] at hk
    obtain ⟨⟨⟨e1, _⟩, _⟩, hf⟩ := hE k hk
    have e1' : ed U k = k + 1 := e1
    rw [e1']
    exact hf.2.2.1
theorem mX_cl {S T : hs_S} {ng nl nE nB nR : Nat} {e : Int32} (h : hs_cl T = hs_cl S) : mX T ng nl nE nB nR e = mX S ng nl nE nB nR e := by
  have h1 : mX (hs_cl T) ng nl nE nB nR e = mX (hs_cl S) ng nl nE nB nR e := by rw [h]
  exact h1
theorem RS.rr {n : Nat} {S : hs_S} {ev ng nl nE nB nR nd : Nat} (k : RS n S ev ng nl nE nB nR nd) : RR n S := ⟨ev, ng, nl, nE, nB, nR, nd, k⟩
