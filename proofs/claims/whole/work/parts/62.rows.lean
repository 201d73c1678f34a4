/-! ===== the reference's history, by rows ===== -/
def ownR (a42 a43 a44 : Nat → Int32) (c e : Int32) : Nat → Int32
  | 0 => c / 6
  | k + 1 => if a43 k = c ∧ a42 k < e then a44 k else ownR a42 a43 a44 c e k
theorem own_r {S : hs_S} {c e : Int32} : F_ownerAt c e S = ownR (S.1 42 1) (S.1 43 1) (S.1 44 1) c e (S.1 11 1 1).toNatClampNeg := by
  unfold F_ownerAt
  generalize (S.1 11 1 1).toNatClampNeg = k
  induction k with
  | zero => rfl
  | succ k ih => unfold mOwn ownR; rw [ih]
abbrev tlR (a46 a48 a49 : Nat → Int32) (o c e : Int32) (k : Nat) : Prop := ¬ e ≤ a46 k ∧ a48 k = o ∧ a49 k - a49 k / 4 * 4 = c / 6 ∧ ¬ c - c / 6 * 6 < a49 k / 4 - a49 k / 4 / 8 * 8 ∧ ¬ a49 k / 32 - a49 k / 32 / 8 * 8 < c - c / 6 * 6
def letR (a42 a43 a44 : Nat → Int32) (ng : Nat) (a46 a47 a48 a49 : Nat → Int32) (o c e : Int32) : Nat → Int32
  | 0 => 0
  | k + 1 => if tlR a46 a48 a49 o c e k ∧ ownR a42 a43 a44 c (a46 k) ng = a47 k then bI (a49 k / 256 = 1) else letR a42 a43 a44 ng a46 a47 a48 a49 o c e k
theorem let_r {S : hs_S} {o c e : Int32} (k : Nat) : mLet S o c e k = letR (S.1 42 1) (S.1 43 1) (S.1 44 1) (S.1 11 1 1).toNatClampNeg (S.1 46 1) (S.1 47 1) (S.1 48 1) (S.1 49 1) o c e k := by
  induction k with
  | zero => rfl
  | succ k ih => unfold mLet letR; rw [ih]; simp only [own_r]
theorem letR_01 {a42 a43 a44 a46 a47 a48 a49 : Nat → Int32} {ng : Nat} {o c e : Int32} (k : Nat) : letR a42 a43 a44 ng a46 a47 a48 a49 o c e k = 0 ∨ letR a42 a43 a44 ng a46 a47 a48 a49 o c e k = 1 := by
  induction k with
  | zero => exact Or.inl rfl
  | succ k ih =>
    unfold letR
    by_cases h : tlR a46 a48 a49 o c e k ∧ ownR a42 a43 a44 c (a46 k) ng = a47 k
    · rw [if_pos h]; exact bI_01 _
    · rw [if_neg h]; exact ih
def edR (a53 a56 a58 : Nat → Int32) (c e : Int32) : Nat → Int32
  | 0 => -1
  | k + 1 => if a53 k = c ∧ ¬ e < a56 k ∧ a58 k = 0 then nI k else edR a53 a56 a58 c e k
theorem ed_r {S : hs_S} {c e : Int32} : F_editAt c e S = edR (S.1 53 1) (S.1 56 1) (S.1 58 1) c e (S.1 11 1 12).toNatClampNeg := by
  unfold F_editAt
  generalize (S.1 11 1 12).toNatClampNeg = k
  induction k with
  | zero => rfl
  | succ k ih => unfold mEd edR; rw [ih]
def lastR (a77 a79 a81 : Nat → Int32) (c e : Int32) : Nat → Int32
  | 0 => 0
  | k + 1 => if a77 k = c ∧ ¬ e ≤ a79 k ∧ ¬ a81 k = -1 then a81 k else lastR a77 a79 a81 c e k
theorem last_r {S : hs_S} {c e : Int32} : F_lastAt c e S = lastR (S.1 77 1) (S.1 79 1) (S.1 81 1) c e (S.1 11 1 36).toNatClampNeg := by
  unfold F_lastAt
  generalize (S.1 11 1 36).toNatClampNeg = k
  induction k with
  | zero => rfl
  | succ k ih => unfold mLast lastR; rw [ih]
abbrev thR (a70 a71 a72 a73 a79 : Nat → Int32) (b : Nat) (e : Int32) : Prop := ¬ e ≤ a70 b ∧ (a72 b = -1 ∨ e ≤ a79 (a72 b).toNatClampNeg) ∧ (a71 b = -1 ∨ e ≤ a71 b) ∧ a73 b = 0
def baR (a66 a67 a68 a69 a70 a71 a72 a73 a79 : Nat → Int32) (c e : Int32) : Nat → Int32 × (Int32 × (Int32 × (Int32 × Int32)))
  | 0 => (0, (0, (0, (0, 0))))
  | k + 1 => if a66 k = c ∧ thR a70 a71 a72 a73 a79 k e then
      (if a67 k = 0 then ((baR a66 a67 a68 a69 a70 a71 a72 a73 a79 c e k).1, ((if (baR a66 a67 a68 a69 a70 a71 a72 a73 a79 c e k).2.2.2.1 = 0 then a69 k else (if (baR a66 a67 a68 a69 a70 a71 a72 a73 a79 c e k).2.1 ≤ a69 k then (baR a66 a67 a68 a69 a70 a71 a72 a73 a79 c e k).2.1 else a69 k)), ((baR a66 a67 a68 a69 a70 a71 a72 a73 a79 c e k).2.2.1, ((baR a66 a67 a68 a69 a70 a71 a72 a73 a79 c e k).2.2.2.1 + a68 k, (baR a66 a67 a68 a69 a70 a71 a72 a73 a79 c e k).2.2.2.2 + 1))))
       else ((if a69 k ≤ (baR a66 a67 a68 a69 a70 a71 a72 a73 a79 c e k).1 then (baR a66 a67 a68 a69 a70 a71 a72 a73 a79 c e k).1 else a69 k), ((baR a66 a67 a68 a69 a70 a71 a72 a73 a79 c e k).2.1, ((baR a66 a67 a68 a69 a70 a71 a72 a73 a79 c e k).2.2.1 + a68 k, ((baR a66 a67 a68 a69 a70 a71 a72 a73 a79 c e k).2.2.2.1, (baR a66 a67 a68 a69 a70 a71 a72 a73 a79 c e k).2.2.2.2 + 1)))))
    else baR a66 a67 a68 a69 a70 a71 a72 a73 a79 c e k
theorem ba_r {S : hs_S} {c e : Int32} (h : S.1 11 1 24 = nI (S.1 11 1 24).toNatClampNeg) (hb : (S.1 11 1 24).toNatClampNeg ≤ 80) : ∀ k, k ≤ (S.1 11 1 24).toNatClampNeg → mBA S c e k = baR (S.1 66 1) (S.1 67 1) (S.1 68 1) (S.1 69 1) (S.1 70 1) (S.1 71 1) (S.1 72 1) (S.1 73 1) (S.1 79 1) c e k := by
  intro k
  induction k with
  | zero => intro _; rfl
  | succ k ih =>
    intro hk
    have ec : (nI k).toNatClampNeg = k := hl_cl (by omega)
    have e1 : (S.1 66 1 k = c ∧ ¬ F_isThere (nI k) e S = 0) ↔ (S.1 66 1 k = c ∧ thR (S.1 70 1) (S.1 71 1) (S.1 72 1) (S.1 73 1) (S.1 79 1) k e) := by
      unfold F_isThere
      rw [ec, bI_eq0]
      exact and_congr Iff.rfl Classical.not_not
    unfold mBA baR
    rw [ih (by omega)]
    by_cases q : S.1 66 1 k = c ∧ ¬ F_isThere (nI k) e S = 0
    · rw [if_pos q, if_pos (e1.mp q)]
    · rw [if_neg q, if_neg fun z => q (e1.mpr z)]
/-- history that goes on behind an event -/
theorem ownR_old {a42 a43 a44 b42 b43 b44 : Nat → Int32} {c e : Int32} {n : Nat} (h : ∀ k, k < n → b42 k = a42 k ∧ b43 k = a43 k ∧ b44 k = a44 k) : ∀ m, n ≤ m → (∀ k, n ≤ k → k < m → ¬ b42 k < e) → ownR b42 b43 b44 c e m = ownR a42 a43 a44 c e n := by
  have base : ∀ j, j ≤ n → ownR b42 b43 b44 c e j = ownR a42 a43 a44 c e j := by
    intro j
    induction j with
    | zero => intro _; rfl
    | succ j ih => intro hj; unfold ownR; rw [ih (by omega), (h j (by omega)).1, (h j (by omega)).2.1, (h j (by omega)).2.2]
  intro m
  induction m with
  | zero => intro hm _; have : n = 0 := by omega
            subst this; rfl
  | succ m ih =>
    intro hm hk
    by_cases q : n = m + 1
    · subst q; exact base _ (Nat.le_refl _)
    · exact Eq.trans (if_neg (fun z => hk m (by omega) (by omega) z.2)) (ih (by omega) fun k a b => hk k a (by omega))
theorem letR_old {a42 a43 a44 b42 b43 b44 a46 a47 a48 a49 b46 b47 b48 b49 : Nat → Int32} {o c e : Int32} {ng ng' n : Nat} (hl : ∀ k, k < n → b46 k = a46 k ∧ b47 k = a47 k ∧ b48 k = a48 k ∧ b49 k = a49 k) (ho : ∀ k, k < n → ownR b42 b43 b44 c (a46 k) ng' = ownR a42 a43 a44 c (a46 k) ng) : ∀ m, n ≤ m → (∀ k, n ≤ k → k < m → e ≤ b46 k) → letR b42 b43 b44 ng' b46 b47 b48 b49 o c e m = letR a42 a43 a44 ng a46 a47 a48 a49 o c e n := by
  have base : ∀ j, j ≤ n → letR b42 b43 b44 ng' b46 b47 b48 b49 o c e j = letR a42 a43 a44 ng a46 a47 a48 a49 o c e j := by
    intro j
    induction j with
    | zero => intro _; rfl
    | succ j ih =>
      intro hj
      unfold letR
      obtain ⟨h1, h2, h3, h4⟩ := hl j (by omega)
      have e1 : (tlR b46 b48 b49 o c e j ∧ ownR b42 b43 b44 c (b46 j) ng' = b47 j) ↔ (tlR a46 a48 a49 o c e j ∧ ownR a42 a43 a44 c (a46 j) ng = a47 j) := by
        unfold tlR; rw [h1, h2, h3, h4, ho j (by omega)]
      rw [ih (by omega)]
      by_cases q : tlR b46 b48 b49 o c e j ∧ ownR b42 b43 b44 c (b46 j) ng' = b47 j
      · rw [if_pos q, if_pos (e1.mp q), h4]
      · rw [if_neg q, if_neg fun z => q (e1.mpr z)]
  intro m
  induction m with
  | zero => intro hm _; have : n = 0 := by omega
            subst this; rfl
  | succ m ih =>
    intro hm hk
    by_cases q : n = m + 1
    · subst q; exact base _ (Nat.le_refl _)
    · exact Eq.trans (if_neg (fun z => z.1.1 (hk m (by omega) (by omega)))) (ih (by omega) fun k a b => hk k a (by omega))
theorem edR_old {a53 a56 a58 b53 b56 b58 : Nat → Int32} {c e : Int32} {n : Nat} (h : ∀ k, k < n → b53 k = a53 k ∧ b56 k = a56 k ∧ b58 k = a58 k) : ∀ m, n ≤ m → (∀ k, n ≤ k → k < m → e < b56 k) → edR b53 b56 b58 c e m = edR a53 a56 a58 c e n := by
  have base : ∀ j, j ≤ n → edR b53 b56 b58 c e j = edR a53 a56 a58 c e j := by
    intro j
    induction j with
    | zero => intro _; rfl
    | succ j ih => intro hj; unfold edR; rw [ih (by omega), (h j (by omega)).1, (h j (by omega)).2.1, (h j (by omega)).2.2]
  intro m
  induction m with
  | zero => intro hm _; have : n = 0 := by omega
            subst this; rfl
  | succ m ih =>
    intro hm hk
    by_cases q : n = m + 1
    · subst q; exact base _ (Nat.le_refl _)
    · exact Eq.trans (if_neg (fun z => z.2.1 (hk m (by omega) (by omega)))) (ih (by omega) fun k a b => hk k a (by omega))
theorem lastR_old {a77 a79 a81 b77 b79 b81 : Nat → Int32} {c e : Int32} {n : Nat} (h : ∀ k, k < n → b77 k = a77 k ∧ b79 k = a79 k ∧ (¬ e ≤ a79 k → b81 k = a81 k)) : ∀ m, n ≤ m → (∀ k, n ≤ k → k < m → e ≤ b79 k) → lastR b77 b79 b81 c e m = lastR a77 a79 a81 c e n := by
  have base : ∀ j, j ≤ n → lastR b77 b79 b81 c e j = lastR a77 a79 a81 c e j := by
    intro j
    induction j with
    | zero => intro _; rfl
    | succ j ih =>
      intro hj
      obtain ⟨h1, h2, h3⟩ := h j (by omega)
      unfold lastR
      rw [ih (by omega), h1, h2]
      by_cases q : e ≤ a79 j
      · rw [if_neg fun z => z.2.1 q, if_neg fun z => z.2.1 q]
      · rw [h3 q]
  intro m
  induction m with
  | zero => intro hm _; have : n = 0 := by omega
            subst this; rfl
  | succ m ih =>
    intro hm hk
    by_cases q : n = m + 1
    · subst q; exact base _ (Nat.le_refl _)
    · exact Eq.trans (if_neg (fun z => z.2.1 (hk m (by omega) (by omega)))) (ih (by omega) fun k a b => hk k a (by omega))
theorem baR_old {a66 a67 a68 a69 a70 a71 a72 a73 a79 b66 b67 b68 b69 b70 b71 b72 b73 b79 : Nat → Int32} {c e : Int32} {n : Nat} (h : ∀ k, k < n → (b66 k = a66 k ∧ b67 k = a67 k ∧ b68 k = a68 k ∧ b69 k = a69 k) ∧ (thR b70 b71 b72 b73 b79 k e ↔ thR a70 a71 a72 a73 a79 k e)) : ∀ m, n ≤ m → (∀ k, n ≤ k → k < m → e ≤ b70 k) → baR b66 b67 b68 b69 b70 b71 b72 b73 b79 c e m = baR a66 a67 a68 a69 a70 a71 a72 a73 a79 c e n := by
  have base : ∀ j, j ≤ n → baR b66 b67 b68 b69 b70 b71 b72 b73 b79 c e j = baR a66 a67 a68 a69 a70 a71 a72 a73 a79 c e j := by
    intro j
    induction j with
    | zero => intro _; rfl
    | succ j ih =>
      intro hj
      obtain ⟨⟨h1, h2, h3, h4⟩, h5⟩ := h j (by omega)
      unfold baR
      rw [ih (by omega), h1, h2, h3, h4]
      by_cases q : a66 j = c ∧ thR b70 b71 b72 b73 b79 j e
      · rw [if_pos q]; exact (if_pos ⟨q.1, h5.mp q.2⟩).symm
      · rw [if_neg q]; exact (if_neg fun z => q ⟨z.1, h5.mpr z.2⟩).symm
  intro m
  induction m with
  | zero => intro hm _; have : n = 0 := by omega
            subst this; rfl
  | succ m ih =>
    intro hm hk
    by_cases q : n = m + 1
    · subst q; exact base _ (Nat.le_refl _)
    · exact Eq.trans (if_neg (fun z => z.2.1 (hk m (by omega) (by omega)))) (ih (by omega) fun k a b => hk k a (by omega))
