def ownR (a42 a43 a44 : Nat → Int32) (c e : Int32) : Nat → Int32
  | 0 => c / 6
  | k + 1 => if a43 k = c ∧ a42 k < e then a44 k else ownR a42 a43 a44 c e k
theorem own_r {S : hs_S} {c e : Int32} : F_ownerAt c e S = ownR (S.1 42 1) (S.1 43 1) (S.1 44 1) c e (S.1 11 1 1).toNatClampNeg := by
  unfold F_ownerAt
  generalize (S.1 11 1 1).toNatClampNeg = k
  induction k with
  | zero => rfl
  | succ k ih => unfold mOwn ownR; rw [ih]
abbrev tlR (a46 a48 a49 : Nat → Int32) (o c e : Int32) (k : Nat) : Prop := ¬ e ≤ a46 k ∧ a48 k = o ∧ a49 k - a49 k / 4 * 4 = c / 6 ∧ ¬ c - c / 6 * 6 < a49 k / 4 - a49 k / 4 / 8 * 8 ∧ ¬ a49 k / 32 - a49 k / 32 / 8 * 8 < c - c / 6 * 6
def letR (a42 a43 a44 : Nat → Int32) (ng : Nat) (a46 a47 a48 a49 : Nat → Int32) (o c e : Int32) : Nat → Int32
  | 0 => 0
  | k + 1 => if tlR a46 a48 a49 o c e k ∧ ownR a42 a43 a44 c (a46 k) ng = a47 k then bI (a49 k / 256 = 1) else letR a42 a43 a44 ng a46 a47 a48 a49 o c e k
theorem let_r {S : hs_S} {o c e : Int32} (k : Nat) : mLet S o c e k = letR (S.1 42 1) (S.1 43 1) (S.1 44 1) (S.1 11 1 1).toNatClampNeg (S.1 46 1) (S.1 47 1) (S.1 48 1) (S.1 49 1) o c e k := by
  induction k with
  | zero => rfl
  | succ k ih => unfold mLet letR; rw [ih]; simp only [own_r]
theorem letR_01 {a42 a43 a44 a46 a47 a48 a49 : Nat → Int32} {ng : Nat} {o c e : Int32} (k : Nat) : letR a42 a43 a44 ng a46 a47 a48 a49 o c e k = 0 ∨ letR a42 a43 a44 ng a46 a47 a48 a49 o c e k = 1 := by
  induction k with
  | zero => exact Or.inl rfl
  | succ k ih =>
    unfold letR
    by_cases h : tlR a46 a48 a49 o c e k ∧ ownR a42 a43 a44 c (a46 k) ng = a47 k
    · rw [if_pos h]; exact bI_01 _
    · rw [if_neg h]; exact ih
def edR (a53 a56 a58 : Nat → Int32) (c e : Int32) : Nat → Int32
  | 0 => -1
  | k + 1 => if a53 k = c ∧ ¬ e < a56 k ∧ a58 k = 0 then nI k else edR a53 a56 a58 c e k
def lastR (a77 a79 a81 : Nat → Int32) (c e : Int32) : Nat → Int32
  | 0 => 0
  | k + 1 => if a77 k = c ∧ ¬ e ≤ a79 k ∧ ¬ a81 k = -1 then a81 k else lastR a77 a79 a81 c e k
abbrev thR (a70 a71 a72 a73 a79 : Nat → Int32) (b : Nat) (e : Int32) : Prop := ¬ e ≤ a70 b ∧ (a72 b = -1 ∨ e ≤ a79 (a72 b).toNatClampNeg) ∧ (a71 b = -1 ∨ e ≤ a71 b) ∧ a73 b = 0
def baR (a66 a67 a68 a69 a70 a71 a72 a73 a79 : Nat → Int32) (c e : Int32) : Nat → Int32 × (Int32 × (Int32 × (Int32 × Int32)))
  | 0 => (0, (0, (0, (0, 0))))
  | k + 1 => if a66 k = c ∧ thR a70 a71 a72 a73 a79 k e then
      (if a67 k = 0 then ((baR a66 a67 a68 a69 a70 a71 a72 a73 a79 c e k).1, ((if (baR a66 a67 a68 a69 a70 a71 a72 a73 a79 c e k).2.2.2.1 = 0 then a69 k else (if (baR a66 a67 a68 a69 a70 a71 a72 a73 a79 c e k).2.1 ≤ a69 k then (baR a66 a67 a68 a69 a70 a71 a72 a73 a79 c e k).2.1 else a69 k)), ((baR a66 a67 a68 a69 a70 a71 a72 a73 a79 c e k).2.2.1, ((baR a66 a67 a68 a69 a70 a71 a72 a73 a79 c e k).2.2.2.1 + a68 k, (baR a66 a67 a68 a69 a70 a71 a72 a73 a79 c e k).2.2.2.2 + 1))))
       else ((if a69 k ≤ (baR a66 a67 a68 a69 a70 a71 a72 a73 a79 c e k).1 then (baR a66 a67 a68 a69 a70 a71 a72 a73 a79 c e k).1 else a69 k), ((baR a66 a67 a68 a69 a70 a71 a72 a73 a79 c e k).2.1, ((baR a66 a67 a68 a69 a70 a71 a72 a73 a79 c e k).2.2.1 + a68 k, ((baR a66 a67 a68 a69 a70 a71 a72 a73 a79 c e k).2.2.2.1, (baR a66 a67 a68 a69 a70 a71 a72 a73 a79 c e k).2.2.2.2 + 1)))))
    else baR a66 a67 a68 a69 a70 a71 a72 a73 a79 c e k
/-- history that goes on behind an event -/
theorem ownR_old {a42 a43 a44 b42 b43 b44 : Nat → Int32} {c e : Int32} {n : Nat} (h : ∀ k, k < n → b42 k = a42 k ∧ b43 k = a43 k ∧ b44 k = a44 k) : ∀ m, n ≤ m → (∀ k, n ≤ k → k < m → ¬ b42 k < e) → ownR b42 b43 b44 c e m = ownR a42 a43 a44 c e n := by
  have base : ∀ j, j ≤ n → ownR b42 b43 b44 c e j = ownR a42 a43 a44 c e j := by
    intro j
    induction j with
    | zero => intro _; rfl
    | succ j ih => intro hj; unfold ownR; rw [ih (by omega), (h j (by omega)).1, (h j (by omega)).2.1, (h j (by omega)).2.2]
  intro m
  induction m with
  | zero => intro hm _; have : n = 0 := by omega
            subst this; rfl
  | succ m ih =>
    intro hm hk
    by_cases q : n = m + 1
    · subst q; exact base _ (Nat.le_refl _)
    · exact Eq.trans (if_neg (fun z => hk m (by omega) (by omega) z.2)) (ih (by omega) fun k a b => hk k a (by omega))
theorem letR_old {a42 a43 a44 b42 b43 b44 a46 a47 a48 a49 b46 b47 b48 b49 : Nat → Int32} {o c e : Int32} {ng ng' n : Nat} (hl : ∀ k, k < n → b46 k = a46 k ∧ b47 k = a47 k ∧ b48 k = a48 k ∧ b49 k = a49 k) (ho : ∀ k, k < n → ownR b42 b43 b44 c (a46 k) ng' = ownR a42 a43 a44 c (a46 k) ng) : ∀ m, n ≤ m → (∀ k, n ≤ k → k < m → e ≤ b46 k) → letR b42 b43 b44 ng' b46 b47 b48 b49 o c e m = letR a42 a43 a44 ng a46 a47 a48 a49 o c e n := by
  have base : ∀ j, j ≤ n → letR b42 b43 b44 ng' b46 b47 b48 b49 o c e j = letR a42 a43 a44 ng a46 a47 a48 a49 o c e j := by
    intro j
    induction j with
    | zero => intro _; rfl
    | succ j ih =>
      intro hj
      unfold letR
      obtain ⟨h1, h2, h3, h4⟩ := hl j (by omega)
      have e1 : (tlR b46 b48 b49 o c e j ∧ ownR b42 b43 b44 c (b46 j) ng' = b47 j) ↔ (tlR a46 a48 a49 o c e j ∧ ownR a42 a43 a44 c (a46 j) ng = a47 j) := by
        unfold tlR; rw [h1, h2, h3, h4, ho j (by omega)]
      rw [ih (by omega)]
      by_cases q : tlR b46 b48 b49 o c e j ∧ ownR b42 b43 b44 c (b46 j) ng' = b47 j
      · rw [if_pos q, if_pos (e1.mp q), h4]
      · rw [if_neg q, if_neg fun z => q (e1.mpr z)]
  intro m
  induction m with
  | zero => intro hm _; have : n = 0 := by omega
            subst this; rfl
  | succ m ih =>
    intro hm hk
    by_cases q : n = m + 1
    · subst q; exact base _ (Nat.le_refl _)
    · exact Eq.trans (if_neg (fun z => z.1.1 (hk m (by omega) (by omega)))) (ih (by omega) fun k a b => hk k a (by omega))
theorem edR_old {a53 a56 a58 b53 b56 b58 : Nat → Int32} {c e : Int32} {n : Nat} (h : ∀ k, k < n → b53 k = a53 k ∧ b56 k = a56 k ∧ b58 k = a58 k) : ∀ m, n ≤ m → (∀ k, n ≤ k → k < m → e < b56 k) → edR b53 b56 b58 c e m = edR a53 a56 a58 c e n := by
  have base : ∀ j, j ≤ n → edR b53 b56 b58 c e j = edR a53 a56 a58 c e j := by
    intro j
    induction j with
    | zero => intro _; rfl
    | succ j ih => intro hj; unfold edR; rw [ih (by omega), (h j (by omega)).1, (h j (by omega)).2.1, (h j (by omega)).2.2]
  intro m
  induction m with
  | zero => intro hm _; have : n = 0 := by omega
            subst this; rfl
  | succ m ih =>
    intro hm hk
    by_cases q : n = m + 1
    · subst q; exact base _ (Nat.le_refl _)
    · exact Eq.trans (if_neg (fun z => z.2.1 (hk m (by omega) (by omega)))) (ih (by omega) fun k a b => hk k a (by omega))
theorem lastR_old {a77 a79 a81 b77 b79 b81 : Nat → Int32} {c e : Int32} {n : Nat} (h : ∀ k, k < n → b77 k = a77 k ∧ b79 k = a79 k ∧ (¬ e ≤ a79 k → b81 k = a81 k)) : ∀ m, n ≤ m → (∀ k, n ≤ k → k < m → e ≤ b79 k) → lastR b77 b79 b81 c e m = lastR a77 a79 a81 c e n := by
  have base : ∀ j, j ≤ n → lastR b77 b79 b81 c e j = lastR a77 a79 a81 c e j := by
    intro j
    induction j with
    | zero => intro _; rfl
    | succ j ih =>
      intro hj
      obtain ⟨h1, h2, h3⟩ := h j (by omega)
      unfold lastR
      rw [ih (by omega), h1, h2]
      by_cases q : e ≤ a79 j
      · rw [if_neg fun z => z.2.1 q, if_neg fun z => z.2.1 q]
      · rw [h3 q]
  intro m
  induction m with
  | zero => intro hm _; have : n = 0 := by omega
            subst this; rfl
  | succ m ih =>
    intro hm hk
    by_cases q : n = m + 1
    · subst q; exact base _ (Nat.le_refl _)
    · exact Eq.trans (if_neg (fun z => z.2.1 (hk m (by omega) (by omega)))) (ih (by omega) fun k a b => hk k a (by omega))
theorem baR_old {a66 a67 a68 a69 a70 a71 a72 a73 a79 b66 b67 b68 b69 b70 b71 b72 b73 b79 : Nat → Int32} {c e : Int32} {n : Nat} (h : ∀ k, k < n → (b66 k = a66 k ∧ b67 k = a67 k ∧ b68 k = a68 k ∧ b69 k = a69 k) ∧ (thR b70 b71 b72 b73 b79 k e ↔ thR a70 a71 a72 a73 a79 k e)) : ∀ m, n ≤ m → (∀ k, n ≤ k → k < m → e ≤ b70 k) → baR b66 b67 b68 b69 b70 b71 b72 b73 b79 c e m = baR a66 a67 a68 a69 a70 a71 a72 a73 a79 c e n := by
  have base : ∀ j, j ≤ n → baR b66 b67 b68 b69 b70 b71 b72 b73 b79 c e j = baR a66 a67 a68 a69 a70 a71 a72 a73 a79 c e j := by
    intro j
    induction j with
    | zero => intro _; rfl
    | succ j ih =>
      intro hj
      obtain ⟨⟨h1, h2, h3, h4⟩, h5⟩ := h j (by omega)
      unfold baR
      rw [ih (by omega), h1, h2, h3, h4]
      by_cases q : a66 j = c ∧ thR b70 b71 b72 b73 b79 j e
      · rw [if_pos q]; exact (if_pos ⟨q.1, h5.mp q.2⟩).symm
      · rw [if_neg q]; exact (if_neg fun z => q ⟨z.1, h5.mpr z.2⟩).symm
  intro m
  induction m with
  | zero => intro hm _; have : n = 0 := by omega
            subst this; rfl
  | succ m ih =>
    intro hm hk
    by_cases q : n = m + 1
    · subst q; exact base _ (Nat.le_refl _)
    · exact Eq.trans (if_neg (fun z => z.2.1 (hk m (by omega) (by omega)))) (ih (by omega) fun k a b => hk k a (by omega))
def rdR (a42 a43 a44 : Nat → Int32) (ng : Nat) (a46 a47 a48 a49 : Nat → Int32) (nl : Nat) (o c e : Int32) : Int32 := if ownR a42 a43 a44 c e ng = o then 1 else letR a42 a43 a44 ng a46 a47 a48 a49 o c e nl
def mX0 (a42 a43 a44 a46 a47 a48 a49 a53 a56 a57 a58 a59 a66 a67 a68 a69 a70 a71 a72 a73 a77 a79 a81 : Nat → Int32) (ng nl nE nB nR : Nat) (e : Int32) : gE :=
  (fun c => if edR a53 a56 a58 c e nE = -1 then 0 else (a57 (edR a53 a56 a58 c e nE).toNatClampNeg).toNatClampNeg,
  (fun c i => a59 (nI (36 * (edR a53 a56 a58 c e nE).toNatClampNeg + 3 * i)).toNatClampNeg,
  (fun c i => 6 * a59 (nI (36 * (edR a53 a56 a58 c e nE).toNatClampNeg + 3 * i) + 1).toNatClampNeg + a59 (nI (36 * (edR a53 a56 a58 c e nE).toNatClampNeg + 3 * i) + 2).toNatClampNeg,
  (fun c x => !decide (rdR a42 a43 a44 ng a46 a47 a48 a49 nl (ownR a42 a43 a44 c e ng) x e = 0),
   fun c i p => if 8 ≤ a59 (nI (36 * (edR a53 a56 a58 c e nE).toNatClampNeg + 3 * i)).toNatClampNeg then lrk (a59 (nI (36 * (edR a53 a56 a58 c e nE).toNatClampNeg + 3 * i)).toNatClampNeg) p else lpush (if a59 (nI (36 * (edR a53 a56 a58 c e nE).toNatClampNeg + 3 * i)).toNatClampNeg = 0 then (a59 (nI (36 * (edR a53 a56 a58 c e nE).toNatClampNeg + 3 * i) + 1).toNatClampNeg).toInt64 else if a59 (nI (36 * (edR a53 a56 a58 c e nE).toNatClampNeg + 3 * i)).toNatClampNeg = 7 then (lastR a77 a79 a81 (a59 (nI (36 * (edR a53 a56 a58 c e nE).toNatClampNeg + 3 * i) + 1).toNatClampNeg) e nR).toInt64 else (mBS (a59 (nI (36 * (edR a53 a56 a58 c e nE).toNatClampNeg + 3 * i)).toNatClampNeg) (baR a66 a67 a68 a69 a70 a71 a72 a73 a79 (a59 (nI (36 * (edR a53 a56 a58 c e nE).toNatClampNeg + 3 * i) + 1).toNatClampNeg) e nB)).toInt64) p))))
abbrev mX (V : hs_S) (ng nl nE nB nR : Nat) (e : Int32) : gE := mX0 (V.1 42 1) (V.1 43 1) (V.1 44 1) (V.1 46 1) (V.1 47 1) (V.1 48 1) (V.1 49 1) (V.1 53 1) (V.1 56 1) (V.1 57 1) (V.1 58 1) (V.1 59 1) (V.1 66 1) (V.1 67 1) (V.1 68 1) (V.1 69 1) (V.1 70 1) (V.1 71 1) (V.1 72 1) (V.1 73 1) (V.1 77 1) (V.1 79 1) (V.1 81 1) ng nl nE nB nR e
theorem read_r {S : hs_S} {o c e : Int32} : F_readsAt o c e S = rdR (S.1 42 1) (S.1 43 1) (S.1 44 1) (S.1 11 1 1).toNatClampNeg (S.1 46 1) (S.1 47 1) (S.1 48 1) (S.1 49 1) (S.1 11 1 5).toNatClampNeg o c e := by
  unfold F_readsAt rdR
  rw [own_r, let_r]
def rA (n : Nat) (U V : hs_S) (ev ng nl nE nB nR nd : Nat) : Prop :=
  ((ev ≤ n ∧ n ≤ 512) ∧ (ng ≤ ev ∧ nl ≤ ev) ∧ (nE ≤ 60 ∧ nB ≤ 80) ∧ nR ≤ 30 ∧ nd ≤ 12) ∧
  (U.1 10 1 5 = nI ev ∧ V.1 11 1 0 = nI ev ∧ V.1 11 1 1 = nI ng ∧ V.1 11 1 5 = nI nl ∧ V.1 11 1 12 = nI nE ∧ V.1 11 1 24 = nI nB ∧ V.1 11 1 36 = nI nR ∧ V.1 11 1 10 = nI nd) ∧
  (U.2.1 12 2 0 = nE ∧ U.2.2.2 3 = nE ∧ U.2.1 13 2 0 = nB ∧ U.2.2.2 0 = nB ∧ U.2.1 14 2 0 = nR) ∧
  (U.2.2.2 7 = U.2.2.2 8 + 1 ∧ U.2.2.2 20 = U.2.2.2 7 ∧ U.2.2.2 21 = U.2.2.2 7 ∧ U.2.2.2 22 = U.2.2.2 5 ∧ U.2.2.2 23 = U.2.2.2 5 ∧ U.2.2.2 24 = U.2.2.2 5)
def rG (u20 u21 : Nat → Int32) (a42 a43 a44 : Nat → Int32) (ng : Nat) (a46 a47 a48 a49 : Nat → Int32) (nl : Nat) (e : Int32) : Prop := ∀ c : Nat, c < 24 → u20 c = ownR a42 a43 a44 (nI c) e ng ∧ (∃ o : Nat, o < 6 ∧ u20 c = nI o) ∧ ∀ o : Nat, o < 6 → ((u21 c >>> (nI o &&& 31)) &&& 1 = 1 ↔ letR a42 a43 a44 ng a46 a47 a48 a49 (nI o) (nI c) e nl = 1)
abbrev rGs (U V : hs_S) (i ng nl : Nat) (e : Int32) : Prop := rG (U.1 20 i) (U.1 21 i) (V.1 42 1) (V.1 43 1) (V.1 44 1) ng (V.1 46 1) (V.1 47 1) (V.1 48 1) (V.1 49 1) nl e
def rH (V : hs_S) (ev ng nl : Nat) : Prop := (∀ k, k < ng → ∃ m : Nat, m < ev ∧ V.1 42 1 k = nI m) ∧ ∀ k, k < nl → ∃ m : Nat, m < ev ∧ V.1 46 1 k = nI m
def fC (U V : hs_S) (f k : Nat) : Prop := f ≠ 0 ∧ f < U.2.1 9 1 4 ∧ fOk U f ∧ ∃ g : Nat, g ≤ 12 ∧ U.1 5 f 3 = nI g ∧ V.1 57 1 k = nI g ∧ (0 < g → cht U f g = 1) ∧ ∀ i, i < g → U.1 22 f i = V.1 59 1 (36 * k + 3 * i) ∧ U.1 23 f i = V.1 59 1 (36 * k + 3 * i + 1) ∧ U.1 24 f i = V.1 59 1 (36 * k + 3 * i + 2)
def rE1 (U V : hs_S) (ev k : Nat) : Prop := (U.2.1 12 1 k = k + 1 ∧ U.1 3 (k + 1) 0 = nI k) ∧ (∃ c : Nat, c < 24 ∧ V.1 53 1 k = nI c ∧ U.1 3 (k + 1) 1 = nI c) ∧ (U.1 3 (k + 1) 2 = V.1 54 1 k ∧ U.1 3 (k + 1) 3 = V.1 55 1 k ∧ U.1 3 (k + 1) 4 = V.1 56 1 k ∧ ∃ m : Nat, m < ev + 50 ∧ V.1 56 1 k = nI m) ∧ (U.1 3 (k + 1) 6 = V.1 58 1 k ∧ (V.1 58 1 k = 0 ∨ V.1 58 1 k = 1))
def rE (U V : hs_S) (ev nE : Nat) : Prop := ∀ k, k < nE → rE1 U V ev k ∧ fC U V (U.2.1 3 (k + 1) 5) k
def rF (U V : hs_S) (nd : Nat) : Prop := (2 ≤ U.2.1 9 1 4 ∧ U.2.1 9 1 4 = U.2.2.2 5 ∧ U.1 5 1 3 = 0) ∧ U.1 5 (U.2.1 9 1 4) 3 = nI nd ∧ fOk U (U.2.1 9 1 4) ∧ U.1 5 (U.2.1 9 1 4) 4 = nI (cht U (U.2.1 9 1 4) nd) ∧ ∀ i, i < nd → U.1 22 (U.2.1 9 1 4) i = V.1 51 1 (3 * i) ∧ U.1 23 (U.2.1 9 1 4) i = V.1 51 1 (3 * i + 1) ∧ U.1 24 (U.2.1 9 1 4) i = V.1 51 1 (3 * i + 2)
def rN (U V : hs_S) : Prop := ∀ c : Nat, c < 4 → (U.1 25 1 c = V.1 60 1 c ∧ ∃ m : Nat, m ≤ 50 ∧ V.1 60 1 c = nI m) ∧ U.1 27 1 c = V.1 61 1 c ∧ (V.1 61 1 c = 0 ∨ V.1 61 1 c = 1)
def rB1 (U V : hs_S) (ev b : Nat) : Prop := (U.2.1 13 1 b = b + 1 ∧ U.1 0 (b + 1) 0 = nI b ∧ ∃ o : Nat, o < 6 ∧ V.1 65 1 b = nI o ∧ U.1 0 (b + 1) 1 = nI o) ∧ (U.1 0 (b + 1) 3 = V.1 67 1 b ∧ (V.1 67 1 b = 0 ∨ V.1 67 1 b = 1)) ∧ (∃ m : Nat, (1 ≤ m ∧ m ≤ 100) ∧ V.1 68 1 b = nI m ∧ U.1 0 (b + 1) 4 = nI m) ∧ (∃ l : Nat, l ≤ 9999 ∧ V.1 69 1 b = nI l ∧ U.1 0 (b + 1) 5 = nI l) ∧ (∃ m : Nat, m < ev ∧ V.1 70 1 b = nI m ∧ U.1 0 (b + 1) 6 = nI m) ∧ ((V.1 71 1 b = -1 ∧ U.1 0 (b + 1) 7 = 2147483647) ∨ ∃ w : Nat, w < ev ∧ V.1 71 1 b = nI w ∧ U.1 0 (b + 1) 7 = nI w) ∧ (U.1 0 (b + 1) 8 = V.1 73 1 b ∧ (V.1 73 1 b = 0 ∨ V.1 73 1 b = 1))
def rB2 (U V : hs_S) (nR b : Nat) : Prop := ∃ c : Nat, c < 4 ∧ V.1 66 1 b = nI c ∧ ((V.1 72 1 b = -1 ∧ U.2.1 0 (b + 1) 2 = U.2.1 26 1 c) ∨ ∃ r : Nat, r < nR ∧ V.1 72 1 b = nI r ∧ U.2.1 0 (b + 1) 2 = U.2.1 14 1 r ∧ V.1 77 1 r = nI c)
def rB (U V : hs_S) (ev nB nR : Nat) : Prop := ∀ b, b < nB → rB1 U V ev b ∧ rB2 U V nR b
def rC1 (U V : hs_S) (ev ng nl r : Nat) : Prop := (1 ≤ U.2.1 14 1 r ∧ U.2.1 14 1 r ≤ U.2.2.2 8) ∧ (∃ c : Nat, c < 4 ∧ V.1 77 1 r = nI c ∧ U.1 8 (U.2.1 14 1 r) 0 = nI c) ∧ (∃ f l : Nat, (f < l ∧ l < ev) ∧ V.1 78 1 r = nI f ∧ U.1 8 (U.2.1 14 1 r) 1 = nI f ∧ V.1 79 1 r = nI l ∧ U.1 8 (U.2.1 14 1 r) 2 = nI l) ∧ (U.1 8 (U.2.1 14 1 r) 3 = V.1 80 1 r ∧ (V.1 80 1 r = 0 ∨ V.1 80 1 r = 1)) ∧ rGs U V (U.2.1 14 1 r + 1) ng nl (V.1 78 1 r)
def rC2 (U V : hs_S) (ev ng nl c : Nat) : Prop := (1 ≤ U.2.1 26 1 c ∧ U.2.1 26 1 c ≤ U.2.2.2 8) ∧ (U.1 8 (U.2.1 26 1 c) 0 = nI c ∧ U.1 8 (U.2.1 26 1 c) 2 = 2147483647) ∧ ((V.1 62 1 c = -1 ∧ U.1 8 (U.2.1 26 1 c) 1 = 2147483647) ∨ ∃ f : Nat, f < ev ∧ V.1 62 1 c = nI f ∧ U.1 8 (U.2.1 26 1 c) 1 = nI f ∧ U.1 8 (U.2.1 26 1 c) 3 = V.1 63 1 c ∧ rGs U V (U.2.1 26 1 c + 1) ng nl (nI f)) ∧ (V.1 63 1 c = 0 ∨ V.1 63 1 c = 1)
def rC3 (U : hs_S) (nR : Nat) : Prop := (∀ r r', r < nR → r' < nR → U.2.1 14 1 r = U.2.1 14 1 r' → r = r') ∧ (∀ c c', c < 4 → c' < 4 → U.2.1 26 1 c = U.2.1 26 1 c' → c = c') ∧ ∀ r c, r < nR → c < 4 → U.2.1 14 1 r ≠ U.2.1 26 1 c
def rC (U V : hs_S) (ev ng nl nR : Nat) : Prop := (∀ r, r < nR → rC1 U V ev ng nl r) ∧ (∀ c, c < 4 → rC2 U V ev ng nl c) ∧ rC3 U nR
/-- rows not yet used -/
def rZ (V : hs_S) : Prop := (∀ k, (V.1 11 1 12).toNatClampNeg ≤ k → k < 60 → V.1 58 1 k = 0) ∧ (∀ b, (V.1 11 1 24).toNatClampNeg ≤ b → b < 80 → V.1 73 1 b = 0 ∧ V.1 74 1 b = 0) ∧ ∀ r r', r < r' → r' < (V.1 11 1 36).toNatClampNeg → V.1 79 1 r < V.1 79 1 r'
def rL (U V : hs_S) : Prop := (∀ o : Nat, o < 6 → U.1 36 1 o = V.1 87 1 o ∧ U.1 37 1 o = V.1 88 1 o ∧ ∃ m : Nat, m ≤ 1000000000 ∧ V.1 88 1 o = nI m) ∧ (∀ p, p < 24 → (U.1 35 1 p).toInt = (V.2.2.1 86 1 p).toInt ∧ -250000000 ≤ (U.1 35 1 p).toInt ∧ (U.1 35 1 p).toInt ≤ 250000000) ∧ (∀ c : Nat, c < 4 → sI (fun o => (V.2.2.1 86 1 (4 * o + c)).toInt) 6 = 0) ∧ rZ V
def rQ (U V : hs_S) (nB nR : Nat) : Prop := (∀ r, r < nR → U.1 8 (U.2.1 14 1 r) 5 = V.1 81 1 r ∧ U.1 8 (U.2.1 14 1 r) 6 = V.1 82 1 r ∧ U.1 8 (U.2.1 14 1 r) 7 = V.1 83 1 r ∧ U.1 8 (U.2.1 14 1 r) 8 = V.1 84 1 r) ∧ ∀ b, b < nB → U.1 0 (b + 1) 9 = V.1 74 1 b ∧ (V.1 72 1 b = -1 → V.1 74 1 b = 0)
abbrev tpR (a67 a69 a71 a72 a73 a81 : Nat → Int32) (b r : Nat) : Prop := a72 b = nI r ∧ a71 b = -1 ∧ a73 b = 0 ∧ ¬ a81 r = -1 ∧ (if a67 b = 0 then ¬ a81 r < a69 b else ¬ a69 b < a81 r)
def sumR (a67 a68 a69 a71 a72 a73 a81 : Nat → Int32) (r : Nat) (w : Int32) : Nat → Int32
  | 0 => 0
  | k + 1 => if a67 k = w ∧ tpR a67 a69 a71 a72 a73 a81 k r then sumR a67 a68 a69 a71 a72 a73 a81 r w k + a68 k else sumR a67 a68 a69 a71 a72 a73 a81 r w k + 0
abbrev allR (V : hs_S) (nB r : Nat) (w : Int32) : Int32 := sumR (V.1 67 1) (V.1 68 1) (V.1 69 1) (V.1 71 1) (V.1 72 1) (V.1 73 1) (V.1 81 1) r w nB
def gotR (V : hs_S) (nB r b : Nat) : Int := if shT V (nI r) 1 b then shG V (nI r) 1 (allR V nB r 1) nB b else if shT V (nI r) 0 b then shG V (nI r) 0 (allR V nB r 0) nB b else 0
def mR (V : hs_S) (ng nl nE nB nR r : Nat) : Prop := (∃ f v f2 v2 : Int32, gVal (mX V ng nl nE nB nR (V.1 78 1 r)) (6 * V.1 77 1 r) f v ∧ gVal (mX V ng nl nE nB nR (V.1 78 1 r)) (6 * V.1 77 1 r + 1) f2 v2 ∧ V.1 84 1 r = cY (if (mX V ng nl nE nB nR (V.1 78 1 r)).1 (6 * V.1 77 1 r) = 0 then 1 else 0) f v ∧ V.1 81 1 r = (if V.1 84 1 r = 0 then v else -1) ∧ V.1 83 1 r = clF (V.1 81 1 r) v2) ∧ V.1 82 1 r = (if allR V nB r 0 ≤ allR V nB r 1 then allR V nB r 0 else allR V nB r 1) ∧ (∀ b, b < nB → V.1 72 1 b = nI r → (V.1 74 1 b).toInt = gotR V nB r b) ∧ ∀ u : Int32, u = 0 ∨ u = 1 → sI (fun b => if shT V (nI r) u b then (V.1 74 1 b).toInt else 0) nB = (V.1 82 1 r).toInt
def rM (V : hs_S) (ng nl nE nB nR : Nat) : Prop := ∀ r, r < nR → mR V ng nl nE nB nR r
def RX (n : Nat) (U V : hs_S) (ev ng nl nE nB nR nd : Nat) : Prop := rA n U V ev ng nl nE nB nR nd ∧ rGs U V 1 ng nl (nI ev) ∧ rH V ev ng nl ∧ rE U V ev nE ∧ rF U V nd ∧ rN U V ∧ rB U V ev nB nR ∧ rC U V ev ng nl nR
def RR (n : Nat) (S : hs_S) : Prop := ∃ ev ng nl nE nB nR nd : Nat, RX n S S ev ng nl nE nB nR nd ∧ rL S S ∧ rQ S S nB nR ∧ rM S ng nl nE nB nR
theorem lt_of {a : Int32} {N : Nat} (hN : N < 2147483648) (h1 : ¬ a < 0) (h2 : a < nI N) : ∃ o : Nat, o < N ∧ a = nI o := by
  rw [i32_lt] at h1 h2
  rw [nI_toInt (by omega)] at h2
  have z0 : (0 : Int32).toInt = 0 := rfl
  obtain ⟨k, hk, _, e⟩ := hl_of (x := a) (n := N) ⟨by omega, h2⟩
  exact ⟨k, hk, e⟩
theorem le_of {a : Int32} {N : Nat} (hN : N < 2147483648) (h1 : ¬ a < 0) (h2 : a ≤ nI N) : ∃ o : Nat, o ≤ N ∧ a = nI o := by
  rw [i32_lt] at h1
  rw [i32_le] at h2
  rw [nI_toInt (by omega)] at h2
  have z0 : (0 : Int32).toInt = 0 := rfl
  obtain ⟨k, hk, _, e⟩ := hl_of (x := a) (n := N + 1) ⟨by omega, by omega⟩
  exact ⟨k, by omega, e⟩
theorem nI_lo {o : Nat} (h : o < 2147483648) : ¬ nI o < 0 := nI_nn h
theorem nI_lt2 {o N : Nat} (hN : N < 2147483648) (h : o < N) : nI o < nI N := (hl_lt (by omega) hN).mpr h
theorem own_iff {a : Int32} : F_isOwner a = 0 ↔ ¬ ∃ o : Nat, o < 6 ∧ a = nI o := by
  unfold F_isOwner
  rw [bI_eq0]
  refine not_congr ⟨fun h => lt_of (N := 6) (by omega) (fun z => ?_) h.2, ?_⟩
  · have h1 := h.1
    rw [i32_le] at h1
    rw [i32_lt] at z
    omega
  · rintro ⟨o, ho, rfl⟩
    refine ⟨?_, nI_lt2 (N := 6) (by omega) ho⟩
    have := nI_lo (o := o) (by omega)
    rw [i32_lt] at this
    rw [i32_le]
    omega
theorem cell_iff {a b : Int32} : F_isCell a b = 0 ↔ ¬ ((∃ c : Nat, c < 4 ∧ a = nI c) ∧ ∃ r : Nat, r < 6 ∧ b = nI r) := by
  have go : ∀ (x : Int32) (N : Nat), N < 100 → ((0 ≤ x ∧ x < nI N) ↔ ∃ o : Nat, o < N ∧ x = nI o) := fun x N hN => by
    refine ⟨fun h => lt_of (by omega) (fun z => ?_) h.2, ?_⟩
    · have h1 := h.1
      rw [i32_le] at h1
      rw [i32_lt] at z
      omega
    · rintro ⟨o, ho, rfl⟩
      refine ⟨?_, nI_lt2 (by omega) ho⟩
      have := nI_lo (o := o) (by omega)
      rw [i32_lt] at this
      rw [i32_le]
      omega
  unfold F_isCell
  rw [bI_eq0]
  exact not_congr (and_congr (go a 4 (by omega)) (go b 6 (by omega)))
abbrev iIO : String := "java/lang/IndexOutOfBoundsException"
abbrev iIS : String := "java/lang/IllegalStateException"
theorem t_needOwner {a : Int32} {S : hs_S} {Q : hs_S → Prop} {Ex : String → hs_S → Prop} (hw : hs_Wi S) (h1 : ∀ o : Nat, o < 6 → a = nI o → Q S) (h2 : F_isOwner a = 0 → Ex iIO S) : m_C_needOwner a S Q Ex := by
  refine ok_C_needOwner hw ⟨fun c => h2 (own_iff.mpr ?_), fun c => ⟨fun d => ?_, fun d => h2 (own_iff.mpr ?_)⟩⟩
  · rintro ⟨o, ho, rfl⟩; exact nI_lo (by omega) c
  · obtain ⟨o, ho, e⟩ := lt_of (N := 6) (by omega) c d
    exact h1 o ho e
  · rintro ⟨o, ho, rfl⟩; exact d (nI_lt2 (N := 6) (by omega) ho)
theorem t_needColumn {a : Int32} {S : hs_S} {Q : hs_S → Prop} {Ex : String → hs_S → Prop} (hw : hs_Wi S) (h1 : ∀ c : Nat, c < 4 → a = nI c → Q S) (h2 : ¬ (∃ c : Nat, c < 4 ∧ a = nI c) → Ex iIO S) : m_C_needColumn a S Q Ex := by
  refine ok_C_needColumn hw ⟨fun c => h2 ?_, fun c => ⟨fun d => ?_, fun d => h2 ?_⟩⟩
  · rintro ⟨o, ho, rfl⟩; exact nI_lo (by omega) c
  · obtain ⟨o, ho, e⟩ := lt_of (N := 4) (by omega) c d
    exact h1 o ho e
  · rintro ⟨o, ho, rfl⟩; exact d (nI_lt2 (N := 4) (by omega) ho)
theorem t_cellAt {a b : Int32} {S : hs_S} {Q : Int32 → hs_S → Prop} {Ex : String → hs_S → Prop} (hw : hs_Wi S) (h1 : ∀ c r : Nat, c < 4 → r < 6 → a = nI c → b = nI r → Q (nI (6 * c + r)) S) (h2 : F_isCell a b = 0 → Ex iIO S) : m_C_cellAt a b S Q Ex := by
  refine ok_C_cellAt hw fun _ => t_needColumn hw (fun c hc ec => ⟨fun d => h2 (cell_iff.mpr ?_), fun d => ⟨fun q => ?_, fun q => h2 (cell_iff.mpr ?_)⟩⟩) (fun q => h2 (cell_iff.mpr fun z => q z.1))
  · rintro ⟨_, r, hr, rfl⟩; exact nI_lo (by omega) d
  · obtain ⟨r, hr, er⟩ := lt_of (N := 6) (by omega) d q
    have := h1 c r hc hr ec er
    rw [ec, er]
    rw [nI_61]
    exact this
  · rintro ⟨_, r, hr, rfl⟩; exact q (nI_lt2 (N := 6) (by omega) hr)
theorem t_needOwnCell {a : Int32} {k : Nat} {S : hs_S} {Q : hs_S → Prop} {Ex : String → hs_S → Prop} (hw : hs_Wi S) (hk : k < 24) (h1 : S.1 20 1 k = a → Q S) (h2 : ¬ S.1 20 1 k = a → Ex iIS S) : m_C_needOwnCell a (nI k) S Q Ex := by
  refine ok_C_needOwnCell hw ?_
  unfold vc_C_needOwnCell
  rw [cl24 hk]
  exact ⟨hl_ix (by omega) (by omega), h1, h2⟩
theorem t_needReader {a : Int32} {k : Nat} {S : hs_S} {Q : hs_S → Prop} {Ex : String → hs_S → Prop} (hw : hs_Wi S) (hk : k < 24) (h1 : ¬ F_Rts_canRead 1 a (nI k) S = 0 → Q S) (h2 : F_Rts_canRead 1 a (nI k) S = 0 → Ex iIS S) : m_C_needReader a (nI k) S Q Ex :=
  ok_C_needReader hw ⟨hl_ix (by omega) (by omega), h1, h2⟩
theorem t_needEditable {a : Int32} {k : Nat} {S : hs_S} {Q : hs_S → Prop} {Ex : String → hs_S → Prop} (hw : hs_Wi S) (hk : k < 24) (hr : S.2.1 26 1 (k / 6) ≠ 0) (hz : hs_sz S 12 ≤ 60) (h1 : S.1 20 1 k = a → S.1 8 (S.2.1 26 1 (k / 6)) 1 = 2147483647 → hs_sz S 12 < 60 → Q S) (h2 : ¬ (S.1 20 1 k = a ∧ S.1 8 (S.2.1 26 1 (k / 6)) 1 = 2147483647 ∧ hs_sz S 12 < 60) → Ex iIS S) : m_C_needEditable a (nI k) S Q Ex := by
  refine ok_C_needEditable hw fun _ => t_needOwnCell hw hk (fun e => ?_) (fun e => h2 fun z => e z.1)
  rw [nI_div6 (by omega), hl_cl (by omega)]
  refine ⟨hl_ix (by omega) (by omega), hr, fun q => ⟨fun q2 => ?_, fun q2 => h2 fun z => q2 ?_⟩, fun q => h2 fun z => q ?_⟩
  · have e1 : S.1 8 (S.2.1 26 1 (k / 6)) 1 = 2147483647 := Classical.not_not.mp (bI_eq0.mp q)
    exact h1 e e1 ((hl_lt (a := hs_sz S 12) (b := 60) (by omega) (by omega)).mp q2)
  · exact nI_lt2 (N := 60) (by omega) z.2.2
  · exact bI_eq0.mpr (Classical.not_not.mpr z.2.1)
theorem t_bidNumbered {a : Int32} {S : hs_S} {Q : Nat → hs_S → Prop} {Ex : String → hs_S → Prop} (hw : hs_Wi S) (hz : hs_sz S 13 ≤ 80) (hid : ∀ b, b < hs_sz S 13 → S.2.1 13 1 b = b + 1) (h1 : ∀ b : Nat, b < hs_sz S 13 → a = nI b → Q (b + 1) S) (h2 : ¬ (∃ b : Nat, b < hs_sz S 13 ∧ a = nI b) → Ex iIO S) : m_C_bidNumbered a S Q Ex := by
  refine ok_C_bidNumbered hw ⟨fun c => h2 ?_, fun c => ⟨fun d => ?_, fun d => h2 ?_⟩⟩
  · rintro ⟨o, ho, rfl⟩; exact nI_lo (by omega) c
  · obtain ⟨b, hb, e⟩ := lt_of (by omega) c d
    rw [e, hl_cl (by omega), hid b hb]
    exact ⟨hl_ix (by omega) (by omega), by omega, h1 b hb e⟩
  · rintro ⟨o, ho, rfl⟩; exact d (nI_lt2 (by omega) ho)
theorem t_roundNumbered {a : Int32} {S : hs_S} {Q : Nat → hs_S → Prop} {Ex : String → hs_S → Prop} (hw : hs_Wi S) (hz : hs_sz S 14 ≤ 30) (hid : ∀ b, b < hs_sz S 14 → S.2.1 14 1 b ≠ 0) (h1 : ∀ b : Nat, b < hs_sz S 14 → a = nI b → Q (S.2.1 14 1 b) S) (h2 : ¬ (∃ b : Nat, b < hs_sz S 14 ∧ a = nI b) → Ex iIO S) : m_C_roundNumbered a S Q Ex := by
  refine ok_C_roundNumbered hw ⟨fun c => h2 ?_, fun c => ⟨fun d => ?_, fun d => h2 ?_⟩⟩
  · rintro ⟨o, ho, rfl⟩; exact nI_lo (by omega) c
  · obtain ⟨b, hb, e⟩ := lt_of (by omega) c d
    rw [e, hl_cl (by omega)]
    exact ⟨hl_ix (by omega) (by omega), hid b hb, h1 b hb e⟩
  · rintro ⟨o, ho, rfl⟩; exact d (nI_lt2 (by omega) ho)
theorem RX_up {n : Nat} {U V : hs_S} {ev ng nl nE nB nR nd : Nat} (h : RX n U V ev ng nl nE nB nR nd) (hn : n < 512) : RX (n + 1) U V ev ng nl nE nB nR nd := ⟨⟨⟨⟨by have := h.1.1.1.1; omega, by omega⟩, h.1.1.2⟩, h.1.2⟩, h.2⟩
theorem RR_up {n : Nat} {S : hs_S} (h : RR n S) (hn : n < 512) : RR (n + 1) S := by
  obtain ⟨ev, ng, nl, nE, nB, nR, nd, hX, h⟩ := h
  exact ⟨ev, ng, nl, nE, nB, nR, nd, RX_up hX hn, h⟩
