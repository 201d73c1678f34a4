theorem hl_of {x : Int32} {n : Nat} (h : 0 ≤ x.toInt ∧ x.toInt < (n : Int)) : ∃ k : Nat, k < n ∧ k < 2147483648 ∧ x = nI k := by
  have h2 : ¬ x < 0 := by
    rw [Int32.lt_iff_toInt_lt]
    show ¬ x.toInt < (0 : Int32).toInt
    have : (0 : Int32).toInt = 0 := rfl
    omega
  obtain ⟨j, hj, rfl⟩ := nI_of h2
  rw [nI_toInt hj] at h
  exact ⟨j, by omega, hj, rfl⟩
theorem i32_b (a : Int32) : -2147483648 ≤ a.toInt ∧ a.toInt < 2147483648 := ⟨a.le_toInt, a.toInt_lt⟩
theorem i64_b (a : Int64) : -9223372036854775808 ≤ a.toInt ∧ a.toInt < 9223372036854775808 := ⟨a.le_toInt, a.toInt_lt⟩
theorem bm64 {x : Int} (h : -9223372036854775808 ≤ x ∧ x < 9223372036854775808) : x.bmod (2 ^ 64) = x := Int.bmod_eq_of_le (by omega) (by omega)
theorem i32_add {a b : Int32} (h : -2147483648 ≤ a.toInt + b.toInt ∧ a.toInt + b.toInt < 2147483648) : (a + b).toInt = a.toInt + b.toInt := by rw [Int32.toInt_add]; exact bm32 h
theorem i32_mul {a b : Int32} (h : -2147483648 ≤ a.toInt * b.toInt ∧ a.toInt * b.toInt < 2147483648) : (a * b).toInt = a.toInt * b.toInt := by rw [Int32.toInt_mul]; exact bm32 h
theorem i64_add {a b : Int64} (h : -9223372036854775808 ≤ a.toInt + b.toInt ∧ a.toInt + b.toInt < 9223372036854775808) : (a + b).toInt = a.toInt + b.toInt := by rw [Int64.toInt_add]; exact bm64 h
theorem i64_sub {a b : Int64} (h : -9223372036854775808 ≤ a.toInt - b.toInt ∧ a.toInt - b.toInt < 9223372036854775808) : (a - b).toInt = a.toInt - b.toInt := by rw [Int64.toInt_sub]; exact bm64 h
theorem i64_mul {a b : Int64} (h : -9223372036854775808 ≤ a.toInt * b.toInt ∧ a.toInt * b.toInt < 9223372036854775808) : (a * b).toInt = a.toInt * b.toInt := by rw [Int64.toInt_mul]; exact bm64 h
def E_asks (a1 : Int32) (S : hs_S) : hs_S := hs_wI S 11 1 59 (if a1 = 0 then 1 else 0)
def F_isOwner (a1 : Int32) : Int32 := bI (0 ≤ a1 ∧ a1 < 6)
def F_isCell (a1 a2 : Int32) : Int32 := bI ((0 ≤ a1 ∧ a1 < 4) ∧ 0 ≤ a2 ∧ a2 < 6)
def mEO (S : hs_S) (c : Int32) : Nat → Int32
  | 0 => 0
  | k + 1 => if S.1 53 1 k = c then mEO S c k + 1 else mEO S c k + 0
def F_costOf (a1 : Int32) (S : hs_S) : Int64 := (S.1 81 1 (S.1 72 1 a1.toNatClampNeg).toNatClampNeg).toInt64 * (S.1 74 1 a1.toNatClampNeg).toInt64
def F_feeOf (a1 : Int32) (S : hs_S) : Int64 := if S.1 67 1 a1.toNatClampNeg = 0 then 0 else F_costOf a1 S * (S.1 83 1 (S.1 72 1 a1.toNatClampNeg).toNatClampNeg).toInt64 / 1000
def mFs (S : hs_S) (r : Int32) : Nat → Int64
  | 0 => 0
  | k + 1 => if S.1 72 1 k = r then mFs S r k + F_feeOf (nI k) S else mFs S r k + 0
def F_feesOf (a1 : Int32) (S : hs_S) : Int64 := mFs S a1 (S.1 11 1 24).toNatClampNeg
abbrev mTP (S : hs_S) (b : Nat) (r : Int32) : Prop := S.1 72 1 b = r ∧ S.1 71 1 b = -1 ∧ S.1 73 1 b = 0 ∧ ¬ S.1 81 1 r.toNatClampNeg = -1 ∧ (if S.1 67 1 b = 0 then ¬ S.1 81 1 r.toNatClampNeg < S.1 69 1 b else ¬ S.1 69 1 b < S.1 81 1 r.toNatClampNeg)
def F_takesPart (a1 a2 : Int32) (S : hs_S) : Int32 := bI (mTP S a1.toNatClampNeg a2)
def mDueT (S : hs_S) (o r : Int32) (b : Nat) : Int64 := if S.1 72 1 b = r ∧ S.1 65 1 b = o then (if S.1 67 1 b = 0 then -F_costOf (nI b) S else F_costOf (nI b) S + F_feeOf (nI b) S) else 0
def mDueI (S : hs_S) (o r : Int32) (acc : Int64) : Nat → Int64
  | 0 => acc
  | b + 1 => mDueI S o r acc b + mDueT S o r b
def mDue (S : hs_S) (o col : Int32) : Nat → Int64
  | 0 => -(S.2.2.1 86 1 (4 * o + col).toNatClampNeg)
  | r + 1 => if S.1 77 1 r = col ∧ ¬ S.1 81 1 r = -1 then mDueI S o (nI r) (mDue S o col r - (if F_ownerAt (6 * col + 1) (S.1 78 1 r) S = o then F_feesOf (nI r) S else 0)) (S.1 11 1 24).toNatClampNeg else mDue S o col r
def F_dueOf (a1 a2 : Int32) (S : hs_S) : Int64 := mDue S a1 a2 (S.1 11 1 36).toNatClampNeg
def P_dueOf (a1 a2 : Int32) (S : hs_S) : Prop := (0 ≤ (4 * a1 + a2).toInt ∧ (4 * a1 + a2).toInt < 24) ∧ cN (S.1 11 1 36) 30 ∧ cN (S.1 11 1 24) 80 ∧ cN (S.1 11 1 1) 1200
abbrev mExC (S : hs_S) (o : Int32) (b : Nat) : Prop := S.1 65 1 b = o ∧ ¬ S.1 67 1 b = 0 ∧ S.1 72 1 b = -1 ∧ S.1 71 1 b = -1
def mExB (S : hs_S) (o : Int32) : Nat → Int64
  | 0 => 0
  | b + 1 => if mExC S o b then mExB S o b + (S.1 68 1 b).toInt64 * (S.1 69 1 b).toInt64 else mExB S o b + 0
def mExD (S : hs_S) (o : Int32) (acc : Int64) : Nat → Int64
  | 0 => acc
  | c + 1 => if F_dueOf o (nI c) S ≤ 0 then mExD S o acc c + 0 else mExD S o acc c + F_dueOf o (nI c) S
def F_exposureOf (a1 : Int32) (S : hs_S) : Int64 := mExD S a1 (mExB S a1 (S.1 11 1 24).toNatClampNeg) 4
/-- places of numbers that are written before they are read -/
def hs_scr (t p : Nat) : Bool := t == 89 || (t == 90 || (t == 91 || (t == 92 || (t == 94 || (t == 96 || (t == 97 || (t == 29 || (t == 30 || (t == 31 || (t == 33 || (t == 34 || (t == 38 || (t == 39 || ((t == 11 && (p == 53 || (p == 55 || p == 58))) || (t == 4 && p == 9)))))))))))))))
def hs_scR (t p : Nat) : Bool := t == 28 || (t == 4 && p == 2)
def hs_cl (S : hs_S) : hs_S := (fun t i p => if hs_scr t p = true then 0 else S.1 t i p, (fun t i p => if hs_scR t p = true then 0 else S.2.1 t i p, (S.2.2.1, S.2.2.2)))
theorem nI_addI {a b : Nat} (h : a + b < 2147483648) : nI a + nI b = nI (a + b) := by
  apply i32_eq.mpr
  have h1 : (nI a).toInt = a := nI_toInt (by omega)
  have h2 : (nI b).toInt = b := nI_toInt (by omega)
  have h3 : (nI (a + b)).toInt = ((a + b : Nat) : Int) := nI_toInt (by omega)
  rw [i32_add (by rw [h1, h2]; omega), h1, h2, h3]
  omega
def sI (f : Nat → Int) : Nat → Int
  | 0 => 0
  | n + 1 => sI f n + f n
theorem sI_c {f g : Nat → Int} (n : Nat) (h : ∀ k, k < n → f k = g k) : sI f n = sI g n := by
  induction n with
  | zero => rfl
  | succ n ih => show sI f n + f n = sI g n + g n; rw [ih fun k hk => h k (by omega), h n (by omega)]
theorem sI_le {f g : Nat → Int} (n : Nat) (h : ∀ k, k < n → f k ≤ g k) : sI f n ≤ sI g n := by
  induction n with
  | zero => exact Int.le_refl _
  | succ n ih =>
    have a := ih fun k hk => h k (by omega)
    have b := h n (by omega)
    show sI f n + f n ≤ sI g n + g n
    omega
theorem sI_mul {f : Nat → Int} {a : Int} (n : Nat) : sI (fun k => f k * a) n = sI f n * a := by
  induction n with
  | zero => exact (Int.zero_mul a).symm
  | succ n ih => show sI (fun k => f k * a) n + f n * a = (sI f n + f n) * a; rw [ih, Int.add_mul]
theorem sI_add {f g : Nat → Int} (n : Nat) : sI (fun k => f k + g k) n = sI f n + sI g n := by
  induction n with
  | zero => rfl
  | succ n ih => show sI (fun k => f k + g k) n + (f n + g n) = sI f n + f n + (sI g n + g n); rw [ih]; omega
theorem sI_u {f g : Nat → Int} {b : Nat} : ∀ n, b < n → (∀ k, k < n → k ≠ b → g k = f k) → sI g n = sI f n + (g b - f b) := by
  intro n
  induction n with
  | zero => intro h; omega
  | succ n ih =>
    intro hb h
    show sI g n + g n = sI f n + f n + (g b - f b)
    by_cases q : b = n
    · subst q
      rw [sI_c b fun k hk => h k (by omega) (by omega)]
      omega
    · rw [ih (by omega) fun k hk hk2 => h k (by omega) hk2, h n (by omega) fun w => q w.symm]
      omega
theorem sI_0 {f : Nat → Int} (n : Nat) (h : ∀ k, k < n → f k = 0) : sI f n = 0 := by
  induction n with
  | zero => rfl
  | succ n ih => show sI f n + f n = 0; rw [ih fun k hk => h k (by omega), h n (by omega)]; rfl
theorem sI_nn {f : Nat → Int} (n : Nat) (h : ∀ k, k < n → 0 ≤ f k) : 0 ≤ sI f n := by
  have := sI_le (f := fun _ => 0) n h
  rwa [sI_0 n fun _ _ => rfl] at this
theorem i32_div {a b : Int32} (ha : 0 ≤ a.toInt) (hb : 0 < b.toInt) : (a / b).toInt = a.toInt / b.toInt := by
  rw [Int32.toInt_div, Int.tdiv_eq_ediv_of_nonneg ha]
  have h1 := i32_b a
  have h2 : a.toInt / b.toInt ≤ a.toInt := Int.ediv_le_self _ ha
  have h3 : 0 ≤ a.toInt / b.toInt := Int.ediv_nonneg ha (by omega)
  exact bm32 (by omega)
/-- one of a long's bits -/
def bit (t : Int64) (k : Nat) : Bool := t.toBitVec.getLsbD k
/-- the row of what the bids have got -/
def hs_got (S : hs_S) (q : Nat → Int32) : hs_S := (fun t i p => if t = 74 ∧ i = 1 then q p else S.1 t i p, S.2)
/-- a bid of one side takes part -/
def shT (S : hs_S) (r u : Int32) (b : Nat) : Bool := decide (S.1 67 1 b = u ∧ ¬ F_takesPart (nI b) r S = 0)
abbrev shV0 (S : hs_S) (r : Int32) : Int32 := S.1 82 1 r.toNatClampNeg
/-- what it is served by -/
def shK (S : hs_S) (r u all : Int32) (b : Nat) : Int := if S.1 80 1 r.toNatClampNeg = 0 then (if u = 0 then -(S.1 69 1 b).toInt else (S.1 69 1 b).toInt) else (shV0 S r * S.1 68 1 b - shV0 S r * S.1 68 1 b / all * all).toInt
/-- what it gets in any case -/
def shB (S : hs_S) (r all : Int32) (b : Nat) : Int := if S.1 80 1 r.toNatClampNeg = 0 then 0 else (shV0 S r * S.1 68 1 b / all).toInt
/-- what it gets at most of the rest -/
def shW (S : hs_S) (r : Int32) (b : Nat) : Int := if S.1 80 1 r.toNatClampNeg = 0 then (S.1 68 1 b).toInt else 1
def shV (S : hs_S) (r u all : Int32) (n : Nat) : Int := (shV0 S r).toInt - sI (fun b => if shT S r u b then shB S r all b else 0) n
def shP (S : hs_S) (r u all : Int32) (c b : Nat) : Bool := decide (shK S r u all b < shK S r u all c ∨ (shK S r u all c = shK S r u all b ∧ c < b))
/-- what is left when it is its turn -/
def shL (S : hs_S) (r u all : Int32) (n b : Nat) : Int := shV S r u all n - sI (fun c => if shT S r u c && shP S r u all c b then shW S r c else 0) n
def shG (S : hs_S) (r u all : Int32) (n b : Nat) : Int := shB S r all b + max 0 (min (shW S r b) (shL S r u all n b))
theorem sh_all {S : hs_S} {r u all : Int32} {g : Nat} (hg : g ≤ 80) (hm : ∀ b, b < g → 1 ≤ (S.1 68 1 b).toInt ∧ (S.1 68 1 b).toInt ≤ 100) (ha : all.toInt = sI (fun b => if shT S r u b then (S.1 68 1 b).toInt else 0) g) : 0 ≤ all.toInt ∧ all.toInt ≤ 8000 ∧ ∀ b, b < g → shT S r u b = true → (S.1 68 1 b).toInt ≤ all.toInt := by
  have h0 : ∀ k, k < g → 0 ≤ (if shT S r u k then (S.1 68 1 k).toInt else 0) := fun k hk => by
    by_cases q : shT S r u k = true
    · rw [if_pos q]; have := (hm k hk).1; omega
    · rw [if_neg q]; exact Int.le_refl _
  have h1 : ∀ n, n ≤ g → sI (fun b => if shT S r u b then (S.1 68 1 b).toInt else 0) n ≤ 100 * n := by
    intro n
    induction n with
    | zero => intro _; exact Int.le_refl _
    | succ n ih =>
      intro hn
      have a := ih (by omega)
      have b : (if shT S r u n then (S.1 68 1 n).toInt else 0) ≤ 100 := by
        by_cases q : shT S r u n = true
        · rw [if_pos q]; exact (hm n (by omega)).2
        · rw [if_neg q]; omega
      show sI (fun b => if shT S r u b then (S.1 68 1 b).toInt else 0) n + (if shT S r u n then (S.1 68 1 n).toInt else 0) ≤ _
      omega
  have h2 := h1 g (Nat.le_refl _)
  refine ⟨by rw [ha]; exact sI_nn g h0, by omega, fun b hb ht => ?_⟩
  have h3 := sI_u (f := fun k => if k = b then 0 else if shT S r u k then (S.1 68 1 k).toInt else 0) (g := fun k => if shT S r u k then (S.1 68 1 k).toInt else 0) g hb (fun k _ hk => (if_neg hk).symm)
  have h4 : 0 ≤ sI (fun k => if k = b then 0 else if shT S r u k then (S.1 68 1 k).toInt else 0) g := sI_nn g fun k hk => by
    by_cases q : k = b
    · rw [if_pos q]; exact Int.le_refl _
    · rw [if_neg q]; exact h0 k hk
  rw [← ha] at h3
  simp only [if_true, ht] at h3
  omega
theorem sh_mul {S : hs_S} {r all : Int32} {b : Nat} (hv0 : 0 ≤ (shV0 S r).toInt) (hv : (shV0 S r).toInt ≤ 8000) (hm : 1 ≤ (S.1 68 1 b).toInt ∧ (S.1 68 1 b).toInt ≤ 100) : (shV0 S r * S.1 68 1 b).toInt = (shV0 S r).toInt * (S.1 68 1 b).toInt ∧ 0 ≤ (shV0 S r).toInt * (S.1 68 1 b).toInt := by
  have h1 : 0 ≤ (shV0 S r).toInt * (S.1 68 1 b).toInt := Int.mul_nonneg hv0 (by omega)
  have h2 : (shV0 S r).toInt * (S.1 68 1 b).toInt ≤ 8000 * 100 := Int.mul_le_mul hv hm.2 (by omega) (by omega)
  exact ⟨i32_mul (by omega), h1⟩
/-- the rest fits those that take part -/
theorem sh_fit {S : hs_S} {r u all : Int32} {g : Nat} (hg : g ≤ 80) (hm : ∀ b, b < g → 1 ≤ (S.1 68 1 b).toInt ∧ (S.1 68 1 b).toInt ≤ 100) (ha : all.toInt = sI (fun b => if shT S r u b then (S.1 68 1 b).toInt else 0) g) (hv0 : 0 ≤ (shV0 S r).toInt) (hv : (shV0 S r).toInt ≤ all.toInt) : 0 ≤ shV S r u all g ∧ shV S r u all g ≤ sI (fun b => if shT S r u b then shW S r b else 0) g ∧ shV S r u all g ≤ (shV0 S r).toInt := by
  obtain ⟨a0, a1, a2⟩ := sh_all hg hm ha
  by_cases hy : S.1 80 1 r.toNatClampNeg = 0
  · have e1 : shV S r u all g = (shV0 S r).toInt := by
      unfold shV shB
      rw [sI_0 g fun k _ => by simp only [if_pos hy, ite_self]]
      omega
    have e2 : sI (fun b => if shT S r u b then shW S r b else 0) g = all.toInt := by
      rw [ha]; unfold shW; simp only [if_pos hy]
    rw [e1, e2]
    exact ⟨hv0, hv, Int.le_refl _⟩
  · have hb : ∀ b, b < g → shT S r u b = true → (shB S r all b) * all.toInt ≤ (shV0 S r).toInt * (S.1 68 1 b).toInt ∧ (shV0 S r).toInt * (S.1 68 1 b).toInt ≤ (shB S r all b + 1) * all.toInt ∧ 0 ≤ shB S r all b := by
      intro b hb ht
      have ap : 0 < all.toInt := by have := a2 b hb ht; have := (hm b hb).1; omega
      obtain ⟨m1, m2⟩ := sh_mul (all := all) hv0 (by omega) (hm b hb)
      have e : shB S r all b = (shV0 S r).toInt * (S.1 68 1 b).toInt / all.toInt := by
        unfold shB
        rw [if_neg hy, i32_div (by rw [m1]; exact m2) ap, m1]
      rw [e]
      have d1 := Int.ediv_mul_le ((shV0 S r).toInt * (S.1 68 1 b).toInt) (b := all.toInt) (by omega)
      have d2 := Int.lt_ediv_add_one_mul_self ((shV0 S r).toInt * (S.1 68 1 b).toInt) ap
      exact ⟨d1, Int.le_of_lt d2, Int.ediv_nonneg m2 (by omega)⟩
    have s1 : sI (fun b => (if shT S r u b then shB S r all b else 0) * all.toInt) g ≤ sI (fun b => (if shT S r u b then (S.1 68 1 b).toInt else 0) * (shV0 S r).toInt) g := sI_le g fun b hb2 => by
      by_cases q : shT S r u b = true
      · rw [if_pos q, if_pos q, Int.mul_comm (S.1 68 1 b).toInt]; exact (hb b hb2 q).1
      · rw [if_neg q, if_neg q]; omega
    have s2 : sI (fun b => (if shT S r u b then (S.1 68 1 b).toInt else 0) * (shV0 S r).toInt) g ≤ sI (fun b => ((if shT S r u b then shB S r all b else 0) + (if shT S r u b then shW S r b else 0)) * all.toInt) g := sI_le g fun b hb2 => by
      by_cases q : shT S r u b = true
      · rw [if_pos q, if_pos q, if_pos q, Int.mul_comm (S.1 68 1 b).toInt, show shW S r b = 1 from if_neg hy]; exact (hb b hb2 q).2.1
      · rw [if_neg q, if_neg q, if_neg q]; omega
    have s3 : 0 ≤ sI (fun b => if shT S r u b then shB S r all b else 0) g := sI_nn g fun b hb2 => by
      by_cases q : shT S r u b = true
      · rw [if_pos q]; exact (hb b hb2 q).2.2
      · rw [if_neg q]; exact Int.le_refl _
    rw [sI_mul, sI_mul, ← ha] at s1
    rw [sI_mul, sI_mul, ← ha, sI_add] at s2
    have hz : 0 ≤ sI (fun b => if shT S r u b then shW S r b else 0) g := sI_nn g fun b hb2 => by
      by_cases q : shT S r u b = true
      · rw [if_pos q, show shW S r b = 1 from if_neg hy]; omega
      · rw [if_neg q]; exact Int.le_refl _
    unfold shV
    by_cases az : all.toInt = 0
    · have : sI (fun b => if shT S r u b then shB S r all b else 0) g = 0 := sI_0 g fun k hk => by
        by_cases q : shT S r u k = true
        · have := a2 k hk q; have := (hm k hk).1; omega
        · rw [if_neg q]
      rw [this]; omega
    · have ap : 0 < all.toInt := by omega
      rw [Int.mul_comm all.toInt] at s1 s2
      have t1 := Int.le_of_mul_le_mul_right s1 ap
      have t2 := Int.le_of_mul_le_mul_right s2 ap
      omega
theorem shP_as {S : hs_S} {r u all : Int32} {b c : Nat} (h : shP S r u all b c = true) : shP S r u all c b = false := by
  have h' := of_decide_eq_true h
  exact decide_eq_false fun w => by omega
theorem shP_ir {S : hs_S} {r u all : Int32} {b : Nat} : shP S r u all b b = false := decide_eq_false fun w => by omega
theorem shP_to {S : hs_S} {r u all : Int32} {b c : Nat} (h : shP S r u all b c = false) (hn : b ≠ c) : shP S r u all c b = true := by
  have h' := of_decide_eq_false h
  exact decide_eq_true (by omega)
theorem shW_1 {S : hs_S} {r : Int32} {b : Nat} (hm : 1 ≤ (S.1 68 1 b).toInt ∧ (S.1 68 1 b).toInt ≤ 100) : 1 ≤ shW S r b ∧ shW S r b ≤ 100 := by
  unfold shW
  by_cases h : S.1 80 1 r.toNatClampNeg = 0
  · rw [if_pos h]; exact hm
  · rw [if_neg h]; omega
theorem shB_b {S : hs_S} {r all : Int32} {b : Nat} (hv0 : 0 ≤ (shV0 S r).toInt) (hv : (shV0 S r).toInt ≤ 8000) (hm : 1 ≤ (S.1 68 1 b).toInt ∧ (S.1 68 1 b).toInt ≤ 100) (hp : 0 < all.toInt) : 0 ≤ shB S r all b ∧ shB S r all b ≤ 800000 := by
  unfold shB
  by_cases h : S.1 80 1 r.toNatClampNeg = 0
  · rw [if_pos h]; omega
  · obtain ⟨m1, m2⟩ := sh_mul (all := all) hv0 hv hm
    rw [if_neg h, i32_div (by rw [m1]; exact m2) hp, m1]
    have h2 : (shV0 S r).toInt * (S.1 68 1 b).toInt ≤ 8000 * 100 := Int.mul_le_mul hv hm.2 (by omega) (by omega)
    exact ⟨Int.ediv_nonneg m2 (by omega), Int.le_trans (Int.ediv_le_self _ m2) (by omega)⟩
/-- a row of numbers -/
def hs_rw (S : hs_S) (u : Nat) (q : Nat → Int32) : hs_S := (fun t i p => if t = u ∧ i = 1 then q p else S.1 t i p, S.2)
def dI (S T : hs_S) (i : Nat) : Nat → Int32
  | 0 => if S.1 81 1 i = T.1 81 1 i then (if S.1 82 1 i = T.1 82 1 i then (if S.1 83 1 i = T.1 83 1 i then 0 else 1) else 1) else 1
  | b + 1 => if dI S T i b = 0 then (if S.1 72 1 b = nI i then (if T.1 74 1 b = S.1 74 1 b then 0 else 1) else 0) else 1
def stD (S : hs_S) (col : Int32) (o : Nat) : Int := (F_dueOf (nI o) col S).toInt
/-- c pays what lacks ahead of o -/
def stB (S : hs_S) (col : Int32) (c o : Nat) : Bool := decide (stD S col o % 10 < stD S col c % 10 ∨ (stD S col c % 10 = stD S col o % 10 ∧ c < o))
def stL (S : hs_S) (col : Int32) : Int := -(sI (fun o => stD S col o / 10) 6)
def stH (S : hs_S) (col : Int32) (o : Nat) : Bool := decide (sI (fun c => if stB S col c o then 1 else 0) 6 < stL S col)
def stPay (S : hs_S) (col : Int32) (o : Nat) : Int := stD S col o / 10 + (if stH S col o then 1 else 0)
def hs_st (S : hs_S) (qc : Nat → Int32) (ql : Nat → Int64) : hs_S := (fun t i p => if t = 87 ∧ i = 1 then qc p else S.1 t i p, (S.2.1, ((fun t i p => if t = 86 ∧ i = 1 then ql p else S.2.2.1 t i p), S.2.2.2)))
theorem i64_div {a b : Int64} (ha : 0 ≤ a.toInt) (hb : 0 < b.toInt) : (a / b).toInt = a.toInt / b.toInt := by
  rw [Int64.toInt_div, Int.tdiv_eq_ediv_of_nonneg ha]
  have h1 := i64_b a
  have h2 : a.toInt / b.toInt ≤ a.toInt := Int.ediv_le_self _ ha
  have h3 : 0 ≤ a.toInt / b.toInt := Int.ediv_nonneg ha (by omega)
  exact bm64 (by omega)
/-- tables that say the same of the 24 cells -/
def gEq (E E' : gE) : Prop := ∀ n : Nat, n < 24 → E.1 (nI n) = E'.1 (nI n) ∧ ∀ i, i < E.1 (nI n) → E.2.1 (nI n) i = E'.2.1 (nI n) i ∧ (E.2.1 (nI n) i = 1 → E.2.2.1 (nI n) i = E'.2.2.1 (nI n) i ∧ (∃ m : Nat, m < 24 ∧ E.2.2.1 (nI n) i = nI m) ∧ E.2.2.2.1 (nI n) (E.2.2.1 (nI n) i) = E'.2.2.2.1 (nI n) (E.2.2.1 (nI n) i)) ∧ (E.2.1 (nI n) i ≠ 1 → ∀ p, E.2.2.2.2 (nI n) i p = E'.2.2.2.2 (nI n) i p)
theorem gev_eq {E E' : gE} (h : gEq E E') : ∀ k (n : Nat) i p, n < 24 → i ≤ E.1 (nI n) → gev E k (nI n) i p = gev E' k (nI n) i p := by
  intro k
  induction k with
  | zero => intro n i p _ _; rfl
  | succ k ih =>
    intro n i p hn hi
    obtain ⟨hs, hw⟩ := h n hn
    by_cases h1 : i = E.1 (nI n)
    · rw [gev_end h1, gev_end (h1.trans hs)]
    · have h1' : i ≠ E'.1 (nI n) := fun z => h1 (z.trans hs.symm)
      obtain ⟨w1, w2, w3⟩ := hw i (Nat.lt_of_le_of_ne hi h1)
      by_cases h2 : E.2.1 (nI n) i = 1
      · obtain ⟨a1, ⟨m, hm, a2⟩, a3⟩ := w2 h2
        by_cases h3 : E.2.2.2.1 (nI n) (E.2.2.1 (nI n) i) = false
        · rw [gev_hid h1 h2 h3, gev_hid h1' (w1.symm.trans h2) (by rw [← a1, ← a3]; exact h3)]
        · rw [gev_ask h1 h2 h3, gev_ask h1' (w1.symm.trans h2) (by rw [← a1, ← a3]; exact h3), ← a1, a2, ih m 0 [] hm (Nat.zero_le _)]
          cases gev E' k (nI m) 0 [] with
          | none => rfl
          | some r => show (if r.1 = 0 then gev E k (nI n) (i + 1) (r.2 :: p) else _) = (if r.1 = 0 then gev E' k (nI n) (i + 1) (r.2 :: p) else _); rw [ih n (i + 1) _ hn (by omega)]
      · rw [gev_word h1 h2, gev_word h1' (by rw [← w1]; exact h2), ← w3 h2 p]
        cases E.2.2.2.2 (nI n) i p with
        | inl f => rfl
        | inr p' => exact ih n (i + 1) p' hn (by omega)
theorem gVal_eq {E E' : gE} (h : gEq E E') {n : Nat} (hn : n < 24) {f v : Int32} : gVal E (nI n) f v ↔ gVal E' (nI n) f v := by
  unfold gVal
  simp only [gev_eq h _ n 0 [] hn (Nat.zero_le _)]
