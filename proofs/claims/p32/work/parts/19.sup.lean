/-! ===== numbers ===== -/
theorem hl_end {g k : Nat} (hg : g < 2147483648) (hk : k ≤ g) (h : nI g ≤ nI k) : k = g := by
  have := (nI_leI (a := g) (b := k) (by omega) (by omega)).mp h
  omega
theorem hl_go {g k : Nat} (hg : g < 2147483648) (hk : k ≤ g) (h : ¬ nI g ≤ nI k) : k < g := by
  rcases Nat.lt_or_ge k g with q | q
  · exact q
  · exact absurd ((nI_leI (a := g) (b := k) (by omega) (by omega)).mpr q) h
theorem hl_ix {k : Nat} {n : Int} (h : (k : Int) < n) (hk : k < 2147483648) : 0 ≤ (nI k).toInt ∧ (nI k).toInt < n := by
  rw [nI_toInt (by omega)]
  omega
theorem hl_cl {k : Nat} (h : k < 2147483648) : (nI k).toNatClampNeg = k := nI_clamp (by omega)
theorem hl_inj {a b : Nat} (ha : a < 2147483648) (hb : b < 2147483648) : nI a = nI b ↔ a = b := nI_eq (by omega) (by omega)
theorem hl_lt {a b : Nat} (ha : a < 2147483648) (hb : b < 2147483648) : nI a < nI b ↔ a < b := nI_ltI (by omega) (by omega)
theorem hl_le {a b : Nat} (ha : a < 2147483648) (hb : b < 2147483648) : nI a ≤ nI b ↔ a ≤ b := nI_leI (by omega) (by omega)
theorem i32_lt {a b : Int32} : a < b ↔ a.toInt < b.toInt := Int32.lt_iff_toInt_lt
theorem i32_le {a b : Int32} : a ≤ b ↔ a.toInt ≤ b.toInt := Int32.le_iff_toInt_le
theorem i64_lt {a b : Int64} : a < b ↔ a.toInt < b.toInt := Int64.lt_iff_toInt_lt
theorem i64_le {a b : Int64} : a ≤ b ↔ a.toInt ≤ b.toInt := Int64.le_iff_toInt_le
theorem i32_eq {a b : Int32} : a = b ↔ a.toInt = b.toInt := Int32.toInt_inj.symm
theorem i64_eq {a b : Int64} : a = b ↔ a.toInt = b.toInt := Int64.toInt_inj.symm
theorem bm32 {x : Int} (h : -2147483648 ≤ x ∧ x < 2147483648) : x.bmod (2 ^ 32) = x := Int.bmod_eq_of_le (by omega) (by omega)
theorem i32_sub {a b : Int32} (h : -2147483648 ≤ a.toInt - b.toInt ∧ a.toInt - b.toInt < 2147483648) : (a - b).toInt = a.toInt - b.toInt := by rw [Int32.toInt_sub]; exact bm32 h
theorem i64_of (a : Int32) : a.toInt64.toInt = a.toInt := Int32.toInt_toInt64 a
theorem hl_nx {g k : Nat} {P : Nat → Prop} (h : k < g) (hp : P (k + 1)) : ∃ q, q < g - k ∧ ∃ k', k' ≤ g ∧ nI k + 1 = nI k' ∧ P k' ∧ q = g - k' := ⟨g - (k + 1), by omega, k + 1, h, nI_1 k, hp, rfl⟩
def cN (x : Int32) (n : Nat) : Prop := ∃ g : Nat, g ≤ n ∧ x = nI g
/-- a condition's number -/
def bI (p : Prop) [Decidable p] : Int32 := if p then 1 else 0
theorem bI_01 (p : Prop) [Decidable p] : bI p = 0 ∨ bI p = 1 := by
  unfold bI
  by_cases h : p <;> simp [h]
theorem bI_t {p : Prop} [Decidable p] (h : p) : bI p = 1 := if_pos h
theorem bI_f {p : Prop} [Decidable p] (h : ¬ p) : bI p = 0 := if_neg h
theorem bI_eq0 {p : Prop} [Decidable p] : bI p = 0 ↔ ¬ p := by
  unfold bI
  by_cases h : p <;> simp [h]

def F_takes (a1 : Int32) : Int32 := if a1 < 8 then 0 else if a1 = 14 then 3 else 2
def mOwn (S : hs_S) (cell event : Int32) : Nat → Int32
  | 0 => cell / 6
  | k + 1 => if S.1 43 1 k = cell ∧ S.1 42 1 k < event then S.1 44 1 k else mOwn S cell event k
def F_ownerAt (a1 a2 : Int32) (S : hs_S) : Int32 := mOwn S a1 a2 (S.1 11 1 1).toNatClampNeg
abbrev mTl (S : hs_S) (o c e : Int32) (k : Nat) : Prop := ¬ e ≤ S.1 46 1 k ∧ S.1 48 1 k = o ∧ S.1 49 1 k - S.1 49 1 k / 4 * 4 = c / 6 ∧ ¬ c - c / 6 * 6 < S.1 49 1 k / 4 - S.1 49 1 k / 4 / 8 * 8 ∧ ¬ S.1 49 1 k / 32 - S.1 49 1 k / 32 / 8 * 8 < c - c / 6 * 6
def mLet (S : hs_S) (o c e : Int32) : Nat → Int32
  | 0 => 0
  | k + 1 => if mTl S o c e k ∧ F_ownerAt c (S.1 46 1 k) S = S.1 47 1 k then bI (S.1 49 1 k / 256 = 1) else mLet S o c e k
def F_readsAt (a1 a2 a3 : Int32) (S : hs_S) : Int32 := if F_ownerAt a2 a3 S = a1 then 1 else mLet S a1 a2 a3 (S.1 11 1 5).toNatClampNeg
def mEd (S : hs_S) (c e : Int32) : Nat → Int32
  | 0 => -1
  | k + 1 => if S.1 53 1 k = c ∧ ¬ e < S.1 56 1 k ∧ S.1 58 1 k = 0 then nI k else mEd S c e k
def F_editAt (a1 a2 : Int32) (S : hs_S) : Int32 := mEd S a1 a2 (S.1 11 1 12).toNatClampNeg
def mLast (S : hs_S) (c e : Int32) : Nat → Int32
  | 0 => 0
  | k + 1 => if S.1 77 1 k = c ∧ ¬ e ≤ S.1 79 1 k ∧ ¬ S.1 81 1 k = -1 then S.1 81 1 k else mLast S c e k
def F_lastAt (a1 a2 : Int32) (S : hs_S) : Int32 := mLast S a1 a2 (S.1 11 1 36).toNatClampNeg
abbrev mTh (S : hs_S) (b : Nat) (e : Int32) : Prop := ¬ e ≤ S.1 70 1 b ∧ (S.1 72 1 b = -1 ∨ e ≤ S.1 79 1 (S.1 72 1 b).toNatClampNeg) ∧ (S.1 71 1 b = -1 ∨ e ≤ S.1 71 1 b) ∧ S.1 73 1 b = 0
def F_isThere (a1 a2 : Int32) (S : hs_S) : Int32 := bI (mTh S a1.toNatClampNeg a2)
/-- greatest limit to buy, least to sell, how much to buy, to sell, how many -/
def mBA (S : hs_S) (c e : Int32) : Nat → Int32 × (Int32 × (Int32 × (Int32 × Int32)))
  | 0 => (0, (0, (0, (0, 0))))
  | k + 1 => if S.1 66 1 k = c ∧ ¬ F_isThere (nI k) e S = 0 then
      (if S.1 67 1 k = 0 then ((mBA S c e k).1, ((if (mBA S c e k).2.2.2.1 = 0 then S.1 69 1 k else (if (mBA S c e k).2.1 ≤ S.1 69 1 k then (mBA S c e k).2.1 else S.1 69 1 k)), ((mBA S c e k).2.2.1, ((mBA S c e k).2.2.2.1 + S.1 68 1 k, (mBA S c e k).2.2.2.2 + 1))))
       else ((if S.1 69 1 k ≤ (mBA S c e k).1 then (mBA S c e k).1 else S.1 69 1 k), ((mBA S c e k).2.1, ((mBA S c e k).2.2.1 + S.1 68 1 k, ((mBA S c e k).2.2.2.1, (mBA S c e k).2.2.2.2 + 1)))))
    else mBA S c e k
def mBS (w : Int32) (r : Int32 × (Int32 × (Int32 × (Int32 × Int32)))) : Int32 := if w = 2 then r.1 else if w = 3 then r.2.1 else if w = 4 then r.2.2.1 else if w = 5 then r.2.2.2.1 else r.2.2.2.2
def F_bidsAt (a1 a2 a3 : Int32) (S : hs_S) : Int32 := mBS a1 (mBA S a2 a3 (S.1 11 1 24).toNatClampNeg)
theorem nI_subI {a b : Nat} (h : b ≤ a) (ha : a < 2147483648) : nI a - nI b = nI (a - b) := by
  apply i32_eq.mpr
  have h1 : (nI a).toInt = a := nI_toInt (by omega)
  have h2 : (nI b).toInt = b := nI_toInt (by omega)
  have h3 : (nI (a - b)).toInt = ((a - b : Nat) : Int) := nI_toInt (by omega)
  rw [i32_sub (by rw [h1, h2]; omega), h1, h2, h3]
  omega

/-- what a word of two numbers comes to -/
def mAr (w : Int32) (a b : Int64) : Int64 := if w = 8 then a + b else if w = 9 then a - b else if w = 10 then a * b else if w = 11 then a / b else if w = 12 then (if 0 ≤ lg_cmp a b then b else a) else (if 0 ≤ lg_cmp a b then a else b)
abbrev mGc (w : Int32) (S : hs_S) : Int32 := 6 * S.1 59 1 (w + 1).toNatClampNeg + S.1 59 1 (w + 2).toNatClampNeg
/-- the number of a word that takes none -/
abbrev mGn (w e : Int32) (S : hs_S) : Int64 := if S.1 59 1 w.toNatClampNeg = 0 then (S.1 59 1 (w + 1).toNatClampNeg).toInt64 else if S.1 59 1 w.toNatClampNeg = 7 then (F_lastAt (S.1 59 1 (w + 1).toNatClampNeg) e S).toInt64 else (F_bidsAt (S.1 59 1 w.toNatClampNeg) (S.1 59 1 (w + 1).toNatClampNeg) e S).toInt64
/-! ===== what a cell comes to ===== -/
def lpush (n : Int64) (p : List Int32) : Int32 ⊕ List Int32 := if lg_cmp n (-1000000000) < 0 then .inl 4 else if lg_cmp n 1000000000 ≤ 0 then .inr (n.toInt32 :: p) else .inl 4
def lrk (w : Int32) : List Int32 → Int32 ⊕ List Int32
  | u :: l :: r => if w = 14 then (match r with
      | z :: r' => lpush (if z ≤ 0 then u.toInt64 else l.toInt64) r'
      | [] => .inl 0)
    else if w = 11 ∧ u = 0 then .inl 3 else lpush (mAr w l.toInt64 u.toInt64) r
  | _ => .inl 0
def mSz (S : hs_S) (c e : Int32) : Nat := if F_editAt c e S = -1 then 0 else (S.1 57 1 (F_editAt c e S).toNatClampNeg).toNatClampNeg
def mWi (S : hs_S) (c e : Int32) (i : Nat) : Int32 := nI (36 * (F_editAt c e S).toNatClampNeg + 3 * i)
abbrev mWh (S : hs_S) (c e : Int32) (i : Nat) : Int32 := S.1 59 1 (mWi S c e i).toNatClampNeg
def lstp (S : hs_S) (w e : Int32) (p : List Int32) : Int32 ⊕ List Int32 := if 8 ≤ S.1 59 1 w.toNatClampNeg then lrk (S.1 59 1 w.toNatClampNeg) p else lpush (mGn w e S) p
def ev (S : hs_S) (e : Int32) : Nat → Int32 → Nat → List Int32 → Option (Int32 × Int32)
  | 0, _, _, _ => none
  | n + 1, c, i, p =>
    if i = mSz S c e then some (0, p.headD 0)
    else if mWh S c e i = 1 then
      (if F_readsAt (F_ownerAt c e S) (mGc (mWi S c e i) S) e S = 0 then some (1, 0)
       else match ev S e n (mGc (mWi S c e i) S) 0 [] with
        | none => none
        | some r => if r.1 = 0 then ev S e n c (i + 1) (r.2 :: p) else some (r.1, 0))
    else match lstp S (mWi S c e i) e p with
      | .inl f => some (f, 0)
      | .inr p' => ev S e n c (i + 1) p'
def tkN (w : Int32) : Nat := if w < 8 then 0 else if w = 14 then 3 else 2
/-- how many numbers the first words of a cell leave -/
def ht (S : hs_S) (c e : Int32) : Nat → Nat
  | 0 => 0
  | i + 1 => ht S c e i + 1 - tkN (mWh S c e i)
def rng (v : Int32) : Prop := -1000000000 ≤ v.toInt ∧ v.toInt ≤ 1000000000
theorem lpush_in {n : Int64} {p q : List Int32} (h : lpush n p = .inr q) : q = n.toInt32 :: p ∧ rng n.toInt32 := by
  unfold lpush at h
  by_cases h1 : lg_cmp n (-1000000000) < 0
  · rw [if_pos h1] at h; exact nomatch h
  · rw [if_neg h1] at h
    by_cases h2 : lg_cmp n 1000000000 ≤ 0
    · rw [if_pos h2] at h
      have e := Sum.inr.inj h
      refine ⟨e.symm, ?_⟩
      have a : ¬ n < -1000000000 := fun w => h1 ((lg_cmp_lt _ _).mpr w)
      have b : n ≤ 1000000000 := (lg_cmp_le _ _).mp h2
      rw [i64_lt] at a
      rw [i64_le] at b
      have c1 : (-1000000000 : Int64).toInt = -1000000000 := rfl
      have c2 : (1000000000 : Int64).toInt = 1000000000 := rfl
      rw [c1] at a
      rw [c2] at b
      have : n.toInt32.toInt = n.toInt := by
        rw [Int64.toInt_toInt32]; exact bm32 ⟨by omega, by omega⟩
      unfold rng; omega
    · rw [if_neg h2] at h; exact nomatch h
theorem lpush_f {n : Int64} {p : List Int32} {f : Int32} (h : lpush n p = .inl f) : f = 4 := by
  unfold lpush at h
  by_cases h1 : lg_cmp n (-1000000000) < 0
  · rw [if_pos h1] at h; exact (Sum.inl.inj h).symm
  · rw [if_neg h1] at h
    by_cases h2 : lg_cmp n 1000000000 ≤ 0
    · rw [if_pos h2] at h; exact nomatch h
    · rw [if_neg h2] at h; exact (Sum.inl.inj h).symm
/-! ===== the machine that finds a cell's value ===== -/
theorem pig : ∀ (n : Nat) (l : List Nat), l.Nodup → (∀ x ∈ l, x < n) → l.length ≤ n := by
  intro n
  induction n with
  | zero =>
    intro l _ h
    cases l with
    | nil => exact Nat.le_refl _
    | cons a l => exact absurd (h a (List.mem_cons_self ..)) (by omega)
  | succ n ih =>
    intro l hn h
    by_cases q : n ∈ l
    · have h1 := ih (l.erase n) (hn.erase n) (fun x hx => by
        have h2 := h x (List.mem_of_mem_erase hx)
        have h3 : x ≠ n := fun w => by subst w; exact (List.Nodup.not_mem_erase hn) hx
        omega)
      rw [List.length_erase_of_mem q] at h1
      omega
    · exact Nat.le_succ_of_le (ih l hn (fun x hx => by
        have h2 := h x hx
        have h3 : x ≠ n := fun w => q (w ▸ hx)
        omega))
abbrev Frm := Int32 × (Nat × List Int32)
theorem cl24 {n : Nat} (h : n < 24) : (nI n).toNatClampNeg = n := hl_cl (by omega)
theorem lrk3 {w u l z : Int32} {r : List Int32} (q : w = 14) : lrk w (u :: l :: z :: r) = lpush (if z ≤ 0 then u.toInt64 else l.toInt64) r := if_pos q
theorem lrk2 {w u l : Int32} {r : List Int32} (q : ¬ w = 14) : lrk w (u :: l :: r) = if w = 11 ∧ u = 0 then .inl 3 else lpush (mAr w l.toInt64 u.toInt64) r := if_neg q
def clF (p v : Int32) : Int32 := if p = -1 then 0 else if 0 ≤ v then (if v ≤ 1000 then v else 1000) else 0
