/-! ===== what a cell comes to ===== -/
def lpush (n : Int64) (p : List Int32) : Int32 ⊕ List Int32 := if lg_cmp n (-1000000000) < 0 then .inl 4 else if lg_cmp n 1000000000 ≤ 0 then .inr (n.toInt32 :: p) else .inl 4
def lrk (w : Int32) : List Int32 → Int32 ⊕ List Int32
  | u :: l :: r => if w = 14 then (match r with
      | z :: r' => lpush (if z ≤ 0 then u.toInt64 else l.toInt64) r'
      | [] => .inl 0)
    else if w = 11 ∧ u = 0 then .inl 3 else lpush (mAr w l.toInt64 u.toInt64) r
  | _ => .inl 0
def mSz (S : hs_S) (c e : Int32) : Nat := if F_editAt c e S = -1 then 0 else (S.1 57 1 (F_editAt c e S).toNatClampNeg).toNatClampNeg
def mWi (S : hs_S) (c e : Int32) (i : Nat) : Int32 := nI (36 * (F_editAt c e S).toNatClampNeg + 3 * i)
abbrev mWh (S : hs_S) (c e : Int32) (i : Nat) : Int32 := S.1 59 1 (mWi S c e i).toNatClampNeg
def lstp (S : hs_S) (w e : Int32) (p : List Int32) : Int32 ⊕ List Int32 := if 8 ≤ S.1 59 1 w.toNatClampNeg then lrk (S.1 59 1 w.toNatClampNeg) p else lpush (mGn w e S) p
def ev (S : hs_S) (e : Int32) : Nat → Int32 → Nat → List Int32 → Option (Int32 × Int32)
  | 0, _, _, _ => none
  | n + 1, c, i, p =>
    if i = mSz S c e then some (0, p.headD 0)
    else if mWh S c e i = 1 then
      (if F_readsAt (F_ownerAt c e S) (mGc (mWi S c e i) S) e S = 0 then some (1, 0)
       else match ev S e n (mGc (mWi S c e i) S) 0 [] with
        | none => none
        | some r => if r.1 = 0 then ev S e n c (i + 1) (r.2 :: p) else some (r.1, 0))
    else match lstp S (mWi S c e i) e p with
      | .inl f => some (f, 0)
      | .inr p' => ev S e n c (i + 1) p'
theorem ev_end {S : hs_S} {e c : Int32} {n i : Nat} {p : List Int32} (h : i = mSz S c e) : ev S e (n + 1) c i p = some (0, p.headD 0) := by
  unfold ev; rw [if_pos h]
theorem ev_hid {S : hs_S} {e c : Int32} {n i : Nat} {p : List Int32} (h : i ≠ mSz S c e) (hw : mWh S c e i = 1) (hr : F_readsAt (F_ownerAt c e S) (mGc (mWi S c e i) S) e S = 0) : ev S e (n + 1) c i p = some (1, 0) := by
  unfold ev; rw [if_neg h, if_pos hw, if_pos hr]
theorem ev_ask {S : hs_S} {e c : Int32} {n i : Nat} {p : List Int32} (h : i ≠ mSz S c e) (hw : mWh S c e i = 1) (hr : ¬ F_readsAt (F_ownerAt c e S) (mGc (mWi S c e i) S) e S = 0) : ev S e (n + 1) c i p = (match ev S e n (mGc (mWi S c e i) S) 0 [] with
        | none => none
        | some r => if r.1 = 0 then ev S e n c (i + 1) (r.2 :: p) else some (r.1, 0)) := by
  conv => lhs; unfold ev
  rw [if_neg h, if_pos hw, if_neg hr]
theorem ev_word {S : hs_S} {e c : Int32} {n i : Nat} {p : List Int32} (h : i ≠ mSz S c e) (hw : ¬ mWh S c e i = 1) : ev S e (n + 1) c i p = (match lstp S (mWi S c e i) e p with
      | .inl f => some (f, 0)
      | .inr p' => ev S e n c (i + 1) p') := by
  conv => lhs; unfold ev
  rw [if_neg h, if_neg hw]
theorem ev_mono1 {S : hs_S} {e : Int32} : ∀ n c i p r, ev S e n c i p = some r → ev S e (n + 1) c i p = some r := by
  intro n
  induction n with
  | zero => intro c i p r h; exact nomatch h
  | succ n ih =>
    intro c i p r h
    by_cases h1 : i = mSz S c e
    · rw [ev_end h1] at h ⊢; exact h
    · by_cases h2 : mWh S c e i = 1
      · by_cases h3 : F_readsAt (F_ownerAt c e S) (mGc (mWi S c e i) S) e S = 0
        · rw [ev_hid h1 h2 h3] at h ⊢; exact h
        · rw [ev_ask h1 h2 h3] at h ⊢
          cases q : ev S e n (mGc (mWi S c e i) S) 0 [] with
          | none => rw [q] at h; exact nomatch h
          | some r' =>
            rw [q] at h
            rw [ih _ _ _ _ q]
            by_cases h4 : r'.1 = 0
            · have h' : ev S e n c (i + 1) (r'.2 :: p) = some r := by
                have : (if r'.1 = 0 then ev S e n c (i + 1) (r'.2 :: p) else some (r'.1, 0)) = some r := h
                rwa [if_pos h4] at this
              show (if r'.1 = 0 then ev S e (n + 1) c (i + 1) (r'.2 :: p) else some (r'.1, 0)) = some r
              rw [if_pos h4]; exact ih _ _ _ _ h'
            · have h' : (if r'.1 = 0 then ev S e n c (i + 1) (r'.2 :: p) else some (r'.1, 0)) = some r := h
              rw [if_neg h4] at h'
              show (if r'.1 = 0 then ev S e (n + 1) c (i + 1) (r'.2 :: p) else some (r'.1, 0)) = some r
              rw [if_neg h4]; exact h'
      · rw [ev_word h1 h2] at h ⊢
        cases q : lstp S (mWi S c e i) e p with
        | inl f => rw [q] at h; exact h
        | inr p' => rw [q] at h; exact ih _ _ _ _ h
theorem ev_mono {S : hs_S} {e c : Int32} {i : Nat} {p : List Int32} {r : Int32 × Int32} {n m : Nat} (hnm : n ≤ m) (h : ev S e n c i p = some r) : ev S e m c i p = some r := by
  induction hnm with
  | refl => exact h
  | step _ ih => exact ev_mono1 _ _ _ _ _ ih
theorem ev_fun {S : hs_S} {e c : Int32} {i : Nat} {p : List Int32} {r r' : Int32 × Int32} {n m : Nat} (h : ev S e n c i p = some r) (h' : ev S e m c i p = some r') : r = r' := by
  have a := ev_mono (Nat.le_max_left n m) h
  have b := ev_mono (Nat.le_max_right n m) h'
  exact Option.some.inj (a.symm.trans b)
/-- what a cell comes to: a fault, and its number if it has none -/
def mVal (S : hs_S) (e c f v : Int32) : Prop := (∃ n, ev S e n c 0 [] = some (f, v)) ∨ (f = 2 ∧ v = 0 ∧ ∀ n, ev S e n c 0 [] = none)
theorem mVal_fun {S : hs_S} {e c f v f' v' : Int32} (h : mVal S e c f v) (h' : mVal S e c f' v') : f = f' ∧ v = v' := by
  rcases h with ⟨n, h⟩ | ⟨h1, h2, h3⟩
  · rcases h' with ⟨m, h'⟩ | ⟨_, _, h3'⟩
    · have := ev_fun h h'
      exact ⟨congrArg Prod.fst this, congrArg Prod.snd this⟩
    · rw [h3' n] at h; exact nomatch h
  · rcases h' with ⟨m, h'⟩ | ⟨h1', h2', _⟩
    · rw [h3 m] at h'; exact nomatch h'
    · exact ⟨h1.trans h1'.symm, h2.trans h2'.symm⟩
def tkN (w : Int32) : Nat := if w < 8 then 0 else if w = 14 then 3 else 2
/-- how many numbers the first words of a cell leave -/
def ht (S : hs_S) (c e : Int32) : Nat → Nat
  | 0 => 0
  | i + 1 => ht S c e i + 1 - tkN (mWh S c e i)
theorem ht_le {S : hs_S} {c e : Int32} (i : Nat) : ht S c e i ≤ i := by
  induction i with
  | zero => exact Nat.le_refl _
  | succ i ih => show ht S c e i + 1 - _ ≤ i + 1; omega
/-- the formulas of the cells are as the draft lets them be -/
def mWF (S : hs_S) (e : Int32) : Prop := ∀ n : Nat, n < 24 → 0 < mSz S (nI n) e → mSz S (nI n) e ≤ 12 ∧ (∃ k : Nat, k < 60 ∧ F_editAt (nI n) e S = nI k) ∧ ht S (nI n) e (mSz S (nI n) e) = 1 ∧ ∀ i, i < mSz S (nI n) e → tkN (mWh S (nI n) e i) ≤ ht S (nI n) e i ∧ (mWh S (nI n) e i = 1 → ∃ m : Nat, m < 24 ∧ mGc (mWi S (nI n) e i) S = nI m)
def rng (v : Int32) : Prop := -1000000000 ≤ v.toInt ∧ v.toInt ≤ 1000000000
theorem lpush_in {n : Int64} {p q : List Int32} (h : lpush n p = .inr q) : q = n.toInt32 :: p ∧ rng n.toInt32 := by
  unfold lpush at h
  by_cases h1 : lg_cmp n (-1000000000) < 0
  · rw [if_pos h1] at h; exact nomatch h
  · rw [if_neg h1] at h
    by_cases h2 : lg_cmp n 1000000000 ≤ 0
    · rw [if_pos h2] at h
      have e := Sum.inr.inj h
      refine ⟨e.symm, ?_⟩
      have a : ¬ n < -1000000000 := fun w => h1 ((lg_cmp_lt _ _).mpr w)
      have b : n ≤ 1000000000 := (lg_cmp_le _ _).mp h2
      rw [i64_lt] at a
      rw [i64_le] at b
      have c1 : (-1000000000 : Int64).toInt = -1000000000 := rfl
      have c2 : (1000000000 : Int64).toInt = 1000000000 := rfl
      rw [c1] at a
      rw [c2] at b
      have : n.toInt32.toInt = n.toInt := by
        rw [Int64.toInt_toInt32]; exact bm32 ⟨by omega, by omega⟩
      unfold rng; omega
    · rw [if_neg h2] at h; exact nomatch h
theorem lpush_of {v : Int32} {p : List Int32} (h : rng v) : lpush v.toInt64 p = .inr (v :: p) := by
  have c1 : (-1000000000 : Int64).toInt = -1000000000 := rfl
  have c2 : (1000000000 : Int64).toInt = 1000000000 := rfl
  have a : ¬ lg_cmp v.toInt64 (-1000000000) < 0 := fun w => by
    have := (lg_cmp_lt _ _).mp w
    rw [i64_lt, i64_of, c1] at this
    have := h.1; omega
  have b : lg_cmp v.toInt64 1000000000 ≤ 0 := (lg_cmp_le _ _).mpr (by rw [i64_le, i64_of, c2]; exact h.2)
  unfold lpush
  rw [if_neg a, if_pos b]
  rw [show v.toInt64.toInt32 = v from i32_eq.mpr (by rw [Int64.toInt_toInt32, i64_of]; exact bm32 (i32_b v))]
theorem lpush_f {n : Int64} {p : List Int32} {f : Int32} (h : lpush n p = .inl f) : f = 4 := by
  unfold lpush at h
  by_cases h1 : lg_cmp n (-1000000000) < 0
  · rw [if_pos h1] at h; exact (Sum.inl.inj h).symm
  · rw [if_neg h1] at h
    by_cases h2 : lg_cmp n 1000000000 ≤ 0
    · rw [if_pos h2] at h; exact nomatch h
    · rw [if_neg h2] at h; exact (Sum.inl.inj h).symm
theorem cl_mSz {S : hs_S} {c e : Int32} : mSz (hs_cl S) c e = mSz S c e := by
  show (if F_editAt c e (hs_cl S) = -1 then 0 else (S.1 57 1 (F_editAt c e (hs_cl S)).toNatClampNeg).toNatClampNeg) = _
  rw [cl_editAt]; rfl
theorem cl_mWi {S : hs_S} {c e : Int32} {i : Nat} : mWi (hs_cl S) c e i = mWi S c e i := by
  show nI (36 * (F_editAt c e (hs_cl S)).toNatClampNeg + 3 * i) = _
  rw [cl_editAt]; rfl
theorem cl_mGn {S : hs_S} {w e : Int32} : mGn w e (hs_cl S) = mGn w e S := by
  show (if S.1 59 1 w.toNatClampNeg = 0 then (S.1 59 1 (w + 1).toNatClampNeg).toInt64 else if S.1 59 1 w.toNatClampNeg = 7 then (F_lastAt (S.1 59 1 (w + 1).toNatClampNeg) e (hs_cl S)).toInt64 else (F_bidsAt (S.1 59 1 w.toNatClampNeg) (S.1 59 1 (w + 1).toNatClampNeg) e (hs_cl S)).toInt64) = _
  rw [cl_lastAt, cl_bidsAt]
theorem cl_ev {S : hs_S} {e : Int32} : ∀ n c i p, ev (hs_cl S) e n c i p = ev S e n c i p := by
  intro n
  induction n with
  | zero => intro c i p; rfl
  | succ n ih =>
    intro c i p
    unfold ev
    rw [cl_mSz, cl_readsAt, cl_ownerAt]
    have h1 : mWh (hs_cl S) c e i = mWh S c e i := by
      show S.1 59 1 (mWi (hs_cl S) c e i).toNatClampNeg = _
      rw [cl_mWi]
    have h2 : mGc (mWi (hs_cl S) c e i) (hs_cl S) = mGc (mWi S c e i) S := by
      show 6 * S.1 59 1 (mWi (hs_cl S) c e i + 1).toNatClampNeg + S.1 59 1 (mWi (hs_cl S) c e i + 2).toNatClampNeg = _
      rw [cl_mWi]
    have h3 : lstp (hs_cl S) (mWi (hs_cl S) c e i) e p = lstp S (mWi S c e i) e p := by
      show (if 8 ≤ S.1 59 1 (mWi (hs_cl S) c e i).toNatClampNeg then lrk (S.1 59 1 (mWi (hs_cl S) c e i).toNatClampNeg) p else lpush (mGn (mWi (hs_cl S) c e i) e (hs_cl S)) p) = _
      rw [cl_mGn, cl_mWi]; rfl
    rw [h1, h2, h3]
    simp only [ih]
theorem fr_mVal {S T : hs_S} {e c f v : Int32} (h : hs_cl T = hs_cl S) (q : mVal S e c f v) : mVal T e c f v := by
  have hh : ∀ n i p, ev T e n c i p = ev S e n c i p := fun n i p => by rw [← cl_ev, h, cl_ev]
  unfold mVal
  simp only [hh]
  exact q
