/-! ===== what no later call reads ===== -/
/-- places of numbers that are written before they are read -/
def hs_scr (t p : Nat) : Bool := t == 89 || (t == 90 || (t == 91 || (t == 92 || (t == 94 || (t == 96 || (t == 97 || (t == 29 || (t == 30 || (t == 31 || (t == 33 || (t == 34 || (t == 38 || (t == 39 || ((t == 11 && (p == 53 || (p == 55 || p == 58))) || (t == 4 && p == 9)))))))))))))))
def hs_scR (t p : Nat) : Bool := t == 28 || (t == 4 && p == 2)
def hs_cl (S : hs_S) : hs_S := (fun t i p => if hs_scr t p = true then 0 else S.1 t i p, (fun t i p => if hs_scR t p = true then 0 else S.2.1 t i p, (S.2.2.1, S.2.2.2)))
theorem hs_cl_I {S : hs_S} {t i p : Nat} {x : Int32} (h : hs_scr t p = true) : hs_cl (hs_wI S t i p x) = hs_cl S := by
  have e : (fun t' i' p' => if hs_scr t' p' = true then (0 : Int32) else (hs_wI S t i p x).1 t' i' p') = (fun t' i' p' => if hs_scr t' p' = true then 0 else S.1 t' i' p') := by
    funext t' i' p'
    by_cases q : hs_scr t' p' = true
    · rw [if_pos q, if_pos q]
    · rw [if_neg q, if_neg q]
      show hs_u3 S.1 t i p x t' i' p' = _
      unfold hs_u3
      refine if_neg fun w => q ?_
      rw [w.1, w.2.2]; exact h
  show (_, (_, _)) = (_, (_, _))
  rw [e]; rfl
theorem hs_cl_R {S : hs_S} {t i p x : Nat} (h : hs_scR t p = true) : hs_cl (hs_wR S t i p x) = hs_cl S := by
  have e : (fun t' i' p' => if hs_scR t' p' = true then (0 : Nat) else (hs_wR S t i p x).2.1 t' i' p') = (fun t' i' p' => if hs_scR t' p' = true then 0 else S.2.1 t' i' p') := by
    funext t' i' p'
    by_cases q : hs_scR t' p' = true
    · rw [if_pos q, if_pos q]
    · rw [if_neg q, if_neg q]
      show hs_u3 S.2.1 t i p x t' i' p' = _
      unfold hs_u3
      refine if_neg fun w => q ?_
      rw [w.1, w.2.2]; exact h
  show (_, (_, _)) = (_, (_, _))
  rw [e]; rfl
theorem cl_mOwn {S : hs_S} {c e : Int32} (k : Nat) : mOwn (hs_cl S) c e k = mOwn S c e k := by
  induction k with
  | zero => rfl
  | succ k ih =>
    show (if S.1 43 1 k = c ∧ S.1 42 1 k < e then S.1 44 1 k else mOwn (hs_cl S) c e k) = mOwn S c e (k + 1)
    rw [ih]; rfl
theorem cl_ownerAt {S : hs_S} {c e : Int32} : F_ownerAt c e (hs_cl S) = F_ownerAt c e S := cl_mOwn _
theorem cl_mLet {S : hs_S} {o c e : Int32} (k : Nat) : mLet (hs_cl S) o c e k = mLet S o c e k := by
  induction k with
  | zero => rfl
  | succ k ih =>
    show (if mTl S o c e k ∧ F_ownerAt c (S.1 46 1 k) (hs_cl S) = S.1 47 1 k then bI (S.1 49 1 k / 256 = 1) else mLet (hs_cl S) o c e k) = mLet S o c e (k + 1)
    rw [ih, cl_ownerAt]; rfl
theorem cl_readsAt {S : hs_S} {o c e : Int32} : F_readsAt o c e (hs_cl S) = F_readsAt o c e S := by
  show (if F_ownerAt c e (hs_cl S) = o then 1 else mLet (hs_cl S) o c e (S.1 11 1 5).toNatClampNeg) = F_readsAt o c e S
  rw [cl_mLet, cl_ownerAt]; rfl
theorem cl_mEd {S : hs_S} {c e : Int32} (k : Nat) : mEd (hs_cl S) c e k = mEd S c e k := by
  induction k with
  | zero => rfl
  | succ k ih =>
    show (if S.1 53 1 k = c ∧ ¬ e < S.1 56 1 k ∧ S.1 58 1 k = 0 then nI k else mEd (hs_cl S) c e k) = mEd S c e (k + 1)
    rw [ih]; rfl
theorem cl_editAt {S : hs_S} {c e : Int32} : F_editAt c e (hs_cl S) = F_editAt c e S := cl_mEd _
theorem cl_isEmptyAt {S : hs_S} {c e : Int32} : F_isEmptyAt c e (hs_cl S) = F_isEmptyAt c e S := by
  show bI (F_editAt c e (hs_cl S) = -1 ∨ S.1 57 1 (F_editAt c e (hs_cl S)).toNatClampNeg = 0) = F_isEmptyAt c e S
  rw [cl_editAt]; rfl
theorem cl_mLast {S : hs_S} {c e : Int32} (k : Nat) : mLast (hs_cl S) c e k = mLast S c e k := by
  induction k with
  | zero => rfl
  | succ k ih =>
    show (if S.1 77 1 k = c ∧ ¬ e ≤ S.1 79 1 k ∧ ¬ S.1 81 1 k = -1 then S.1 81 1 k else mLast (hs_cl S) c e k) = mLast S c e (k + 1)
    rw [ih]; rfl
theorem cl_lastAt {S : hs_S} {c e : Int32} : F_lastAt c e (hs_cl S) = F_lastAt c e S := cl_mLast _
theorem cl_mBA {S : hs_S} {c e : Int32} (k : Nat) : mBA (hs_cl S) c e k = mBA S c e k := by
  induction k with
  | zero => rfl
  | succ k ih =>
    unfold mBA
    rw [ih]; rfl
theorem cl_bidsAt {S : hs_S} {w c e : Int32} : F_bidsAt w c e (hs_cl S) = F_bidsAt w c e S := by
  show mBS w (mBA (hs_cl S) c e (S.1 11 1 24).toNatClampNeg) = _
  rw [cl_mBA]; rfl
theorem fr_ownerAt {S T : hs_S} {c e : Int32} (h : hs_cl T = hs_cl S) : F_ownerAt c e T = F_ownerAt c e S := by rw [← cl_ownerAt, h, cl_ownerAt]
theorem fr_readsAt {S T : hs_S} {o c e : Int32} (h : hs_cl T = hs_cl S) : F_readsAt o c e T = F_readsAt o c e S := by rw [← cl_readsAt, h, cl_readsAt]
theorem fr_editAt {S T : hs_S} {c e : Int32} (h : hs_cl T = hs_cl S) : F_editAt c e T = F_editAt c e S := by rw [← cl_editAt, h, cl_editAt]
theorem fr_isEmptyAt {S T : hs_S} {c e : Int32} (h : hs_cl T = hs_cl S) : F_isEmptyAt c e T = F_isEmptyAt c e S := by rw [← cl_isEmptyAt, h, cl_isEmptyAt]
theorem fr_lastAt {S T : hs_S} {c e : Int32} (h : hs_cl T = hs_cl S) : F_lastAt c e T = F_lastAt c e S := by rw [← cl_lastAt, h, cl_lastAt]
theorem fr_bidsAt {S T : hs_S} {w c e : Int32} (h : hs_cl T = hs_cl S) : F_bidsAt w c e T = F_bidsAt w c e S := by rw [← cl_bidsAt, h, cl_bidsAt]
/-- a place of numbers that is kept -/
theorem hs_clI {S T : hs_S} (h : hs_cl T = hs_cl S) {t i p : Nat} (q : hs_scr t p = false) : T.1 t i p = S.1 t i p := by
  have := congrArg (fun X : hs_S => X.1 t i p) h
  have a : ∀ X : hs_S, (hs_cl X).1 t i p = X.1 t i p := fun X => by
    show (if hs_scr t p = true then 0 else X.1 t i p) = _
    rw [q]; exact if_neg (by decide)
  exact (a T).symm.trans (this.trans (a S))
theorem hs_clR {S T : hs_S} (h : hs_cl T = hs_cl S) {t i p : Nat} (q : hs_scR t p = false) : T.2.1 t i p = S.2.1 t i p := by
  have := congrArg (fun X : hs_S => X.2.1 t i p) h
  have a : ∀ X : hs_S, (hs_cl X).2.1 t i p = X.2.1 t i p := fun X => by
    show (if hs_scR t p = true then 0 else X.2.1 t i p) = _
    rw [q]; exact if_neg (by decide)
  exact (a T).symm.trans (this.trans (a S))
theorem nI_subI {a b : Nat} (h : b ≤ a) (ha : a < 2147483648) : nI a - nI b = nI (a - b) := by
  apply i32_eq.mpr
  have h1 : (nI a).toInt = a := nI_toInt (by omega)
  have h2 : (nI b).toInt = b := nI_toInt (by omega)
  have h3 : (nI (a - b)).toInt = ((a - b : Nat) : Int) := nI_toInt (by omega)
  rw [i32_sub (by rw [h1, h2]; omega), h1, h2, h3]
  omega
