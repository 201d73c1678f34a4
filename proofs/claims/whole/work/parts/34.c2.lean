/-! ===== what clearing leaves ===== -/
/-- rows that reckoning a round writes -/
def hs_scc (t p : Nat) : Bool := hs_scr t p || (t == 74 || (t == 81 || (t == 82 || (t == 83 || t == 84))))
def hs_c2 (S : hs_S) : hs_S := (fun t i p => if hs_scc t p = true then 0 else S.1 t i p, (fun t i p => if hs_scR t p = true then 0 else S.2.1 t i p, (S.2.2.1, S.2.2.2)))
theorem c2_of {S T : hs_S} (h : hs_cl T = hs_cl S) : hs_c2 T = hs_c2 S := by
  have e : ∀ X : hs_S, hs_c2 X = (fun t i p => if hs_scc t p = true then 0 else (hs_cl X).1 t i p, (hs_cl X).2) := fun X => by
    have e1 : (hs_c2 X).1 = fun t i p => if hs_scc t p = true then 0 else (hs_cl X).1 t i p := by
      funext t i p
      show (if hs_scc t p = true then 0 else X.1 t i p) = if hs_scc t p = true then 0 else (if hs_scr t p = true then 0 else X.1 t i p)
      by_cases q : hs_scc t p = true
      · rw [if_pos q, if_pos q]
      · have : ¬ hs_scr t p = true := fun z => q (by unfold hs_scc; rw [z]; rfl)
        rw [if_neg q, if_neg q, if_neg this]
    exact Prod.ext e1 rfl
  rw [e T, e S, h]
theorem c2_I {S : hs_S} {t i p : Nat} {x : Int32} (h : hs_scc t p = true) : hs_c2 (hs_wI S t i p x) = hs_c2 S := by
  have e : (hs_c2 (hs_wI S t i p x)).1 = (hs_c2 S).1 := by
    funext t' i' p'
    show (if hs_scc t' p' = true then (0 : Int32) else hs_u3 S.1 t i p x t' i' p') = (if hs_scc t' p' = true then 0 else S.1 t' i' p')
    by_cases q : hs_scc t' p' = true
    · rw [if_pos q, if_pos q]
    · rw [if_neg q, if_neg q]
      unfold hs_u3
      refine if_neg fun w => q ?_
      rw [w.1, w.2.2]; exact h
  exact Prod.ext e rfl
theorem c2_got {S : hs_S} {q : Nat → Int32} : hs_c2 (hs_got S q) = hs_c2 S := by
  have e : (hs_c2 (hs_got S q)).1 = (hs_c2 S).1 := by
    funext t i p
    show (if hs_scc t p = true then (0 : Int32) else if t = 74 ∧ i = 1 then q p else S.1 t i p) = (if hs_scc t p = true then 0 else S.1 t i p)
    by_cases w : hs_scc t p = true
    · rw [if_pos w, if_pos w]
    · rw [if_neg w, if_neg w]
      refine if_neg fun z => w ?_
      rw [z.1]; rfl
  exact Prod.ext e rfl
theorem c2_clI {S T : hs_S} (h : hs_c2 T = hs_c2 S) {t i p : Nat} (q : hs_scc t p = false) : T.1 t i p = S.1 t i p := by
  have := congrArg (fun X : hs_S => X.1 t i p) h
  have a : ∀ X : hs_S, (hs_c2 X).1 t i p = X.1 t i p := fun X => by
    show (if hs_scc t p = true then 0 else X.1 t i p) = _
    rw [q]; exact if_neg (by decide)
  exact (a T).symm.trans (this.trans (a S))
theorem c2_mOwn {S : hs_S} {c e : Int32} (k : Nat) : mOwn (hs_c2 S) c e k = mOwn S c e k := by
  induction k with
  | zero => rfl
  | succ k ih =>
    show (if S.1 43 1 k = c ∧ S.1 42 1 k < e then S.1 44 1 k else mOwn (hs_c2 S) c e k) = mOwn S c e (k + 1)
    rw [ih]; rfl
theorem c2_ownerAt {S : hs_S} {c e : Int32} : F_ownerAt c e (hs_c2 S) = F_ownerAt c e S := c2_mOwn _
theorem c2_mLet {S : hs_S} {o c e : Int32} (k : Nat) : mLet (hs_c2 S) o c e k = mLet S o c e k := by
  induction k with
  | zero => rfl
  | succ k ih =>
    show (if mTl S o c e k ∧ F_ownerAt c (S.1 46 1 k) (hs_c2 S) = S.1 47 1 k then bI (S.1 49 1 k / 256 = 1) else mLet (hs_c2 S) o c e k) = mLet S o c e (k + 1)
    rw [ih, c2_ownerAt]; rfl
theorem c2_readsAt {S : hs_S} {o c e : Int32} : F_readsAt o c e (hs_c2 S) = F_readsAt o c e S := by
  show (if F_ownerAt c e (hs_c2 S) = o then 1 else mLet (hs_c2 S) o c e (S.1 11 1 5).toNatClampNeg) = F_readsAt o c e S
  rw [c2_mLet, c2_ownerAt]; rfl
theorem c2_mEd {S : hs_S} {c e : Int32} (k : Nat) : mEd (hs_c2 S) c e k = mEd S c e k := by
  induction k with
  | zero => rfl
  | succ k ih =>
    show (if S.1 53 1 k = c ∧ ¬ e < S.1 56 1 k ∧ S.1 58 1 k = 0 then nI k else mEd (hs_c2 S) c e k) = mEd S c e (k + 1)
    rw [ih]; rfl
theorem c2_editAt {S : hs_S} {c e : Int32} : F_editAt c e (hs_c2 S) = F_editAt c e S := c2_mEd _
theorem c2_mSz {S : hs_S} {c e : Int32} : mSz (hs_c2 S) c e = mSz S c e := by
  show (if F_editAt c e (hs_c2 S) = -1 then 0 else (S.1 57 1 (F_editAt c e (hs_c2 S)).toNatClampNeg).toNatClampNeg) = _
  rw [c2_editAt]; rfl
theorem c2_mWi {S : hs_S} {c e : Int32} {i : Nat} : mWi (hs_c2 S) c e i = mWi S c e i := by
  show nI (36 * (F_editAt c e (hs_c2 S)).toNatClampNeg + 3 * i) = _
  rw [c2_editAt]; rfl
theorem c2_mWh {S : hs_S} {c e : Int32} {i : Nat} : mWh (hs_c2 S) c e i = mWh S c e i := by
  show S.1 59 1 (mWi (hs_c2 S) c e i).toNatClampNeg = _
  rw [c2_mWi]
theorem c2_mGc {S : hs_S} {c e : Int32} {i : Nat} : mGc (mWi (hs_c2 S) c e i) (hs_c2 S) = mGc (mWi S c e i) S := by
  show 6 * S.1 59 1 (mWi (hs_c2 S) c e i + 1).toNatClampNeg + S.1 59 1 (mWi (hs_c2 S) c e i + 2).toNatClampNeg = _
  rw [c2_mWi]
theorem c2_ht {S : hs_S} {c e : Int32} (i : Nat) : ht (hs_c2 S) c e i = ht S c e i := by
  induction i with
  | zero => rfl
  | succ i ih => show ht (hs_c2 S) c e i + 1 - tkN (mWh (hs_c2 S) c e i) = _; rw [ih, c2_mWh]; rfl
theorem c2_isEmptyAt {S : hs_S} {c e : Int32} : F_isEmptyAt c e (hs_c2 S) = F_isEmptyAt c e S := by
  show bI (F_editAt c e (hs_c2 S) = -1 ∨ S.1 57 1 (F_editAt c e (hs_c2 S)).toNatClampNeg = 0) = F_isEmptyAt c e S
  rw [c2_editAt]; rfl
theorem c2_mWF {S : hs_S} {e : Int32} : mWF (hs_c2 S) e ↔ mWF S e := by
  unfold mWF
  simp only [c2_mSz, c2_editAt, c2_ht, c2_mWh, c2_mGc]
theorem c2_mWE {S : hs_S} {e : Int32} : mWE (hs_c2 S) e ↔ mWE S e := by
  unfold mWE
  simp only [c2_editAt]
  exact Iff.rfl
theorem c2_mOk {S T : hs_S} {e : Int32} (h : hs_c2 T = hs_c2 S) (q : mOk e S) : mOk e T := by
  obtain ⟨q1, q2, q3, q4, q5, q6, ⟨g, hg, eg, hb⟩⟩ := q
  refine ⟨c2_mWF.mp (h ▸ c2_mWF.mpr q1), c2_mWE.mp (h ▸ c2_mWE.mpr q2), ?_, ?_, ?_, ?_, ⟨g, hg, (c2_clI h rfl).trans eg, fun b hb2 => ?_⟩⟩
  · rw [c2_clI h rfl]; exact q3
  · rw [c2_clI h rfl]; exact q4
  · rw [c2_clI h rfl]; exact q5
  · show cN (T.1 11 1 36) 30
    rw [c2_clI h rfl]; exact q6
  · have := hb b hb2
    unfold P_isThere at this ⊢
    rw [c2_clI h rfl]; exact this
theorem fr2_isEmptyAt {S T : hs_S} {c e : Int32} (h : hs_c2 T = hs_c2 S) : F_isEmptyAt c e T = F_isEmptyAt c e S := by rw [← c2_isEmptyAt, h, c2_isEmptyAt]
theorem cl_mSum {S : hs_S} {r w : Int32} (k : Nat) : mSum (hs_cl S) r w k = mSum S r w k := by
  induction k with
  | zero => rfl
  | succ k ih =>
    show (if S.1 67 1 k = w ∧ ¬ F_takesPart (nI k) r S = 0 then mSum (hs_cl S) r w k + S.1 68 1 k else mSum (hs_cl S) r w k + 0) = mSum S r w (k + 1)
    rw [ih]; rfl
theorem got_mSum {S : hs_S} {r w : Int32} {q : Nat → Int32} (k : Nat) : mSum (hs_got S q) r w k = mSum S r w k := by
  induction k with
  | zero => rfl
  | succ k ih =>
    show (if S.1 67 1 k = w ∧ ¬ F_takesPart (nI k) r S = 0 then mSum (hs_got S q) r w k + S.1 68 1 k else mSum (hs_got S q) r w k + 0) = mSum S r w (k + 1)
    rw [ih]; rfl
theorem cl_sumOf {S : hs_S} {r w : Int32} : F_sumOf r w (hs_cl S) = F_sumOf r w S := cl_mSum _
theorem got_sumOf {S : hs_S} {r w : Int32} {q : Nat → Int32} : F_sumOf r w (hs_got S q) = F_sumOf r w S := got_mSum _
theorem fr_sumOf {S T : hs_S} {r w : Int32} (h : hs_cl T = hs_cl S) : F_sumOf r w T = F_sumOf r w S := by rw [← cl_sumOf, h, cl_sumOf]
/-- a side's sum is a sum -/
theorem sum_is {S : hs_S} {r w : Int32} {g : Nat} (hg : g ≤ 80) (hm : ∀ b, b < g → 1 ≤ (S.1 68 1 b).toInt ∧ (S.1 68 1 b).toInt ≤ 100) : ∀ k, k ≤ g → (mSum S r w k).toInt = sI (fun b => if shT S r w b then (S.1 68 1 b).toInt else 0) k ∧ 0 ≤ (mSum S r w k).toInt ∧ (mSum S r w k).toInt ≤ 100 * k := by
  intro k
  induction k with
  | zero => intro _; exact ⟨rfl, Int.le_refl _, Int.le_refl _⟩
  | succ k ih =>
    intro hk
    obtain ⟨i1, i2, i3⟩ := ih (by omega)
    have m := hm k (by omega)
    show (mSum S r w (k + 1)).toInt = sI _ k + (if shT S r w k then (S.1 68 1 k).toInt else 0) ∧ _
    unfold mSum
    by_cases q : S.1 67 1 k = w ∧ ¬ F_takesPart (nI k) r S = 0
    · have h1 : shT S r w k = true := decide_eq_true q
      rw [if_pos q, h1, i32_add (by omega), i1, if_pos rfl]
      rw [i1] at i2 i3
      exact ⟨rfl, by omega, by omega⟩
    · have h1 : shT S r w k = false := decide_eq_false q
      have z0 : (0 : Int32).toInt = 0 := rfl
      rw [if_neg q, h1, i32_add (by omega), i1, if_neg (by decide)]
      rw [i1] at i2 i3
      exact ⟨rfl, by omega, by omega⟩
theorem shT_cl {S T : hs_S} {r u : Int32} {b : Nat} (h : hs_cl T = hs_cl S) : shT T r u b = shT S r u b := by
  have a : ∀ X : hs_S, shT (hs_cl X) r u b = shT X r u b := fun X => rfl
  rw [← a T, h, a S]
theorem cl_wI {S T : hs_S} {t i p : Nat} {x : Int32} (h : hs_cl T = hs_cl S) : hs_cl (hs_wI T t i p x) = hs_cl (hs_wI S t i p x) := by
  have e : ∀ X : hs_S, (hs_cl (hs_wI X t i p x)).1 = fun t' i' p' => if hs_scr t' p' = true then 0 else if t' = t ∧ i' = i ∧ p' = p then x else (hs_cl X).1 t' i' p' := fun X => by
    funext t' i' p'
    show (if hs_scr t' p' = true then (0 : Int32) else if t' = t ∧ i' = i ∧ p' = p then x else X.1 t' i' p') = if hs_scr t' p' = true then 0 else if t' = t ∧ i' = i ∧ p' = p then x else (if hs_scr t' p' = true then 0 else X.1 t' i' p')
    by_cases q : hs_scr t' p' = true
    · rw [if_pos q, if_pos q]
    · rw [if_neg q, if_neg q, if_neg q]
  have e2 : ∀ X : hs_S, (hs_cl (hs_wI X t i p x)).2 = (hs_cl X).2 := fun X => rfl
  exact Prod.ext (by rw [e, e, h]) (by rw [e2, e2, h])
theorem cl_got {S T : hs_S} {q : Nat → Int32} (h : hs_cl T = hs_cl S) : hs_cl (hs_got T q) = hs_cl (hs_got S q) := by
  have e : ∀ X : hs_S, (hs_cl (hs_got X q)).1 = fun t' i' p' => if hs_scr t' p' = true then 0 else if t' = 74 ∧ i' = 1 then q p' else (hs_cl X).1 t' i' p' := fun X => by
    funext t' i' p'
    show (if hs_scr t' p' = true then (0 : Int32) else if t' = 74 ∧ i' = 1 then q p' else X.1 t' i' p') = if hs_scr t' p' = true then 0 else if t' = 74 ∧ i' = 1 then q p' else (if hs_scr t' p' = true then 0 else X.1 t' i' p')
    by_cases q : hs_scr t' p' = true
    · rw [if_pos q, if_pos q]
    · rw [if_neg q, if_neg q, if_neg q]
  have e2 : ∀ X : hs_S, (hs_cl (hs_got X q)).2 = (hs_cl X).2 := fun X => rfl
  exact Prod.ext (by rw [e, e, h]) (by rw [e2, e2, h])
theorem got_got {S : hs_S} {q q' : Nat → Int32} : hs_got (hs_got S q) q' = hs_got S q' := by
  have e : (hs_got (hs_got S q) q').1 = (hs_got S q').1 := by
    funext t i p
    show (if t = 74 ∧ i = 1 then q' p else if t = 74 ∧ i = 1 then q p else S.1 t i p) = if t = 74 ∧ i = 1 then q' p else S.1 t i p
    by_cases h : t = 74 ∧ i = 1
    · rw [if_pos h, if_pos h]
    · rw [if_neg h, if_neg h, if_neg h]
  exact Prod.ext e rfl
theorem got_w {S : hs_S} {q q' : Nat → Int32} {t i p : Nat} {x : Int32} (h : t ≠ 74) : hs_got (hs_wI (hs_got S q) t i p x) q' = hs_got (hs_wI S t i p x) q' := by
  have e : (hs_got (hs_wI (hs_got S q) t i p x) q').1 = (hs_got (hs_wI S t i p x) q').1 := by
    funext t' i' p'
    show (if t' = 74 ∧ i' = 1 then q' p' else if t' = t ∧ i' = i ∧ p' = p then x else if t' = 74 ∧ i' = 1 then q p' else S.1 t' i' p') = if t' = 74 ∧ i' = 1 then q' p' else if t' = t ∧ i' = i ∧ p' = p then x else S.1 t' i' p'
    by_cases w : t' = 74 ∧ i' = 1
    · rw [if_pos w, if_pos w]
    · rw [if_neg w, if_neg w, if_neg w]
  exact Prod.ext e rfl
theorem shG_cl {S T : hs_S} {r u all : Int32} {n b : Nat} (h : hs_cl T = hs_cl S) : shG T r u all n b = shG S r u all n b := by
  have a : ∀ X : hs_S, shG (hs_cl X) r u all n b = shG X r u all n b := fun X => rfl
  rw [← a T, h, a S]
theorem w82_mSum {S : hs_S} {r w : Int32} {j : Nat} {x : Int32} (k : Nat) : mSum (hs_wI S 82 1 j x) r w k = mSum S r w k := by
  induction k with
  | zero => rfl
  | succ k ih =>
    show (if S.1 67 1 k = w ∧ ¬ F_takesPart (nI k) r S = 0 then mSum (hs_wI S 82 1 j x) r w k + S.1 68 1 k else mSum (hs_wI S 82 1 j x) r w k + 0) = mSum S r w (k + 1)
    rw [ih]; rfl
theorem w82_sumOf {S : hs_S} {r w : Int32} {j : Nat} {x : Int32} : F_sumOf r w (hs_wI S 82 1 j x) = F_sumOf r w S := w82_mSum _
