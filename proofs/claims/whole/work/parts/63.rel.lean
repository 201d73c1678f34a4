/-! ===== both sides' states, held against one another ===== -/
def rdR (a42 a43 a44 : Nat → Int32) (ng : Nat) (a46 a47 a48 a49 : Nat → Int32) (nl : Nat) (o c e : Int32) : Int32 := if ownR a42 a43 a44 c e ng = o then 1 else letR a42 a43 a44 ng a46 a47 a48 a49 o c e nl
def mX0 (a42 a43 a44 a46 a47 a48 a49 a53 a56 a57 a58 a59 a66 a67 a68 a69 a70 a71 a72 a73 a77 a79 a81 : Nat → Int32) (ng nl nE nB nR : Nat) (e : Int32) : gE :=
  (fun c => if edR a53 a56 a58 c e nE = -1 then 0 else (a57 (edR a53 a56 a58 c e nE).toNatClampNeg).toNatClampNeg,
  (fun c i => a59 (nI (36 * (edR a53 a56 a58 c e nE).toNatClampNeg + 3 * i)).toNatClampNeg,
  (fun c i => 6 * a59 (nI (36 * (edR a53 a56 a58 c e nE).toNatClampNeg + 3 * i) + 1).toNatClampNeg + a59 (nI (36 * (edR a53 a56 a58 c e nE).toNatClampNeg + 3 * i) + 2).toNatClampNeg,
  (fun c x => !decide (rdR a42 a43 a44 ng a46 a47 a48 a49 nl (ownR a42 a43 a44 c e ng) x e = 0),
   fun c i p => if 8 ≤ a59 (nI (36 * (edR a53 a56 a58 c e nE).toNatClampNeg + 3 * i)).toNatClampNeg then lrk (a59 (nI (36 * (edR a53 a56 a58 c e nE).toNatClampNeg + 3 * i)).toNatClampNeg) p else lpush (if a59 (nI (36 * (edR a53 a56 a58 c e nE).toNatClampNeg + 3 * i)).toNatClampNeg = 0 then (a59 (nI (36 * (edR a53 a56 a58 c e nE).toNatClampNeg + 3 * i) + 1).toNatClampNeg).toInt64 else if a59 (nI (36 * (edR a53 a56 a58 c e nE).toNatClampNeg + 3 * i)).toNatClampNeg = 7 then (lastR a77 a79 a81 (a59 (nI (36 * (edR a53 a56 a58 c e nE).toNatClampNeg + 3 * i) + 1).toNatClampNeg) e nR).toInt64 else (mBS (a59 (nI (36 * (edR a53 a56 a58 c e nE).toNatClampNeg + 3 * i)).toNatClampNeg) (baR a66 a67 a68 a69 a70 a71 a72 a73 a79 (a59 (nI (36 * (edR a53 a56 a58 c e nE).toNatClampNeg + 3 * i) + 1).toNatClampNeg) e nB)).toInt64) p))))
abbrev mX (V : hs_S) (ng nl nE nB nR : Nat) (e : Int32) : gE := mX0 (V.1 42 1) (V.1 43 1) (V.1 44 1) (V.1 46 1) (V.1 47 1) (V.1 48 1) (V.1 49 1) (V.1 53 1) (V.1 56 1) (V.1 57 1) (V.1 58 1) (V.1 59 1) (V.1 66 1) (V.1 67 1) (V.1 68 1) (V.1 69 1) (V.1 70 1) (V.1 71 1) (V.1 72 1) (V.1 73 1) (V.1 77 1) (V.1 79 1) (V.1 81 1) ng nl nE nB nR e
theorem read_r {S : hs_S} {o c e : Int32} : F_readsAt o c e S = rdR (S.1 42 1) (S.1 43 1) (S.1 44 1) (S.1 11 1 1).toNatClampNeg (S.1 46 1) (S.1 47 1) (S.1 48 1) (S.1 49 1) (S.1 11 1 5).toNatClampNeg o c e := by
  unfold F_readsAt rdR
  rw [own_r, let_r]
theorem mE_r {V : hs_S} {ng nl nE nB nR : Nat} (h1 : V.1 11 1 1 = nI ng) (h5 : V.1 11 1 5 = nI nl) (h12 : V.1 11 1 12 = nI nE) (h24 : V.1 11 1 24 = nI nB) (h36 : V.1 11 1 36 = nI nR) (l1 : ng ≤ 1200) (l5 : nl ≤ 1200) (l12 : nE ≤ 60) (l24 : nB ≤ 80) (l36 : nR ≤ 30) (e : Int32) : mE V e = mX V ng nl nE nB nR e := by
  have c1 : (V.1 11 1 1).toNatClampNeg = ng := by rw [h1]; exact hl_cl (by omega)
  have c5 : (V.1 11 1 5).toNatClampNeg = nl := by rw [h5]; exact hl_cl (by omega)
  have c12 : (V.1 11 1 12).toNatClampNeg = nE := by rw [h12]; exact hl_cl (by omega)
  have c24 : (V.1 11 1 24).toNatClampNeg = nB := by rw [h24]; exact hl_cl (by omega)
  have c36 : (V.1 11 1 36).toNatClampNeg = nR := by rw [h36]; exact hl_cl (by omega)
  have eed : ∀ c, F_editAt c e V = edR (V.1 53 1) (V.1 56 1) (V.1 58 1) c e nE := fun c => by rw [ed_r, c12]
  have eow : ∀ c, F_ownerAt c e V = ownR (V.1 42 1) (V.1 43 1) (V.1 44 1) c e ng := fun c => by rw [own_r, c1]
  have ela : ∀ c, F_lastAt c e V = lastR (V.1 77 1) (V.1 79 1) (V.1 81 1) c e nR := fun c => by rw [last_r, c36]
  have eba : ∀ w c, F_bidsAt w c e V = mBS w (baR (V.1 66 1) (V.1 67 1) (V.1 68 1) (V.1 69 1) (V.1 70 1) (V.1 71 1) (V.1 72 1) (V.1 73 1) (V.1 79 1) c e nB) := fun w c => by
    unfold F_bidsAt
    rw [ba_r (by rw [c24]; exact h24) (by omega) _ (Nat.le_refl _), c24]
  refine Prod.ext (funext fun c => ?_) (Prod.ext (funext fun c => funext fun i => ?_) (Prod.ext (funext fun c => funext fun i => ?_) (Prod.ext (funext fun c => funext fun x => ?_) (funext fun c => funext fun i => funext fun p => ?_))))
  · show mSz V c e = _
    unfold mSz mX mX0
    rw [eed]
  · show mWh V c e i = _
    unfold mWh mWi mX mX0
    rw [eed]
  · show mGc (mWi V c e i) V = _
    unfold mGc mWi mX mX0
    rw [eed]
  · show (!decide (F_readsAt (F_ownerAt c e V) x e V = 0)) = (!decide (rdR (V.1 42 1) (V.1 43 1) (V.1 44 1) ng (V.1 46 1) (V.1 47 1) (V.1 48 1) (V.1 49 1) nl (ownR (V.1 42 1) (V.1 43 1) (V.1 44 1) c e ng) x e = 0))
    rw [read_r, eow, c1, c5]
  · show lstp V (mWi V c e i) e p = _
    unfold lstp mGn mWi mX mX0
    simp only [eed, ela, eba]
/-! the parts of what holds -/
def rA (n : Nat) (U V : hs_S) (ev ng nl nE nB nR nd : Nat) : Prop :=
  ((ev ≤ n ∧ n ≤ 512) ∧ (ng ≤ ev ∧ nl ≤ ev) ∧ (nE ≤ 60 ∧ nB ≤ 80) ∧ nR ≤ 30 ∧ nd ≤ 12) ∧
  (U.1 10 1 5 = nI ev ∧ V.1 11 1 0 = nI ev ∧ V.1 11 1 1 = nI ng ∧ V.1 11 1 5 = nI nl ∧ V.1 11 1 12 = nI nE ∧ V.1 11 1 24 = nI nB ∧ V.1 11 1 36 = nI nR ∧ V.1 11 1 10 = nI nd) ∧
  (U.2.1 12 2 0 = nE ∧ U.2.2.2 3 = nE ∧ U.2.1 13 2 0 = nB ∧ U.2.2.2 0 = nB ∧ U.2.1 14 2 0 = nR) ∧
  (U.2.2.2 7 = U.2.2.2 8 + 1 ∧ U.2.2.2 20 = U.2.2.2 7 ∧ U.2.2.2 21 = U.2.2.2 7 ∧ U.2.2.2 22 = U.2.2.2 5 ∧ U.2.2.2 23 = U.2.2.2 5 ∧ U.2.2.2 24 = U.2.2.2 5)
def rG (u20 u21 : Nat → Int32) (a42 a43 a44 : Nat → Int32) (ng : Nat) (a46 a47 a48 a49 : Nat → Int32) (nl : Nat) (e : Int32) : Prop := ∀ c : Nat, c < 24 → u20 c = ownR a42 a43 a44 (nI c) e ng ∧ (∃ o : Nat, o < 6 ∧ u20 c = nI o) ∧ ∀ o : Nat, o < 6 → ((u21 c >>> (nI o &&& 31)) &&& 1 = 1 ↔ letR a42 a43 a44 ng a46 a47 a48 a49 (nI o) (nI c) e nl = 1)
abbrev rGs (U V : hs_S) (i ng nl : Nat) (e : Int32) : Prop := rG (U.1 20 i) (U.1 21 i) (V.1 42 1) (V.1 43 1) (V.1 44 1) ng (V.1 46 1) (V.1 47 1) (V.1 48 1) (V.1 49 1) nl e
def rH (V : hs_S) (ev ng nl : Nat) : Prop := (∀ k, k < ng → ∃ m : Nat, m < ev ∧ V.1 42 1 k = nI m) ∧ ∀ k, k < nl → ∃ m : Nat, m < ev ∧ V.1 46 1 k = nI m
def fC (U V : hs_S) (f k : Nat) : Prop := f ≠ 0 ∧ f < U.2.1 9 1 4 ∧ fOk U f ∧ ∃ g : Nat, g ≤ 12 ∧ U.1 5 f 3 = nI g ∧ V.1 57 1 k = nI g ∧ (0 < g → cht U f g = 1) ∧ ∀ i, i < g → U.1 22 f i = V.1 59 1 (36 * k + 3 * i) ∧ U.1 23 f i = V.1 59 1 (36 * k + 3 * i + 1) ∧ U.1 24 f i = V.1 59 1 (36 * k + 3 * i + 2)
def rE1 (U V : hs_S) (ev k : Nat) : Prop := (U.2.1 12 1 k = k + 1 ∧ U.1 3 (k + 1) 0 = nI k) ∧ (∃ c : Nat, c < 24 ∧ V.1 53 1 k = nI c ∧ U.1 3 (k + 1) 1 = nI c) ∧ (U.1 3 (k + 1) 2 = V.1 54 1 k ∧ U.1 3 (k + 1) 3 = V.1 55 1 k ∧ U.1 3 (k + 1) 4 = V.1 56 1 k ∧ ∃ m : Nat, m < ev + 50 ∧ V.1 56 1 k = nI m) ∧ (U.1 3 (k + 1) 6 = V.1 58 1 k ∧ (V.1 58 1 k = 0 ∨ V.1 58 1 k = 1))
def rE (U V : hs_S) (ev nE : Nat) : Prop := ∀ k, k < nE → rE1 U V ev k ∧ fC U V (U.2.1 3 (k + 1) 5) k
def rF (U V : hs_S) (nd : Nat) : Prop := (2 ≤ U.2.1 9 1 4 ∧ U.2.1 9 1 4 = U.2.2.2 5 ∧ U.1 5 1 3 = 0) ∧ U.1 5 (U.2.1 9 1 4) 3 = nI nd ∧ fOk U (U.2.1 9 1 4) ∧ U.1 5 (U.2.1 9 1 4) 4 = nI (cht U (U.2.1 9 1 4) nd) ∧ ∀ i, i < nd → U.1 22 (U.2.1 9 1 4) i = V.1 51 1 (3 * i) ∧ U.1 23 (U.2.1 9 1 4) i = V.1 51 1 (3 * i + 1) ∧ U.1 24 (U.2.1 9 1 4) i = V.1 51 1 (3 * i + 2)
def rN (U V : hs_S) : Prop := ∀ c : Nat, c < 4 → (U.1 25 1 c = V.1 60 1 c ∧ ∃ m : Nat, m ≤ 50 ∧ V.1 60 1 c = nI m) ∧ U.1 27 1 c = V.1 61 1 c ∧ (V.1 61 1 c = 0 ∨ V.1 61 1 c = 1)
def rB1 (U V : hs_S) (ev b : Nat) : Prop := (U.2.1 13 1 b = b + 1 ∧ U.1 0 (b + 1) 0 = nI b ∧ ∃ o : Nat, o < 6 ∧ V.1 65 1 b = nI o ∧ U.1 0 (b + 1) 1 = nI o) ∧ (U.1 0 (b + 1) 3 = V.1 67 1 b ∧ (V.1 67 1 b = 0 ∨ V.1 67 1 b = 1)) ∧ (∃ m : Nat, (1 ≤ m ∧ m ≤ 100) ∧ V.1 68 1 b = nI m ∧ U.1 0 (b + 1) 4 = nI m) ∧ (∃ l : Nat, l ≤ 9999 ∧ V.1 69 1 b = nI l ∧ U.1 0 (b + 1) 5 = nI l) ∧ (∃ m : Nat, m < ev ∧ V.1 70 1 b = nI m ∧ U.1 0 (b + 1) 6 = nI m) ∧ ((V.1 71 1 b = -1 ∧ U.1 0 (b + 1) 7 = 2147483647) ∨ ∃ w : Nat, w < ev ∧ V.1 71 1 b = nI w ∧ U.1 0 (b + 1) 7 = nI w) ∧ (U.1 0 (b + 1) 8 = V.1 73 1 b ∧ (V.1 73 1 b = 0 ∨ V.1 73 1 b = 1))
def rB2 (U V : hs_S) (nR b : Nat) : Prop := ∃ c : Nat, c < 4 ∧ V.1 66 1 b = nI c ∧ ((V.1 72 1 b = -1 ∧ U.2.1 0 (b + 1) 2 = U.2.1 26 1 c) ∨ ∃ r : Nat, r < nR ∧ V.1 72 1 b = nI r ∧ U.2.1 0 (b + 1) 2 = U.2.1 14 1 r ∧ V.1 77 1 r = nI c)
def rB (U V : hs_S) (ev nB nR : Nat) : Prop := ∀ b, b < nB → rB1 U V ev b ∧ rB2 U V nR b
def rC1 (U V : hs_S) (ev ng nl r : Nat) : Prop := (1 ≤ U.2.1 14 1 r ∧ U.2.1 14 1 r ≤ U.2.2.2 8) ∧ (∃ c : Nat, c < 4 ∧ V.1 77 1 r = nI c ∧ U.1 8 (U.2.1 14 1 r) 0 = nI c) ∧ (∃ f l : Nat, (f < l ∧ l < ev) ∧ V.1 78 1 r = nI f ∧ U.1 8 (U.2.1 14 1 r) 1 = nI f ∧ V.1 79 1 r = nI l ∧ U.1 8 (U.2.1 14 1 r) 2 = nI l) ∧ (U.1 8 (U.2.1 14 1 r) 3 = V.1 80 1 r ∧ (V.1 80 1 r = 0 ∨ V.1 80 1 r = 1)) ∧ rGs U V (U.2.1 14 1 r + 1) ng nl (V.1 78 1 r)
def rC2 (U V : hs_S) (ev ng nl c : Nat) : Prop := (1 ≤ U.2.1 26 1 c ∧ U.2.1 26 1 c ≤ U.2.2.2 8) ∧ (U.1 8 (U.2.1 26 1 c) 0 = nI c ∧ U.1 8 (U.2.1 26 1 c) 2 = 2147483647) ∧ ((V.1 62 1 c = -1 ∧ U.1 8 (U.2.1 26 1 c) 1 = 2147483647) ∨ ∃ f : Nat, f < ev ∧ V.1 62 1 c = nI f ∧ U.1 8 (U.2.1 26 1 c) 1 = nI f ∧ U.1 8 (U.2.1 26 1 c) 3 = V.1 63 1 c ∧ rGs U V (U.2.1 26 1 c + 1) ng nl (nI f)) ∧ (V.1 63 1 c = 0 ∨ V.1 63 1 c = 1)
def rC3 (U : hs_S) (nR : Nat) : Prop := (∀ r r', r < nR → r' < nR → U.2.1 14 1 r = U.2.1 14 1 r' → r = r') ∧ (∀ c c', c < 4 → c' < 4 → U.2.1 26 1 c = U.2.1 26 1 c' → c = c') ∧ ∀ r c, r < nR → c < 4 → U.2.1 14 1 r ≠ U.2.1 26 1 c
def rC (U V : hs_S) (ev ng nl nR : Nat) : Prop := (∀ r, r < nR → rC1 U V ev ng nl r) ∧ (∀ c, c < 4 → rC2 U V ev ng nl c) ∧ rC3 U nR
/-- rows not yet used -/
def rZ (V : hs_S) : Prop := (∀ k, (V.1 11 1 12).toNatClampNeg ≤ k → k < 60 → V.1 58 1 k = 0) ∧ (∀ b, (V.1 11 1 24).toNatClampNeg ≤ b → b < 80 → V.1 73 1 b = 0 ∧ V.1 74 1 b = 0) ∧ ∀ r r', r < r' → r' < (V.1 11 1 36).toNatClampNeg → V.1 79 1 r < V.1 79 1 r'
def rL (U V : hs_S) : Prop := (∀ o : Nat, o < 6 → U.1 36 1 o = V.1 87 1 o ∧ U.1 37 1 o = V.1 88 1 o ∧ ∃ m : Nat, m ≤ 1000000000 ∧ V.1 88 1 o = nI m) ∧ (∀ p, p < 24 → (U.1 35 1 p).toInt = (V.2.2.1 86 1 p).toInt ∧ -250000000 ≤ (U.1 35 1 p).toInt ∧ (U.1 35 1 p).toInt ≤ 250000000) ∧ (∀ c : Nat, c < 4 → sI (fun o => (V.2.2.1 86 1 (4 * o + c)).toInt) 6 = 0) ∧ rZ V
def rQ (U V : hs_S) (nB nR : Nat) : Prop := (∀ r, r < nR → U.1 8 (U.2.1 14 1 r) 5 = V.1 81 1 r ∧ U.1 8 (U.2.1 14 1 r) 6 = V.1 82 1 r ∧ U.1 8 (U.2.1 14 1 r) 7 = V.1 83 1 r ∧ U.1 8 (U.2.1 14 1 r) 8 = V.1 84 1 r) ∧ ∀ b, b < nB → U.1 0 (b + 1) 9 = V.1 74 1 b ∧ (V.1 72 1 b = -1 → V.1 74 1 b = 0)
/-! what reckoned rounds have come to -/
abbrev tpR (a67 a69 a71 a72 a73 a81 : Nat → Int32) (b r : Nat) : Prop := a72 b = nI r ∧ a71 b = -1 ∧ a73 b = 0 ∧ ¬ a81 r = -1 ∧ (if a67 b = 0 then ¬ a81 r < a69 b else ¬ a69 b < a81 r)
def sumR (a67 a68 a69 a71 a72 a73 a81 : Nat → Int32) (r : Nat) (w : Int32) : Nat → Int32
  | 0 => 0
  | k + 1 => if a67 k = w ∧ tpR a67 a69 a71 a72 a73 a81 k r then sumR a67 a68 a69 a71 a72 a73 a81 r w k + a68 k else sumR a67 a68 a69 a71 a72 a73 a81 r w k + 0
theorem sum_r {V : hs_S} {r : Nat} {w : Int32} (hr : r < 30) : ∀ k, k ≤ 80 → mSum V (nI r) w k = sumR (V.1 67 1) (V.1 68 1) (V.1 69 1) (V.1 71 1) (V.1 72 1) (V.1 73 1) (V.1 81 1) r w k := by
  intro k
  induction k with
  | zero => intro _; rfl
  | succ k ih =>
    intro hk
    have e1 : (V.1 67 1 k = w ∧ ¬ F_takesPart (nI k) (nI r) V = 0) ↔ (V.1 67 1 k = w ∧ tpR (V.1 67 1) (V.1 69 1) (V.1 71 1) (V.1 72 1) (V.1 73 1) (V.1 81 1) k r) := by
      unfold F_takesPart
      rw [hl_cl (by omega), bI_eq0]
      refine and_congr Iff.rfl (Classical.not_not.trans ?_)
      unfold mTP tpR
      rw [hl_cl (by omega)]
    unfold mSum sumR
    rw [ih (by omega)]
    by_cases q : V.1 67 1 k = w ∧ ¬ F_takesPart (nI k) (nI r) V = 0
    · rw [if_pos q, if_pos (e1.mp q)]
    · rw [if_neg q, if_neg fun z => q (e1.mpr z)]
abbrev allR (V : hs_S) (nB r : Nat) (w : Int32) : Int32 := sumR (V.1 67 1) (V.1 68 1) (V.1 69 1) (V.1 71 1) (V.1 72 1) (V.1 73 1) (V.1 81 1) r w nB
def gotR (V : hs_S) (nB r b : Nat) : Int := if shT V (nI r) 1 b then shG V (nI r) 1 (allR V nB r 1) nB b else if shT V (nI r) 0 b then shG V (nI r) 0 (allR V nB r 0) nB b else 0
def mR (V : hs_S) (ng nl nE nB nR r : Nat) : Prop := (∃ f v f2 v2 : Int32, gVal (mX V ng nl nE nB nR (V.1 78 1 r)) (6 * V.1 77 1 r) f v ∧ gVal (mX V ng nl nE nB nR (V.1 78 1 r)) (6 * V.1 77 1 r + 1) f2 v2 ∧ V.1 84 1 r = cY (if (mX V ng nl nE nB nR (V.1 78 1 r)).1 (6 * V.1 77 1 r) = 0 then 1 else 0) f v ∧ V.1 81 1 r = (if V.1 84 1 r = 0 then v else -1) ∧ V.1 83 1 r = clF (V.1 81 1 r) v2) ∧ V.1 82 1 r = (if allR V nB r 0 ≤ allR V nB r 1 then allR V nB r 0 else allR V nB r 1) ∧ (∀ b, b < nB → V.1 72 1 b = nI r → (V.1 74 1 b).toInt = gotR V nB r b) ∧ ∀ u : Int32, u = 0 ∨ u = 1 → sI (fun b => if shT V (nI r) u b then (V.1 74 1 b).toInt else 0) nB = (V.1 82 1 r).toInt
def rM (V : hs_S) (ng nl nE nB nR : Nat) : Prop := ∀ r, r < nR → mR V ng nl nE nB nR r
def RX (n : Nat) (U V : hs_S) (ev ng nl nE nB nR nd : Nat) : Prop := rA n U V ev ng nl nE nB nR nd ∧ rGs U V 1 ng nl (nI ev) ∧ rH V ev ng nl ∧ rE U V ev nE ∧ rF U V nd ∧ rN U V ∧ rB U V ev nB nR ∧ rC U V ev ng nl nR
def RR (n : Nat) (S : hs_S) : Prop := ∃ ev ng nl nE nB nR nd : Nat, RX n S S ev ng nl nE nB nR nd ∧ rL S S ∧ rQ S S nB nR ∧ rM S ng nl nE nB nR
