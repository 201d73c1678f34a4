/-! ===== dues, on both sides ===== -/
theorem sI_one {f : Nat → Int} {b : Nat} : ∀ n, b < n → (∀ k, k < n → k ≠ b → f k = 0) → sI f n = f b := by
  intro n
  induction n with
  | zero => intro h _; exact absurd h (Nat.not_lt_zero _)
  | succ n ih =>
    intro hb h
    show sI f n + f n = f b
    by_cases q : b = n
    · rw [sI_0 n fun k hk => h k (by omega) (by omega), ← q]; omega
    · rw [ih (by omega) fun k hk => h k (by omega), h n (by omega) (by omega)]; omega
theorem sI_swap {f : Nat → Nat → Int} {n : Nat} : ∀ m, sI (fun r => sI (fun b => f r b) n) m = sI (fun b => sI (fun r => f r b) m) n := by
  intro m
  induction m with
  | zero =>
    show (0 : Int) = sI (fun _ => 0) n
    exact (sI_0 n fun _ _ => rfl).symm
  | succ m ih =>
    show sI (fun r => sI (fun b => f r b) n) m + sI (fun b => f m b) n = _
    rw [ih, ← sI_add]
    rfl
theorem sI_bd {f : Nat → Int} {B : Int} (hB : 0 ≤ B) : ∀ n, (∀ k, k < n → -B ≤ f k ∧ f k ≤ B) → -(B * n) ≤ sI f n ∧ sI f n ≤ B * n := by
  intro n
  induction n with
  | zero => intro _; show -(B * 0) ≤ (0 : Int) ∧ (0 : Int) ≤ B * 0; rw [Int.mul_zero]; omega
  | succ n ih =>
    intro h
    have h1 := ih fun k hk => h k (by omega)
    have h2 := h n (by omega)
    show -(B * ((n + 1 : Nat) : Int)) ≤ sI f n + f n ∧ sI f n + f n ≤ B * ((n + 1 : Nat) : Int)
    have e : B * ((n + 1 : Nat) : Int) = B * n + B := by rw [Int.natCast_add, Int.mul_add]; show B * n + B * 1 = _; rw [Int.mul_one]
    rw [e]
    omega
def feO (V : hs_S) (ng b : Nat) : Int32 := ownR (V.1 42 1) (V.1 43 1) (V.1 44 1) (6 * V.1 66 1 b + 1) (V.1 78 1 (V.1 72 1 b).toNatClampNeg) ng
def dY (V : hs_S) (ng o b : Nat) : Int := (if V.1 65 1 b = nI o then bs V b else 0) - (if feO V ng b = nI o then bf V b else 0)
def dX (V : hs_S) (ng o c b : Nat) : Int := if V.1 66 1 b = nI c then dY V ng o b else 0
section
variable {n : Nat} {U V : hs_S} {ev ng nl nE nB nR nd b o c : Nat}
theorem dY_b (hX : RX n U V ev ng nl nE nB nR nd) (hM : rM V ng nl nE nB nR) (hb : b < nB) : -3029697 ≤ dY V ng o b ∧ dY V ng o b ≤ 3029697 := by
  obtain ⟨hw, hf⟩ := bid_b hX hM hb
  have hs : -1009899 ≤ bs V b ∧ bs V b ≤ 2019798 := by
    unfold bs
    by_cases q : V.1 67 1 b = 0
    · rw [if_pos q]; omega
    · rw [if_neg q]; omega
  unfold dY
  by_cases q1 : V.1 65 1 b = nI o <;> by_cases q2 : feO V ng b = nI o
  · rw [if_pos q1, if_pos q2]; omega
  · rw [if_pos q1, if_neg q2]; omega
  · rw [if_neg q1, if_pos q2]; omega
  · rw [if_neg q1, if_neg q2]; omega
theorem dX_b (hX : RX n U V ev ng nl nE nB nR nd) (hM : rM V ng nl nE nB nR) (hb : b < nB) : -3029697 ≤ dX V ng o c b ∧ dX V ng o c b ≤ 3029697 := by
  unfold dX
  by_cases q : V.1 66 1 b = nI c
  · rw [if_pos q]; exact dY_b hX hM hb
  · rw [if_neg q]; omega
theorem dX_s (hX : RX n U V ev ng nl nE nB nR nd) (hM : rM V ng nl nE nB nR) : ∀ k, k ≤ nB → -(3029697 * (k : Int)) ≤ sI (dX V ng o c) k ∧ sI (dX V ng o c) k ≤ 3029697 * (k : Int) := fun k hk => sI_bd (by omega) k fun j hj => dX_b hX hM (by omega)
/-- the class's sum -/
theorem cOw_i (hX : RX n U V ev ng nl nE nB nR nd) (hQ : rQ U V nB nR) (hM : rM V ng nl nE nB nR) (hc : c < 4) : ∀ k, k ≤ nB → (cOw U (nI o) (nI c) k).toInt = sI (dX V ng o c) k := by
  have hA := hX.1
  have hB := hX.2.2.2.2.2.2.1
  have hC := hX.2.2.2.2.2.2.2
  have hev := hA.1.1
  have h80 := hA.1.2.2.1.2
  have hR30 := hA.1.2.2.2.1
  intro k
  induction k with
  | zero => intro _; rfl
  | succ k ih =>
    intro hk
    have i1 := ih (by omega)
    have i2 := dX_s (o := o) (c := c) hX hM k (by omega)
    obtain ⟨hw, hf⟩ := bid_b hX hM (show k < nB by omega)
    obtain ⟨_, e2, e3⟩ := c_bid hX hQ hM (show k < nB by omega)
    obtain ⟨⟨⟨b1, _, o', ho', b2, b2'⟩, _⟩, hB2⟩ := hB k (by omega)
    obtain ⟨_, c', hc', r1, r2, r3⟩ := bid_rd (nB := nB) hB2 hC (by omega) hR30
    have eb : bd U k = k + 1 := b1
    have er : br U k = U.2.1 0 (k + 1) 2 := congrArg (fun z => U.2.1 0 z 2) eb
    have hsum : sI (dX V ng o c) (k + 1) = sI (dX V ng o c) k + dX V ng o c k := rfl
    have hs : -1009899 ≤ bs V k ∧ bs V k ≤ 2019798 := by
      unfold bs
      by_cases q : V.1 67 1 k = 0
      · rw [if_pos q]; omega
      · rw [if_neg q]; omega
    have hfee : bf V k = 0 ∨ F_Rnd_feeOwner (br U k) U = feO V ng k := by
      obtain ⟨x, hx, x1, x2⟩ := hB2
      rcases x2 with ⟨y1, _⟩ | ⟨r, hr, y1, y2, y3⟩
      · left
        unfold bf bw
        rw [if_pos y1, if_pos y1]
        by_cases q : V.1 67 1 k = 0
        · rw [if_pos q]
        · rw [if_neg q]; rfl
      · right
        have hcx : c' = x := (hl_inj (by omega) (by omega)).mp (r1.symm.trans x1)
        subst hcx
        unfold F_Rnd_feeOwner feO
        rw [er, r2, nI_6, nI_1, hl_cl (by omega), y2, y1, hl_cl (by omega), r1, show (6 : Int32) * nI c' = nI (6 * c') from pk_mul 6 c', nI_1]
        exact ((hC.1 r hr).2.2.2.2 (6 * c' + 1) (by omega)).1
    rw [hsum]
    unfold cOw
    rw [er, r2, ← r1, eb, b2', ← b2]
    rw [show dX V ng o c k = if V.1 66 1 k = nI c then dY V ng o k else 0 from rfl]
    by_cases q : V.1 66 1 k = nI c
    · rw [if_pos q, if_pos q]
      rw [show dY V ng o k = (if V.1 65 1 k = nI o then bs V k else 0) - (if feO V ng k = nI o then bf V k else 0) from rfl]
      rw [← er]
      have acc : (if V.1 65 1 k = nI o then cOw U (nI o) (nI c) k + F_Bid_owed (k + 1) U else cOw U (nI o) (nI c) k).toInt = sI (dX V ng o c) k + (if V.1 65 1 k = nI o then bs V k else 0) := by
        by_cases z : V.1 65 1 k = nI o
        · rw [if_pos z, if_pos z, i32_add (by rw [i1, e3]; omega), i1, e3]
        · rw [if_neg z, if_neg z, i1]; omega
      have ab : -1009899 ≤ (if V.1 65 1 k = nI o then bs V k else 0) ∧ (if V.1 65 1 k = nI o then bs V k else 0) ≤ 2019798 := by
        by_cases z : V.1 65 1 k = nI o
        · rw [if_pos z]; exact hs
        · rw [if_neg z]; omega
      rcases hfee with z | z
      · have z' : (if feO V ng k = nI o then bf V k else 0) = 0 := by
          rw [z]; exact ite_self _
        rw [z']
        by_cases w : F_Rnd_feeOwner (br U k) U = nI o
        · rw [if_pos w, i32_sub (by rw [acc, e2]; omega), acc, e2, z]; omega
        · rw [if_neg w, acc]; omega
      · rw [z]
        by_cases w : feO V ng k = nI o
        · rw [if_pos w, if_pos w, i32_sub (by rw [acc, e2]; omega), acc, e2]; omega
        · rw [if_neg w, if_neg w, acc]; omega
    · rw [if_neg q, if_neg q, i1]; omega
end
