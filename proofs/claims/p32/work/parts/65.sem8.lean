theorem sI_ex {f : Nat → Int} : ∀ n, 0 < sI f n → ∃ k, k < n ∧ 0 < f k := by
  intro n
  induction n with
  | zero => intro h; exact absurd h (by show ¬ (0 : Int) < 0; omega)
  | succ n ih =>
    intro h
    have h1 : 0 < sI f n + f n := h
    by_cases q : 0 < f n
    · exact ⟨n, by omega, q⟩
    · obtain ⟨k, hk, hf⟩ := ih (by omega)
      exact ⟨k, by omega, hf⟩
theorem clF_b {p v : Int32} : 0 ≤ (clF p v).toInt ∧ (clF p v).toInt ≤ 1000 := by
  have z0 : (0 : Int32).toInt = 0 := rfl
  have z1 : (1000 : Int32).toInt = 1000 := rfl
  unfold clF
  by_cases a : p = -1
  · rw [if_pos a, z0]; omega
  · rw [if_neg a]
    by_cases b : 0 ≤ v
    · rw [if_pos b]
      by_cases d : v ≤ 1000
      · rw [if_pos d]; rw [i32_le] at b d; omega
      · rw [if_neg d, z1]; omega
    · rw [if_neg b, z0]; omega
theorem price_nn {V : hs_S} {ng nl nE nB nR r : Nat} (hM : mR V ng nl nE nB nR r) (h : ¬ V.1 81 1 r = -1) : 0 ≤ (V.1 81 1 r).toInt := by
  obtain ⟨⟨f, v, f2, v2, _, _, m3, m4, _⟩, _⟩ := hM
  by_cases q : V.1 84 1 r = 0
  · rw [if_pos q] at m4
    rw [q] at m3
    unfold cY at m3
    generalize (if (mX V ng nl nE nB nR (V.1 78 1 r)).1 (6 * V.1 77 1 r) = 0 then (1 : Int32) else 0) = em at m3
    by_cases a : em = 0
    · rw [if_pos a] at m3
      by_cases b : f = 0
      · rw [if_pos b] at m3
        by_cases d : 0 ≤ v
        · rw [m4]; rw [i32_le] at d
          have z0 : (0 : Int32).toInt = 0 := rfl
          omega
        · rw [if_neg d] at m3; exact absurd m3 (by decide)
      · rw [if_neg b] at m3; exact absurd m3.symm b
    · rw [if_neg a] at m3; exact absurd m3 (by decide)
  · rw [if_neg q] at m4; exact absurd m4 h
section
variable {n : Nat} {U V : hs_S} {ev ng nl nE nB nR nd r b : Nat}
theorem shT_mTP {u : Int32} (hb : b < 80) (h : shT V (nI r) u b = true) : V.1 67 1 b = u ∧ mTP V b (nI r) := by
  unfold shT F_takesPart at h
  rw [decide_eq_true_eq, hl_cl (by omega), bI_eq0, Classical.not_not] at h
  exact h
theorem got_b (hX : RX n U V ev ng nl nE nB nR nd) (hr : r < nR) (hM : mR V ng nl nE nB nR r) (hb : b < nB) (h72 : V.1 72 1 b = nI r) : 0 ≤ (V.1 74 1 b).toInt ∧ (V.1 74 1 b).toInt ≤ 101 ∧ ((V.1 74 1 b).toInt = 0 ∨ (0 ≤ (V.1 81 1 r).toInt ∧ (V.1 81 1 r).toInt ≤ 9999)) := by
  have hA := hX.1
  have hB := hX.2.2.2.2.2.2.1
  have h80 := hA.1.2.2.1.2
  have hR30 := hA.1.2.2.2.1
  have hrc : (nI r).toNatClampNeg = r := hl_cl (by omega)
  have hm := fun b hb => amt (b := b) hB hb
  obtain ⟨m1, m6, m7, m8⟩ := id hM
  have hv0 := vol_b h80 (by omega) hm m6
  have s0 := (sum_i (w := 0) (r := r) h80 (by omega) hm nB (Nat.le_refl _)).1
  have s1 := (sum_i (w := 1) (r := r) h80 (by omega) hm nB (Nat.le_refl _)).1
  have a0 : (allR V nB r 0).toInt = _ := s0
  have a1 : (allR V nB r 1).toInt = _ := s1
  have vle : (V.1 82 1 r).toInt ≤ (allR V nB r 0).toInt ∧ (V.1 82 1 r).toInt ≤ (allR V nB r 1).toInt := by
    rw [m6]
    by_cases q : allR V nB r 0 ≤ allR V nB r 1
    · rw [if_pos q]; rw [i32_le] at q; omega
    · rw [if_neg q]; rw [i32_le] at q; omega
  -- what a bid that takes part gets
  have part : ∀ u : Int32, ∀ k, k < nB → shT V (nI r) u k = true → (V.1 82 1 r).toInt ≤ (allR V nB r u).toInt → 0 ≤ shG V (nI r) u (allR V nB r u) nB k ∧ shG V (nI r) u (allR V nB r u) nB k ≤ 101 := fun u k hk ht hle => by
    have hall := all_pos h80 (show r < 30 by omega) hm hk ht
    have hmk := hm k hk
    unfold shG
    by_cases z : V.1 80 1 r = 0
    · have e1 : shB V (nI r) (allR V nB r u) k = 0 := by unfold shB; rw [hrc, if_pos z]
      have e2 : shW V (nI r) k = (V.1 68 1 k).toInt := by unfold shW; rw [hrc, if_pos z]
      rw [e1, e2]
      omega
    · have e1 : shB V (nI r) (allR V nB r u) k = (V.1 82 1 r * V.1 68 1 k / allR V nB r u).toInt := by unfold shB shV0; rw [hrc, if_neg z]
      have e2 : shW V (nI r) k = 1 := by unfold shW; rw [hrc, if_neg z]
      have hc := cons_i (a := V.1 68 1 k) hv0 (by omega) hall
      have emul : (V.1 82 1 r * V.1 68 1 k).toInt = (V.1 82 1 r).toInt * (V.1 68 1 k).toInt := i32_mul (by
        have h1 : 0 ≤ (V.1 82 1 r).toInt * (V.1 68 1 k).toInt := Int.mul_nonneg hv0.1 (by omega)
        have h2 : (V.1 82 1 r).toInt * (V.1 68 1 k).toInt ≤ 8000 * 100 := Int.mul_le_mul hv0.2 hmk.2 (by omega) (by omega)
        omega)
      have h1 : 0 ≤ (V.1 82 1 r).toInt * (V.1 68 1 k).toInt := Int.mul_nonneg hv0.1 (by omega)
      have hd : (V.1 82 1 r * V.1 68 1 k / allR V nB r u).toInt ≤ (V.1 68 1 k).toInt := by
        rw [i32_div (by omega) hall, emul]
        have h3 : (V.1 82 1 r).toInt * (V.1 68 1 k).toInt ≤ (allR V nB r u).toInt * (V.1 68 1 k).toInt := Int.mul_le_mul_of_nonneg_right hle (by omega)
        have h4 := Int.ediv_le_ediv hall h3
        rw [Int.mul_ediv_cancel_left _ (by omega)] at h4
        exact h4
      rw [e1, e2]
      omega
  have pos9 : ∀ k, k < nB → shT V (nI r) 1 k = true → 0 ≤ (V.1 81 1 r).toInt ∧ (V.1 81 1 r).toInt ≤ 9999 := fun k hk ht => by
    obtain ⟨h67, t1, t2, t3, t4, t5⟩ := shT_mTP (by omega) ht
    rw [hrc] at t4 t5
    refine ⟨price_nn hM t4, ?_⟩
    rw [if_neg (by rw [h67]; decide)] at t5
    obtain ⟨⟨_, _, _, ⟨l, hl, e1, _⟩, _⟩, _⟩ := hB k hk
    rw [e1, i32_lt, nI_toInt (by omega)] at t5
    omega
  have g := m7 b hb h72
  rw [g]
  unfold gotR
  by_cases t1 : shT V (nI r) 1 b = true
  · rw [if_pos t1]
    have := part 1 b hb t1 vle.2
    exact ⟨this.1, this.2, Or.inr (pos9 b hb t1)⟩
  · rw [if_neg t1]
    by_cases t0 : shT V (nI r) 0 b = true
    · rw [if_pos t0]
      have hp := part 0 b hb t0 vle.1
      refine ⟨hp.1, hp.2, ?_⟩
      by_cases z : shG V (nI r) 0 (allR V nB r 0) nB b = 0
      · exact Or.inl z
      · right
        have hge := sI_ge (f := fun b => if shT V (nI r) 0 b then (V.1 74 1 b).toInt else 0) (b := b) nB (fun k hk => by
          show 0 ≤ (if shT V (nI r) 0 k then (V.1 74 1 k).toInt else 0)
          by_cases w : shT V (nI r) 0 k = true
          · have w1 : ¬ shT V (nI r) 1 k = true := fun y => by
              have := (shT_mTP (by omega) y).1
              rw [(shT_mTP (by omega) w).1] at this
              exact absurd this (by decide)
            rw [if_pos w, m7 k hk (shT_r (by omega) w)]
            unfold gotR
            rw [if_neg w1, if_pos w]
            exact (part 0 k hk w vle.1).1
          · rw [if_neg w]; exact Int.le_refl _) hb
        have hge' : (if shT V (nI r) 0 b then (V.1 74 1 b).toInt else 0) ≤ sI (fun b => if shT V (nI r) 0 b then (V.1 74 1 b).toInt else 0) nB := hge
        rw [if_pos t0, m8 0 (Or.inl rfl)] at hge'
        have eg : (V.1 74 1 b).toInt = shG V (nI r) 0 (allR V nB r 0) nB b := by
          rw [g]; unfold gotR; rw [if_neg t1, if_pos t0]
        have hpos : 0 < sI (fun b => if shT V (nI r) 1 b then (V.1 68 1 b).toInt else 0) nB := by omega
        obtain ⟨k, hk, hf⟩ := sI_ex nB hpos
        by_cases w : shT V (nI r) 1 k = true
        · exact pos9 k hk w
        · have hf' : 0 < (if shT V (nI r) 1 k then (V.1 68 1 k).toInt else 0) := hf
          rw [if_neg w] at hf'
          omega
    · rw [if_neg t0]
      exact ⟨Int.le_refl _, by omega, Or.inl rfl⟩
end
/-- cost, fee and what is owed, of one bid -/
def bw (V : hs_S) (b : Nat) : Int := if V.1 72 1 b = -1 then 0 else (V.1 81 1 (V.1 72 1 b).toNatClampNeg).toInt * (V.1 74 1 b).toInt
def bf (V : hs_S) (b : Nat) : Int := if V.1 67 1 b = 0 then 0 else bw V b * (if V.1 72 1 b = -1 then 0 else (V.1 83 1 (V.1 72 1 b).toNatClampNeg).toInt) / 1000
def bs (V : hs_S) (b : Nat) : Int := if V.1 67 1 b = 0 then -(bw V b) else bw V b + bf V b
theorem i64_mul_of {a b : Int32} : (a.toInt64 * b.toInt64).toInt = a.toInt * b.toInt := by
  have h1 := i32_b a
  have h2 := i32_b b
  have h3 : a.toInt * b.toInt ≤ 2147483648 * 2147483648 := by
    have := Int.natAbs_mul a.toInt b.toInt
    have hm : (a.toInt * b.toInt).natAbs ≤ 2147483648 * 2147483648 := by
      rw [this]; exact Nat.mul_le_mul (by omega) (by omega)
    omega
  have h4 : -(2147483648 * 2147483648) ≤ a.toInt * b.toInt := by
    have := Int.natAbs_mul a.toInt b.toInt
    have hm : (a.toInt * b.toInt).natAbs ≤ 2147483648 * 2147483648 := by
      rw [this]; exact Nat.mul_le_mul (by omega) (by omega)
    omega
  rw [i64_mul (by rw [i64_of, i64_of]; omega), i64_of, i64_of]
section
variable {n : Nat} {U V : hs_S} {ev ng nl nE nB nR nd b : Nat}
/-- bounds, and the sides' values, of one bid -/
theorem bid_b (hX : RX n U V ev ng nl nE nB nR nd) (hM : rM V ng nl nE nB nR) (hb : b < nB) : (0 ≤ bw V b ∧ bw V b ≤ 1009899) ∧ (0 ≤ bf V b ∧ bf V b ≤ 1009899) := by
  have hB := hX.2.2.2.2.2.2.1
  have hR30 := hX.1.1.2.2.2.1
  obtain ⟨c, hc, _, h⟩ := (hB b hb).2
  rcases h with ⟨h1, _⟩ | ⟨r, hr, h1, _⟩
  · unfold bf bw
    rw [if_pos h1, if_pos h1]
    by_cases q : V.1 67 1 b = 0
    · rw [if_pos q]; omega
    · rw [if_neg q]; omega
  · have n1 : ¬ V.1 72 1 b = -1 := by rw [h1]; exact neg1 (by omega)
    have hrc : (V.1 72 1 b).toNatClampNeg = r := by rw [h1]; exact hl_cl (by omega)
    obtain ⟨g1, g2, g3⟩ := got_b hX hr (hM r hr) hb h1
    have hf : 0 ≤ (V.1 83 1 r).toInt ∧ (V.1 83 1 r).toInt ≤ 1000 := by
      obtain ⟨⟨f, v, f2, v2, _, _, _, _, m5⟩, _⟩ := hM r hr
      rw [m5]; exact clF_b
    have ew : bw V b = (V.1 81 1 r).toInt * (V.1 74 1 b).toInt := by unfold bw; rw [if_neg n1, hrc]
    have hw : 0 ≤ bw V b ∧ bw V b ≤ 1009899 := by
      rw [ew]
      rcases g3 with z | z
      · rw [z, Int.mul_zero]; omega
      · have h1 : 0 ≤ (V.1 81 1 r).toInt * (V.1 74 1 b).toInt := Int.mul_nonneg z.1 g1
        have h2 : (V.1 81 1 r).toInt * (V.1 74 1 b).toInt ≤ 9999 * 101 := Int.mul_le_mul z.2 g2 g1 (by omega)
        omega
    refine ⟨hw, ?_⟩
    unfold bf
    by_cases q : V.1 67 1 b = 0
    · rw [if_pos q]; omega
    · rw [if_neg q, if_neg n1, hrc]
      have h1 : 0 ≤ bw V b * (V.1 83 1 r).toInt := Int.mul_nonneg hw.1 hf.1
      have h2 : bw V b * (V.1 83 1 r).toInt ≤ bw V b * 1000 := Int.mul_le_mul_of_nonneg_left hf.2 hw.1
      have h3 := Int.ediv_le_ediv (show (0 : Int) < 1000 by omega) h2
      rw [Int.mul_ediv_cancel _ (by omega)] at h3
      exact ⟨Int.ediv_nonneg h1 (by omega), by omega⟩
theorem c_bid (hX : RX n U V ev ng nl nE nB nR nd) (hQ : rQ U V nB nR) (hM : rM V ng nl nE nB nR) (hb : b < nB) : (F_Bid_worth (b + 1) U).toInt = bw V b ∧ (F_Bid_feePaid (b + 1) U).toInt = bf V b ∧ (F_Bid_owed (b + 1) U).toInt = bs V b := by
  have hB := hX.2.2.2.2.2.2.1
  have hC := hX.2.2.2.2.2.2.2
  have hR30 := hX.1.1.2.2.2.1
  obtain ⟨hw, hf⟩ := bid_b hX hM hb
  obtain ⟨⟨_, ⟨b3, _⟩, _⟩, _⟩ := hB b hb
  obtain ⟨q9, q0⟩ := hQ.2 b hb
  obtain ⟨c, hc, _, h⟩ := (hB b hb).2
  have z0 : (0 : Int32).toInt = 0 := rfl
  have zk : (1000 : Int32).toInt = 1000 := rfl
  have w1 : (F_Bid_worth (b + 1) U).toInt = bw V b := by
    unfold F_Bid_worth
    rw [q9]
    rcases h with ⟨h1, _⟩ | ⟨r, hr, h1, h2, _⟩
    · rw [if_pos (q0 h1), z0]; unfold bw; rw [if_pos h1]
    · have n1 : ¬ V.1 72 1 b = -1 := by rw [h1]; exact neg1 (by omega)
      have hrc : (V.1 72 1 b).toNatClampNeg = r := by rw [h1]; exact hl_cl (by omega)
      obtain ⟨g1, g2, g3⟩ := got_b hX hr (hM r hr) hb h1
      have ew : bw V b = (V.1 81 1 r).toInt * (V.1 74 1 b).toInt := by unfold bw; rw [if_neg n1, hrc]
      rw [h2, (hQ.1 r hr).1, ew]
      by_cases z : V.1 74 1 b = 0
      · rw [if_pos z, z, z0, Int.mul_zero]
      · rw [if_neg z, i32_mul (by rw [← ew]; omega)]
  have w2 : (F_Bid_feePaid (b + 1) U).toInt = bf V b := by
    unfold F_Bid_feePaid bf
    rw [b3]
    by_cases q : V.1 67 1 b = 0
    · rw [if_pos q, if_pos q, z0]
    · rw [if_neg q, if_neg q]
      rcases h with ⟨h1, _⟩ | ⟨r, hr, h1, h2, _⟩
      · have e0 : bw V b = 0 := by unfold bw; rw [if_pos h1]
        have e1 : F_Bid_worth (b + 1) U = 0 := i32_eq.mpr (by rw [w1, e0, z0])
        rw [if_pos h1, e1, e0, Int32.zero_mul]
        rfl
      · have n1 : ¬ V.1 72 1 b = -1 := by rw [h1]; exact neg1 (by omega)
        have hrc : (V.1 72 1 b).toNatClampNeg = r := by rw [h1]; exact hl_cl (by omega)
        have hfe : 0 ≤ (V.1 83 1 r).toInt ∧ (V.1 83 1 r).toInt ≤ 1000 := by
          obtain ⟨⟨f, v, f2, v2, _, _, _, _, m5⟩, _⟩ := hM r hr
          rw [m5]; exact clF_b
        have h3 : 0 ≤ bw V b * (V.1 83 1 r).toInt := Int.mul_nonneg hw.1 hfe.1
        have h4 : bw V b * (V.1 83 1 r).toInt ≤ 1009899 * 1000 := Int.mul_le_mul hw.2 hfe.2 hfe.1 (by omega)
        have em : (F_Bid_worth (b + 1) U * V.1 83 1 r).toInt = bw V b * (V.1 83 1 r).toInt := by rw [i32_mul (by rw [w1]; omega), w1]
        rw [if_neg n1, hrc, h2, (hQ.1 r hr).2.2.1, i32_div (by rw [em]; exact h3) (by rw [zk]; omega), em, zk]
  refine ⟨w1, w2, ?_⟩
  unfold F_Bid_owed bs
  rw [b3]
  by_cases q : V.1 67 1 b = 0
  · rw [if_pos q, if_pos q]
    have e : (-(F_Bid_worth (b + 1) U)).toInt = -(F_Bid_worth (b + 1) U).toInt := by
      rw [Int32.toInt_neg]; exact bm32 (by rw [w1]; omega)
    rw [e, w1]
  · rw [if_neg q, if_neg q, i32_add (by rw [w1, w2]; omega), w1, w2]
end
theorem sI_one {f : Nat → Int} {b : Nat} : ∀ n, b < n → (∀ k, k < n → k ≠ b → f k = 0) → sI f n = f b := by
  intro n
  induction n with
  | zero => intro h _; exact absurd h (Nat.not_lt_zero _)
  | succ n ih =>
    intro hb h
    show sI f n + f n = f b
    by_cases q : b = n
    · rw [sI_0 n fun k hk => h k (by omega) (by omega), ← q]; omega
    · rw [ih (by omega) fun k hk => h k (by omega), h n (by omega) (by omega)]; omega
theorem sI_swap {f : Nat → Nat → Int} {n : Nat} : ∀ m, sI (fun r => sI (fun b => f r b) n) m = sI (fun b => sI (fun r => f r b) m) n := by
  intro m
  induction m with
  | zero =>
    show (0 : Int) = sI (fun _ => 0) n
    exact (sI_0 n fun _ _ => rfl).symm
  | succ m ih =>
    show sI (fun r => sI (fun b => f r b) n) m + sI (fun b => f m b) n = _
    rw [ih, ← sI_add]
    rfl
theorem sI_bd {f : Nat → Int} {B : Int} (hB : 0 ≤ B) : ∀ n, (∀ k, k < n → -B ≤ f k ∧ f k ≤ B) → -(B * n) ≤ sI f n ∧ sI f n ≤ B * n := by
  intro n
  induction n with
  | zero => intro _; show -(B * 0) ≤ (0 : Int) ∧ (0 : Int) ≤ B * 0; rw [Int.mul_zero]; omega
  | succ n ih =>
    intro h
    have h1 := ih fun k hk => h k (by omega)
    have h2 := h n (by omega)
    show -(B * ((n + 1 : Nat) : Int)) ≤ sI f n + f n ∧ sI f n + f n ≤ B * ((n + 1 : Nat) : Int)
    have e : B * ((n + 1 : Nat) : Int) = B * n + B := by rw [Int.natCast_add, Int.mul_add]; show B * n + B * 1 = _; rw [Int.mul_one]
    rw [e]
    omega
def feO (V : hs_S) (ng b : Nat) : Int32 := ownR (V.1 42 1) (V.1 43 1) (V.1 44 1) (6 * V.1 66 1 b + 1) (V.1 78 1 (V.1 72 1 b).toNatClampNeg) ng
def dY (V : hs_S) (ng o b : Nat) : Int := (if V.1 65 1 b = nI o then bs V b else 0) - (if feO V ng b = nI o then bf V b else 0)
def dX (V : hs_S) (ng o c b : Nat) : Int := if V.1 66 1 b = nI c then dY V ng o b else 0
section
variable {n : Nat} {U V : hs_S} {ev ng nl nE nB nR nd b o c : Nat}
theorem dY_b (hX : RX n U V ev ng nl nE nB nR nd) (hM : rM V ng nl nE nB nR) (hb : b < nB) : -3029697 ≤ dY V ng o b ∧ dY V ng o b ≤ 3029697 := by
  obtain ⟨hw, hf⟩ := bid_b hX hM hb
  have hs : -1009899 ≤ bs V b ∧ bs V b ≤ 2019798 := by
    unfold bs
    by_cases q : V.1 67 1 b = 0
    · rw [if_pos q]; omega
    · rw [if_neg q]; omega
  unfold dY
  by_cases q1 : V.1 65 1 b = nI o <;> by_cases q2 : feO V ng b = nI o
  · rw [if_pos q1, if_pos q2]; omega
  · rw [if_pos q1, if_neg q2]; omega
  · rw [if_neg q1, if_pos q2]; omega
  · rw [if_neg q1, if_neg q2]; omega
theorem dX_b (hX : RX n U V ev ng nl nE nB nR nd) (hM : rM V ng nl nE nB nR) (hb : b < nB) : -3029697 ≤ dX V ng o c b ∧ dX V ng o c b ≤ 3029697 := by
  unfold dX
  by_cases q : V.1 66 1 b = nI c
  · rw [if_pos q]; exact dY_b hX hM hb
  · rw [if_neg q]; omega
theorem dX_s (hX : RX n U V ev ng nl nE nB nR nd) (hM : rM V ng nl nE nB nR) : ∀ k, k ≤ nB → -(3029697 * (k : Int)) ≤ sI (dX V ng o c) k ∧ sI (dX V ng o c) k ≤ 3029697 * (k : Int) := fun k hk => sI_bd (by omega) k fun j hj => dX_b hX hM (by omega)
/-- the class's sum -/
theorem cOw_i (hX : RX n U V ev ng nl nE nB nR nd) (hQ : rQ U V nB nR) (hM : rM V ng nl nE nB nR) (hc : c < 4) : ∀ k, k ≤ nB → (cOw U (nI o) (nI c) k).toInt = sI (dX V ng o c) k := by
  have hA := hX.1
  have hB := hX.2.2.2.2.2.2.1
  have hC := hX.2.2.2.2.2.2.2
  have hev := hA.1.1
  have h80 := hA.1.2.2.1.2
  have hR30 := hA.1.2.2.2.1
  intro k
  induction k with
  | zero => intro _; rfl
  | succ k ih =>
    intro hk
    have i1 := ih (by omega)
    have i2 := dX_s (o := o) (c := c) hX hM k (by omega)
    obtain ⟨hw, hf⟩ := bid_b hX hM (show k < nB by omega)
    obtain ⟨_, e2, e3⟩ := c_bid hX hQ hM (show k < nB by omega)
    obtain ⟨⟨⟨b1, _, o', ho', b2, b2'⟩, _⟩, hB2⟩ := hB k (by omega)
    obtain ⟨_, c', hc', r1, r2, r3⟩ := bid_rd (nB := nB) hB2 hC (by omega) hR30
    have eb : bd U k = k + 1 := b1
    have er : br U k = U.2.1 0 (k + 1) 2 := congrArg (fun z => U.2.1 0 z 2) eb
    have hsum : sI (dX V ng o c) (k + 1) = sI (dX V ng o c) k + dX V ng o c k := rfl
    have hs : -1009899 ≤ bs V k ∧ bs V k ≤ 2019798 := by
      unfold bs
      by_cases q : V.1 67 1 k = 0
      · rw [if_pos q]; omega
      · rw [if_neg q]; omega
    have hfee : bf V k = 0 ∨ F_Rnd_feeOwner (br U k) U = feO V ng k := by
      obtain ⟨x, hx, x1, x2⟩ := hB2
      rcases x2 with ⟨y1, _⟩ | ⟨r, hr, y1, y2, y3⟩
      · left
        unfold bf bw
        rw [if_pos y1, if_pos y1]
        by_cases q : V.1 67 1 k = 0
        · rw [if_pos q]
        · rw [if_neg q]; rfl
      · right
        have hcx : c' = x := (hl_inj (by omega) (by omega)).mp (r1.symm.trans x1)
        subst hcx
        unfold F_Rnd_feeOwner feO
        rw [er, r2, nI_6, nI_1, hl_cl (by omega), y2, y1, hl_cl (by omega), r1, show (6 : Int32) * nI c' = nI (6 * c') from pk_mul 6 c', nI_1]
        exact ((hC.1 r hr).2.2.2.2 (6 * c' + 1) (by omega)).1
    rw [hsum]
    unfold cOw
    rw [er, r2, ← r1, eb, b2', ← b2]
    rw [show dX V ng o c k = if V.1 66 1 k = nI c then dY V ng o k else 0 from rfl]
    by_cases q : V.1 66 1 k = nI c
    · rw [if_pos q, if_pos q]
      rw [show dY V ng o k = (if V.1 65 1 k = nI o then bs V k else 0) - (if feO V ng k = nI o then bf V k else 0) from rfl]
      rw [← er]
      have acc : (if V.1 65 1 k = nI o then cOw U (nI o) (nI c) k + F_Bid_owed (k + 1) U else cOw U (nI o) (nI c) k).toInt = sI (dX V ng o c) k + (if V.1 65 1 k = nI o then bs V k else 0) := by
        by_cases z : V.1 65 1 k = nI o
        · rw [if_pos z, if_pos z, i32_add (by rw [i1, e3]; omega), i1, e3]
        · rw [if_neg z, if_neg z, i1]; omega
      have ab : -1009899 ≤ (if V.1 65 1 k = nI o then bs V k else 0) ∧ (if V.1 65 1 k = nI o then bs V k else 0) ≤ 2019798 := by
        by_cases z : V.1 65 1 k = nI o
        · rw [if_pos z]; exact hs
        · rw [if_neg z]; omega
      rcases hfee with z | z
      · have z' : (if feO V ng k = nI o then bf V k else 0) = 0 := by
          rw [z]; exact ite_self _
        rw [z']
        by_cases w : F_Rnd_feeOwner (br U k) U = nI o
        · rw [if_pos w, i32_sub (by rw [acc, e2]; omega), acc, e2, z]; omega
        · rw [if_neg w, acc]; omega
      · rw [z]
        by_cases w : feO V ng k = nI o
        · rw [if_pos w, if_pos w, i32_sub (by rw [acc, e2]; omega), acc, e2]; omega
        · rw [if_neg w, if_neg w, acc]; omega
    · rw [if_neg q, if_neg q, i1]; omega
end
section
variable {n : Nat} {U V : hs_S} {ev ng nl nE nB nR nd b o c r : Nat}
theorem m_bid (hX : RX n U V ev ng nl nE nB nR nd) (hM : rM V ng nl nE nB nR) (hb : b < nB) (hr : r < nR) (h72 : V.1 72 1 b = nI r) : (F_costOf (nI b) V).toInt = bw V b ∧ (F_feeOf (nI b) V).toInt = bf V b := by
  have hR30 := hX.1.1.2.2.2.1
  have h80 := hX.1.1.2.2.1.2
  obtain ⟨hw, hf⟩ := bid_b hX hM hb
  have n1 : ¬ V.1 72 1 b = -1 := by rw [h72]; exact neg1 (by omega)
  have hbc : (nI b).toNatClampNeg = b := hl_cl (by omega)
  have ec : (F_costOf (nI b) V).toInt = bw V b := by
    unfold F_costOf bw
    rw [hbc, if_neg n1, i64_mul_of]
  refine ⟨ec, ?_⟩
  unfold F_feeOf bf
  rw [hbc]
  by_cases q : V.1 67 1 b = 0
  · rw [if_pos q, if_pos q]; rfl
  · rw [if_neg q, if_neg q, if_neg n1]
    have hfe : 0 ≤ (V.1 83 1 r).toInt ∧ (V.1 83 1 r).toInt ≤ 1000 := by
      obtain ⟨⟨f, v, f2, v2, _, _, _, _, m5⟩, _⟩ := hM r hr
      rw [m5]; exact clF_b
    have hrc : (V.1 72 1 b).toNatClampNeg = r := by rw [h72]; exact hl_cl (by omega)
    rw [hrc]
    have h3 : 0 ≤ bw V b * (V.1 83 1 r).toInt := Int.mul_nonneg hw.1 hfe.1
    have h4 : bw V b * (V.1 83 1 r).toInt ≤ 1009899 * 1000 := Int.mul_le_mul hw.2 hfe.2 hfe.1 (by omega)
    have em : (F_costOf (nI b) V * (V.1 83 1 r).toInt64).toInt = bw V b * (V.1 83 1 r).toInt := by rw [i64_mul (by rw [ec, i64_of]; omega), ec, i64_of]
    have zk : (1000 : Int64).toInt = 1000 := rfl
    rw [i64_div (by rw [em]; exact h3) (by rw [zk]; omega), em, zk]
theorem m_fees (hX : RX n U V ev ng nl nE nB nR nd) (hM : rM V ng nl nE nB nR) (hr : r < nR) : ∀ k, k ≤ nB → (mFs V (nI r) k).toInt = sI (fun b => if V.1 72 1 b = nI r then bf V b else 0) k ∧ 0 ≤ sI (fun b => if V.1 72 1 b = nI r then bf V b else 0) k ∧ sI (fun b => if V.1 72 1 b = nI r then bf V b else 0) k ≤ 1009899 * (k : Int) := by
  have h80 := hX.1.1.2.2.1.2
  intro k
  induction k with
  | zero => intro _; exact ⟨rfl, Int.le_refl _, Int.le_refl _⟩
  | succ k ih =>
    intro hk
    obtain ⟨i1, i2, i3⟩ := ih (by omega)
    obtain ⟨hw, hf⟩ := bid_b hX hM (show k < nB by omega)
    have hs : sI (fun b => if V.1 72 1 b = nI r then bf V b else 0) (k + 1) = sI (fun b => if V.1 72 1 b = nI r then bf V b else 0) k + (if V.1 72 1 k = nI r then bf V k else 0) := rfl
    rw [hs]
    unfold mFs
    by_cases q : V.1 72 1 k = nI r
    · have e := (m_bid hX hM (show k < nB by omega) hr q).2
      rw [if_pos q, if_pos q, i64_add (by rw [i1, e]; omega), i1, e]
      omega
    · rw [if_neg q, if_neg q, Int64.add_zero, i1]
      omega
theorem bs_b (hX : RX n U V ev ng nl nE nB nR nd) (hM : rM V ng nl nE nB nR) (hb : b < nB) : -1009899 ≤ bs V b ∧ bs V b ≤ 2019798 := by
  obtain ⟨hw, hf⟩ := bid_b hX hM hb
  unfold bs
  by_cases q : V.1 67 1 b = 0
  · rw [if_pos q]; omega
  · rw [if_neg q]; omega
theorem m_dueT (hX : RX n U V ev ng nl nE nB nR nd) (hM : rM V ng nl nE nB nR) (hb : b < nB) (hr : r < nR) : (mDueT V (nI o) (nI r) b).toInt = if V.1 72 1 b = nI r ∧ V.1 65 1 b = nI o then bs V b else 0 := by
  unfold mDueT
  by_cases q : V.1 72 1 b = nI r ∧ V.1 65 1 b = nI o
  · obtain ⟨e1, e2⟩ := m_bid hX hM hb hr q.1
    obtain ⟨hw, hf⟩ := bid_b hX hM hb
    rw [if_pos q, if_pos q]
    unfold bs
    by_cases z : V.1 67 1 b = 0
    · rw [if_pos z, if_pos z, Int64.toInt_neg, e1]
      exact bm64 (by omega)
    · rw [if_neg z, if_neg z, i64_add (by rw [e1, e2]; omega), e1, e2]
  · rw [if_neg q, if_neg q]; rfl
theorem m_dueI (hX : RX n U V ev ng nl nE nB nR nd) (hM : rM V ng nl nE nB nR) (hr : r < nR) {acc : Int64} (ha : -100000000000 ≤ acc.toInt ∧ acc.toInt ≤ 100000000000) : ∀ k, k ≤ nB → (mDueI V (nI o) (nI r) acc k).toInt = acc.toInt + sI (fun b => if V.1 72 1 b = nI r ∧ V.1 65 1 b = nI o then bs V b else 0) k := by
  have h80 := hX.1.1.2.2.1.2
  intro k
  induction k with
  | zero => intro _; show acc.toInt = acc.toInt + 0; omega
  | succ k ih =>
    intro hk
    have i1 := ih (by omega)
    have i2 := sI_bd (f := fun b => if V.1 72 1 b = nI r ∧ V.1 65 1 b = nI o then bs V b else 0) (B := 2019798) (by omega) k fun j hj => by
      have := bs_b hX hM (show j < nB by omega)
      show -2019798 ≤ (if V.1 72 1 j = nI r ∧ V.1 65 1 j = nI o then bs V j else 0) ∧ (if V.1 72 1 j = nI r ∧ V.1 65 1 j = nI o then bs V j else 0) ≤ 2019798
      by_cases q : V.1 72 1 j = nI r ∧ V.1 65 1 j = nI o
      · rw [if_pos q]; omega
      · rw [if_neg q]; omega
    have e := m_dueT (o := o) hX hM (show k < nB by omega) hr
    have eb : -2019798 ≤ (mDueT V (nI o) (nI r) k).toInt ∧ (mDueT V (nI o) (nI r) k).toInt ≤ 2019798 := by
      rw [e]
      have := bs_b hX hM (show k < nB by omega)
      by_cases q : V.1 72 1 k = nI r ∧ V.1 65 1 k = nI o
      · rw [if_pos q]; omega
      · rw [if_neg q]; omega
    have hs : sI (fun b => if V.1 72 1 b = nI r ∧ V.1 65 1 b = nI o then bs V b else 0) (k + 1) = sI (fun b => if V.1 72 1 b = nI r ∧ V.1 65 1 b = nI o then bs V b else 0) k + (if V.1 72 1 k = nI r ∧ V.1 65 1 k = nI o then bs V k else 0) := rfl
    rw [hs, ← e]
    show (mDueI V (nI o) (nI r) acc k + mDueT V (nI o) (nI r) k).toInt = _
    rw [i64_add (by rw [i1]; omega), i1]
    omega
/-- a round's part of what is due -/
def dZ (V : hs_S) (ng o c r b : Nat) : Int := if V.1 72 1 b = nI r ∧ V.1 77 1 r = nI c ∧ ¬ V.1 81 1 r = -1 then dY V ng o b else 0
theorem dZ_s (hX : RX n U V ev ng nl nE nB nR nd) (hM : rM V ng nl nE nB nR) : -242375760 ≤ sI (dZ V ng o c r) nB ∧ sI (dZ V ng o c r) nB ≤ 242375760 := by
  have h80 := hX.1.1.2.2.1.2
  have := sI_bd (f := dZ V ng o c r) (B := 3029697) (by omega) nB fun j hj => by
    have := dY_b (o := o) hX hM hj
    unfold dZ
    by_cases q : V.1 72 1 j = nI r ∧ V.1 77 1 r = nI c ∧ ¬ V.1 81 1 r = -1
    · rw [if_pos q]; exact this
    · rw [if_neg q]; omega
  omega
theorem m_due (hX : RX n U V ev ng nl nE nB nR nd) (hM : rM V ng nl nE nB nR) (ho : o < 6) (hc : c < 4) (hp : -250000000 ≤ (V.2.2.1 86 1 (4 * o + c)).toInt ∧ (V.2.2.1 86 1 (4 * o + c)).toInt ≤ 250000000) : ∀ m, m ≤ nR → (mDue V (nI o) (nI c) m).toInt = -(V.2.2.1 86 1 (4 * o + c)).toInt + sI (fun r => sI (dZ V ng o c r) nB) m := by
  have hA := hX.1
  have hev := hA.1.1
  have h80 := hA.1.2.2.1.2
  have hR30 := hA.1.2.2.2.1
  have hB := hX.2.2.2.2.2.2.1
  intro m
  induction m with
  | zero =>
    intro _
    show (-(V.2.2.1 86 1 ((4 : Int32) * nI o + nI c).toNatClampNeg)).toInt = _ + 0
    rw [show (4 : Int32) * nI o = nI (4 * o) from pk_mul 4 o, nI_add, hl_cl (by omega), Int64.toInt_neg, Int.add_zero]
    exact bm64 (by omega)
  | succ m ih =>
    intro hm
    have i1 := ih (by omega)
    have i2 := sI_bd (f := fun r => sI (dZ V ng o c r) nB) (B := 242375760) (by omega) m fun j hj => dZ_s hX hM
    have hs : sI (fun r => sI (dZ V ng o c r) nB) (m + 1) = sI (fun r => sI (dZ V ng o c r) nB) m + sI (dZ V ng o c m) nB := rfl
    rw [hs]
    unfold mDue
    by_cases q : V.1 77 1 m = nI c ∧ ¬ V.1 81 1 m = -1
    · rw [if_pos q, hA.2.1.2.2.2.2.2.1, hl_cl (by omega)]
      obtain ⟨f1, f2, f3⟩ := m_fees hX hM (show m < nR by omega) nB (Nat.le_refl _)
      have eF : (F_feesOf (nI m) V).toInt = sI (fun b => if V.1 72 1 b = nI m then bf V b else 0) nB := by
        unfold F_feesOf
        rw [hA.2.1.2.2.2.2.2.1, hl_cl (by omega)]
        exact f1
      have eo : F_ownerAt (6 * nI c + 1) (V.1 78 1 m) V = ownR (V.1 42 1) (V.1 43 1) (V.1 44 1) (6 * nI c + 1) (V.1 78 1 m) ng := by
        rw [own_r, hA.2.1.2.2.1, hl_cl (by have := hA.1.2.1; omega)]
      have facc : (if F_ownerAt (6 * nI c + 1) (V.1 78 1 m) V = nI o then F_feesOf (nI m) V else 0).toInt = sI (fun b => if V.1 72 1 b = nI m then (if feO V ng b = nI o then bf V b else 0) else 0) nB := by
        have hfe : ∀ b, b < nB → V.1 72 1 b = nI m → feO V ng b = F_ownerAt (6 * nI c + 1) (V.1 78 1 m) V := fun b hb h72 => by
          obtain ⟨x, hx, x1, x2⟩ := (hB b hb).2
          rcases x2 with ⟨y1, _⟩ | ⟨r', hr', y1, _, y3⟩
          · exact absurd (h72.symm.trans y1) (neg1 (by omega))
          · have : r' = m := (hl_inj (by omega) (by omega)).mp (y1.symm.trans h72)
            subst this
            unfold feO
            rw [h72, hl_cl (by omega), x1, ← y3, q.1, eo]
        by_cases z : F_ownerAt (6 * nI c + 1) (V.1 78 1 m) V = nI o
        · rw [if_pos z, eF]
          refine sI_c nB fun b hb => ?_
          by_cases w : V.1 72 1 b = nI m
          · rw [if_pos w, if_pos w, hfe b hb w, if_pos z]
          · rw [if_neg w, if_neg w]
        · rw [if_neg z]
          refine (sI_0 nB fun b hb => ?_).symm
          by_cases w : V.1 72 1 b = nI m
          · rw [if_pos w, hfe b hb w, if_neg z]
          · rw [if_neg w]
      have fb : 0 ≤ (if F_ownerAt (6 * nI c + 1) (V.1 78 1 m) V = nI o then F_feesOf (nI m) V else 0).toInt ∧ (if F_ownerAt (6 * nI c + 1) (V.1 78 1 m) V = nI o then F_feesOf (nI m) V else 0).toInt ≤ 1009899 * 80 := by
        by_cases z : F_ownerAt (6 * nI c + 1) (V.1 78 1 m) V = nI o
        · rw [if_pos z, eF]; omega
        · rw [if_neg z]
          have z0 : (0 : Int64).toInt = 0 := rfl
          rw [z0]; omega
      have esub : (mDue V (nI o) (nI c) m - (if F_ownerAt (6 * nI c + 1) (V.1 78 1 m) V = nI o then F_feesOf (nI m) V else 0)).toInt = (mDue V (nI o) (nI c) m).toInt - (if F_ownerAt (6 * nI c + 1) (V.1 78 1 m) V = nI o then F_feesOf (nI m) V else 0).toInt := i64_sub (by rw [i1]; omega)
      rw [m_dueI hX hM (show m < nR by omega) (by rw [esub, i1]; omega) nB (Nat.le_refl _), esub, i1, facc]
      have hz : sI (dZ V ng o c m) nB = sI (fun b => if V.1 72 1 b = nI m ∧ V.1 65 1 b = nI o then bs V b else 0) nB - sI (fun b => if V.1 72 1 b = nI m then (if feO V ng b = nI o then bf V b else 0) else 0) nB := by
        have h1 := sI_add (f := dZ V ng o c m) (g := fun b => if V.1 72 1 b = nI m then (if feO V ng b = nI o then bf V b else 0) else 0) nB
        have h2 : sI (fun b => dZ V ng o c m b + (if V.1 72 1 b = nI m then (if feO V ng b = nI o then bf V b else 0) else 0)) nB = sI (fun b => if V.1 72 1 b = nI m ∧ V.1 65 1 b = nI o then bs V b else 0) nB := by
          refine sI_c nB fun b hb => ?_
          unfold dZ
          by_cases w : V.1 72 1 b = nI m
          · rw [if_pos ⟨w, q⟩, if_pos w]
            unfold dY
            by_cases w2 : V.1 65 1 b = nI o
            · rw [if_pos w2, if_pos (show V.1 72 1 b = nI m ∧ V.1 65 1 b = nI o from ⟨w, w2⟩)]; omega
            · rw [if_neg w2, if_neg (show ¬ (V.1 72 1 b = nI m ∧ V.1 65 1 b = nI o) from fun y => w2 y.2)]; omega
          · rw [if_neg fun y => w y.1, if_neg w, if_neg fun y => w y.1]; rfl
        have h1' : sI (fun b => dZ V ng o c m b + (if V.1 72 1 b = nI m then (if feO V ng b = nI o then bf V b else 0) else 0)) nB = sI (dZ V ng o c m) nB + sI (fun b => if V.1 72 1 b = nI m then (if feO V ng b = nI o then bf V b else 0) else 0) nB := h1
        omega
      rw [hz]
      omega
    · have e0 : sI (dZ V ng o c m) nB = 0 := sI_0 nB fun b _ => by unfold dZ; exact if_neg fun z => q z.2
      rw [if_neg q, i1, e0]
      omega
/-- dues of the two sides -/
theorem due_V (hX : RX n U V ev ng nl nE nB nR nd) (hM : rM V ng nl nE nB nR) (ho : o < 6) (hc : c < 4) (hp : -250000000 ≤ (V.2.2.1 86 1 (4 * o + c)).toInt ∧ (V.2.2.1 86 1 (4 * o + c)).toInt ≤ 250000000) : (F_dueOf (nI o) (nI c) V).toInt = sI (dX V ng o c) nB - (V.2.2.1 86 1 (4 * o + c)).toInt := by
  have hA := hX.1
  have hev := hA.1.1
  have h80 := hA.1.2.2.1.2
  have hR30 := hA.1.2.2.2.1
  have hB := hX.2.2.2.2.2.2.1
  unfold F_dueOf
  rw [hA.2.1.2.2.2.2.2.2.1, hl_cl (by omega), m_due hX hM ho hc hp nR (Nat.le_refl _), sI_swap]
  have : sI (fun b => sI (fun r => dZ V ng o c r b) nR) nB = sI (dX V ng o c) nB := by
    refine sI_c nB fun b hb => ?_
    obtain ⟨x, hx, x1, x2⟩ := (hB b hb).2
    rcases x2 with ⟨y1, _⟩ | ⟨r, hr, y1, _, y3⟩
    · have e0 : sI (fun r => dZ V ng o c r b) nR = 0 := sI_0 nR fun k hk => by unfold dZ; exact if_neg fun z => neg1 (k := k) (by omega) (z.1.symm.trans y1)
      rw [e0]
      unfold dX
      by_cases q : V.1 66 1 b = nI c
      · have w0 : bw V b = 0 := by unfold bw; rw [if_pos y1]
        have f0 : bf V b = 0 := by
          unfold bf
          rw [w0, if_pos y1]
          by_cases z : V.1 67 1 b = 0
          · rw [if_pos z]
          · rw [if_neg z]; rfl
        have s0 : bs V b = 0 := by
          unfold bs
          rw [w0, f0]
          by_cases z : V.1 67 1 b = 0
          · rw [if_pos z]; rfl
          · rw [if_neg z]; rfl
        rw [if_pos q]
        unfold dY
        rw [f0, s0, ite_self, ite_self]; rfl
      · rw [if_neg q]
    · have e0 : sI (fun r => dZ V ng o c r b) nR = dZ V ng o c r b := sI_one (f := fun r => dZ V ng o c r b) (b := r) nR hr fun k hk hne => by
        show dZ V ng o c k b = 0
        unfold dZ
        exact if_neg fun z => hne ((hl_inj (by omega) (by omega)).mp (z.1.symm.trans y1))
      rw [e0]
      unfold dZ dX
      rw [y3, x1]
      by_cases q : nI x = nI c
      · rw [if_pos q]
        by_cases z : V.1 81 1 r = -1
        · rw [if_neg fun w => w.2.2 z]
          obtain ⟨g1, g2, g3⟩ := got_b hX hr (hM r hr) hb y1
          have n1 : ¬ V.1 72 1 b = -1 := by rw [y1]; exact neg1 (by omega)
          have hrc : (V.1 72 1 b).toNatClampNeg = r := by rw [y1]; exact hl_cl (by omega)
          have w0 : bw V b = 0 := by
            unfold bw
            rw [if_neg n1, hrc]
            rcases g3 with y | y
            · rw [y, Int.mul_zero]
            · rw [z] at y
              have em : (-1 : Int32).toInt = -1 := rfl
              omega
          have f0 : bf V b = 0 := by
            unfold bf
            rw [w0]
            by_cases z : V.1 67 1 b = 0
            · rw [if_pos z]
            · rw [if_neg z, Int.zero_mul]; rfl
          have s0 : bs V b = 0 := by
            unfold bs
            rw [w0, f0]
            by_cases z : V.1 67 1 b = 0
            · rw [if_pos z]; rfl
            · rw [if_neg z]; rfl
          unfold dY
          rw [f0, s0, ite_self, ite_self]; rfl
        · rw [if_pos ⟨y1, q, z⟩]
      · rw [if_neg fun w => q w.2.1, if_neg q]
  rw [this]
  omega
theorem due_U (hX : RX n U V ev ng nl nE nB nR nd) (hQ : rQ U V nB nR) (hM : rM V ng nl nE nB nR) (ho : o < 6) (hc : c < 4) (hp : -250000000 ≤ (U.1 35 1 (4 * o + c)).toInt ∧ (U.1 35 1 (4 * o + c)).toInt ≤ 250000000) : (F_Ldg_dueOf (nI o) (nI c) U).toInt = sI (dX V ng o c) nB - (U.1 35 1 (4 * o + c)).toInt := by
  have h80 := hX.1.1.2.2.1.2
  have hz : hs_sz U 13 = nB := hX.1.2.2.1.2.2.1
  have e := cOw_i (o := o) hX hQ hM hc nB (Nat.le_refl _)
  have hs := dX_s (o := o) (c := c) hX hM nB (Nat.le_refl _)
  unfold F_Ldg_dueOf F_Book_owedBy
  rw [hz, nI_41, hl_cl (by omega), i32_sub (by rw [e]; omega), e]
end
section
variable {n : Nat} {S : hs_S} {ev ng nl nE nB nR nd o c : Nat}
theorem due_c (k : RS n S ev ng nl nE nB nR nd) (ho : o < 6) (hc : c < 4) : (F_Ldg_dueOf (nI o) (nI c) S).toInt = sI (dX S ng o c) nB - (S.1 35 1 (4 * o + c)).toInt ∧ (F_dueOf (nI o) (nI c) S).toInt = sI (dX S ng o c) nB - (S.1 35 1 (4 * o + c)).toInt ∧ -492375760 ≤ sI (dX S ng o c) nB - (S.1 35 1 (4 * o + c)).toInt ∧ sI (dX S ng o c) nB - (S.1 35 1 (4 * o + c)).toInt ≤ 492375760 := by
  obtain ⟨hX, hL, hQ, hM⟩ := k
  obtain ⟨l1, l2, l3⟩ := hL.2.1 (4 * o + c) (by omega)
  have h80 := hX.1.1.2.2.1.2
  have hs := dX_s (o := o) (c := c) hX hM nB (Nat.le_refl _)
  refine ⟨due_U hX hQ hM ho hc ⟨l2, l3⟩, ?_, by omega, by omega⟩
  rw [l1]
  exact due_V hX hM ho hc (by omega)
theorem P_due_of (k : RS n S ev ng nl nE nB nR nd) (ho : o < 6) (hc : c < 4) : P_Ldg_dueOf (nI o) (nI c) S ∧ P_dueOf (nI o) (nI c) S ∧ cBd S := by
  have hX := k.1
  have hA := hX.1
  have hev := hA.1.1
  have hz : hs_sz S 13 = nB := hA.2.2.1.2.2.1
  have hcb : cBd S := ⟨nB, hA.1.2.2.1.2, hz, fun k hk => by
    obtain ⟨⟨⟨b1, _⟩, _⟩, hB2⟩ := hX.2.2.2.2.2.2.1 k hk
    have eb : bd S k = k + 1 := b1
    have er : br S k = S.2.1 0 (k + 1) 2 := congrArg (fun z => S.2.1 0 z 2) eb
    rw [eb, er]
    exact ⟨Nat.succ_ne_zero _, (bid_rd (nB := nB) hB2 hX.2.2.2.2.2.2.2 (by omega) hA.1.2.2.2.1).1⟩⟩
  refine ⟨⟨⟨hcb, fun k hk => ?_⟩, ?_⟩, ⟨?_, ⟨nR, hA.1.2.2.2.1, hA.2.1.2.2.2.2.2.2.1⟩, ⟨nB, hA.1.2.2.1.2, hA.2.1.2.2.2.2.2.1⟩, ng, by have := hA.1.2.1; omega, hA.2.1.2.2.1⟩, hcb⟩
  · rw [hz] at hk
    obtain ⟨⟨⟨b1, _⟩, _⟩, hB2⟩ := hX.2.2.2.2.2.2.1 k hk
    have eb : bd S k = k + 1 := b1
    have er : br S k = S.2.1 0 (k + 1) 2 := congrArg (fun z => S.2.1 0 z 2) eb
    obtain ⟨_, x, hx, _, r2, _⟩ := bid_rd (nB := nB) hB2 hX.2.2.2.2.2.2.2 (by omega) hA.1.2.2.2.1
    unfold P_Rnd_feeOwner
    rw [er, r2, nI_6, nI_1]
    exact hl_ix (by omega) (by omega)
  · rw [nI_41]; exact hl_ix (by omega) (by omega)
  · rw [show (4 : Int32) * nI o = nI (4 * o) from pk_mul 4 o, nI_add]; exact hl_ix (by omega) (by omega)
end
section
variable {n : Nat} {S : hs_S} {ev ng nl nE nB nR nd o r : Nat}
theorem ex_b (k : RS n S ev ng nl nE nB nR nd) : ∀ j, j ≤ nB → (cOf S (nI o) j).toInt = sI (fun b => if mExC S (nI o) b then (S.1 68 1 b).toInt * (S.1 69 1 b).toInt else 0) j ∧ (mExB S (nI o) j).toInt = sI (fun b => if mExC S (nI o) b then (S.1 68 1 b).toInt * (S.1 69 1 b).toInt else 0) j ∧ 0 ≤ sI (fun b => if mExC S (nI o) b then (S.1 68 1 b).toInt * (S.1 69 1 b).toInt else 0) j ∧ sI (fun b => if mExC S (nI o) b then (S.1 68 1 b).toInt * (S.1 69 1 b).toInt else 0) j ≤ 999900 * (j : Int) := by
  have hX := k.1
  have hA := hX.1
  have hev := hA.1.1
  have h80 := hA.1.2.2.1.2
  intro j
  induction j with
  | zero => intro _; exact ⟨rfl, rfl, Int.le_refl _, Int.le_refl _⟩
  | succ j ih =>
    intro hj
    obtain ⟨i1, i2, i3, i4⟩ := ih (by omega)
    obtain ⟨⟨⟨b1, _, o', ho', b2, b2'⟩, ⟨b3, _⟩, ⟨m, hm, b4, b5⟩, ⟨l, hl, b6, b7⟩, _, b10, _⟩, hB2⟩ := hX.2.2.2.2.2.2.1 j (by omega)
    obtain ⟨_, c', hc', r1, r2, r3⟩ := bid_rd (nB := nB) hB2 hX.2.2.2.2.2.2.2 (by omega) hA.1.2.2.2.1
    have eb : bd S j = j + 1 := b1
    have er : br S j = S.2.1 0 (j + 1) 2 := congrArg (fun z => S.2.1 0 z 2) eb
    have h7 : S.1 0 (j + 1) 7 = 2147483647 ↔ S.1 71 1 j = -1 := by
      rcases b10 with ⟨w1, w2⟩ | ⟨w, hw, w1, w2⟩
      · rw [w1, w2]; exact ⟨fun _ => rfl, fun _ => rfl⟩
      · rw [w1, w2]; exact ⟨fun z => absurd z (neMax (by omega)), fun z => absurd z (neg1 (by omega))⟩
    have hcc : cOfC S (nI o) j ↔ mExC S (nI o) j := by
      unfold cOfC mExC
      rw [er, eb, b2', ← b2, b3, h7, r3]
      exact ⟨fun z => ⟨z.1, z.2.1, z.2.2.2, z.2.2.1⟩, fun z => ⟨z.1, z.2.1, z.2.2.2, z.2.2.1⟩⟩
    have hs : sI (fun b => if mExC S (nI o) b then (S.1 68 1 b).toInt * (S.1 69 1 b).toInt else 0) (j + 1) = sI (fun b => if mExC S (nI o) b then (S.1 68 1 b).toInt * (S.1 69 1 b).toInt else 0) j + (if mExC S (nI o) j then (S.1 68 1 j).toInt * (S.1 69 1 j).toInt else 0) := rfl
    have em : (nI m).toInt = m := nI_toInt (by omega)
    have el : (nI l).toInt = l := nI_toInt (by omega)
    have p1 : 0 ≤ (m : Int) * l := Int.mul_nonneg (by omega) (by omega)
    have p2 : (m : Int) * l ≤ 100 * 9999 := Int.mul_le_mul (by omega) (by omega) (by omega) (by omega)
    rw [hs]
    unfold cOf mExB
    by_cases q : mExC S (nI o) j
    · rw [if_pos (hcc.mpr q), if_pos q, if_pos q, eb, b5, b7, b4, b6]
      have e1 : (nI m * nI l).toInt = m * l := by rw [i32_mul (by rw [em, el]; omega), em, el]
      have e2 : ((nI m).toInt64 * (nI l).toInt64).toInt = m * l := by rw [i64_mul_of, em, el]
      rw [em, el, i32_add (by rw [i1, e1]; omega), i64_add (by rw [i2, e2]; omega), i1, i2, e1, e2]
      omega
    · rw [if_neg fun z => q (hcc.mp z), if_neg q, if_neg q, Int64.add_zero, i1, i2]
      omega
/-- exposures of the two sides -/
theorem ex_c (k : RS n S ev ng nl nE nB nR nd) (ho : o < 6) : (F_exposureOf (nI o) S).toInt = (F_Ldg_exposureOf (nI o) S).toInt ∧ 0 ≤ (F_Ldg_exposureOf (nI o) S).toInt ∧ (F_Ldg_exposureOf (nI o) S).toInt ≤ 2049495040 := by
  have hA := k.1.1
  have h80 := hA.1.2.2.1.2
  have hz : hs_sz S 13 = nB := hA.2.2.1.2.2.1
  obtain ⟨e1, e2, e3, e4⟩ := ex_b (o := o) k nB (Nat.le_refl _)
  have eB : mExB S (nI o) (S.1 11 1 24).toNatClampNeg = mExB S (nI o) nB := by rw [hA.2.1.2.2.2.2.2.1, hl_cl (by omega)]
  have st : ∀ c, c ≤ 4 → (mExD S (nI o) (mExB S (nI o) nB) c).toInt = (cEx S (nI o) c).toInt ∧ 0 ≤ (cEx S (nI o) c).toInt ∧ (cEx S (nI o) c).toInt ≤ 79992000 + 492375760 * (c : Int) := by
    intro c
    induction c with
    | zero =>
      intro _
      have e0 : (cEx S (nI o) 0).toInt = (cOf S (nI o) nB).toInt := by
        show (F_Book_offeredBy (nI o) S).toInt = _
        unfold F_Book_offeredBy
        rw [hz]
      rw [e0, e1]
      refine ⟨e2, by omega, by omega⟩
    | succ c ih =>
      intro hc
      obtain ⟨i1, i2, i3⟩ := ih (by omega)
      obtain ⟨d1, d2, d3, d4⟩ := due_c k ho (show c < 4 by omega)
      have z0 : (0 : Int32).toInt = 0 := rfl
      have z0' : (0 : Int64).toInt = 0 := rfl
      unfold mExD cEx
      have hq : F_dueOf (nI o) (nI c) S ≤ 0 ↔ ¬ 0 < F_Ldg_dueOf (nI o) (nI c) S := by
        rw [i64_le, i32_lt, z0, z0', d1, d2]; omega
      by_cases q : F_dueOf (nI o) (nI c) S ≤ 0
      · rw [if_pos q, if_neg (hq.mp q), Int64.add_zero, Int32.add_zero, i1]
        omega
      · have q' : 0 < F_Ldg_dueOf (nI o) (nI c) S := Classical.not_not.mp fun z => q (hq.mpr z)
        have q2 := q'
        rw [i32_lt, z0, d1] at q2
        rw [if_neg q, if_pos q', i64_add (by rw [i1, d2]; omega), i32_add (by rw [d1]; omega), i1, d1, d2]
        omega
  have h4 := st 4 (Nat.le_refl _)
  unfold F_exposureOf F_Ldg_exposureOf
  rw [eB]
  exact ⟨h4.1, h4.2.1, by omega⟩
end
section
variable {n : Nat} {S : hs_S} {ev ng nl nE nB nR nd r : Nat}
theorem fs_b (k : RS n S ev ng nl nE nB nR nd) (hr : r < nR) : ∀ j, j ≤ nB → (cFs S (S.2.1 14 1 r) j).toInt = sI (fun b => if S.1 72 1 b = nI r then bf S b else 0) j ∧ 0 ≤ sI (fun b => if S.1 72 1 b = nI r then bf S b else 0) j ∧ sI (fun b => if S.1 72 1 b = nI r then bf S b else 0) j ≤ 1009899 * (j : Int) := by
  obtain ⟨hX, hL, hQ, hM⟩ := k
  have h80 := hX.1.1.2.2.1.2
  have hR30 := hX.1.1.2.2.2.1
  intro j
  induction j with
  | zero => intro _; exact ⟨rfl, Int.le_refl _, Int.le_refl _⟩
  | succ j ih =>
    intro hj
    obtain ⟨i1, i2, i3⟩ := ih (by omega)
    obtain ⟨hw, hf⟩ := bid_b hX hM (show j < nB by omega)
    obtain ⟨_, e2, _⟩ := c_bid hX hQ hM (show j < nB by omega)
    obtain ⟨⟨⟨b1, _⟩, _⟩, _⟩ := hX.2.2.2.2.2.2.1 j (by omega)
    have eb : bd S j = j + 1 := b1
    have er : br S j = S.2.1 0 (j + 1) 2 := congrArg (fun z => S.2.1 0 z 2) eb
    have hs : sI (fun b => if S.1 72 1 b = nI r then bf S b else 0) (j + 1) = sI (fun b => if S.1 72 1 b = nI r then bf S b else 0) j + (if S.1 72 1 j = nI r then bf S j else 0) := rfl
    have hc := c_rd (r := r) hX.2.2.2.2.2.2.1 hX.2.2.2.2.2.2.2 hR30 hr (show j < nB by omega)
    rw [hs]
    unfold cFs
    rw [er, eb]
    by_cases q : S.1 72 1 j = nI r
    · rw [if_pos (hc.mpr q), if_pos q, i32_add (by rw [i1, e2]; omega), i1, e2]
      omega
    · rw [if_neg fun z => q (hc.mp z), if_neg q, i1]
      omega
end
theorem xor10 {a : Int32} : 0 ≤ a ^^^ 10 ↔ 0 ≤ a.toInt := by
  rw [i32_le]
  have z0 : (0 : Int32).toInt = 0 := rfl
  rw [z0]
  have h1 : (a ^^^ 10).toBitVec.msb = a.toBitVec.msb := by
    show (a.toBitVec ^^^ (10 : Int32).toBitVec).msb = _
    rw [BitVec.msb_xor]
    have : (10 : Int32).toBitVec.msb = false := by decide
    rw [this, Bool.xor_false]
  have h2 : (a ^^^ 10).toBitVec.msb = decide ((a ^^^ 10).toInt < 0) := BitVec.msb_eq_toInt
  have h3 : a.toBitVec.msb = decide (a.toInt < 0) := BitVec.msb_eq_toInt
  rw [h2, h3] at h1
  have h4 := decide_eq_decide.mp h1
  omega
theorem div10 {a : Int32} : (a / 10).toInt = if 0 ≤ a.toInt then a.toInt / 10 else -((-a.toInt) / 10) := by
  have zt : (10 : Int32).toInt = 10 := rfl
  have hb := i32_b a
  by_cases q : 0 ≤ a.toInt
  · rw [if_pos q, i32_div q (by rw [zt]; omega), zt]
  · rw [if_neg q, Int32.toInt_div, zt]
    have e : a.toInt.tdiv 10 = -((-a.toInt) / 10) := by
      have h1 : (-(-a.toInt)).tdiv 10 = -((-a.toInt).tdiv 10) := Int.neg_tdiv _ _
      rw [Int.neg_neg] at h1
      rw [h1, Int.tdiv_eq_ediv_of_nonneg (show 0 ≤ -a.toInt by omega)]
    rw [e]
    exact bm32 (by omega)
theorem floor10 {a : Int32} : (F_J_floorDiv a 10).toInt = a.toInt / 10 ∧ (F_J_floorMod a 10).toInt = a.toInt % 10 := by
  have zt : (10 : Int32).toInt = 10 := rfl
  have z1 : (1 : Int32).toInt = 1 := rfl
  have z0 : (0 : Int32).toInt = 0 := rfl
  have hb := i32_b a
  have hd := div10 (a := a)
  unfold F_J_floorDiv F_J_floorMod
  by_cases q : 0 ≤ a.toInt
  · rw [if_pos q] at hd
    have em : (a / 10 * 10).toInt = a.toInt / 10 * 10 := by rw [i32_mul (by rw [hd, zt]; omega), hd, zt]
    rw [if_pos (xor10.mpr q), if_pos (xor10.mpr q), hd, i32_sub (by rw [em]; omega), em]
    omega
  · rw [if_neg q] at hd
    have em : (a / 10 * 10).toInt = -((-a.toInt) / 10) * 10 := by rw [i32_mul (by rw [hd, zt]; omega), hd, zt]
    have es : (a - a / 10 * 10).toInt = a.toInt - -((-a.toInt) / 10) * 10 := by rw [i32_sub (by rw [em]; omega), em]
    rw [if_neg fun z => q (xor10.mp z), if_neg fun z => q (xor10.mp z)]
    constructor
    · by_cases z : a / 10 * 10 = a
      · rw [if_pos z, hd]
        rw [i32_eq, em] at z
        omega
      · rw [if_neg z, i32_sub (by rw [hd, z1]; omega), hd, z1]
        rw [i32_eq, em] at z
        omega
    · by_cases z : a - a / 10 * 10 = 0
      · rw [if_pos z, es]
        rw [i32_eq, es, z0] at z
        omega
      · rw [if_neg z, i32_add (by rw [es, zt]; omega), es, zt]
        rw [i32_eq, es, z0] at z
        omega
/-- what the bid's owner gains or gives, without fees -/
def bg (V : hs_S) (b : Nat) : Int := if V.1 67 1 b = 0 then -(bw V b) else bw V b
section
variable {n : Nat} {U V : hs_S} {ev ng nl nE nB nR nd b c r : Nat}
theorem dY_6 (hX : RX n U V ev ng nl nE nB nR nd) (hb : b < nB) : sI (fun o => dY V ng o b) 6 = bg V b := by
  have hA := hX.1
  have hev := hA.1.1
  have hR30 := hA.1.2.2.2.1
  obtain ⟨⟨⟨_, _, o', ho', b2, _⟩, _⟩, x, hx, x1, x2⟩ := hX.2.2.2.2.2.2.1 b hb
  have s1 : sI (fun o => if V.1 65 1 b = nI o then bs V b else 0) 6 = bs V b := by
    rw [sI_one (f := fun o => if V.1 65 1 b = nI o then bs V b else 0) (b := o') 6 ho' fun k hk hne => if_neg fun z => hne ((hl_inj (by omega) (by omega)).mp (z.symm.trans b2))]
    exact if_pos b2
  have s2 : sI (fun o => if feO V ng b = nI o then bf V b else 0) 6 = bf V b := by
    rcases x2 with ⟨y1, _⟩ | ⟨r, hr, y1, _, y3⟩
    · have f0 : bf V b = 0 := by
        unfold bf bw
        rw [if_pos y1, if_pos y1]
        by_cases z : V.1 67 1 b = 0
        · rw [if_pos z]
        · rw [if_neg z]; rfl
      rw [f0]
      exact sI_0 6 fun k _ => ite_self _
    · obtain ⟨w1, ⟨p, hp, w2⟩, _⟩ := (hX.2.2.2.2.2.2.2.1 r hr).2.2.2.2 (6 * x + 1) (by omega)
      have ef : feO V ng b = nI p := by
        unfold feO
        rw [y1, hl_cl (by omega), x1, show (6 : Int32) * nI x = nI (6 * x) from pk_mul 6 x, nI_1, ← w1, w2]
      rw [sI_one (f := fun o => if feO V ng b = nI o then bf V b else 0) (b := p) 6 hp fun k hk hne => if_neg fun z => hne ((hl_inj (by omega) (by omega)).mp (z.symm.trans ef))]
      exact if_pos ef
  have h1 := sI_add (f := fun o => dY V ng o b) (g := fun o => if feO V ng b = nI o then bf V b else 0) 6
  have h2 : sI (fun o => dY V ng o b + (if feO V ng b = nI o then bf V b else 0)) 6 = sI (fun o => if V.1 65 1 b = nI o then bs V b else 0) 6 := by
    refine sI_c 6 fun k hk => ?_
    unfold dY
    omega
  have h1' : sI (fun o => dY V ng o b + (if feO V ng b = nI o then bf V b else 0)) 6 = sI (fun o => dY V ng o b) 6 + sI (fun o => if feO V ng b = nI o then bf V b else 0) 6 := h1
  have e : bg V b = bs V b - bf V b := by
    unfold bg bs
    by_cases z : V.1 67 1 b = 0
    · have f0 : bf V b = 0 := by unfold bf; rw [if_pos z]
      rw [if_pos z, if_pos z, f0]; omega
    · rw [if_neg z, if_neg z]; omega
  omega
theorem rnd_0 (hX : RX n U V ev ng nl nE nB nR nd) (hM : rM V ng nl nE nB nR) (hr : r < nR) : sI (fun b => if V.1 72 1 b = nI r then bg V b else 0) nB = 0 := by
  have hA := hX.1
  have h80 := hA.1.2.2.1.2
  have hR30 := hA.1.2.2.2.1
  have hB := hX.2.2.2.2.2.2.1
  obtain ⟨_, _, m7, m8⟩ := hM r hr
  have e1 : sI (fun b => if V.1 72 1 b = nI r then bg V b else 0) nB = sI (fun b => (V.1 81 1 r).toInt * (if shT V (nI r) 1 b then (V.1 74 1 b).toInt else 0)) nB - sI (fun b => (V.1 81 1 r).toInt * (if shT V (nI r) 0 b then (V.1 74 1 b).toInt else 0)) nB := by
    have h1 := sI_add (f := fun b => if V.1 72 1 b = nI r then bg V b else 0) (g := fun b => (V.1 81 1 r).toInt * (if shT V (nI r) 0 b then (V.1 74 1 b).toInt else 0)) nB
    have h2 : sI (fun b => (if V.1 72 1 b = nI r then bg V b else 0) + (V.1 81 1 r).toInt * (if shT V (nI r) 0 b then (V.1 74 1 b).toInt else 0)) nB = sI (fun b => (V.1 81 1 r).toInt * (if shT V (nI r) 1 b then (V.1 74 1 b).toInt else 0)) nB := by
      refine sI_c nB fun b hb => ?_
      obtain ⟨⟨_, ⟨_, b3⟩, _⟩, _⟩ := hB b hb
      by_cases q : V.1 72 1 b = nI r
      · have n1 : ¬ V.1 72 1 b = -1 := by rw [q]; exact neg1 (by omega)
        have hrc : (V.1 72 1 b).toNatClampNeg = r := by rw [q]; exact hl_cl (by omega)
        have ew : bw V b = (V.1 81 1 r).toInt * (V.1 74 1 b).toInt := by unfold bw; rw [if_neg n1, hrc]
        have g := m7 b hb q
        unfold gotR at g
        rw [if_pos q]
        unfold bg
        by_cases t1 : shT V (nI r) 1 b = true
        · have u1 := (shT_mTP (by omega) t1).1
          have t0 : ¬ shT V (nI r) 0 b = true := fun z => by
            have := (shT_mTP (by omega) z).1
            rw [u1] at this; exact absurd this (by decide)
          rw [if_neg (by rw [u1]; decide), if_neg t0, if_pos t1, ew, Int.mul_zero]; omega
        · by_cases t0 : shT V (nI r) 0 b = true
          · have u0 := (shT_mTP (by omega) t0).1
            rw [if_pos u0, if_pos t0, if_neg t1, ew, Int.mul_zero]; omega
          · rw [if_neg t1, if_neg t0] at g
            rw [if_neg t1, if_neg t0, ew, g, Int.mul_zero]
            by_cases z : V.1 67 1 b = 0
            · rw [if_pos z]; rfl
            · rw [if_neg z]; rfl
      · have t1 : ¬ shT V (nI r) 1 b = true := fun z => q (shT_r (by omega) z)
        have t0 : ¬ shT V (nI r) 0 b = true := fun z => q (shT_r (by omega) z)
        rw [if_neg q, if_neg t1, if_neg t0, Int.mul_zero]; rfl
    have h1' : sI (fun b => (if V.1 72 1 b = nI r then bg V b else 0) + (V.1 81 1 r).toInt * (if shT V (nI r) 0 b then (V.1 74 1 b).toInt else 0)) nB = sI (fun b => if V.1 72 1 b = nI r then bg V b else 0) nB + sI (fun b => (V.1 81 1 r).toInt * (if shT V (nI r) 0 b then (V.1 74 1 b).toInt else 0)) nB := h1
    omega
  have e2 : ∀ u : Int32, u = 0 ∨ u = 1 → sI (fun b => (V.1 81 1 r).toInt * (if shT V (nI r) u b then (V.1 74 1 b).toInt else 0)) nB = (V.1 82 1 r).toInt * (V.1 81 1 r).toInt := fun u hu => by
    rw [← m8 u hu, ← sI_mul]
    exact sI_c nB fun b _ => Int.mul_comm _ _
  rw [e1, e2 1 (Or.inr rfl), e2 0 (Or.inl rfl)]
  omega
theorem col_0 (hX : RX n U V ev ng nl nE nB nR nd) (hM : rM V ng nl nE nB nR) : sI (fun b => if V.1 66 1 b = nI c then bg V b else 0) nB = 0 := by
  have hR30 := hX.1.1.2.2.2.1
  have hB := hX.2.2.2.2.2.2.1
  have e1 : sI (fun b => if V.1 66 1 b = nI c then bg V b else 0) nB = sI (fun b => sI (fun r => if V.1 77 1 r = nI c then (if V.1 72 1 b = nI r then bg V b else 0) else 0) nR) nB := by
    refine sI_c nB fun b hb => ?_
    obtain ⟨x, hx, x1, x2⟩ := (hB b hb).2
    rcases x2 with ⟨y1, _⟩ | ⟨r, hr, y1, _, y3⟩
    · have g0 : bg V b = 0 := by
        unfold bg bw
        rw [if_pos y1]
        by_cases z : V.1 67 1 b = 0
        · rw [if_pos z]; rfl
        · rw [if_neg z]
      rw [g0, ite_self]
      exact (sI_0 nR fun k _ => by rw [ite_self, ite_self]).symm
    · rw [sI_one (f := fun r => if V.1 77 1 r = nI c then (if V.1 72 1 b = nI r then bg V b else 0) else 0) (b := r) nR hr fun k hk hne => by
        have e : (if V.1 72 1 b = nI k then bg V b else 0) = 0 := if_neg fun z => hne ((hl_inj (by omega) (by omega)).mp (z.symm.trans y1))
        show (if V.1 77 1 k = nI c then (if V.1 72 1 b = nI k then bg V b else 0) else 0) = 0
        rw [e, ite_self]]
      rw [x1]
      show _ = if V.1 77 1 r = nI c then (if V.1 72 1 b = nI r then bg V b else 0) else 0
      rw [y3, if_pos y1]
  rw [e1, ← sI_swap]
  refine sI_0 nR fun r hr => ?_
  by_cases q : V.1 77 1 r = nI c
  · refine Eq.trans (sI_c nB fun b _ => if_pos q) ?_
    exact rnd_0 hX hM hr
  · exact sI_0 nB fun b _ => if_neg q
theorem dX_6 (hX : RX n U V ev ng nl nE nB nR nd) (hM : rM V ng nl nE nB nR) : sI (fun o => sI (dX V ng o c) nB) 6 = 0 := by
  rw [sI_swap]
  refine Eq.trans (sI_c nB fun b hb => ?_) (col_0 (c := c) hX hM)
  show sI (fun o => dX V ng o c b) 6 = _
  unfold dX
  by_cases q : V.1 66 1 b = nI c
  · rw [if_pos q]
    refine Eq.trans (sI_c 6 fun o _ => if_pos q) ?_
    exact dY_6 hX hb
  · rw [if_neg q]
    exact sI_0 6 fun o _ => if_neg q
end
abbrev pyS (S : hs_S) (v : Int32) (f : Nat → Nat → Nat → Int32) : hs_S := (fun t i p => if t = 35 ∨ t = 36 ∨ t = 38 ∨ t = 39 then f t i p else (hs_wI S 10 1 5 v).1 t i p, S.2)
abbrev setT (S : hs_S) (v : Int32) (f : Nat → Nat → Nat → Int32) (qc : Nat → Int32) (ql : Nat → Int64) (y : Int64) : hs_S := hs_wI (hs_st (E_asks 1 (hs_wL (pyS S v f) 100 1 (0 : Int32).toNatClampNeg y)) qc ql) 11 1 0 v
theorem settle_RR {n : Nat} {S : hs_S} {ev ng nl nE nB nR nd : Nat} {f : Nat → Nat → Nat → Int32} {qc : Nat → Int32} {ql : Nat → Int64} {y : Int64} (hS : RS n S ev ng nl nE nB nR nd) (hn : n < 512) (h36 : ∀ o, o < 6 → f 36 1 o = qc o) (h35 : ∀ p, p < 24 → (f 35 1 p).toInt = (ql p).toInt ∧ -250000000 ≤ (f 35 1 p).toInt ∧ (f 35 1 p).toInt ≤ 250000000) (h0 : ∀ c : Nat, c < 4 → sI (fun o => (ql (4 * o + c)).toInt) 6 = 0) : RR (n + 1) (setT S (nI (ev + 1)) f qc ql y) := by
  obtain ⟨⟨hA, hG, hH, hE, hF, hN, hB, hC⟩, hL, hQ, hM⟩ := hS
  have hev := hA.1.1
  have hG' := rG_up hH (by omega) hG
  have hH' := rH_up hH
  have hE' := rE_up hE
  have hB' := rB_up hB
  have hC' := rC_up hC
  refine ⟨ev + 1, ng, nl, nE, nB, nR, nd, ⟨⟨⟨⟨by omega, by omega⟩, by have := hA.1.2; omega⟩, ⟨rfl, rfl, hA.2.1.2.2⟩, hA.2.2⟩, hG', hH', hE', hF, hN, hB', hC'⟩, ⟨fun o ho => ⟨h36 o ho, (hL.1 o ho).2⟩, h35, h0, hL.2.2.2⟩, hQ, hM⟩
theorem ck_cOw {v : Int32} {S : hs_S} {o c : Int32} (k : Nat) : cOw (hs_ck v S) o c k = cOw S o c k := by
  induction k with
  | zero => rfl
  | succ k ih => unfold cOw; rw [ih]; rfl
theorem ck_due {v : Int32} {S : hs_S} {o c : Int32} : F_Ldg_dueOf o c (hs_ck v S) = F_Ldg_dueOf o c S := by
  unfold F_Ldg_dueOf F_Book_owedBy
  rw [ck_cOw]
  rfl
/-- what the class's owners pay, as the reference has it -/
theorem pay_i {S M : hs_S} {c : Nat} {v : Int32} (hD : ∀ o, o < 6 → (F_Ldg_dueOf (nI o) (nI c) S).toInt = stD M (nI c) o) (hb : ∀ o, o < 6 → -492375760 ≤ stD M (nI c) o ∧ stD M (nI c) o ≤ 492375760) : (∀ o, o < 6 → (pyP (hs_ck v S) (nI c) o).toInt = stPay M (nI c) o) ∧ (pyT (hs_ck v S) (nI c) 6).toInt = sI (fun o => max 0 (stPay M (nI c) o)) 6 := by
  have z0 : (0 : Int32).toInt = 0 := rfl
  have z1 : (1 : Int32).toInt = 1 := rfl
  have d : ∀ o, o < 6 → (pyD (hs_ck v S) (nI c) o).toInt = stD M (nI c) o := fun o ho => by
    show (F_Ldg_dueOf (nI o) (nI c) (hs_ck v S)).toInt = _
    rw [ck_due]; exact hD o ho
  have q : ∀ o, o < 6 → (pyQ (hs_ck v S) (nI c) o).toInt = stD M (nI c) o / 10 ∧ (pyC (hs_ck v S) (nI c) o).toInt = stD M (nI c) o % 10 := fun o ho => by
    obtain ⟨f1, f2⟩ := floor10 (a := pyD (hs_ck v S) (nI c) o)
    rw [d o ho] at f1 f2
    exact ⟨f1, f2⟩
  have sb := sI_bd (f := fun o => stD M (nI c) o / 10) (B := 49237577) (by omega) 6 fun k hk => by
    have := hb k hk
    show -49237577 ≤ stD M (nI c) k / 10 ∧ stD M (nI c) k / 10 ≤ 49237577
    omega
  have l : ∀ k, k ≤ 6 → (pyL (hs_ck v S) (nI c) k).toInt = -(sI (fun o => stD M (nI c) o / 10) k) := by
    intro k
    induction k with
    | zero => intro _; rfl
    | succ k ih =>
      intro hk
      have i1 := ih (by omega)
      have i2 := sI_bd (f := fun o => stD M (nI c) o / 10) (B := 49237577) (by omega) k fun j hj => by
        have := hb j (by omega)
        show -49237577 ≤ stD M (nI c) j / 10 ∧ stD M (nI c) j / 10 ≤ 49237577
        omega
      have hbk := hb k (by omega)
      have hs : sI (fun o => stD M (nI c) o / 10) (k + 1) = sI (fun o => stD M (nI c) o / 10) k + stD M (nI c) k / 10 := rfl
      unfold pyL
      rw [hs, i32_sub (by rw [i1, (q k (by omega)).1]; omega), i1, (q k (by omega)).1]
      omega
  have a : ∀ o, o < 6 → ∀ k, k ≤ 6 → (pyA (hs_ck v S) (nI c) o k).toInt = sI (fun j => if stB M (nI c) j o then 1 else 0) k ∧ 0 ≤ sI (fun j => if stB M (nI c) j o then 1 else 0) k ∧ sI (fun j => if stB M (nI c) j o then 1 else 0) k ≤ (k : Int) := by
    intro o ho k
    induction k with
    | zero => intro _; exact ⟨rfl, Int.le_refl _, Int.le_refl _⟩
    | succ k ih =>
      intro hk
      obtain ⟨i1, i2, i3⟩ := ih (by omega)
      have hs : sI (fun j => if stB M (nI c) j o then 1 else 0) (k + 1) = sI (fun j => if stB M (nI c) j o then 1 else 0) k + (if stB M (nI c) k o then 1 else 0) := rfl
      have hc : (pyC (hs_ck v S) (nI c) o < pyC (hs_ck v S) (nI c) k ∨ (pyC (hs_ck v S) (nI c) k = pyC (hs_ck v S) (nI c) o ∧ k < o)) ↔ stB M (nI c) k o = true := by
        unfold stB
        rw [decide_eq_true_eq, i32_lt, i32_eq, (q k (by omega)).2, (q o ho).2]
      unfold pyA
      rw [hs]
      by_cases w : stB M (nI c) k o = true
      · rw [if_pos (hc.mpr w), if_pos w, i32_add (by rw [i1, z1]; omega), i1, z1]; omega
      · rw [if_neg fun z => w (hc.mp z), if_neg w, i1]; omega
  have p : ∀ o, o < 6 → (pyP (hs_ck v S) (nI c) o).toInt = stPay M (nI c) o := fun o ho => by
    have hbo := hb o ho
    obtain ⟨a1, a2, a3⟩ := a o ho 6 (Nat.le_refl _)
    have hl := l 6 (Nat.le_refl _)
    have hh : pyL (hs_ck v S) (nI c) 6 ≤ pyA (hs_ck v S) (nI c) o 6 ↔ ¬ stH M (nI c) o = true := by
      unfold stH stL
      rw [decide_eq_true_eq, i32_le, hl, a1]
      omega
    unfold pyP stPay
    by_cases w : stH M (nI c) o = true
    · rw [if_neg fun z => hh.mp z w, if_pos w, i32_add (by rw [(q o ho).1, z1]; omega), (q o ho).1, z1]
    · rw [if_pos (hh.mpr w), if_neg w, Int32.add_zero, (q o ho).1]; omega
  refine ⟨p, ?_⟩
  have pb : ∀ o, o < 6 → -49237577 ≤ stPay M (nI c) o ∧ stPay M (nI c) o ≤ 49237578 := fun o ho => by
    have hbo := hb o ho
    unfold stPay
    by_cases w : stH M (nI c) o = true
    · rw [if_pos w]; omega
    · rw [if_neg w]; omega
  have t : ∀ k, k ≤ 6 → (pyT (hs_ck v S) (nI c) k).toInt = sI (fun o => max 0 (stPay M (nI c) o)) k ∧ 0 ≤ sI (fun o => max 0 (stPay M (nI c) o)) k ∧ sI (fun o => max 0 (stPay M (nI c) o)) k ≤ 49237578 * (k : Int) := by
    intro k
    induction k with
    | zero => intro _; exact ⟨rfl, Int.le_refl _, Int.le_refl _⟩
    | succ k ih =>
      intro hk
      obtain ⟨i1, i2, i3⟩ := ih (by omega)
      have hbk := pb k (by omega)
      have hpk := p k (by omega)
      have hs : sI (fun o => max 0 (stPay M (nI c) o)) (k + 1) = sI (fun o => max 0 (stPay M (nI c) o)) k + max 0 (stPay M (nI c) k) := rfl
      unfold pyT
      rw [hs]
      by_cases w : 0 < pyP (hs_ck v S) (nI c) k
      · have w' := w
        rw [i32_lt, z0, hpk] at w'
        rw [if_pos w, i32_add (by rw [i1, hpk]; omega), i1, hpk]
        omega
      · have w' := w
        rw [i32_lt, z0, hpk] at w'
        rw [if_neg w, Int32.add_zero, i1]
        omega
  exact (t 6 (Nat.le_refl _)).1
abbrev nbC (S : hs_S) (nB R : Nat) (o a3 a4 a5 e e' : Int32) : hs_S := hs_wI (hs_add (E_Bid_init (nB + 1) (nI nB) o R a3 a4 a5 e (hs_nw S 0)) 13 (nB + 1)) 10 1 5 e'
abbrev nbM (X : hs_S) (nB : Nat) (o c a3 a4 a5 e e' : Int32) : hs_S := hs_wI (hs_wI (hs_wI (hs_wI (hs_wI (hs_wI (hs_wI (hs_wI (hs_wI (hs_wI X 65 1 nB o) 66 1 nB c) 67 1 nB a3) 68 1 nB a4) 69 1 nB a5) 70 1 nB e) 71 1 nB (-1)) 72 1 nB (-1)) 11 1 24 (nI (nB + 1))) 11 1 0 e'
abbrev nbT (S : hs_S) (nB R : Nat) (o c a3 a4 a5 e e' : Int32) (y : Int64) : hs_S := nbM (E_asks 1 (hs_wL (nbC S nB R o a3 a4 a5 e e') 100 1 (0 : Int32).toNatClampNeg y)) nB o c a3 a4 a5 e e'
theorem nb0 {S : hs_S} {nB R p : Nat} {o c a3 a4 a5 e e' : Int32} {y : Int64} : (nbT S nB R o c a3 a4 a5 e e' y).1 0 (nB + 1) p = if p = 6 then e else if p = 5 then a5 else if p = 4 then a4 else if p = 3 then a3 else if p = 1 then o else if p = 0 then nI nB else if p = 9 then 0 else if p = 8 then 0 else if p = 7 then 2147483647 else (hs_nw S 0).1 0 (nB + 1) p := by
  show (hs_wI (hs_wI (hs_wI (hs_wI (hs_wI (hs_wI (hs_wI (hs_wI (hs_wI (hs_nw S 0) 0 (nB + 1) 7 2147483647) 0 (nB + 1) 8 0) 0 (nB + 1) 9 0) 0 (nB + 1) 0 (nI nB)) 0 (nB + 1) 1 o) 0 (nB + 1) 3 a3) 0 (nB + 1) 4 a4) 0 (nB + 1) 5 a5) 0 (nB + 1) 6 e).1 0 (nB + 1) p = _
  simp only [wI_at]
theorem nb0o {S : hs_S} {nB R i : Nat} {o c a3 a4 a5 e e' : Int32} {y : Int64} (h0 : S.2.2.2 0 = nB) (h : i ≠ nB + 1) : (nbT S nB R o c a3 a4 a5 e e' y).1 0 i = S.1 0 i ∧ (nbT S nB R o c a3 a4 a5 e e' y).2.1 0 i = S.2.1 0 i := by
  refine ⟨?_, (wR_ne (S := hs_nw S 0) (t := 0) (i := nB + 1) h).trans (nw_neR (by omega))⟩
  show (hs_wI (hs_wI (hs_wI (hs_wI (hs_wI (hs_wI (hs_wI (hs_wI (hs_wI (hs_nw S 0) 0 (nB + 1) 7 2147483647) 0 (nB + 1) 8 0) 0 (nB + 1) 9 0) 0 (nB + 1) 0 (nI nB)) 0 (nB + 1) 1 o) 0 (nB + 1) 3 a3) 0 (nB + 1) 4 a4) 0 (nB + 1) 5 a5) 0 (nB + 1) 6 e).1 0 i = _
  rw [wI_ne h, wI_ne h, wI_ne h, wI_ne h, wI_ne h, wI_ne h, wI_ne h, wI_ne h, wI_ne h, nw_ne (by omega)]
set_option maxRecDepth 100000 in
theorem bid_RR {n : Nat} {S : hs_S} {ev ng nl nE nB nR nd o c m l : Nat} {a3 : Int32} {y : Int64} (hS : RS n S ev ng nl nE nB nR nd) (hn : n < 512) (ho : o < 6) (hc : c < 4) (h3 : a3 = 0 ∨ a3 = 1) (hm : 1 ≤ m ∧ m ≤ 100) (hl : l ≤ 9999) (hB80 : nB < 80) : RR (n + 1) (nbT S nB (S.2.1 26 1 c) (nI o) (nI c) a3 (nI m) (nI l) (nI ev) (nI (ev + 1)) y) := by
  obtain ⟨⟨hA, hG, hH, hE, hF, hN, hB, hC⟩, hL, hQ, hM⟩ := hS
  have hev := hA.1.1
  have hR30 := hA.1.2.2.2.1
  have hz : hs_sz S 13 = nB := hA.2.2.1.2.2.1
  have h0 : S.2.2.2 0 = nB := hA.2.2.1.2.2.2.1
  have hG' := rG_up hH (by omega) hG
  have hH' := rH_up hH
  have hE' := rE_up hE
  have hC' := rC_up hC
  have e24 : (S.1 11 1 24).toNatClampNeg = nB := by rw [hA.2.1.2.2.2.2.2.1]; exact hl_cl (by omega)
  have z73 := hL.2.2.2.2.1 nB (by rw [e24]; exact Nat.le_refl _) hB80
  have hg2 : ∀ r, r < nR → ∃ f : Nat, f < ev ∧ S.1 78 1 r = nI f := fun r hr => by
    obtain ⟨_, _, ⟨f, l, g1, g2, _⟩, _⟩ := hC.1 r hr
    exact ⟨f, by omega, g2⟩
  have a65 : ∀ j, (nbT S nB (S.2.1 26 1 c) (nI o) (nI c) a3 (nI m) (nI l) (nI ev) (nI (ev + 1)) y).1 65 1 j = if j = nB then nI o else S.1 65 1 j := fun j => wI_at (S := S) (t := 65) (i := 1)
  have a66 : ∀ j, (nbT S nB (S.2.1 26 1 c) (nI o) (nI c) a3 (nI m) (nI l) (nI ev) (nI (ev + 1)) y).1 66 1 j = if j = nB then nI c else S.1 66 1 j := fun j => wI_at (S := S) (t := 66) (i := 1)
  have a67 : ∀ j, (nbT S nB (S.2.1 26 1 c) (nI o) (nI c) a3 (nI m) (nI l) (nI ev) (nI (ev + 1)) y).1 67 1 j = if j = nB then a3 else S.1 67 1 j := fun j => wI_at (S := S) (t := 67) (i := 1)
  have a68 : ∀ j, (nbT S nB (S.2.1 26 1 c) (nI o) (nI c) a3 (nI m) (nI l) (nI ev) (nI (ev + 1)) y).1 68 1 j = if j = nB then nI m else S.1 68 1 j := fun j => wI_at (S := S) (t := 68) (i := 1)
  have a69 : ∀ j, (nbT S nB (S.2.1 26 1 c) (nI o) (nI c) a3 (nI m) (nI l) (nI ev) (nI (ev + 1)) y).1 69 1 j = if j = nB then nI l else S.1 69 1 j := fun j => wI_at (S := S) (t := 69) (i := 1)
  have a70 : ∀ j, (nbT S nB (S.2.1 26 1 c) (nI o) (nI c) a3 (nI m) (nI l) (nI ev) (nI (ev + 1)) y).1 70 1 j = if j = nB then nI ev else S.1 70 1 j := fun j => wI_at (S := S) (t := 70) (i := 1)
  have a71 : ∀ j, (nbT S nB (S.2.1 26 1 c) (nI o) (nI c) a3 (nI m) (nI l) (nI ev) (nI (ev + 1)) y).1 71 1 j = if j = nB then -1 else S.1 71 1 j := fun j => wI_at (S := S) (t := 71) (i := 1)
  have a72 : ∀ j, (nbT S nB (S.2.1 26 1 c) (nI o) (nI c) a3 (nI m) (nI l) (nI ev) (nI (ev + 1)) y).1 72 1 j = if j = nB then -1 else S.1 72 1 j := fun j => wI_at (S := S) (t := 72) (i := 1)
  have k13 : ∀ j, (nbT S nB (S.2.1 26 1 c) (nI o) (nI c) a3 (nI m) (nI l) (nI ev) (nI (ev + 1)) y).2.1 13 1 j = if j = nB then nB + 1 else S.2.1 13 1 j := fun j => by
    have h1 : (nbT S nB (S.2.1 26 1 c) (nI o) (nI c) a3 (nI m) (nI l) (nI ev) (nI (ev + 1)) y).2.1 13 1 j = if 13 = 13 ∧ 1 = 1 ∧ j = S.2.1 13 2 0 then nB + 1 else if 13 = 13 ∧ (1 : Nat) = 2 ∧ j = 0 then S.2.1 13 2 0 + 1 else S.2.1 13 1 j := rfl
    rw [h1]
    by_cases q : j = nB
    · rw [if_pos q]; exact if_pos ⟨rfl, rfl, q.trans hz.symm⟩
    · rw [if_neg q]; exact (if_neg fun z => q (z.2.2.trans hz)).trans (if_neg fun z => absurd z.2.1 (by decide))
  have k02 : (nbT S nB (S.2.1 26 1 c) (nI o) (nI c) a3 (nI m) (nI l) (nI ev) (nI (ev + 1)) y).2.1 0 (nB + 1) 2 = S.2.1 26 1 c := (wR_at (S := hs_nw S 0) (t := 0) (i := nB + 1) (j := 2)).trans (if_pos rfl)
  refine ⟨ev + 1, ng, nl, nE, nB + 1, nR, nd, ⟨⟨⟨⟨by omega, by omega⟩, by have := hA.1.2.1; omega, ⟨hA.1.2.2.1.1, by omega⟩, hA.1.2.2.2⟩, ⟨rfl, rfl, hA.2.1.2.2.1, hA.2.1.2.2.2.1, hA.2.1.2.2.2.2.1, rfl, hA.2.1.2.2.2.2.2.2⟩, ⟨hA.2.2.1.1, hA.2.2.1.2.1, ?_, ?_, hA.2.2.1.2.2.2.2⟩, hA.2.2.2⟩, hG', hH', hE', hF, hN, fun b hb => ?_, hC'⟩, ⟨hL.1, hL.2.1, hL.2.2.1, hL.2.2.2.1, fun b h1 h2 => ?_, hL.2.2.2.2.2⟩, ⟨hQ.1, fun b hb => ?_⟩, fun r hr => ?_⟩
  · exact congrArg (· + 1) hz
  · exact congrArg (· + 1) h0
  · unfold rB1 rB2
    rw [k13, a65, a66, a67, a68, a69, a70, a71, a72]
    by_cases q : b = nB
    · subst q
      have c0 := fun p => nb0 (S := S) (nB := b) (R := S.2.1 26 1 c) (p := p) (o := nI o) (c := nI c) (a3 := a3) (a4 := nI m) (a5 := nI l) (e := nI ev) (e' := nI (ev + 1)) (y := y)
      simp only [if_true]
      exact ⟨⟨⟨trivial, c0 0, o, ho, rfl, c0 1⟩, ⟨c0 3, h3⟩, ⟨m, hm, rfl, c0 4⟩, ⟨l, hl, rfl, c0 5⟩, ⟨ev, by omega, rfl, c0 6⟩, Or.inl ⟨trivial, c0 7⟩, (c0 8).trans z73.1.symm, Or.inl z73.1⟩, c, hc, rfl, Or.inl ⟨trivial, k02⟩⟩
    · obtain ⟨⟨⟨g1, g2, o', g3, g4, g5⟩, ⟨g6, g7⟩, ⟨m', hm', g8, g9⟩, ⟨l', hl', g10, g11⟩, g12, g13, ⟨g14, g15⟩⟩, g16⟩ := (rB_up hB) b (by omega)
      obtain ⟨q0, q1⟩ := nb0o (S := S) (nB := nB) (R := S.2.1 26 1 c) (o := nI o) (c := nI c) (a3 := a3) (a4 := nI m) (a5 := nI l) (e := nI ev) (e' := nI (ev + 1)) (y := y) (i := b + 1) h0 (by omega)
      rw [q0, q1]
      simp only [if_neg q]
      exact ⟨⟨⟨g1, g2, o', g3, g4, g5⟩, ⟨g6, g7⟩, ⟨m', hm', g8, g9⟩, ⟨l', hl', g10, g11⟩, g12, g13, ⟨g14, g15⟩⟩, g16⟩
  · have h1' : (nI (nB + 1)).toNatClampNeg ≤ b := h1
    rw [hl_cl (by omega)] at h1'
    exact hL.2.2.2.2.1 b (by rw [e24]; omega) h2
  · by_cases q : b = nB
    · subst q
      have c0 := nb0 (S := S) (nB := b) (R := S.2.1 26 1 c) (o := nI o) (c := nI c) (a3 := a3) (a4 := nI m) (a5 := nI l) (e := nI ev) (e' := nI (ev + 1)) (y := y) (p := 9)
      exact ⟨(c0.trans rfl).trans z73.2.symm, fun _ => z73.2⟩
    · obtain ⟨q0, _⟩ := nb0o (S := S) (nB := nB) (R := S.2.1 26 1 c) (o := nI o) (c := nI c) (a3 := a3) (a4 := nI m) (a5 := nI l) (e := nI ev) (e' := nI (ev + 1)) (y := y) (i := b + 1) h0 (by omega)
      rw [q0, a72, if_neg q]
      exact hQ.2 b (by omega)
  · obtain ⟨f, hf, ef⟩ := hg2 r hr
    obtain ⟨_, ⟨x, hx, ec, _⟩, _⟩ := hC.1 r hr
    have see : S.1 78 1 r ≤ nI ev := by rw [ef]; exact (hl_le (by omega) (by omega)).mpr (by omega)
    have hS' : mSame S (nbT S nB (S.2.1 26 1 c) (nI o) (nI c) a3 (nI m) (nI l) (nI ev) (nI (ev + 1)) y) nB (nB + 1) r := ⟨⟨by omega, by omega, by omega⟩, fun b hb => by rw [a72, if_neg (by omega)], fun b h1 h2 => by
      have : b = nB := by omega
      rw [a72, if_pos this]
      exact fun z => neg1 (k := r) (by omega) z.symm, fun b hb h72 => ⟨⟨(a67 b).trans (if_neg (by omega)), (a68 b).trans (if_neg (by omega)), (a69 b).trans (if_neg (by omega))⟩, (a71 b).trans (if_neg (by omega)), rfl, rfl⟩, rfl, rfl, rfl⟩
    refine ⟨?_, mR_2 hS' (hM r hr).2.1 (hM r hr).2.2.1 (hM r hr).2.2.2⟩
    refine mR_1 (V := S) (hM r hr) hx ec (mX_eq hE hA.1.2.2.1.1 (fun _ => rfl) (fun _ _ => rfl) (fun _ => rfl) (fun _ _ => ⟨rfl, fun _ _ => rfl⟩) (fun _ => rfl) (fun w => ?_))
    refine baR_old (fun j hj => ⟨⟨(a66 j).trans (if_neg (by omega)), (a67 j).trans (if_neg (by omega)), (a68 j).trans (if_neg (by omega)), (a69 j).trans (if_neg (by omega))⟩, ?_⟩) (nB + 1) (by omega) fun j h1 h2 => ?_
    · unfold thR
      rw [a70, a71, a72, if_neg (show ¬ j = nB by omega), if_neg (show ¬ j = nB by omega), if_neg (show ¬ j = nB by omega)]
      exact Iff.rfl
    · have : j = nB := by omega
      exact Eq.mpr (congrArg (fun z => S.1 78 1 r ≤ z) ((a70 j).trans (if_pos this))) see
