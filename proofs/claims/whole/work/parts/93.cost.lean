/-! ===== what bids cost ===== -/
theorem sI_ex {f : Nat → Int} : ∀ n, 0 < sI f n → ∃ k, k < n ∧ 0 < f k := by
  intro n
  induction n with
  | zero => intro h; exact absurd h (by show ¬ (0 : Int) < 0; omega)
  | succ n ih =>
    intro h
    have h1 : 0 < sI f n + f n := h
    by_cases q : 0 < f n
    · exact ⟨n, by omega, q⟩
    · obtain ⟨k, hk, hf⟩ := ih (by omega)
      exact ⟨k, by omega, hf⟩
theorem clF_b {p v : Int32} : 0 ≤ (clF p v).toInt ∧ (clF p v).toInt ≤ 1000 := by
  have z0 : (0 : Int32).toInt = 0 := rfl
  have z1 : (1000 : Int32).toInt = 1000 := rfl
  unfold clF
  by_cases a : p = -1
  · rw [if_pos a, z0]; omega
  · rw [if_neg a]
    by_cases b : 0 ≤ v
    · rw [if_pos b]
      by_cases d : v ≤ 1000
      · rw [if_pos d]; rw [i32_le] at b d; omega
      · rw [if_neg d, z1]; omega
    · rw [if_neg b, z0]; omega
theorem price_nn {V : hs_S} {ng nl nE nB nR r : Nat} (hM : mR V ng nl nE nB nR r) (h : ¬ V.1 81 1 r = -1) : 0 ≤ (V.1 81 1 r).toInt := by
  obtain ⟨⟨f, v, f2, v2, _, _, m3, m4, _⟩, _⟩ := hM
  by_cases q : V.1 84 1 r = 0
  · rw [if_pos q] at m4
    rw [q] at m3
    unfold cY at m3
    generalize (if (mX V ng nl nE nB nR (V.1 78 1 r)).1 (6 * V.1 77 1 r) = 0 then (1 : Int32) else 0) = em at m3
    by_cases a : em = 0
    · rw [if_pos a] at m3
      by_cases b : f = 0
      · rw [if_pos b] at m3
        by_cases d : 0 ≤ v
        · rw [m4]; rw [i32_le] at d
          have z0 : (0 : Int32).toInt = 0 := rfl
          omega
        · rw [if_neg d] at m3; exact absurd m3 (by decide)
      · rw [if_neg b] at m3; exact absurd m3.symm b
    · rw [if_neg a] at m3; exact absurd m3 (by decide)
  · rw [if_neg q] at m4; exact absurd m4 h
section
variable {n : Nat} {U V : hs_S} {ev ng nl nE nB nR nd r b : Nat}
theorem shT_mTP {u : Int32} (hb : b < 80) (h : shT V (nI r) u b = true) : V.1 67 1 b = u ∧ mTP V b (nI r) := by
  unfold shT F_takesPart at h
  rw [decide_eq_true_eq, hl_cl (by omega), bI_eq0, Classical.not_not] at h
  exact h
theorem got_b (hX : RX n U V ev ng nl nE nB nR nd) (hr : r < nR) (hM : mR V ng nl nE nB nR r) (hb : b < nB) (h72 : V.1 72 1 b = nI r) : 0 ≤ (V.1 74 1 b).toInt ∧ (V.1 74 1 b).toInt ≤ 101 ∧ ((V.1 74 1 b).toInt = 0 ∨ (0 ≤ (V.1 81 1 r).toInt ∧ (V.1 81 1 r).toInt ≤ 9999)) := by
  have hA := hX.1
  have hB := hX.2.2.2.2.2.2.1
  have h80 := hA.1.2.2.1.2
  have hR30 := hA.1.2.2.2.1
  have hrc : (nI r).toNatClampNeg = r := hl_cl (by omega)
  have hm := fun b hb => amt (b := b) hB hb
  obtain ⟨m1, m6, m7, m8⟩ := id hM
  have hv0 := vol_b h80 (by omega) hm m6
  have s0 := (sum_i (w := 0) (r := r) h80 (by omega) hm nB (Nat.le_refl _)).1
  have s1 := (sum_i (w := 1) (r := r) h80 (by omega) hm nB (Nat.le_refl _)).1
  have a0 : (allR V nB r 0).toInt = _ := s0
  have a1 : (allR V nB r 1).toInt = _ := s1
  have vle : (V.1 82 1 r).toInt ≤ (allR V nB r 0).toInt ∧ (V.1 82 1 r).toInt ≤ (allR V nB r 1).toInt := by
    rw [m6]
    by_cases q : allR V nB r 0 ≤ allR V nB r 1
    · rw [if_pos q]; rw [i32_le] at q; omega
    · rw [if_neg q]; rw [i32_le] at q; omega
  -- what a bid that takes part gets
  have part : ∀ u : Int32, ∀ k, k < nB → shT V (nI r) u k = true → (V.1 82 1 r).toInt ≤ (allR V nB r u).toInt → 0 ≤ shG V (nI r) u (allR V nB r u) nB k ∧ shG V (nI r) u (allR V nB r u) nB k ≤ 101 := fun u k hk ht hle => by
    have hall := all_pos h80 (show r < 30 by omega) hm hk ht
    have hmk := hm k hk
    unfold shG
    by_cases z : V.1 80 1 r = 0
    · have e1 : shB V (nI r) (allR V nB r u) k = 0 := by unfold shB; rw [hrc, if_pos z]
      have e2 : shW V (nI r) k = (V.1 68 1 k).toInt := by unfold shW; rw [hrc, if_pos z]
      rw [e1, e2]
      omega
    · have e1 : shB V (nI r) (allR V nB r u) k = (V.1 82 1 r * V.1 68 1 k / allR V nB r u).toInt := by unfold shB shV0; rw [hrc, if_neg z]
      have e2 : shW V (nI r) k = 1 := by unfold shW; rw [hrc, if_neg z]
      have hc := cons_i (a := V.1 68 1 k) hv0 (by omega) hall
      have emul : (V.1 82 1 r * V.1 68 1 k).toInt = (V.1 82 1 r).toInt * (V.1 68 1 k).toInt := i32_mul (by
        have h1 : 0 ≤ (V.1 82 1 r).toInt * (V.1 68 1 k).toInt := Int.mul_nonneg hv0.1 (by omega)
        have h2 : (V.1 82 1 r).toInt * (V.1 68 1 k).toInt ≤ 8000 * 100 := Int.mul_le_mul hv0.2 hmk.2 (by omega) (by omega)
        omega)
      have h1 : 0 ≤ (V.1 82 1 r).toInt * (V.1 68 1 k).toInt := Int.mul_nonneg hv0.1 (by omega)
      have hd : (V.1 82 1 r * V.1 68 1 k / allR V nB r u).toInt ≤ (V.1 68 1 k).toInt := by
        rw [i32_div (by omega) hall, emul]
        have h3 : (V.1 82 1 r).toInt * (V.1 68 1 k).toInt ≤ (allR V nB r u).toInt * (V.1 68 1 k).toInt := Int.mul_le_mul_of_nonneg_right hle (by omega)
        have h4 := Int.ediv_le_ediv hall h3
        rw [Int.mul_ediv_cancel_left _ (by omega)] at h4
        exact h4
      rw [e1, e2]
      omega
  have pos9 : ∀ k, k < nB → shT V (nI r) 1 k = true → 0 ≤ (V.1 81 1 r).toInt ∧ (V.1 81 1 r).toInt ≤ 9999 := fun k hk ht => by
    obtain ⟨h67, t1, t2, t3, t4, t5⟩ := shT_mTP (by omega) ht
    rw [hrc] at t4 t5
    refine ⟨price_nn hM t4, ?_⟩
    rw [if_neg (by rw [h67]; decide)] at t5
    obtain ⟨⟨_, _, _, ⟨l, hl, e1, _⟩, _⟩, _⟩ := hB k hk
    rw [e1, i32_lt, nI_toInt (by omega)] at t5
    omega
  have g := m7 b hb h72
  rw [g]
  unfold gotR
  by_cases t1 : shT V (nI r) 1 b = true
  · rw [if_pos t1]
    have := part 1 b hb t1 vle.2
    exact ⟨this.1, this.2, Or.inr (pos9 b hb t1)⟩
  · rw [if_neg t1]
    by_cases t0 : shT V (nI r) 0 b = true
    · rw [if_pos t0]
      have hp := part 0 b hb t0 vle.1
      refine ⟨hp.1, hp.2, ?_⟩
      by_cases z : shG V (nI r) 0 (allR V nB r 0) nB b = 0
      · exact Or.inl z
      · right
        have hge := sI_ge (f := fun b => if shT V (nI r) 0 b then (V.1 74 1 b).toInt else 0) (b := b) nB (fun k hk => by
          show 0 ≤ (if shT V (nI r) 0 k then (V.1 74 1 k).toInt else 0)
          by_cases w : shT V (nI r) 0 k = true
          · have w1 : ¬ shT V (nI r) 1 k = true := fun y => by
              have := (shT_mTP (by omega) y).1
              rw [(shT_mTP (by omega) w).1] at this
              exact absurd this (by decide)
            rw [if_pos w, m7 k hk (shT_r (by omega) w)]
            unfold gotR
            rw [if_neg w1, if_pos w]
            exact (part 0 k hk w vle.1).1
          · rw [if_neg w]; exact Int.le_refl _) hb
        have hge' : (if shT V (nI r) 0 b then (V.1 74 1 b).toInt else 0) ≤ sI (fun b => if shT V (nI r) 0 b then (V.1 74 1 b).toInt else 0) nB := hge
        rw [if_pos t0, m8 0 (Or.inl rfl)] at hge'
        have eg : (V.1 74 1 b).toInt = shG V (nI r) 0 (allR V nB r 0) nB b := by
          rw [g]; unfold gotR; rw [if_neg t1, if_pos t0]
        have hpos : 0 < sI (fun b => if shT V (nI r) 1 b then (V.1 68 1 b).toInt else 0) nB := by omega
        obtain ⟨k, hk, hf⟩ := sI_ex nB hpos
        by_cases w : shT V (nI r) 1 k = true
        · exact pos9 k hk w
        · have hf' : 0 < (if shT V (nI r) 1 k then (V.1 68 1 k).toInt else 0) := hf
          rw [if_neg w] at hf'
          omega
    · rw [if_neg t0]
      exact ⟨Int.le_refl _, by omega, Or.inl rfl⟩
end
/-- cost, fee and what is owed, of one bid -/
def bw (V : hs_S) (b : Nat) : Int := if V.1 72 1 b = -1 then 0 else (V.1 81 1 (V.1 72 1 b).toNatClampNeg).toInt * (V.1 74 1 b).toInt
def bf (V : hs_S) (b : Nat) : Int := if V.1 67 1 b = 0 then 0 else bw V b * (if V.1 72 1 b = -1 then 0 else (V.1 83 1 (V.1 72 1 b).toNatClampNeg).toInt) / 1000
def bs (V : hs_S) (b : Nat) : Int := if V.1 67 1 b = 0 then -(bw V b) else bw V b + bf V b
theorem i64_mul_of {a b : Int32} : (a.toInt64 * b.toInt64).toInt = a.toInt * b.toInt := by
  have h1 := i32_b a
  have h2 := i32_b b
  have h3 : a.toInt * b.toInt ≤ 2147483648 * 2147483648 := by
    have := Int.natAbs_mul a.toInt b.toInt
    have hm : (a.toInt * b.toInt).natAbs ≤ 2147483648 * 2147483648 := by
      rw [this]; exact Nat.mul_le_mul (by omega) (by omega)
    omega
  have h4 : -(2147483648 * 2147483648) ≤ a.toInt * b.toInt := by
    have := Int.natAbs_mul a.toInt b.toInt
    have hm : (a.toInt * b.toInt).natAbs ≤ 2147483648 * 2147483648 := by
      rw [this]; exact Nat.mul_le_mul (by omega) (by omega)
    omega
  rw [i64_mul (by rw [i64_of, i64_of]; omega), i64_of, i64_of]
section
variable {n : Nat} {U V : hs_S} {ev ng nl nE nB nR nd b : Nat}
/-- bounds, and the sides' values, of one bid -/
theorem bid_b (hX : RX n U V ev ng nl nE nB nR nd) (hM : rM V ng nl nE nB nR) (hb : b < nB) : (0 ≤ bw V b ∧ bw V b ≤ 1009899) ∧ (0 ≤ bf V b ∧ bf V b ≤ 1009899) := by
  have hB := hX.2.2.2.2.2.2.1
  have hR30 := hX.1.1.2.2.2.1
  obtain ⟨c, hc, _, h⟩ := (hB b hb).2
  rcases h with ⟨h1, _⟩ | ⟨r, hr, h1, _⟩
  · unfold bf bw
    rw [if_pos h1, if_pos h1]
    by_cases q : V.1 67 1 b = 0
    · rw [if_pos q]; omega
    · rw [if_neg q]; omega
  · have n1 : ¬ V.1 72 1 b = -1 := by rw [h1]; exact neg1 (by omega)
    have hrc : (V.1 72 1 b).toNatClampNeg = r := by rw [h1]; exact hl_cl (by omega)
    obtain ⟨g1, g2, g3⟩ := got_b hX hr (hM r hr) hb h1
    have hf : 0 ≤ (V.1 83 1 r).toInt ∧ (V.1 83 1 r).toInt ≤ 1000 := by
      obtain ⟨⟨f, v, f2, v2, _, _, _, _, m5⟩, _⟩ := hM r hr
      rw [m5]; exact clF_b
    have ew : bw V b = (V.1 81 1 r).toInt * (V.1 74 1 b).toInt := by unfold bw; rw [if_neg n1, hrc]
    have hw : 0 ≤ bw V b ∧ bw V b ≤ 1009899 := by
      rw [ew]
      rcases g3 with z | z
      · rw [z, Int.mul_zero]; omega
      · have h1 : 0 ≤ (V.1 81 1 r).toInt * (V.1 74 1 b).toInt := Int.mul_nonneg z.1 g1
        have h2 : (V.1 81 1 r).toInt * (V.1 74 1 b).toInt ≤ 9999 * 101 := Int.mul_le_mul z.2 g2 g1 (by omega)
        omega
    refine ⟨hw, ?_⟩
    unfold bf
    by_cases q : V.1 67 1 b = 0
    · rw [if_pos q]; omega
    · rw [if_neg q, if_neg n1, hrc]
      have h1 : 0 ≤ bw V b * (V.1 83 1 r).toInt := Int.mul_nonneg hw.1 hf.1
      have h2 : bw V b * (V.1 83 1 r).toInt ≤ bw V b * 1000 := Int.mul_le_mul_of_nonneg_left hf.2 hw.1
      have h3 := Int.ediv_le_ediv (show (0 : Int) < 1000 by omega) h2
      rw [Int.mul_ediv_cancel _ (by omega)] at h3
      exact ⟨Int.ediv_nonneg h1 (by omega), by omega⟩
theorem c_bid (hX : RX n U V ev ng nl nE nB nR nd) (hQ : rQ U V nB nR) (hM : rM V ng nl nE nB nR) (hb : b < nB) : (F_Bid_worth (b + 1) U).toInt = bw V b ∧ (F_Bid_feePaid (b + 1) U).toInt = bf V b ∧ (F_Bid_owed (b + 1) U).toInt = bs V b := by
  have hB := hX.2.2.2.2.2.2.1
  have hC := hX.2.2.2.2.2.2.2
  have hR30 := hX.1.1.2.2.2.1
  obtain ⟨hw, hf⟩ := bid_b hX hM hb
  obtain ⟨⟨_, ⟨b3, _⟩, _⟩, _⟩ := hB b hb
  obtain ⟨q9, q0⟩ := hQ.2 b hb
  obtain ⟨c, hc, _, h⟩ := (hB b hb).2
  have z0 : (0 : Int32).toInt = 0 := rfl
  have zk : (1000 : Int32).toInt = 1000 := rfl
  have w1 : (F_Bid_worth (b + 1) U).toInt = bw V b := by
    unfold F_Bid_worth
    rw [q9]
    rcases h with ⟨h1, _⟩ | ⟨r, hr, h1, h2, _⟩
    · rw [if_pos (q0 h1), z0]; unfold bw; rw [if_pos h1]
    · have n1 : ¬ V.1 72 1 b = -1 := by rw [h1]; exact neg1 (by omega)
      have hrc : (V.1 72 1 b).toNatClampNeg = r := by rw [h1]; exact hl_cl (by omega)
      obtain ⟨g1, g2, g3⟩ := got_b hX hr (hM r hr) hb h1
      have ew : bw V b = (V.1 81 1 r).toInt * (V.1 74 1 b).toInt := by unfold bw; rw [if_neg n1, hrc]
      rw [h2, (hQ.1 r hr).1, ew]
      by_cases z : V.1 74 1 b = 0
      · rw [if_pos z, z, z0, Int.mul_zero]
      · rw [if_neg z, i32_mul (by rw [← ew]; omega)]
  have w2 : (F_Bid_feePaid (b + 1) U).toInt = bf V b := by
    unfold F_Bid_feePaid bf
    rw [b3]
    by_cases q : V.1 67 1 b = 0
    · rw [if_pos q, if_pos q, z0]
    · rw [if_neg q, if_neg q]
      rcases h with ⟨h1, _⟩ | ⟨r, hr, h1, h2, _⟩
      · have e0 : bw V b = 0 := by unfold bw; rw [if_pos h1]
        have e1 : F_Bid_worth (b + 1) U = 0 := i32_eq.mpr (by rw [w1, e0, z0])
        rw [if_pos h1, e1, e0, Int32.zero_mul]
        rfl
      · have n1 : ¬ V.1 72 1 b = -1 := by rw [h1]; exact neg1 (by omega)
        have hrc : (V.1 72 1 b).toNatClampNeg = r := by rw [h1]; exact hl_cl (by omega)
        have hfe : 0 ≤ (V.1 83 1 r).toInt ∧ (V.1 83 1 r).toInt ≤ 1000 := by
          obtain ⟨⟨f, v, f2, v2, _, _, _, _, m5⟩, _⟩ := hM r hr
          rw [m5]; exact clF_b
        have h3 : 0 ≤ bw V b * (V.1 83 1 r).toInt := Int.mul_nonneg hw.1 hfe.1
        have h4 : bw V b * (V.1 83 1 r).toInt ≤ 1009899 * 1000 := Int.mul_le_mul hw.2 hfe.2 hfe.1 (by omega)
        have em : (F_Bid_worth (b + 1) U * V.1 83 1 r).toInt = bw V b * (V.1 83 1 r).toInt := by rw [i32_mul (by rw [w1]; omega), w1]
        rw [if_neg n1, hrc, h2, (hQ.1 r hr).2.2.1, i32_div (by rw [em]; exact h3) (by rw [zk]; omega), em, zk]
  refine ⟨w1, w2, ?_⟩
  unfold F_Bid_owed bs
  rw [b3]
  by_cases q : V.1 67 1 b = 0
  · rw [if_pos q, if_pos q]
    have e : (-(F_Bid_worth (b + 1) U)).toInt = -(F_Bid_worth (b + 1) U).toInt := by
      rw [Int32.toInt_neg]; exact bm32 (by rw [w1]; omega)
    rw [e, w1]
  · rw [if_neg q, if_neg q, i32_add (by rw [w1, w2]; omega), w1, w2]
end
