/-! ===== floors, and dues that come to nothing ===== -/
theorem xor10 {a : Int32} : 0 ≤ a ^^^ 10 ↔ 0 ≤ a.toInt := by
  rw [i32_le]
  have z0 : (0 : Int32).toInt = 0 := rfl
  rw [z0]
  have h1 : (a ^^^ 10).toBitVec.msb = a.toBitVec.msb := by
    show (a.toBitVec ^^^ (10 : Int32).toBitVec).msb = _
    rw [BitVec.msb_xor]
    have : (10 : Int32).toBitVec.msb = false := by decide
    rw [this, Bool.xor_false]
  have h2 : (a ^^^ 10).toBitVec.msb = decide ((a ^^^ 10).toInt < 0) := BitVec.msb_eq_toInt
  have h3 : a.toBitVec.msb = decide (a.toInt < 0) := BitVec.msb_eq_toInt
  rw [h2, h3] at h1
  have h4 := decide_eq_decide.mp h1
  omega
theorem div10 {a : Int32} : (a / 10).toInt = if 0 ≤ a.toInt then a.toInt / 10 else -((-a.toInt) / 10) := by
  have zt : (10 : Int32).toInt = 10 := rfl
  have hb := i32_b a
  by_cases q : 0 ≤ a.toInt
  · rw [if_pos q, i32_div q (by rw [zt]; omega), zt]
  · rw [if_neg q, Int32.toInt_div, zt]
    have e : a.toInt.tdiv 10 = -((-a.toInt) / 10) := by
      have h1 : (-(-a.toInt)).tdiv 10 = -((-a.toInt).tdiv 10) := Int.neg_tdiv _ _
      rw [Int.neg_neg] at h1
      rw [h1, Int.tdiv_eq_ediv_of_nonneg (show 0 ≤ -a.toInt by omega)]
    rw [e]
    exact bm32 (by omega)
theorem floor10 {a : Int32} : (F_J_floorDiv a 10).toInt = a.toInt / 10 ∧ (F_J_floorMod a 10).toInt = a.toInt % 10 := by
  have zt : (10 : Int32).toInt = 10 := rfl
  have z1 : (1 : Int32).toInt = 1 := rfl
  have z0 : (0 : Int32).toInt = 0 := rfl
  have hb := i32_b a
  have hd := div10 (a := a)
  unfold F_J_floorDiv F_J_floorMod
  by_cases q : 0 ≤ a.toInt
  · rw [if_pos q] at hd
    have em : (a / 10 * 10).toInt = a.toInt / 10 * 10 := by rw [i32_mul (by rw [hd, zt]; omega), hd, zt]
    rw [if_pos (xor10.mpr q), if_pos (xor10.mpr q), hd, i32_sub (by rw [em]; omega), em]
    omega
  · rw [if_neg q] at hd
    have em : (a / 10 * 10).toInt = -((-a.toInt) / 10) * 10 := by rw [i32_mul (by rw [hd, zt]; omega), hd, zt]
    have es : (a - a / 10 * 10).toInt = a.toInt - -((-a.toInt) / 10) * 10 := by rw [i32_sub (by rw [em]; omega), em]
    rw [if_neg fun z => q (xor10.mp z), if_neg fun z => q (xor10.mp z)]
    constructor
    · by_cases z : a / 10 * 10 = a
      · rw [if_pos z, hd]
        rw [i32_eq, em] at z
        omega
      · rw [if_neg z, i32_sub (by rw [hd, z1]; omega), hd, z1]
        rw [i32_eq, em] at z
        omega
    · by_cases z : a - a / 10 * 10 = 0
      · rw [if_pos z, es]
        rw [i32_eq, es, z0] at z
        omega
      · rw [if_neg z, i32_add (by rw [es, zt]; omega), es, zt]
        rw [i32_eq, es, z0] at z
        omega
/-- what the bid's owner gains or gives, without fees -/
def bg (V : hs_S) (b : Nat) : Int := if V.1 67 1 b = 0 then -(bw V b) else bw V b
section
variable {n : Nat} {U V : hs_S} {ev ng nl nE nB nR nd b c r : Nat}
theorem dY_6 (hX : RX n U V ev ng nl nE nB nR nd) (hb : b < nB) : sI (fun o => dY V ng o b) 6 = bg V b := by
  have hA := hX.1
  have hev := hA.1.1
  have hR30 := hA.1.2.2.2.1
  obtain ⟨⟨⟨_, _, o', ho', b2, _⟩, _⟩, x, hx, x1, x2⟩ := hX.2.2.2.2.2.2.1 b hb
  have s1 : sI (fun o => if V.1 65 1 b = nI o then bs V b else 0) 6 = bs V b := by
    rw [sI_one (f := fun o => if V.1 65 1 b = nI o then bs V b else 0) (b := o') 6 ho' fun k hk hne => if_neg fun z => hne ((hl_inj (by omega) (by omega)).mp (z.symm.trans b2))]
    exact if_pos b2
  have s2 : sI (fun o => if feO V ng b = nI o then bf V b else 0) 6 = bf V b := by
    rcases x2 with ⟨y1, _⟩ | ⟨r, hr, y1, _, y3⟩
    · have f0 : bf V b = 0 := by
        unfold bf bw
        rw [if_pos y1, if_pos y1]
        by_cases z : V.1 67 1 b = 0
        · rw [if_pos z]
        · rw [if_neg z]; rfl
      rw [f0]
      exact sI_0 6 fun k _ => ite_self _
    · obtain ⟨w1, ⟨p, hp, w2⟩, _⟩ := (hX.2.2.2.2.2.2.2.1 r hr).2.2.2.2 (6 * x + 1) (by omega)
      have ef : feO V ng b = nI p := by
        unfold feO
        rw [y1, hl_cl (by omega), x1, show (6 : Int32) * nI x = nI (6 * x) from pk_mul 6 x, nI_1, ← w1, w2]
      rw [sI_one (f := fun o => if feO V ng b = nI o then bf V b else 0) (b := p) 6 hp fun k hk hne => if_neg fun z => hne ((hl_inj (by omega) (by omega)).mp (z.symm.trans ef))]
      exact if_pos ef
  have h1 := sI_add (f := fun o => dY V ng o b) (g := fun o => if feO V ng b = nI o then bf V b else 0) 6
  have h2 : sI (fun o => dY V ng o b + (if feO V ng b = nI o then bf V b else 0)) 6 = sI (fun o => if V.1 65 1 b = nI o then bs V b else 0) 6 := by
    refine sI_c 6 fun k hk => ?_
    unfold dY
    omega
  have h1' : sI (fun o => dY V ng o b + (if feO V ng b = nI o then bf V b else 0)) 6 = sI (fun o => dY V ng o b) 6 + sI (fun o => if feO V ng b = nI o then bf V b else 0) 6 := h1
  have e : bg V b = bs V b - bf V b := by
    unfold bg bs
    by_cases z : V.1 67 1 b = 0
    · have f0 : bf V b = 0 := by unfold bf; rw [if_pos z]
      rw [if_pos z, if_pos z, f0]; omega
    · rw [if_neg z, if_neg z]; omega
  omega
theorem rnd_0 (hX : RX n U V ev ng nl nE nB nR nd) (hM : rM V ng nl nE nB nR) (hr : r < nR) : sI (fun b => if V.1 72 1 b = nI r then bg V b else 0) nB = 0 := by
  have hA := hX.1
  have h80 := hA.1.2.2.1.2
  have hR30 := hA.1.2.2.2.1
  have hB := hX.2.2.2.2.2.2.1
  obtain ⟨_, _, m7, m8⟩ := hM r hr
  have e1 : sI (fun b => if V.1 72 1 b = nI r then bg V b else 0) nB = sI (fun b => (V.1 81 1 r).toInt * (if shT V (nI r) 1 b then (V.1 74 1 b).toInt else 0)) nB - sI (fun b => (V.1 81 1 r).toInt * (if shT V (nI r) 0 b then (V.1 74 1 b).toInt else 0)) nB := by
    have h1 := sI_add (f := fun b => if V.1 72 1 b = nI r then bg V b else 0) (g := fun b => (V.1 81 1 r).toInt * (if shT V (nI r) 0 b then (V.1 74 1 b).toInt else 0)) nB
    have h2 : sI (fun b => (if V.1 72 1 b = nI r then bg V b else 0) + (V.1 81 1 r).toInt * (if shT V (nI r) 0 b then (V.1 74 1 b).toInt else 0)) nB = sI (fun b => (V.1 81 1 r).toInt * (if shT V (nI r) 1 b then (V.1 74 1 b).toInt else 0)) nB := by
      refine sI_c nB fun b hb => ?_
      obtain ⟨⟨_, ⟨_, b3⟩, _⟩, _⟩ := hB b hb
      by_cases q : V.1 72 1 b = nI r
      · have n1 : ¬ V.1 72 1 b = -1 := by rw [q]; exact neg1 (by omega)
        have hrc : (V.1 72 1 b).toNatClampNeg = r := by rw [q]; exact hl_cl (by omega)
        have ew : bw V b = (V.1 81 1 r).toInt * (V.1 74 1 b).toInt := by unfold bw; rw [if_neg n1, hrc]
        have g := m7 b hb q
        unfold gotR at g
        rw [if_pos q]
        unfold bg
        by_cases t1 : shT V (nI r) 1 b = true
        · have u1 := (shT_mTP (by omega) t1).1
          have t0 : ¬ shT V (nI r) 0 b = true := fun z => by
            have := (shT_mTP (by omega) z).1
            rw [u1] at this; exact absurd this (by decide)
          rw [if_neg (by rw [u1]; decide), if_neg t0, if_pos t1, ew, Int.mul_zero]; omega
        · by_cases t0 : shT V (nI r) 0 b = true
          · have u0 := (shT_mTP (by omega) t0).1
            rw [if_pos u0, if_pos t0, if_neg t1, ew, Int.mul_zero]; omega
          · rw [if_neg t1, if_neg t0] at g
            rw [if_neg t1, if_neg t0, ew, g, Int.mul_zero]
            by_cases z : V.1 67 1 b = 0
            · rw [if_pos z]; rfl
            · rw [if_neg z]; rfl
      · have t1 : ¬ shT V (nI r) 1 b = true := fun z => q (shT_r (by omega) z)
        have t0 : ¬ shT V (nI r) 0 b = true := fun z => q (shT_r (by omega) z)
        rw [if_neg q, if_neg t1, if_neg t0, Int.mul_zero]; rfl
    have h1' : sI (fun b => (if V.1 72 1 b = nI r then bg V b else 0) + (V.1 81 1 r).toInt * (if shT V (nI r) 0 b then (V.1 74 1 b).toInt else 0)) nB = sI (fun b => if V.1 72 1 b = nI r then bg V b else 0) nB + sI (fun b => (V.1 81 1 r).toInt * (if shT V (nI r) 0 b then (V.1 74 1 b).toInt else 0)) nB := h1
    omega
  have e2 : ∀ u : Int32, u = 0 ∨ u = 1 → sI (fun b => (V.1 81 1 r).toInt * (if shT V (nI r) u b then (V.1 74 1 b).toInt else 0)) nB = (V.1 82 1 r).toInt * (V.1 81 1 r).toInt := fun u hu => by
    rw [← m8 u hu, ← sI_mul]
    exact sI_c nB fun b _ => Int.mul_comm _ _
  rw [e1, e2 1 (Or.inr rfl), e2 0 (Or.inl rfl)]
  omega
theorem col_0 (hX : RX n U V ev ng nl nE nB nR nd) (hM : rM V ng nl nE nB nR) : sI (fun b => if V.1 66 1 b = nI c then bg V b else 0) nB = 0 := by
  have hR30 := hX.1.1.2.2.2.1
  have hB := hX.2.2.2.2.2.2.1
  have e1 : sI (fun b => if V.1 66 1 b = nI c then bg V b else 0) nB = sI (fun b => sI (fun r => if V.1 77 1 r = nI c then (if V.1 72 1 b = nI r then bg V b else 0) else 0) nR) nB := by
    refine sI_c nB fun b hb => ?_
    obtain ⟨x, hx, x1, x2⟩ := (hB b hb).2
    rcases x2 with ⟨y1, _⟩ | ⟨r, hr, y1, _, y3⟩
    · have g0 : bg V b = 0 := by
        unfold bg bw
        rw [if_pos y1]
        by_cases z : V.1 67 1 b = 0
        · rw [if_pos z]; rfl
        · rw [if_neg z]
      rw [g0, ite_self]
      exact (sI_0 nR fun k _ => by rw [ite_self, ite_self]).symm
    · rw [sI_one (f := fun r => if V.1 77 1 r = nI c then (if V.1 72 1 b = nI r then bg V b else 0) else 0) (b := r) nR hr fun k hk hne => by
        have e : (if V.1 72 1 b = nI k then bg V b else 0) = 0 := if_neg fun z => hne ((hl_inj (by omega) (by omega)).mp (z.symm.trans y1))
        show (if V.1 77 1 k = nI c then (if V.1 72 1 b = nI k then bg V b else 0) else 0) = 0
        rw [e, ite_self]]
      rw [x1]
      show _ = if V.1 77 1 r = nI c then (if V.1 72 1 b = nI r then bg V b else 0) else 0
      rw [y3, if_pos y1]
  rw [e1, ← sI_swap]
  refine sI_0 nR fun r hr => ?_
  by_cases q : V.1 77 1 r = nI c
  · refine Eq.trans (sI_c nB fun b _ => if_pos q) ?_
    exact rnd_0 hX hM hr
  · exact sI_0 nB fun b _ => if_neg q
theorem dX_6 (hX : RX n U V ev ng nl nE nB nR nd) (hM : rM V ng nl nE nB nR) : sI (fun o => sI (dX V ng o c) nB) 6 = 0 := by
  rw [sI_swap]
  refine Eq.trans (sI_c nB fun b hb => ?_) (col_0 (c := c) hX hM)
  show sI (fun o => dX V ng o c b) 6 = _
  unfold dX
  by_cases q : V.1 66 1 b = nI c
  · rw [if_pos q]
    refine Eq.trans (sI_c 6 fun o _ => if_pos q) ?_
    exact dY_6 hX hb
  · rw [if_neg q]
    exact sI_0 6 fun o _ => if_neg q
end
