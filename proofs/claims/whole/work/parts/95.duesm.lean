/-! ===== dues, the reference ===== -/
section
variable {n : Nat} {U V : hs_S} {ev ng nl nE nB nR nd b o c r : Nat}
theorem m_bid (hX : RX n U V ev ng nl nE nB nR nd) (hM : rM V ng nl nE nB nR) (hb : b < nB) (hr : r < nR) (h72 : V.1 72 1 b = nI r) : (F_costOf (nI b) V).toInt = bw V b ∧ (F_feeOf (nI b) V).toInt = bf V b := by
  have hR30 := hX.1.1.2.2.2.1
  have h80 := hX.1.1.2.2.1.2
  obtain ⟨hw, hf⟩ := bid_b hX hM hb
  have n1 : ¬ V.1 72 1 b = -1 := by rw [h72]; exact neg1 (by omega)
  have hbc : (nI b).toNatClampNeg = b := hl_cl (by omega)
  have ec : (F_costOf (nI b) V).toInt = bw V b := by
    unfold F_costOf bw
    rw [hbc, if_neg n1, i64_mul_of]
  refine ⟨ec, ?_⟩
  unfold F_feeOf bf
  rw [hbc]
  by_cases q : V.1 67 1 b = 0
  · rw [if_pos q, if_pos q]; rfl
  · rw [if_neg q, if_neg q, if_neg n1]
    have hfe : 0 ≤ (V.1 83 1 r).toInt ∧ (V.1 83 1 r).toInt ≤ 1000 := by
      obtain ⟨⟨f, v, f2, v2, _, _, _, _, m5⟩, _⟩ := hM r hr
      rw [m5]; exact clF_b
    have hrc : (V.1 72 1 b).toNatClampNeg = r := by rw [h72]; exact hl_cl (by omega)
    rw [hrc]
    have h3 : 0 ≤ bw V b * (V.1 83 1 r).toInt := Int.mul_nonneg hw.1 hfe.1
    have h4 : bw V b * (V.1 83 1 r).toInt ≤ 1009899 * 1000 := Int.mul_le_mul hw.2 hfe.2 hfe.1 (by omega)
    have em : (F_costOf (nI b) V * (V.1 83 1 r).toInt64).toInt = bw V b * (V.1 83 1 r).toInt := by rw [i64_mul (by rw [ec, i64_of]; omega), ec, i64_of]
    have zk : (1000 : Int64).toInt = 1000 := rfl
    rw [i64_div (by rw [em]; exact h3) (by rw [zk]; omega), em, zk]
theorem m_fees (hX : RX n U V ev ng nl nE nB nR nd) (hM : rM V ng nl nE nB nR) (hr : r < nR) : ∀ k, k ≤ nB → (mFs V (nI r) k).toInt = sI (fun b => if V.1 72 1 b = nI r then bf V b else 0) k ∧ 0 ≤ sI (fun b => if V.1 72 1 b = nI r then bf V b else 0) k ∧ sI (fun b => if V.1 72 1 b = nI r then bf V b else 0) k ≤ 1009899 * (k : Int) := by
  have h80 := hX.1.1.2.2.1.2
  intro k
  induction k with
  | zero => intro _; exact ⟨rfl, Int.le_refl _, Int.le_refl _⟩
  | succ k ih =>
    intro hk
    obtain ⟨i1, i2, i3⟩ := ih (by omega)
    obtain ⟨hw, hf⟩ := bid_b hX hM (show k < nB by omega)
    have hs : sI (fun b => if V.1 72 1 b = nI r then bf V b else 0) (k + 1) = sI (fun b => if V.1 72 1 b = nI r then bf V b else 0) k + (if V.1 72 1 k = nI r then bf V k else 0) := rfl
    rw [hs]
    unfold mFs
    by_cases q : V.1 72 1 k = nI r
    · have e := (m_bid hX hM (show k < nB by omega) hr q).2
      rw [if_pos q, if_pos q, i64_add (by rw [i1, e]; omega), i1, e]
      omega
    · rw [if_neg q, if_neg q, Int64.add_zero, i1]
      omega
theorem bs_b (hX : RX n U V ev ng nl nE nB nR nd) (hM : rM V ng nl nE nB nR) (hb : b < nB) : -1009899 ≤ bs V b ∧ bs V b ≤ 2019798 := by
  obtain ⟨hw, hf⟩ := bid_b hX hM hb
  unfold bs
  by_cases q : V.1 67 1 b = 0
  · rw [if_pos q]; omega
  · rw [if_neg q]; omega
theorem m_dueT (hX : RX n U V ev ng nl nE nB nR nd) (hM : rM V ng nl nE nB nR) (hb : b < nB) (hr : r < nR) : (mDueT V (nI o) (nI r) b).toInt = if V.1 72 1 b = nI r ∧ V.1 65 1 b = nI o then bs V b else 0 := by
  unfold mDueT
  by_cases q : V.1 72 1 b = nI r ∧ V.1 65 1 b = nI o
  · obtain ⟨e1, e2⟩ := m_bid hX hM hb hr q.1
    obtain ⟨hw, hf⟩ := bid_b hX hM hb
    rw [if_pos q, if_pos q]
    unfold bs
    by_cases z : V.1 67 1 b = 0
    · rw [if_pos z, if_pos z, Int64.toInt_neg, e1]
      exact bm64 (by omega)
    · rw [if_neg z, if_neg z, i64_add (by rw [e1, e2]; omega), e1, e2]
  · rw [if_neg q, if_neg q]; rfl
theorem m_dueI (hX : RX n U V ev ng nl nE nB nR nd) (hM : rM V ng nl nE nB nR) (hr : r < nR) {acc : Int64} (ha : -100000000000 ≤ acc.toInt ∧ acc.toInt ≤ 100000000000) : ∀ k, k ≤ nB → (mDueI V (nI o) (nI r) acc k).toInt = acc.toInt + sI (fun b => if V.1 72 1 b = nI r ∧ V.1 65 1 b = nI o then bs V b else 0) k := by
  have h80 := hX.1.1.2.2.1.2
  intro k
  induction k with
  | zero => intro _; show acc.toInt = acc.toInt + 0; omega
  | succ k ih =>
    intro hk
    have i1 := ih (by omega)
    have i2 := sI_bd (f := fun b => if V.1 72 1 b = nI r ∧ V.1 65 1 b = nI o then bs V b else 0) (B := 2019798) (by omega) k fun j hj => by
      have := bs_b hX hM (show j < nB by omega)
      show -2019798 ≤ (if V.1 72 1 j = nI r ∧ V.1 65 1 j = nI o then bs V j else 0) ∧ (if V.1 72 1 j = nI r ∧ V.1 65 1 j = nI o then bs V j else 0) ≤ 2019798
      by_cases q : V.1 72 1 j = nI r ∧ V.1 65 1 j = nI o
      · rw [if_pos q]; omega
      · rw [if_neg q]; omega
    have e := m_dueT (o := o) hX hM (show k < nB by omega) hr
    have eb : -2019798 ≤ (mDueT V (nI o) (nI r) k).toInt ∧ (mDueT V (nI o) (nI r) k).toInt ≤ 2019798 := by
      rw [e]
      have := bs_b hX hM (show k < nB by omega)
      by_cases q : V.1 72 1 k = nI r ∧ V.1 65 1 k = nI o
      · rw [if_pos q]; omega
      · rw [if_neg q]; omega
    have hs : sI (fun b => if V.1 72 1 b = nI r ∧ V.1 65 1 b = nI o then bs V b else 0) (k + 1) = sI (fun b => if V.1 72 1 b = nI r ∧ V.1 65 1 b = nI o then bs V b else 0) k + (if V.1 72 1 k = nI r ∧ V.1 65 1 k = nI o then bs V k else 0) := rfl
    rw [hs, ← e]
    show (mDueI V (nI o) (nI r) acc k + mDueT V (nI o) (nI r) k).toInt = _
    rw [i64_add (by rw [i1]; omega), i1]
    omega
/-- a round's part of what is due -/
def dZ (V : hs_S) (ng o c r b : Nat) : Int := if V.1 72 1 b = nI r ∧ V.1 77 1 r = nI c ∧ ¬ V.1 81 1 r = -1 then dY V ng o b else 0
theorem dZ_s (hX : RX n U V ev ng nl nE nB nR nd) (hM : rM V ng nl nE nB nR) : -242375760 ≤ sI (dZ V ng o c r) nB ∧ sI (dZ V ng o c r) nB ≤ 242375760 := by
  have h80 := hX.1.1.2.2.1.2
  have := sI_bd (f := dZ V ng o c r) (B := 3029697) (by omega) nB fun j hj => by
    have := dY_b (o := o) hX hM hj
    unfold dZ
    by_cases q : V.1 72 1 j = nI r ∧ V.1 77 1 r = nI c ∧ ¬ V.1 81 1 r = -1
    · rw [if_pos q]; exact this
    · rw [if_neg q]; omega
  omega
theorem m_due (hX : RX n U V ev ng nl nE nB nR nd) (hM : rM V ng nl nE nB nR) (ho : o < 6) (hc : c < 4) (hp : -250000000 ≤ (V.2.2.1 86 1 (4 * o + c)).toInt ∧ (V.2.2.1 86 1 (4 * o + c)).toInt ≤ 250000000) : ∀ m, m ≤ nR → (mDue V (nI o) (nI c) m).toInt = -(V.2.2.1 86 1 (4 * o + c)).toInt + sI (fun r => sI (dZ V ng o c r) nB) m := by
  have hA := hX.1
  have hev := hA.1.1
  have h80 := hA.1.2.2.1.2
  have hR30 := hA.1.2.2.2.1
  have hB := hX.2.2.2.2.2.2.1
  intro m
  induction m with
  | zero =>
    intro _
    show (-(V.2.2.1 86 1 ((4 : Int32) * nI o + nI c).toNatClampNeg)).toInt = _ + 0
    rw [show (4 : Int32) * nI o = nI (4 * o) from pk_mul 4 o, nI_add, hl_cl (by omega), Int64.toInt_neg, Int.add_zero]
    exact bm64 (by omega)
  | succ m ih =>
    intro hm
    have i1 := ih (by omega)
    have i2 := sI_bd (f := fun r => sI (dZ V ng o c r) nB) (B := 242375760) (by omega) m fun j hj => dZ_s hX hM
    have hs : sI (fun r => sI (dZ V ng o c r) nB) (m + 1) = sI (fun r => sI (dZ V ng o c r) nB) m + sI (dZ V ng o c m) nB := rfl
    rw [hs]
    unfold mDue
    by_cases q : V.1 77 1 m = nI c ∧ ¬ V.1 81 1 m = -1
    · rw [if_pos q, hA.2.1.2.2.2.2.2.1, hl_cl (by omega)]
      obtain ⟨f1, f2, f3⟩ := m_fees hX hM (show m < nR by omega) nB (Nat.le_refl _)
      have eF : (F_feesOf (nI m) V).toInt = sI (fun b => if V.1 72 1 b = nI m then bf V b else 0) nB := by
        unfold F_feesOf
        rw [hA.2.1.2.2.2.2.2.1, hl_cl (by omega)]
        exact f1
      have eo : F_ownerAt (6 * nI c + 1) (V.1 78 1 m) V = ownR (V.1 42 1) (V.1 43 1) (V.1 44 1) (6 * nI c + 1) (V.1 78 1 m) ng := by
        rw [own_r, hA.2.1.2.2.1, hl_cl (by have := hA.1.2.1; omega)]
      have facc : (if F_ownerAt (6 * nI c + 1) (V.1 78 1 m) V = nI o then F_feesOf (nI m) V else 0).toInt = sI (fun b => if V.1 72 1 b = nI m then (if feO V ng b = nI o then bf V b else 0) else 0) nB := by
        have hfe : ∀ b, b < nB → V.1 72 1 b = nI m → feO V ng b = F_ownerAt (6 * nI c + 1) (V.1 78 1 m) V := fun b hb h72 => by
          obtain ⟨x, hx, x1, x2⟩ := (hB b hb).2
          rcases x2 with ⟨y1, _⟩ | ⟨r', hr', y1, _, y3⟩
          · exact absurd (h72.symm.trans y1) (neg1 (by omega))
          · have : r' = m := (hl_inj (by omega) (by omega)).mp (y1.symm.trans h72)
            subst this
            unfold feO
            rw [h72, hl_cl (by omega), x1, ← y3, q.1, eo]
        by_cases z : F_ownerAt (6 * nI c + 1) (V.1 78 1 m) V = nI o
        · rw [if_pos z, eF]
          refine sI_c nB fun b hb => ?_
          by_cases w : V.1 72 1 b = nI m
          · rw [if_pos w, if_pos w, hfe b hb w, if_pos z]
          · rw [if_neg w, if_neg w]
        · rw [if_neg z]
          refine (sI_0 nB fun b hb => ?_).symm
          by_cases w : V.1 72 1 b = nI m
          · rw [if_pos w, hfe b hb w, if_neg z]
          · rw [if_neg w]
      have fb : 0 ≤ (if F_ownerAt (6 * nI c + 1) (V.1 78 1 m) V = nI o then F_feesOf (nI m) V else 0).toInt ∧ (if F_ownerAt (6 * nI c + 1) (V.1 78 1 m) V = nI o then F_feesOf (nI m) V else 0).toInt ≤ 1009899 * 80 := by
        by_cases z : F_ownerAt (6 * nI c + 1) (V.1 78 1 m) V = nI o
        · rw [if_pos z, eF]; omega
        · rw [if_neg z]
          have z0 : (0 : Int64).toInt = 0 := rfl
          rw [z0]; omega
      have esub : (mDue V (nI o) (nI c) m - (if F_ownerAt (6 * nI c + 1) (V.1 78 1 m) V = nI o then F_feesOf (nI m) V else 0)).toInt = (mDue V (nI o) (nI c) m).toInt - (if F_ownerAt (6 * nI c + 1) (V.1 78 1 m) V = nI o then F_feesOf (nI m) V else 0).toInt := i64_sub (by rw [i1]; omega)
      rw [m_dueI hX hM (show m < nR by omega) (by rw [esub, i1]; omega) nB (Nat.le_refl _), esub, i1, facc]
      have hz : sI (dZ V ng o c m) nB = sI (fun b => if V.1 72 1 b = nI m ∧ V.1 65 1 b = nI o then bs V b else 0) nB - sI (fun b => if V.1 72 1 b = nI m then (if feO V ng b = nI o then bf V b else 0) else 0) nB := by
        have h1 := sI_add (f := dZ V ng o c m) (g := fun b => if V.1 72 1 b = nI m then (if feO V ng b = nI o then bf V b else 0) else 0) nB
        have h2 : sI (fun b => dZ V ng o c m b + (if V.1 72 1 b = nI m then (if feO V ng b = nI o then bf V b else 0) else 0)) nB = sI (fun b => if V.1 72 1 b = nI m ∧ V.1 65 1 b = nI o then bs V b else 0) nB := by
          refine sI_c nB fun b hb => ?_
          unfold dZ
          by_cases w : V.1 72 1 b = nI m
          · rw [if_pos ⟨w, q⟩, if_pos w]
            unfold dY
            by_cases w2 : V.1 65 1 b = nI o
            · rw [if_pos w2, if_pos (show V.1 72 1 b = nI m ∧ V.1 65 1 b = nI o from ⟨w, w2⟩)]; omega
            · rw [if_neg w2, if_neg (show ¬ (V.1 72 1 b = nI m ∧ V.1 65 1 b = nI o) from fun y => w2 y.2)]; omega
          · rw [if_neg fun y => w y.1, if_neg w, if_neg fun y => w y.1]; rfl
        have h1' : sI (fun b => dZ V ng o c m b + (if V.1 72 1 b = nI m then (if feO V ng b = nI o then bf V b else 0) else 0)) nB = sI (dZ V ng o c m) nB + sI (fun b => if V.1 72 1 b = nI m then (if feO V ng b = nI o then bf V b else 0) else 0) nB := h1
        omega
      rw [hz]
      omega
    · have e0 : sI (dZ V ng o c m) nB = 0 := sI_0 nB fun b _ => by unfold dZ; exact if_neg fun z => q z.2
      rw [if_neg q, i1, e0]
      omega
/-- dues of the two sides -/
theorem due_V (hX : RX n U V ev ng nl nE nB nR nd) (hM : rM V ng nl nE nB nR) (ho : o < 6) (hc : c < 4) (hp : -250000000 ≤ (V.2.2.1 86 1 (4 * o + c)).toInt ∧ (V.2.2.1 86 1 (4 * o + c)).toInt ≤ 250000000) : (F_dueOf (nI o) (nI c) V).toInt = sI (dX V ng o c) nB - (V.2.2.1 86 1 (4 * o + c)).toInt := by
  have hA := hX.1
  have hev := hA.1.1
  have h80 := hA.1.2.2.1.2
  have hR30 := hA.1.2.2.2.1
  have hB := hX.2.2.2.2.2.2.1
  unfold F_dueOf
  rw [hA.2.1.2.2.2.2.2.2.1, hl_cl (by omega), m_due hX hM ho hc hp nR (Nat.le_refl _), sI_swap]
  have : sI (fun b => sI (fun r => dZ V ng o c r b) nR) nB = sI (dX V ng o c) nB := by
    refine sI_c nB fun b hb => ?_
    obtain ⟨x, hx, x1, x2⟩ := (hB b hb).2
    rcases x2 with ⟨y1, _⟩ | ⟨r, hr, y1, _, y3⟩
    · have e0 : sI (fun r => dZ V ng o c r b) nR = 0 := sI_0 nR fun k hk => by unfold dZ; exact if_neg fun z => neg1 (k := k) (by omega) (z.1.symm.trans y1)
      rw [e0]
      unfold dX
      by_cases q : V.1 66 1 b = nI c
      · have w0 : bw V b = 0 := by unfold bw; rw [if_pos y1]
        have f0 : bf V b = 0 := by
          unfold bf
          rw [w0, if_pos y1]
          by_cases z : V.1 67 1 b = 0
          · rw [if_pos z]
          · rw [if_neg z]; rfl
        have s0 : bs V b = 0 := by
          unfold bs
          rw [w0, f0]
          by_cases z : V.1 67 1 b = 0
          · rw [if_pos z]; rfl
          · rw [if_neg z]; rfl
        rw [if_pos q]
        unfold dY
        rw [f0, s0, ite_self, ite_self]; rfl
      · rw [if_neg q]
    · have e0 : sI (fun r => dZ V ng o c r b) nR = dZ V ng o c r b := sI_one (f := fun r => dZ V ng o c r b) (b := r) nR hr fun k hk hne => by
        show dZ V ng o c k b = 0
        unfold dZ
        exact if_neg fun z => hne ((hl_inj (by omega) (by omega)).mp (z.1.symm.trans y1))
      rw [e0]
      unfold dZ dX
      rw [y3, x1]
      by_cases q : nI x = nI c
      · rw [if_pos q]
        by_cases z : V.1 81 1 r = -1
        · rw [if_neg fun w => w.2.2 z]
          obtain ⟨g1, g2, g3⟩ := got_b hX hr (hM r hr) hb y1
          have n1 : ¬ V.1 72 1 b = -1 := by rw [y1]; exact neg1 (by omega)
          have hrc : (V.1 72 1 b).toNatClampNeg = r := by rw [y1]; exact hl_cl (by omega)
          have w0 : bw V b = 0 := by
            unfold bw
            rw [if_neg n1, hrc]
            rcases g3 with y | y
            · rw [y, Int.mul_zero]
            · rw [z] at y
              have em : (-1 : Int32).toInt = -1 := rfl
              omega
          have f0 : bf V b = 0 := by
            unfold bf
            rw [w0]
            by_cases z : V.1 67 1 b = 0
            · rw [if_pos z]
            · rw [if_neg z, Int.zero_mul]; rfl
          have s0 : bs V b = 0 := by
            unfold bs
            rw [w0, f0]
            by_cases z : V.1 67 1 b = 0
            · rw [if_pos z]; rfl
            · rw [if_neg z]; rfl
          unfold dY
          rw [f0, s0, ite_self, ite_self]; rfl
        · rw [if_pos ⟨y1, q, z⟩]
      · rw [if_neg fun w => q w.2.1, if_neg q]
  rw [this]
  omega
theorem due_U (hX : RX n U V ev ng nl nE nB nR nd) (hQ : rQ U V nB nR) (hM : rM V ng nl nE nB nR) (ho : o < 6) (hc : c < 4) (hp : -250000000 ≤ (U.1 35 1 (4 * o + c)).toInt ∧ (U.1 35 1 (4 * o + c)).toInt ≤ 250000000) : (F_Ldg_dueOf (nI o) (nI c) U).toInt = sI (dX V ng o c) nB - (U.1 35 1 (4 * o + c)).toInt := by
  have h80 := hX.1.1.2.2.1.2
  have hz : hs_sz U 13 = nB := hX.1.2.2.1.2.2.1
  have e := cOw_i (o := o) hX hQ hM hc nB (Nat.le_refl _)
  have hs := dX_s (o := o) (c := c) hX hM nB (Nat.le_refl _)
  unfold F_Ldg_dueOf F_Book_owedBy
  rw [hz, nI_41, hl_cl (by omega), i32_sub (by rw [e]; omega), e]
end
