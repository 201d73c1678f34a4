/-! ===== the market, on both sides ===== -/
section
variable {U V : hs_S} {ev ng nl nB nR r : Nat}
theorem c_rd (hB : rB U V ev nB nR) (hC : rC U V ev ng nl nR) (hR : nR ≤ 30) (hr : r < nR) {k : Nat} (hk : k < nB) : U.2.1 0 (k + 1) 2 = U.2.1 14 1 r ↔ V.1 72 1 k = nI r := by
  obtain ⟨c, hc, _, h⟩ := (hB k hk).2
  rcases h with ⟨h1, h2⟩ | ⟨r', hr', h1, h2, _⟩
  · rw [h1, h2]
    exact ⟨fun z => absurd z.symm (hC.2.2.2.2 r c hr hc), fun z => absurd z.symm (neg1 (by omega))⟩
  · rw [h1, h2]
    refine ⟨fun z => ?_, fun z => ?_⟩
    · rw [hC.2.2.1 r' r hr' hr z]
    · rw [(hl_inj (by omega) (by omega)).mp z]
theorem c_tp (hB : rB U V ev nB nR) (hC : rC U V ev ng nl nR) (hev : ev ≤ 512) (hR : nR ≤ 30) (hr : r < nR) (hp : U.1 8 (U.2.1 14 1 r) 5 = V.1 81 1 r) {k : Nat} (hk : k < nB) (h72 : V.1 72 1 k = nI r) : cTP U (k + 1) ↔ mTP V k (nI r) := by
  obtain ⟨⟨_, ⟨b3, _⟩, _, ⟨l, hl, b6, b7⟩, _, b10, ⟨b11, _⟩⟩, _⟩ := hB k hk
  have er : U.2.1 0 (k + 1) 2 = U.2.1 14 1 r := (c_rd hB hC hR hr hk).mpr h72
  have h7 : U.1 0 (k + 1) 7 = 2147483647 ↔ V.1 71 1 k = -1 := by
    rcases b10 with ⟨w1, w2⟩ | ⟨w, hw, w1, w2⟩
    · rw [w1, w2]; exact ⟨fun _ => rfl, fun _ => rfl⟩
    · rw [w1, w2]; exact ⟨fun z => absurd z (neMax (by omega)), fun z => absurd z (neg1 (by omega))⟩
  unfold cTP mTP
  rw [er, hp, b11, h7, b3, b7, ← b6, h72, hl_cl (by omega)]
  exact ⟨fun z => ⟨rfl, z.2.1, z.1, z.2.2⟩, fun z => ⟨z.2.2.1, z.2.1, z.2.2.2⟩⟩
theorem c_sd (hB : rB U V ev nB nR) (hC : rC U V ev ng nl nR) (hev : ev ≤ 512) (hR : nR ≤ 30) (hr : r < nR) (hp : U.1 8 (U.2.1 14 1 r) 5 = V.1 81 1 r) {k : Nat} {w : Int32} (hk : k < nB) (hk80 : nB ≤ 80) : (¬ F_Clr_isOnSide (bd U k) (U.2.1 14 1 r) w U = 0) ↔ shT V (nI r) w k = true := by
  obtain ⟨⟨⟨b1, _⟩, ⟨b3, _⟩, _⟩, _⟩ := hB k hk
  have eb : bd U k = k + 1 := b1
  unfold F_Clr_isOnSide shT F_takesPart
  rw [eb, bI_eq0, Classical.not_not, decide_eq_true_eq, bI_eq0, Classical.not_not, hl_cl (by omega)]
  unfold cSd
  rw [c_rd hB hC hR hr hk, b3]
  refine ⟨fun z => ⟨z.2.1, (c_tp hB hC hev hR hr hp hk z.1).mp z.2.2⟩, fun z => ⟨z.2.1, z.1, (c_tp hB hC hev hR hr hp hk z.2.1).mpr z.2⟩⟩
theorem c_to (hB : rB U V ev nB nR) (hC : rC U V ev ng nl nR) (hev : ev ≤ 512) (hR : nR ≤ 30) (hr : r < nR) (hp : U.1 8 (U.2.1 14 1 r) 5 = V.1 81 1 r) (hk80 : nB ≤ 80) {w : Int32} : ∀ n, n ≤ nB → cTo U (U.2.1 14 1 r) w n = sumR (V.1 67 1) (V.1 68 1) (V.1 69 1) (V.1 71 1) (V.1 72 1) (V.1 73 1) (V.1 81 1) r w n := by
  intro n
  induction n with
  | zero => intro _; rfl
  | succ n ih =>
    intro hn
    obtain ⟨⟨⟨b1, _⟩, _, ⟨m, hm, b4, b5⟩, _⟩, _⟩ := hB n (by omega)
    have eb : bd U n = n + 1 := b1
    have hs := c_sd (w := w) hB hC hev hR hr hp (k := n) (by omega) hk80
    have e2 : shT V (nI r) w n = true ↔ (V.1 67 1 n = w ∧ tpR (V.1 67 1) (V.1 69 1) (V.1 71 1) (V.1 72 1) (V.1 73 1) (V.1 81 1) n r) := by
      unfold shT F_takesPart
      rw [decide_eq_true_eq, bI_eq0, Classical.not_not, hl_cl (by omega)]
      unfold mTP tpR
      rw [hl_cl (by omega)]
    unfold cTo sumR
    rw [ih (by omega)]
    by_cases q : V.1 67 1 n = w ∧ tpR (V.1 67 1) (V.1 69 1) (V.1 71 1) (V.1 72 1) (V.1 73 1) (V.1 81 1) n r
    · rw [if_neg (hs.mpr (e2.mpr q)), if_pos q, eb, b5, b4]
    · have : F_Clr_isOnSide (bd U n) (U.2.1 14 1 r) w U = 0 := Classical.not_not.mp fun z => q (e2.mp (hs.mp z))
      rw [if_pos this, if_neg q, Int32.add_zero]
end
/-- what is put up on a side, as a number -/
theorem sum_i {V : hs_S} {nB r : Nat} {w : Int32} (h80 : nB ≤ 80) (hr : r < 30) (hm : ∀ b, b < nB → 1 ≤ (V.1 68 1 b).toInt ∧ (V.1 68 1 b).toInt ≤ 100) : ∀ n, n ≤ nB → (sumR (V.1 67 1) (V.1 68 1) (V.1 69 1) (V.1 71 1) (V.1 72 1) (V.1 73 1) (V.1 81 1) r w n).toInt = sI (fun b => if shT V (nI r) w b then (V.1 68 1 b).toInt else 0) n ∧ 0 ≤ sI (fun b => if shT V (nI r) w b then (V.1 68 1 b).toInt else 0) n ∧ sI (fun b => if shT V (nI r) w b then (V.1 68 1 b).toInt else 0) n ≤ 100 * n := by
  intro n
  induction n with
  | zero => intro _; exact ⟨rfl, Int.le_refl _, Int.le_refl _⟩
  | succ n ih =>
    intro hn
    obtain ⟨i1, i2, i3⟩ := ih (by omega)
    have e2 : shT V (nI r) w n = true ↔ (V.1 67 1 n = w ∧ tpR (V.1 67 1) (V.1 69 1) (V.1 71 1) (V.1 72 1) (V.1 73 1) (V.1 81 1) n r) := by
      unfold shT F_takesPart
      rw [decide_eq_true_eq, bI_eq0, Classical.not_not, hl_cl (by omega)]
      unfold mTP tpR
      rw [hl_cl (by omega)]
    have hs : sI (fun b => if shT V (nI r) w b then (V.1 68 1 b).toInt else 0) (n + 1) = sI (fun b => if shT V (nI r) w b then (V.1 68 1 b).toInt else 0) n + (if shT V (nI r) w n then (V.1 68 1 n).toInt else 0) := rfl
    rw [hs]
    unfold sumR
    have hmn := hm n (by omega)
    by_cases q : shT V (nI r) w n = true
    · rw [if_pos (e2.mp q), if_pos q, i32_add (by omega), i1]
      omega
    · rw [if_neg fun z => q (e2.mpr z), if_neg q, Int32.add_zero, i1]
      omega
