section
variable {U V : hs_S} {ev ng nl nB nR r : Nat}
theorem c_rd (hB : rB U V ev nB nR) (hC : rC U V ev ng nl nR) (hR : nR ≤ 30) (hr : r < nR) {k : Nat} (hk : k < nB) : U.2.1 0 (k + 1) 2 = U.2.1 14 1 r ↔ V.1 72 1 k = nI r := by
  obtain ⟨c, hc, _, h⟩ := (hB k hk).2
  rcases h with ⟨h1, h2⟩ | ⟨r', hr', h1, h2, _⟩
  · rw [h1, h2]
    exact ⟨fun z => absurd z.symm (hC.2.2.2.2 r c hr hc), fun z => absurd z.symm (neg1 (by omega))⟩
  · rw [h1, h2]
    refine ⟨fun z => ?_, fun z => ?_⟩
    · rw [hC.2.2.1 r' r hr' hr z]
    · rw [(hl_inj (by omega) (by omega)).mp z]
theorem c_tp (hB : rB U V ev nB nR) (hC : rC U V ev ng nl nR) (hev : ev ≤ 512) (hR : nR ≤ 30) (hr : r < nR) (hp : U.1 8 (U.2.1 14 1 r) 5 = V.1 81 1 r) {k : Nat} (hk : k < nB) (h72 : V.1 72 1 k = nI r) : cTP U (k + 1) ↔ mTP V k (nI r) := by
  obtain ⟨⟨_, ⟨b3, _⟩, _, ⟨l, hl, b6, b7⟩, _, b10, ⟨b11, _⟩⟩, _⟩ := hB k hk
  have er : U.2.1 0 (k + 1) 2 = U.2.1 14 1 r := (c_rd hB hC hR hr hk).mpr h72
  have h7 : U.1 0 (k + 1) 7 = 2147483647 ↔ V.1 71 1 k = -1 := by
    rcases b10 with ⟨w1, w2⟩ | ⟨w, hw, w1, w2⟩
    · rw [w1, w2]; exact ⟨fun _ => rfl, fun _ => rfl⟩
    · rw [w1, w2]; exact ⟨fun z => absurd z (neMax (by omega)), fun z => absurd z (neg1 (by omega))⟩
  unfold cTP mTP
  rw [er, hp, b11, h7, b3, b7, ← b6, h72, hl_cl (by omega)]
  exact ⟨fun z => ⟨rfl, z.2.1, z.1, z.2.2⟩, fun z => ⟨z.2.2.1, z.2.1, z.2.2.2⟩⟩
theorem c_sd (hB : rB U V ev nB nR) (hC : rC U V ev ng nl nR) (hev : ev ≤ 512) (hR : nR ≤ 30) (hr : r < nR) (hp : U.1 8 (U.2.1 14 1 r) 5 = V.1 81 1 r) {k : Nat} {w : Int32} (hk : k < nB) (hk80 : nB ≤ 80) : (¬ F_Clr_isOnSide (bd U k) (U.2.1 14 1 r) w U = 0) ↔ shT V (nI r) w k = true := by
  obtain ⟨⟨⟨b1, _⟩, ⟨b3, _⟩, _⟩, _⟩ := hB k hk
  have eb : bd U k = k + 1 := b1
  unfold F_Clr_isOnSide shT F_takesPart
  rw [eb, bI_eq0, Classical.not_not, decide_eq_true_eq, bI_eq0, Classical.not_not, hl_cl (by omega)]
  unfold cSd
  rw [c_rd hB hC hR hr hk, b3]
  refine ⟨fun z => ⟨z.2.1, (c_tp hB hC hev hR hr hp hk z.1).mp z.2.2⟩, fun z => ⟨z.2.1, z.1, (c_tp hB hC hev hR hr hp hk z.2.1).mpr z.2⟩⟩
theorem c_to (hB : rB U V ev nB nR) (hC : rC U V ev ng nl nR) (hev : ev ≤ 512) (hR : nR ≤ 30) (hr : r < nR) (hp : U.1 8 (U.2.1 14 1 r) 5 = V.1 81 1 r) (hk80 : nB ≤ 80) {w : Int32} : ∀ n, n ≤ nB → cTo U (U.2.1 14 1 r) w n = sumR (V.1 67 1) (V.1 68 1) (V.1 69 1) (V.1 71 1) (V.1 72 1) (V.1 73 1) (V.1 81 1) r w n := by
  intro n
  induction n with
  | zero => intro _; rfl
  | succ n ih =>
    intro hn
    obtain ⟨⟨⟨b1, _⟩, _, ⟨m, hm, b4, b5⟩, _⟩, _⟩ := hB n (by omega)
    have eb : bd U n = n + 1 := b1
    have hs := c_sd (w := w) hB hC hev hR hr hp (k := n) (by omega) hk80
    have e2 : shT V (nI r) w n = true ↔ (V.1 67 1 n = w ∧ tpR (V.1 67 1) (V.1 69 1) (V.1 71 1) (V.1 72 1) (V.1 73 1) (V.1 81 1) n r) := by
      unfold shT F_takesPart
      rw [decide_eq_true_eq, bI_eq0, Classical.not_not, hl_cl (by omega)]
      unfold mTP tpR
      rw [hl_cl (by omega)]
    unfold cTo sumR
    rw [ih (by omega)]
    by_cases q : V.1 67 1 n = w ∧ tpR (V.1 67 1) (V.1 69 1) (V.1 71 1) (V.1 72 1) (V.1 73 1) (V.1 81 1) n r
    · rw [if_neg (hs.mpr (e2.mpr q)), if_pos q, eb, b5, b4]
    · have : F_Clr_isOnSide (bd U n) (U.2.1 14 1 r) w U = 0 := Classical.not_not.mp fun z => q (e2.mp (hs.mp z))
      rw [if_pos this, if_neg q, Int32.add_zero]
end
/-- what is put up on a side, as a number -/
theorem sum_i {V : hs_S} {nB r : Nat} {w : Int32} (h80 : nB ≤ 80) (hr : r < 30) (hm : ∀ b, b < nB → 1 ≤ (V.1 68 1 b).toInt ∧ (V.1 68 1 b).toInt ≤ 100) : ∀ n, n ≤ nB → (sumR (V.1 67 1) (V.1 68 1) (V.1 69 1) (V.1 71 1) (V.1 72 1) (V.1 73 1) (V.1 81 1) r w n).toInt = sI (fun b => if shT V (nI r) w b then (V.1 68 1 b).toInt else 0) n ∧ 0 ≤ sI (fun b => if shT V (nI r) w b then (V.1 68 1 b).toInt else 0) n ∧ sI (fun b => if shT V (nI r) w b then (V.1 68 1 b).toInt else 0) n ≤ 100 * n := by
  intro n
  induction n with
  | zero => intro _; exact ⟨rfl, Int.le_refl _, Int.le_refl _⟩
  | succ n ih =>
    intro hn
    obtain ⟨i1, i2, i3⟩ := ih (by omega)
    have e2 : shT V (nI r) w n = true ↔ (V.1 67 1 n = w ∧ tpR (V.1 67 1) (V.1 69 1) (V.1 71 1) (V.1 72 1) (V.1 73 1) (V.1 81 1) n r) := by
      unfold shT F_takesPart
      rw [decide_eq_true_eq, bI_eq0, Classical.not_not, hl_cl (by omega)]
      unfold mTP tpR
      rw [hl_cl (by omega)]
    have hs : sI (fun b => if shT V (nI r) w b then (V.1 68 1 b).toInt else 0) (n + 1) = sI (fun b => if shT V (nI r) w b then (V.1 68 1 b).toInt else 0) n + (if shT V (nI r) w n then (V.1 68 1 n).toInt else 0) := rfl
    rw [hs]
    unfold sumR
    have hmn := hm n (by omega)
    by_cases q : shT V (nI r) w n = true
    · rw [if_pos (e2.mp q), if_pos q, i32_add (by omega), i1]
      omega
    · rw [if_neg fun z => q (e2.mpr z), if_neg q, Int32.add_zero, i1]
      omega
theorem sI_ge {f : Nat → Int} {b : Nat} : ∀ n, (∀ k, k < n → 0 ≤ f k) → b < n → f b ≤ sI f n := by
  intro n
  induction n with
  | zero => intro _ h; exact absurd h (Nat.not_lt_zero _)
  | succ n ih =>
    intro h hb
    have h1 := h n (by omega)
    have h2 := sI_nn n fun k hk => h k (by omega)
    show f b ≤ sI f n + f n
    by_cases q : b = n
    · rw [q]; omega
    · have := ih (fun k hk => h k (by omega)) (by omega)
      omega
theorem cons_i {v a all : Int32} (hv : 0 ≤ v.toInt ∧ v.toInt ≤ 8000) (ha : 0 ≤ a.toInt ∧ a.toInt ≤ 100) (h : 0 < all.toInt) : 0 ≤ (v * a / all).toInt ∧ (v * a / all).toInt ≤ 800000 := by
  have h1 : 0 ≤ v.toInt * a.toInt := Int.mul_nonneg hv.1 ha.1
  have h2 : v.toInt * a.toInt ≤ 8000 * 100 := Int.mul_le_mul hv.2 ha.2 ha.1 (by omega)
  have e : (v * a).toInt = v.toInt * a.toInt := i32_mul (by omega)
  rw [i32_div (by omega) h, e]
  exact ⟨Int.ediv_nonneg h1 (by omega), Int.le_trans (Int.ediv_le_self _ h1) (by omega)⟩
section
variable {U V : hs_S} {ev ng nl nB nR r b : Nat} {u all : Int32}
theorem c_po (hB : rB U V ev nB nR) (hC : rC U V ev ng nl nR) (hev : ev ≤ 512) (hR : nR ≤ 30) (hr : r < nR) (hp : U.1 8 (U.2.1 14 1 r) 5 = V.1 81 1 r) (hk80 : nB ≤ 80)
    (hv : U.1 8 (U.2.1 14 1 r) 6 = V.1 82 1 r) (hv0 : 0 ≤ (V.1 82 1 r).toInt ∧ (V.1 82 1 r).toInt ≤ 8000) (h80 : V.1 80 1 r = 0) (hb : b < nB) (hT : shT V (nI r) u b = true) : ∀ n, n ≤ nB → (cPo U (b + 1) n).toInt = (V.1 82 1 r).toInt - sI (fun c => if shT V (nI r) u c && shP V (nI r) u all c b then shW V (nI r) c else 0) n ∧ 0 ≤ sI (fun c => if shT V (nI r) u c && shP V (nI r) u all c b then shW V (nI r) c else 0) n ∧ sI (fun c => if shT V (nI r) u c && shP V (nI r) u all c b then shW V (nI r) c else 0) n ≤ 100 * n := by
  have hrc : (nI r).toNatClampNeg = r := hl_cl (by omega)
  have eb72 : V.1 72 1 b = nI r := shT_r (by omega) hT
  have er : U.2.1 0 (b + 1) 2 = U.2.1 14 1 r := (c_rd hB hC hR hr hb).mpr eb72
  obtain ⟨⟨⟨_, bid, _⟩, ⟨b3, _⟩, _, ⟨lb, hlb, bl1, bl2⟩, _⟩, _⟩ := hB b hb
  have eu : V.1 67 1 b = u := by unfold shT at hT; exact (decide_eq_true_eq.mp hT).1
  intro n
  induction n with
  | zero =>
    intro _
    refine ⟨?_, Int.le_refl _, Int.le_refl _⟩
    show (U.1 8 (U.2.1 0 (b + 1) 2) 6).toInt = _ - 0
    rw [er, hv]; omega
  | succ n ih =>
    intro hn
    obtain ⟨i1, i2, i3⟩ := ih (by omega)
    obtain ⟨⟨⟨b1, nid, _⟩, ⟨n3, _⟩, ⟨m, hm, b4, b5⟩, ⟨l, hl, nl1, nl2⟩, _⟩, _⟩ := hB n (by omega)
    have eb : bd U n = n + 1 := b1
    have hs := c_sd (w := u) hB hC hev hR hr hp (k := n) (by omega) hk80
    have hW : shW V (nI r) n = m := by unfold shW; rw [hrc, if_pos h80, b4]; exact nI_toInt (by omega)
    have hs1 : sI (fun c => if shT V (nI r) u c && shP V (nI r) u all c b then shW V (nI r) c else 0) (n + 1) = sI (fun c => if shT V (nI r) u c && shP V (nI r) u all c b then shW V (nI r) c else 0) n + (if shT V (nI r) u n && shP V (nI r) u all n b then shW V (nI r) n else 0) := rfl
    rw [hs1, hW]
    unfold cPo
    rw [er, b3, eu]
    by_cases q : shT V (nI r) u n = true
    · rw [if_neg (hs.mpr q), eb]
      have hga : ¬ F_Bid_goesAhead (n + 1) (b + 1) U = 0 ↔ shP V (nI r) u all n b = true := by
        have en : V.1 67 1 n = u := by unfold shT at q; exact (decide_eq_true_eq.mp q).1
        have k1 : shK V (nI r) u all n = if u = 0 then -(l : Int) else (l : Int) := by
          unfold shK; rw [hrc, if_pos h80, nl1, nI_toInt (by omega)]
        have k2 : shK V (nI r) u all b = if u = 0 then -(lb : Int) else (lb : Int) := by
          unfold shK; rw [hrc, if_pos h80, bl1, nI_toInt (by omega)]
        unfold F_Bid_goesAhead shP
        rw [bI_eq0, Classical.not_not, decide_eq_true_eq, k1, k2]
        unfold cGA
        rw [nl2, bl2, n3, en, nid, bid]
        have x1 : nI l = nI lb ↔ l = lb := hl_inj (by omega) (by omega)
        have x2 : nI b ≤ nI n ↔ b ≤ n := hl_le (by omega) (by omega)
        have x3 : nI lb ≤ nI l ↔ lb ≤ l := hl_le (by omega) (by omega)
        have x4 : nI l ≤ nI lb ↔ l ≤ lb := hl_le (by omega) (by omega)
        by_cases z : l = lb
        · rw [if_pos (x1.mpr z), x2, z]
          by_cases z0 : u = 0
          · rw [if_pos z0]; omega
          · rw [if_neg z0]; omega
        · rw [if_neg fun w => z (x1.mp w)]
          by_cases z0 : u = 0
          · rw [if_pos z0, if_pos z0, if_pos z0, x3]; omega
          · rw [if_neg z0, if_neg z0, if_neg z0, x4]; omega
      by_cases q2 : shP V (nI r) u all n b = true
      · rw [if_neg (hga.mpr q2), if_pos (by rw [Bool.and_eq_true]; exact ⟨q, q2⟩), b5, i32_sub (by rw [nI_toInt (by omega), i1]; omega), nI_toInt (by omega), i1]
        omega
      · have : F_Bid_goesAhead (n + 1) (b + 1) U = 0 := Classical.not_not.mp fun z => q2 (hga.mp z)
        rw [if_pos this, if_neg (fun z => q2 (by rw [Bool.and_eq_true] at z; exact z.2)), i1]
        omega
    · have : F_Clr_isOnSide (bd U n) (U.2.1 14 1 r) u U = 0 := Classical.not_not.mp fun z => q (hs.mp z)
      rw [if_pos this, if_neg (fun z => q (by rw [Bool.and_eq_true] at z; exact z.1)), i1]
      omega
theorem c_order (hB : rB U V ev nB nR) (hC : rC U V ev ng nl nR) (hev : ev ≤ 512) (hR : nR ≤ 30) (hr : r < nR) (hp : U.1 8 (U.2.1 14 1 r) 5 = V.1 81 1 r) (hk80 : nB ≤ 80) (hz : hs_sz U 13 = nB)
    (hv : U.1 8 (U.2.1 14 1 r) 6 = V.1 82 1 r) (hv0 : 0 ≤ (V.1 82 1 r).toInt ∧ (V.1 82 1 r).toInt ≤ 8000) (h80 : V.1 80 1 r = 0) (hb : b < nB) (hT : shT V (nI r) u b = true) : (F_Clr_partByOrder (b + 1) U).toInt = shG V (nI r) u all nB b := by
  have hrc : (nI r).toNatClampNeg = r := hl_cl (by omega)
  obtain ⟨h1, h2, h3⟩ := c_po (all := all) hB hC hev hR hr hp hk80 hv hv0 h80 hb hT nB (Nat.le_refl _)
  obtain ⟨⟨_, _, ⟨m, hm, b4, b5⟩, _⟩, _⟩ := hB b hb
  have eB : ∀ c, shB V (nI r) all c = 0 := fun c => by unfold shB; rw [hrc, if_pos h80]
  have eW : shW V (nI r) b = m := by unfold shW; rw [hrc, if_pos h80, b4]; exact nI_toInt (by omega)
  have eL : shL V (nI r) u all nB b = (cPo U (b + 1) nB).toInt := by
    unfold shL shV shV0
    rw [hrc, sI_0 nB fun k hk => by rw [eB]; exact ite_self _, h1, Int.sub_zero]
  unfold F_Clr_partByOrder shG
  rw [hz, eB, eW, eL, b5]
  have z0 : (0 : Int32).toInt = 0 := rfl
  have em : (nI m).toInt = m := nI_toInt (by omega)
  by_cases q : cPo U (b + 1) nB < nI m
  · rw [if_pos q]
    rw [i32_lt, em] at q
    by_cases q2 : 0 < cPo U (b + 1) nB
    · rw [if_pos q2]
      rw [i32_lt, z0] at q2
      omega
    · rw [if_neg q2, z0]
      rw [i32_lt, z0] at q2
      omega
  · rw [if_neg q]
    rw [i32_lt, em] at q
    by_cases q2 : 0 < nI m
    · rw [if_pos q2, em]
      omega
    · rw [i32_lt, z0, em] at q2
      omega
theorem c_pl (hB : rB U V ev nB nR) (hC : rC U V ev ng nl nR) (hev : ev ≤ 512) (hR : nR ≤ 30) (hr : r < nR) (hp : U.1 8 (U.2.1 14 1 r) 5 = V.1 81 1 r) (hk80 : nB ≤ 80)
    (hv : U.1 8 (U.2.1 14 1 r) 6 = V.1 82 1 r) (hv0 : 0 ≤ (V.1 82 1 r).toInt ∧ (V.1 82 1 r).toInt ≤ 8000) (h80 : ¬ V.1 80 1 r = 0) (hall : 0 < all.toInt) (hb : b < nB) (hT : shT V (nI r) u b = true) : ∀ n, n ≤ nB → ((cPl U (b + 1) all n).toInt = (V.1 82 1 r).toInt - sI (fun c => if shT V (nI r) u c then shB V (nI r) all c else 0) n ∧ 0 ≤ sI (fun c => if shT V (nI r) u c then shB V (nI r) all c else 0) n ∧ sI (fun c => if shT V (nI r) u c then shB V (nI r) all c else 0) n ≤ 800000 * n) ∧
    (cPa U (b + 1) all n).toInt = sI (fun c => if shT V (nI r) u c && shP V (nI r) u all c b then shW V (nI r) c else 0) n ∧ 0 ≤ sI (fun c => if shT V (nI r) u c && shP V (nI r) u all c b then shW V (nI r) c else 0) n ∧ sI (fun c => if shT V (nI r) u c && shP V (nI r) u all c b then shW V (nI r) c else 0) n ≤ n := by
  have hrc : (nI r).toNatClampNeg = r := hl_cl (by omega)
  have eb72 : V.1 72 1 b = nI r := shT_r (by omega) hT
  have er : U.2.1 0 (b + 1) 2 = U.2.1 14 1 r := (c_rd hB hC hR hr hb).mpr eb72
  obtain ⟨⟨⟨_, bid, _⟩, ⟨b3, _⟩, ⟨mb, hmb, bb4, bb5⟩, _⟩, _⟩ := hB b hb
  have eu : V.1 67 1 b = u := by unfold shT at hT; exact (decide_eq_true_eq.mp hT).1
  intro n
  induction n with
  | zero =>
    intro _
    refine ⟨⟨?_, Int.le_refl _, Int.le_refl _⟩, rfl, Int.le_refl _, Int.le_refl _⟩
    show (U.1 8 (U.2.1 0 (b + 1) 2) 6).toInt = _ - 0
    rw [er, hv]; omega
  | succ n ih =>
    intro hn
    obtain ⟨⟨i1, i2, i3⟩, i4, i5, i6⟩ := ih (by omega)
    obtain ⟨⟨⟨b1, nid, _⟩, ⟨n3, _⟩, ⟨m, hm, b4, b5⟩, _⟩, _⟩ := hB n (by omega)
    have eb : bd U n = n + 1 := b1
    have hs := c_sd (w := u) hB hC hev hR hr hp (k := n) (by omega) hk80
    have hW : shW V (nI r) n = 1 := by unfold shW; rw [hrc, if_neg h80]
    have em : (nI m).toInt = m := nI_toInt (by omega)
    have hBn : shB V (nI r) all n = (V.1 82 1 r * nI m / all).toInt := by unfold shB shV0; rw [hrc, if_neg h80, b4]
    have hc := cons_i (a := nI m) hv0 (by omega) hall
    have hs1 : sI (fun c => if shT V (nI r) u c && shP V (nI r) u all c b then shW V (nI r) c else 0) (n + 1) = sI (fun c => if shT V (nI r) u c && shP V (nI r) u all c b then shW V (nI r) c else 0) n + (if shT V (nI r) u n && shP V (nI r) u all n b then shW V (nI r) n else 0) := rfl
    have hs2 : sI (fun c => if shT V (nI r) u c then shB V (nI r) all c else 0) (n + 1) = sI (fun c => if shT V (nI r) u c then shB V (nI r) all c else 0) n + (if shT V (nI r) u n then shB V (nI r) all n else 0) := rfl
    rw [hs1, hs2, hW]
    unfold cPl cPa
    rw [er, b3, eu]
    by_cases q : shT V (nI r) u n = true
    · rw [if_neg (hs.mpr q), if_neg (hs.mpr q), eb, hv, b5, if_pos q, hBn]
      have hpc : cPaC U (b + 1) (n + 1) all ↔ shP V (nI r) u all n b = true := by
        have k1 : shK V (nI r) u all n = (V.1 82 1 r * nI m - V.1 82 1 r * nI m / all * all).toInt := by
          unfold shK shV0; rw [hrc, if_neg h80, b4]
        have k2 : shK V (nI r) u all b = (V.1 82 1 r * nI mb - V.1 82 1 r * nI mb / all * all).toInt := by
          unfold shK shV0; rw [hrc, if_neg h80, bb4]
        have x2 : nI b ≤ nI n ↔ b ≤ n := hl_le (by omega) (by omega)
        unfold cPaC cRs shP
        rw [decide_eq_true_eq, k1, k2, er, hv, b5, bb5, nid, bid, x2, i32_lt, i32_eq]
        omega
      refine ⟨⟨?_, by omega, by omega⟩, ?_⟩
      · rw [i32_sub (by rw [i1]; omega), i1]; omega
      · by_cases q2 : shP V (nI r) u all n b = true
        · rw [if_pos (hpc.mpr q2), if_pos (by rw [Bool.and_eq_true]; exact ⟨q, q2⟩)]
          have z1 : (1 : Int32).toInt = 1 := rfl
          rw [i32_add (by rw [i4, z1]; omega), i4, z1]
          omega
        · rw [if_neg fun z => q2 (hpc.mp z), if_neg (fun z => q2 (by rw [Bool.and_eq_true] at z; exact z.2)), i4]
          omega
    · have : F_Clr_isOnSide (bd U n) (U.2.1 14 1 r) u U = 0 := Classical.not_not.mp fun z => q (hs.mp z)
      rw [if_pos this, if_pos this, if_neg q, if_neg (fun z => q (by rw [Bool.and_eq_true] at z; exact z.1)), i1, i4]
      omega
theorem c_shares (hB : rB U V ev nB nR) (hC : rC U V ev ng nl nR) (hev : ev ≤ 512) (hR : nR ≤ 30) (hr : r < nR) (hp : U.1 8 (U.2.1 14 1 r) 5 = V.1 81 1 r) (hk80 : nB ≤ 80) (hz : hs_sz U 13 = nB)
    (hv : U.1 8 (U.2.1 14 1 r) 6 = V.1 82 1 r) (hv0 : 0 ≤ (V.1 82 1 r).toInt ∧ (V.1 82 1 r).toInt ≤ 8000) (h80 : ¬ V.1 80 1 r = 0) (hall : 0 < all.toInt) (hb : b < nB) (hT : shT V (nI r) u b = true) : (F_Clr_partByShares (b + 1) all U).toInt = shG V (nI r) u all nB b := by
  have hrc : (nI r).toNatClampNeg = r := hl_cl (by omega)
  obtain ⟨⟨h1, h2, h3⟩, h4, h5, h6⟩ := c_pl hB hC hev hR hr hp hk80 hv hv0 h80 hall hb hT nB (Nat.le_refl _)
  have eb72 : V.1 72 1 b = nI r := shT_r (by omega) hT
  have er : U.2.1 0 (b + 1) 2 = U.2.1 14 1 r := (c_rd hB hC hR hr hb).mpr eb72
  obtain ⟨⟨_, _, ⟨m, hm, b4, b5⟩, _⟩, _⟩ := hB b hb
  have em : (nI m).toInt = m := nI_toInt (by omega)
  have hc := cons_i (a := nI m) hv0 (by omega) hall
  have eB : shB V (nI r) all b = (V.1 82 1 r * nI m / all).toInt := by unfold shB shV0; rw [hrc, if_neg h80, b4]
  have eW : shW V (nI r) b = 1 := by unfold shW; rw [hrc, if_neg h80]
  have eL : shL V (nI r) u all nB b = (cPl U (b + 1) all nB).toInt - (cPa U (b + 1) all nB).toInt := by
    unfold shL shV shV0
    rw [hrc, h1, h4]
  have z0 : (0 : Int32).toInt = 0 := rfl
  have z1 : (1 : Int32).toInt = 1 := rfl
  unfold F_Clr_partByShares shG
  rw [hz, eB, eW, eL, er, hv, b5, if_pos (by rw [i32_lt, z0]; exact hall)]
  by_cases q : cPl U (b + 1) all nB ≤ cPa U (b + 1) all nB
  · rw [if_pos q, Int32.add_zero]
    rw [i32_le] at q
    omega
  · rw [if_neg q, i32_add (by rw [z1]; omega), z1]
    rw [i32_le] at q
    omega
end
def hs_kl (S : hs_S) : hs_S := (fun t i p => if hs_fr t p = true then 0 else S.1 t i p, (fun t i p => if hs_scR t p = true then 0 else S.2.1 t i p, S.2.2))
theorem KF_kl {S T : hs_S} (h : KF S T) : hs_kl T = hs_kl S := by
  refine Prod.ext (funext fun t => funext fun i => funext fun p => ?_) (Prod.ext (funext fun t => funext fun i => funext fun p => ?_) h.1)
  · show (if hs_fr t p = true then 0 else T.1 t i p) = if hs_fr t p = true then 0 else S.1 t i p
    by_cases q : hs_fr t p = true
    · rw [if_pos q, if_pos q]
    · rw [if_neg q, if_neg q]
      exact h.2.2 t i p (by cases z : hs_fr t p with | true => exact absurd z q | false => rfl)
  · show (if hs_scR t p = true then 0 else T.2.1 t i p) = if hs_scR t p = true then 0 else S.2.1 t i p
    by_cases q : hs_scR t p = true
    · rw [if_pos q, if_pos q]
    · rw [if_neg q, if_neg q]
      exact h.2.1 t i p (fun z => q (by rw [z]; rfl)) (fun z => q (by rw [z.1, z.2]; rfl))
theorem RX_kf {n : Nat} {U T V : hs_S} {ev ng nl nE nB nR nd : Nat} (h : KF U T) (k : RX n U V ev ng nl nE nB nR nd) : RX n T V ev ng nl nE nB nR nd := by
  have k1 : RX n (hs_kl U) V ev ng nl nE nB nR nd := by
    obtain ⟨a, b, c, d, e, f, g, i⟩ := k
    exact ⟨a, b, c, d, e, f, g, i⟩
  rw [← KF_kl h] at k1
  obtain ⟨a, b, c, d, e, f, g, i⟩ := k1
  exact ⟨a, b, c, d, e, f, g, i⟩
/-- amounts of bids, as numbers -/
theorem amt {U V : hs_S} {ev nB nR b : Nat} (hB : rB U V ev nB nR) (hb : b < nB) : 1 ≤ (V.1 68 1 b).toInt ∧ (V.1 68 1 b).toInt ≤ 100 := by
  obtain ⟨⟨_, _, ⟨m, hm, b4, _⟩, _⟩, _⟩ := hB b hb
  rw [b4, nI_toInt (by omega)]
  omega
theorem all_pos {V : hs_S} {nB r b : Nat} {u : Int32} (h80 : nB ≤ 80) (hr : r < 30) (hm : ∀ b, b < nB → 1 ≤ (V.1 68 1 b).toInt ∧ (V.1 68 1 b).toInt ≤ 100) (hb : b < nB) (hT : shT V (nI r) u b = true) : 0 < (allR V nB r u).toInt := by
  have h1 := (sum_i (w := u) h80 hr hm nB (Nat.le_refl _)).1
  have h2 := sI_ge (f := fun b => if shT V (nI r) u b then (V.1 68 1 b).toInt else 0) (b := b) nB (fun k hk => by
    by_cases q : shT V (nI r) u k = true
    · show 0 ≤ (if shT V (nI r) u k then (V.1 68 1 k).toInt else 0)
      rw [if_pos q]; have := hm k hk; omega
    · show 0 ≤ (if shT V (nI r) u k then (V.1 68 1 k).toInt else 0)
      rw [if_neg q]; exact Int.le_refl _) hb
  have h3 : (if shT V (nI r) u b then (V.1 68 1 b).toInt else 0) = (V.1 68 1 b).toInt := if_pos hT
  have h4 := hm b hb
  have h2' : (if shT V (nI r) u b then (V.1 68 1 b).toInt else 0) ≤ sI (fun b => if shT V (nI r) u b then (V.1 68 1 b).toInt else 0) nB := h2
  show 0 < (sumR (V.1 67 1) (V.1 68 1) (V.1 69 1) (V.1 71 1) (V.1 72 1) (V.1 73 1) (V.1 81 1) r u nB).toInt
  omega
theorem c_part {n : Nat} {U V : hs_S} {ev ng nl nE nB nR nd r b : Nat} (hX : RX n U V ev ng nl nE nB nR nd) (hr : r < nR) (hp : U.1 8 (U.2.1 14 1 r) 5 = V.1 81 1 r) (hv : U.1 8 (U.2.1 14 1 r) 6 = V.1 82 1 r) (hv0 : 0 ≤ (V.1 82 1 r).toInt ∧ (V.1 82 1 r).toInt ≤ 8000) (hb : b < nB) (h72 : V.1 72 1 b = nI r) : (cPart U (U.2.1 14 1 r) (allR V nB r 0) (allR V nB r 1) (b + 1)).toInt = gotR V nB r b := by
  obtain ⟨hA, _, _, _, _, _, hB, hC⟩ := hX
  have hev := hA.1.1
  have h80 := hA.1.2.2.1.2
  have hR30 := hA.1.2.2.2.1
  have hz : hs_sz U 13 = nB := hA.2.2.1.2.2.1
  obtain ⟨⟨_, ⟨b3, b3'⟩, _⟩, _⟩ := hB b hb
  have hm := fun b hb => amt (b := b) hB hb
  have htp := c_tp hB hC (by omega) hR30 hr hp hb h72
  have r3 : U.1 8 (U.2.1 14 1 r) 3 = V.1 80 1 r := (hC.1 r hr).2.2.2.1.1
  have hT : ∀ u : Int32, shT V (nI r) u b = true ↔ (V.1 67 1 b = u ∧ mTP V b (nI r)) := fun u => by
    unfold shT F_takesPart
    rw [decide_eq_true_eq, bI_eq0, Classical.not_not, hl_cl (by omega)]
  unfold cPart gotR F_Bid_takesPart
  by_cases q : mTP V b (nI r)
  · rw [if_neg (by rw [bI_eq0]; exact Classical.not_not.mpr (htp.mpr q)), r3, b3]
    have go : ∀ u : Int32, V.1 67 1 b = u → (if V.1 80 1 r = 0 then F_Clr_partByOrder (b + 1) U else F_Clr_partByShares (b + 1) (allR V nB r u) U).toInt = shG V (nI r) u (allR V nB r u) nB b := fun u hu => by
      have ht := (hT u).mpr ⟨hu, q⟩
      by_cases z : V.1 80 1 r = 0
      · rw [if_pos z]
        exact c_order hB hC (by omega) hR30 hr hp h80 hz hv hv0 z hb ht
      · rw [if_neg z]
        exact c_shares hB hC (by omega) hR30 hr hp h80 hz hv hv0 z (all_pos h80 (by omega) hm hb ht) hb ht
    rcases b3' with z | z
    · have t1 : ¬ shT V (nI r) 1 b = true := fun w => by
        have := ((hT 1).mp w).1
        rw [z] at this; exact absurd this (by decide)
      rw [if_pos z, if_neg t1, if_pos ((hT 0).mpr ⟨z, q⟩)]
      exact go 0 z
    · rw [if_neg (show ¬ V.1 67 1 b = 0 by rw [z]; decide), if_pos ((hT 1).mpr ⟨z, q⟩)]
      exact go 1 z
  · rw [if_pos (bI_eq0.mpr fun z => q (htp.mp z)), if_neg fun z => q ((hT 1).mp z).2, if_neg fun z => q ((hT 0).mp z).2]
    rfl
theorem vol_b {V : hs_S} {nB r : Nat} (h80 : nB ≤ 80) (hr : r < 30) (hm : ∀ b, b < nB → 1 ≤ (V.1 68 1 b).toInt ∧ (V.1 68 1 b).toInt ≤ 100) (h : V.1 82 1 r = (if allR V nB r 0 ≤ allR V nB r 1 then allR V nB r 0 else allR V nB r 1)) : 0 ≤ (V.1 82 1 r).toInt ∧ (V.1 82 1 r).toInt ≤ 8000 := by
  obtain ⟨h1, h2, h3⟩ := sum_i (w := 0) h80 hr hm nB (Nat.le_refl _)
  obtain ⟨g1, g2, g3⟩ := sum_i (w := 1) h80 hr hm nB (Nat.le_refl _)
  have e0 : (allR V nB r 0).toInt = _ := h1
  have e1 : (allR V nB r 1).toInt = _ := g1
  rw [h]
  by_cases q : allR V nB r 0 ≤ allR V nB r 1
  · rw [if_pos q, e0]; omega
  · rw [if_neg q, e1]; omega
theorem reckon_eq {n : Nat} {U T V : hs_S} {ev ng nl nE nB nR nd r : Nat} {x : Int32} (hX : RX n U V ev ng nl nE nB nR nd) (hr : r < nR) (hM : mR V ng nl nE nB nR r) (hp : ∀ r', r' < nR → ¬ V.1 78 1 r ≤ V.1 79 1 r' → U.1 8 (U.2.1 14 1 r') 5 = V.1 81 1 r') (hR : R_Clr_reckon (U.2.1 14 1 r) U x T) :
    (T.1 8 (U.2.1 14 1 r) 5 = V.1 81 1 r ∧ T.1 8 (U.2.1 14 1 r) 6 = V.1 82 1 r ∧ T.1 8 (U.2.1 14 1 r) 7 = V.1 83 1 r ∧ T.1 8 (U.2.1 14 1 r) 8 = V.1 84 1 r) ∧ (∀ b, b < nB → V.1 72 1 b = nI r → T.1 0 (b + 1) 9 = V.1 74 1 b) ∧
    (∀ i p, i ≠ U.2.1 14 1 r → T.1 8 i p = U.1 8 i p) ∧ (∀ b, b < nB → ¬ V.1 72 1 b = nI r → T.1 0 (b + 1) 9 = U.1 0 (b + 1) 9) ∧ (x = 0 ∨ x = 1) ∧
    (x = 0 ↔ (U.1 8 (U.2.1 14 1 r) 5 = V.1 81 1 r ∧ U.1 8 (U.2.1 14 1 r) 6 = V.1 82 1 r ∧ U.1 8 (U.2.1 14 1 r) 7 = V.1 83 1 r) ∧ ∀ b, b < nB → V.1 72 1 b = nI r → U.1 0 (b + 1) 9 = V.1 74 1 b) := by
  obtain ⟨hA, hG, hH, hE, hF, hN, hB, hC⟩ := id hX
  have hev := hA.1.1
  have h80 := hA.1.2.2.1.2
  have hR30 := hA.1.2.2.2.1
  have hm := fun b hb => amt (b := b) hB hb
  obtain ⟨R, hRe⟩ : ∃ R, R = U.2.1 14 1 r := ⟨_, rfl⟩
  obtain ⟨c1, ⟨c, hc, c2, c3⟩, ⟨f, l, ⟨c4, c5⟩, c6, c7, c8, c9⟩, ⟨c10, _⟩, c11⟩ := hC.1 r hr
  rw [← hRe] at c1 c3 c7 c9 c10 c11 hR ⊢
  obtain ⟨S2, S6, y, hT, hPr, hSh, hx, hx0⟩ := hR
  rw [c7] at hT
  have hpp := P_goTo_of (a := nI f) (i := R + 1) hX
  have hFI := FI_goTo (Nat.succ_ne_zero _) hT hpp.1 hpp.2
  have hge : gEq (cEnv S2) (mX V ng nl nE nB nR (nI f)) := br_eq hX (by omega) (by rw [← c6]; exact c11) (by rw [← c6]; exact hp) hT
  obtain ⟨⟨f1, v1, f2, v2, m1, m2, m3, m4, m5⟩, m6, m7, m8⟩ := hM
  rw [c6, c2] at m1 m2 m3
  have e6 : (6 : Int32) * nI c = nI (6 * c) := pk_mul 6 c
  rw [e6] at m1 m2 m3
  rw [nI_1] at m2
  have k26 := hPr.1
  have s20 : S2.1 8 R 0 = nI c := (hT.1.2.2 8 R 0 (by decide) (by decide)).trans c3
  obtain ⟨f1', v1', f2', v2', g1, g2, g3, g4, g5⟩ := hPr.2 c hc s20
  obtain ⟨ef1, ev1⟩ := gVal_fun ((gVal_eq hge (by omega)).mp g1) m1
  obtain ⟨ef2, ev2⟩ := gVal_fun ((gVal_eq hge (by omega)).mp g2) m2
  subst ef1 ev1 ef2 ev2
  have hem : F_Fnd_isEmpty (nI (6 * c)) S2 = if (mX V ng nl nE nB nR (nI f)).1 (nI (6 * c)) = 0 then 1 else 0 := by
    rw [← (hge (6 * c) (by omega)).1]
    obtain ⟨_, g, hg, eg, _⟩ := hFI.1.2 (6 * c) (by omega)
    have es : (cEnv S2).1 (nI (6 * c)) = g := by
      show (S2.1 5 (S2.2.1 28 1 (nI (6 * c)).toNatClampNeg) 3).toNatClampNeg = g
      rw [hl_cl (by omega), eg, hl_cl (by omega)]
    unfold F_Fnd_isEmpty
    rw [hl_cl (by omega), eg, es]
    by_cases z : g = 0
    · rw [if_pos z, z]; exact bI_t rfl
    · rw [if_neg z]; exact bI_f fun w => z ((hl_inj (b := 0) (by omega) (by omega)).mp w)
  rw [hem, ← m3] at g3 g4 g5
  rw [← m4] at g4 g5
  rw [← m5] at g5
  have kf6 : KF U S6 := hT.1.kf.tr hPr.1.kf
  have hX6 := RX_kf kf6 hX
  have kfv : KF U (cVS R S6) := kf6.tr ⟨rfl, fun _ _ _ _ _ => rfl, fun t i p q => if_neg fun z => by rw [z.1, z.2.2] at q; exact absurd q (by decide)⟩
  have hXv := RX_kf kfv hX
  have r14 : ∀ k, S6.2.1 14 1 k = U.2.1 14 1 k := fun k => kf6.2.1 14 1 k (by decide) (fun z => absurd z.1 (by decide))
  have r14v : ∀ k, (cVS R S6).2.1 14 1 k = U.2.1 14 1 k := r14
  have eR6 : S6.2.1 14 1 r = R := (r14 r).trans hRe.symm
  have eRv : (cVS R S6).2.1 14 1 r = R := eR6
  have p6 : S6.1 8 (S6.2.1 14 1 r) 5 = V.1 81 1 r := by rw [eR6]; exact g4
  have hz6 : hs_sz S6 13 = nB := hX6.1.2.2.1.2.2.1
  have t0 : F_Clr_totalOf R 0 S6 = allR V nB r 0 := by
    unfold F_Clr_totalOf
    rw [hz6, ← eR6]
    exact c_to hX6.2.2.2.2.2.2.1 hX6.2.2.2.2.2.2.2 (by omega) hR30 hr p6 h80 nB (Nat.le_refl _)
  have t1 : F_Clr_totalOf R 1 S6 = allR V nB r 1 := by
    unfold F_Clr_totalOf
    rw [hz6, ← eR6]
    exact c_to hX6.2.2.2.2.2.2.1 hX6.2.2.2.2.2.2.2 (by omega) hR30 hr p6 h80 nB (Nat.le_refl _)
  have hvol : cVol R S6 = V.1 82 1 r := by
    unfold cVol
    rw [t0, t1, m6]
    by_cases z : allR V nB r 0 < allR V nB r 1
    · rw [if_pos z, if_pos (by rw [i32_lt] at z; rw [i32_le]; omega)]
    · rw [if_neg z]
      by_cases w : allR V nB r 0 ≤ allR V nB r 1
      · rw [if_pos w]
        rw [i32_lt] at z
        rw [i32_le] at w
        exact i32_eq.mpr (by omega)
      · rw [if_neg w]
  have hv0 := vol_b h80 (by omega) hm m6
  have pv : (cVS R S6).1 8 ((cVS R S6).2.1 14 1 r) 5 = V.1 81 1 r := by
    rw [eRv]
    exact (wI_at (S := S6) (t := 8) (i := R) (j := 6)).trans ((if_neg (by decide)).trans g4)
  have vv : (cVS R S6).1 8 ((cVS R S6).2.1 14 1 r) 6 = V.1 82 1 r := by
    rw [eRv]
    exact (wI_at (S := S6) (t := 8) (i := R) (j := 6)).trans ((if_pos rfl).trans hvol)
  have got : ∀ b, b < nB → V.1 72 1 b = nI r → cGt R S6 b = V.1 74 1 b := fun b hb h72 => by
    have ebd : bd S6 b = b + 1 := (hX6.2.2.2.2.2.2.1 b hb).1.1.1
    have := c_part hXv hr pv vv hv0 hb h72
    unfold cGt
    rw [ebd, t0, t1]
    rw [eRv] at this
    exact i32_eq.mpr (this.trans (m7 b hb h72).symm)
  have hbr : ∀ b, b < nB → (br S6 b = R ↔ V.1 72 1 b = nI r) := fun b hb => by
    have ebd : bd S6 b = b + 1 := (hX6.2.2.2.2.2.2.1 b hb).1.1.1
    have er : br S6 b = S6.2.1 0 (b + 1) 2 := congrArg (fun z => S6.2.1 0 z 2) ebd
    rw [er, ← eR6]
    exact c_rd hX6.2.2.2.2.2.2.1 hX6.2.2.2.2.2.2.2 hR30 hr hb
  obtain ⟨sh1, sh2, sh3, sh4, sh5⟩ := hSh
  have u9 : ∀ b, S6.1 0 (b + 1) 9 = U.1 0 (b + 1) 9 := fun b => (hPr.1.2.2 0 (b + 1) 9 rfl (fun z => absurd z.1 (by decide))).trans (hT.1.2.2 0 (b + 1) 9 (by decide) (by decide))
  have T5 : T.1 8 R 5 = V.1 81 1 r := (sh2 8 R 5 (fun z => absurd z.1 (by decide))).trans ((wI_at (S := S6) (t := 8) (i := R) (j := 6)).trans ((if_neg (by decide)).trans g4))
  have T6 : T.1 8 R 6 = V.1 82 1 r := (sh2 8 R 6 (fun z => absurd z.1 (by decide))).trans ((wI_at (S := S6) (t := 8) (i := R) (j := 6)).trans ((if_pos rfl).trans hvol))
  have T7 : T.1 8 R 7 = V.1 83 1 r := (sh2 8 R 7 (fun z => absurd z.1 (by decide))).trans ((wI_at (S := S6) (t := 8) (i := R) (j := 6)).trans ((if_neg (by decide)).trans g5))
  have T8 : T.1 8 R 8 = V.1 84 1 r := (sh2 8 R 8 (fun z => absurd z.1 (by decide))).trans ((wI_at (S := S6) (t := 8) (i := R) (j := 6)).trans ((if_neg (by decide)).trans g3))
  rw [hz6] at sh3 sh5
  refine ⟨⟨T5, T6, T7, T8⟩, fun b hb h72 => ?_, fun i p hi => ?_, fun b hb h72 => ?_, hx, ?_⟩
  · rw [sh3 b hb, if_pos ((hbr b hb).mpr h72)]
    exact got b hb h72
  · rw [sh2 8 i p (fun z => absurd z.1 (by decide))]
    exact (congrFun (wI_ne (S := S6) (t := 8) hi) p).trans ((hPr.1.2.2 8 i p rfl (fun z => hi z.2.1)).trans (hT.1.2.2 8 i p (by decide) (by decide)))
  · rw [sh3 b hb, if_neg fun z => h72 ((hbr b hb).mp z)]
    exact u9 b
  · rw [hx0, sh5, T5, T6, T7]
    refine ⟨fun z => ⟨⟨z.2.1, z.2.2.1, z.2.2.2⟩, fun b hb h72 => ?_⟩, fun z => ⟨fun b hb h72 => ?_, z.1⟩⟩
    · rw [← u9, ← got b hb h72]
      exact (z.1 b hb ((hbr b hb).mpr h72)).symm
    · have h72' := (hbr b hb).mp h72
      rw [got b hb h72', u9]
      exact (z.2 b hb h72').symm
def hs_ko (t p : Nat) : Bool := decide (42 ≤ t) || (t == 11 || (hs_fr t p || hs_scr t p))
def hs_co (S : hs_S) : hs_S := (fun t i p => if hs_ko t p = true then 0 else S.1 t i p, (fun t i p => if hs_scR t p = true then 0 else S.2.1 t i p, (fun _ _ _ => 0, S.2.2.2)))
def hs_km (t p : Nat) : Bool := (decide (t < 42) && !(t == 11)) || (hs_scr t p || (t == 11 && p == 59))
def hs_mo (S : hs_S) : hs_S := (fun t i p => if hs_km t p = true then 0 else S.1 t i p, (fun _ _ _ => 0, (fun t i p => if t == 86 then S.2.2.1 t i p else 0, fun _ => 0)))
theorem co_of {S T : hs_S} (h1 : ∀ t i p, t < 42 → t ≠ 11 → hs_fr t p = false → hs_scr t p = false → T.1 t i p = S.1 t i p) (h2 : ∀ t i p, hs_scR t p = false → T.2.1 t i p = S.2.1 t i p) (h3 : T.2.2.2 = S.2.2.2) : hs_co T = hs_co S := by
  refine Prod.ext (funext fun t => funext fun i => funext fun p => ?_) (Prod.ext (funext fun t => funext fun i => funext fun p => ?_) (Prod.ext rfl h3))
  · show (if hs_ko t p = true then 0 else T.1 t i p) = if hs_ko t p = true then 0 else S.1 t i p
    by_cases q : hs_ko t p = true
    · rw [if_pos q, if_pos q]
    · rw [if_neg q, if_neg q]
      unfold hs_ko at q
      simp only [Bool.or_eq_true, decide_eq_true_eq, beq_iff_eq, not_or, Bool.not_eq_true] at q
      exact h1 t i p (by omega) q.2.1 q.2.2.1 q.2.2.2
  · show (if hs_scR t p = true then 0 else T.2.1 t i p) = if hs_scR t p = true then 0 else S.2.1 t i p
    by_cases q : hs_scR t p = true
    · rw [if_pos q, if_pos q]
    · rw [if_neg q, if_neg q]
      exact h2 t i p (by cases z : hs_scR t p with | true => exact absurd z q | false => rfl)
theorem mo_of {S T : hs_S} (h1 : ∀ t i p, 42 ≤ t ∨ t = 11 → hs_scr t p = false → ¬ (t = 11 ∧ p = 59) → T.1 t i p = S.1 t i p) (h2 : ∀ i p, T.2.2.1 86 i p = S.2.2.1 86 i p) : hs_mo T = hs_mo S := by
  refine Prod.ext (funext fun t => funext fun i => funext fun p => ?_) (Prod.ext rfl (Prod.ext (funext fun t => funext fun i => funext fun p => ?_) rfl))
  · show (if hs_km t p = true then 0 else T.1 t i p) = if hs_km t p = true then 0 else S.1 t i p
    by_cases q : hs_km t p = true
    · rw [if_pos q, if_pos q]
    · rw [if_neg q, if_neg q]
      unfold hs_km at q
      simp only [Bool.or_eq_true, Bool.and_eq_true, decide_eq_true_eq, Bool.not_eq_true', beq_eq_false_iff_ne, not_or, not_and, Bool.not_eq_true, ne_eq, Classical.not_not] at q
      simp only [beq_iff_eq] at q
      refine h1 t i p ?_ q.2.1 (fun z => q.2.2 z.1 z.2)
      by_cases z : 42 ≤ t
      · exact Or.inl z
      · exact Or.inr (q.1 (by omega))
  · show (if (t == 86) = true then T.2.2.1 t i p else 0) = if (t == 86) = true then S.2.2.1 t i p else 0
    by_cases q : (t == 86) = true
    · rw [if_pos q, if_pos q]
      have : t = 86 := beq_iff_eq.mp q
      rw [this]; exact h2 i p
    · rw [if_neg q, if_neg q]
theorem RX_cm {n : Nat} {U V U' V' : hs_S} {ev ng nl nE nB nR nd : Nat} (hu : hs_co U' = hs_co U) (hv : hs_mo V' = hs_mo V) (k : RX n U V ev ng nl nE nB nR nd) : RX n U' V' ev ng nl nE nB nR nd := by
  have k1 : RX n (hs_co U) (hs_mo V) ev ng nl nE nB nR nd := by
    obtain ⟨a, b, c, d, e, f, g, i⟩ := k
    exact ⟨a, b, c, d, e, f, g, i⟩
  rw [← hu, ← hv] at k1
  obtain ⟨a, b, c, d, e, f, g, i⟩ := k1
  exact ⟨a, b, c, d, e, f, g, i⟩
theorem rL_cm {U V U' V' : hs_S} (hu : hs_co U' = hs_co U) (hv : hs_mo V' = hs_mo V) (k : rL U V) : rL U' V' := by
  have k1 : rL (hs_co U) (hs_mo V) := k
  rw [← hu, ← hv] at k1
  exact k1
theorem mR_mo {V V' : hs_S} {ng nl nE nB nR r : Nat} (hv : hs_mo V' = hs_mo V) (k : mR V ng nl nE nB nR r) : mR V' ng nl nE nB nR r := by
  have k1 : mR (hs_mo V) ng nl nE nB nR r := k
  rw [← hv] at k1
  exact k1
theorem cl_co {S T : hs_S} (h : hs_cl T = hs_cl S) : hs_co T = hs_co S := by
  refine co_of (fun t i p _ _ _ h4 => ?_) (fun t i p h4 => ?_) (congrArg (fun z => z.2.2.2) h)
  · have := congrFun (congrFun (congrFun (congrArg Prod.fst h) t) i) p
    have e1 : (if hs_scr t p = true then 0 else T.1 t i p) = if hs_scr t p = true then 0 else S.1 t i p := this
    rw [h4] at e1
    exact e1
  · have := congrFun (congrFun (congrFun (congrArg (fun z => z.2.1) h) t) i) p
    have e1 : (if hs_scR t p = true then 0 else T.2.1 t i p) = if hs_scR t p = true then 0 else S.2.1 t i p := this
    rw [h4] at e1
    exact e1
theorem cl_mo {S T : hs_S} (h : hs_cl T = hs_cl S) : hs_mo T = hs_mo S := by
  refine mo_of (fun t i p _ h4 _ => ?_) (fun i p => congrFun (congrFun (congrFun (congrArg (fun z => z.2.2.1) h) 86) i) p)
  have := congrFun (congrFun (congrFun (congrArg Prod.fst h) t) i) p
  have e1 : (if hs_scr t p = true then 0 else T.1 t i p) = if hs_scr t p = true then 0 else S.1 t i p := this
  rw [h4] at e1
  exact e1
abbrev clW (V : hs_S) (r : Nat) (why price fee vol : Int32) (q : Nat → Int32) : hs_S := hs_got (hs_wI (hs_wI (hs_wI (hs_wI V 84 1 r why) 81 1 r price) 83 1 r fee) 82 1 r vol) q
section
variable {V : hs_S} {r : Nat} {why price fee vol : Int32} {q : Nat → Int32}
theorem cw84 (p : Nat) : (clW V r why price fee vol q).1 84 1 p = if p = r then why else V.1 84 1 p := wI_at (S := V) (t := 84) (i := 1) (j := r) (x := why)
theorem cw81 (p : Nat) : (clW V r why price fee vol q).1 81 1 p = if p = r then price else V.1 81 1 p := wI_at (S := V) (t := 81) (i := 1) (j := r) (x := price)
theorem cw83 (p : Nat) : (clW V r why price fee vol q).1 83 1 p = if p = r then fee else V.1 83 1 p := wI_at (S := V) (t := 83) (i := 1) (j := r) (x := fee)
theorem cw82 (p : Nat) : (clW V r why price fee vol q).1 82 1 p = if p = r then vol else V.1 82 1 p := wI_at (S := V) (t := 82) (i := 1) (j := r) (x := vol)
end
/-- tables of an event that a round's price is not seen at -/
theorem mX_pr {U V V' : hs_S} {ev ng nl nE nB nR r : Nat} {e : Int32} (hE : rE U V ev nE) (h60 : nE ≤ 60)
    (h42 : V'.1 42 1 = V.1 42 1) (h43 : V'.1 43 1 = V.1 43 1) (h44 : V'.1 44 1 = V.1 44 1) (h46 : V'.1 46 1 = V.1 46 1) (h47 : V'.1 47 1 = V.1 47 1) (h48 : V'.1 48 1 = V.1 48 1) (h49 : V'.1 49 1 = V.1 49 1) (h53 : V'.1 53 1 = V.1 53 1) (h56 : V'.1 56 1 = V.1 56 1) (h57 : V'.1 57 1 = V.1 57 1) (h58 : V'.1 58 1 = V.1 58 1) (h59 : V'.1 59 1 = V.1 59 1)
    (h66 : V'.1 66 1 = V.1 66 1) (h67 : V'.1 67 1 = V.1 67 1) (h68 : V'.1 68 1 = V.1 68 1) (h69 : V'.1 69 1 = V.1 69 1) (h70 : V'.1 70 1 = V.1 70 1) (h71 : V'.1 71 1 = V.1 71 1) (h72 : V'.1 72 1 = V.1 72 1) (h73 : V'.1 73 1 = V.1 73 1) (h77 : V'.1 77 1 = V.1 77 1) (h79 : V'.1 79 1 = V.1 79 1)
    (h81 : ∀ k, k ≠ r → V'.1 81 1 k = V.1 81 1 k) (he : e ≤ V.1 79 1 r) : gEq (mX V' ng nl nE nB nR e) (mX V ng nl nE nB nR e) := by
  refine mX_eq hE h60 (fun c => ?_) (fun o c => ?_) (fun c => ?_) (fun k _ => ⟨?_, fun j _ => ?_⟩) (fun c => ?_) (fun c => ?_)
  · rw [h42, h43, h44]
  · rw [h42, h43, h44, h46, h47, h48, h49]
  · rw [h53, h56, h58]
  · rw [h57]
  · rw [h59]
  · rw [h77, h79]
    refine lastR_old (fun k _ => ⟨rfl, rfl, fun z => h81 k fun w => z (by rw [w]; exact he)⟩) nR (Nat.le_refl _) fun k a b => absurd a (by omega)
  · rw [h66, h67, h68, h69, h70, h71, h72, h73, h79]
/-- the other rounds stay, where they do not see its price -/
theorem clW_mR {n : Nat} {U V : hs_S} {ev ng nl nE nB nR nd r r' : Nat} {why price fee vol : Int32} {q : Nat → Int32} (hX : RX n U V ev ng nl nE nB nR nd) (hr : r < nR) (hr' : r' < nR) (hne : r' ≠ r) (hq : ∀ b, ¬ (b < nB ∧ V.1 72 1 b = nI r) → q b = V.1 74 1 b) (hs : V.1 78 1 r' ≤ V.1 79 1 r) (h : mR V ng nl nE nB nR r') : mR (clW V r why price fee vol q) ng nl nE nB nR r' := by
  obtain ⟨hA, hG, hH, hE, hF, hN, hB, hC⟩ := id hX
  have hR30 := hA.1.2.2.2.1
  obtain ⟨_, ⟨c, hc, c2, _⟩, _⟩ := hC.1 r' hr'
  have hg : gEq (mX (clW V r why price fee vol q) ng nl nE nB nR (V.1 78 1 r')) (mX V ng nl nE nB nR (V.1 78 1 r')) := mX_pr hE hA.1.2.2.1.1 rfl rfl rfl rfl rfl rfl rfl rfl rfl rfl rfl rfl rfl rfl rfl rfl rfl rfl rfl rfl rfl rfl (fun k hk => (cw81 k).trans (if_neg hk)) hs
  have e81 := (cw81 (V := V) (r := r) (why := why) (price := price) (fee := fee) (vol := vol) (q := q) r').trans (if_neg hne)
  have e82 := (cw82 (V := V) (r := r) (why := why) (price := price) (fee := fee) (vol := vol) (q := q) r').trans (if_neg hne)
  have e83 := (cw83 (V := V) (r := r) (why := why) (price := price) (fee := fee) (vol := vol) (q := q) r').trans (if_neg hne)
  have e84 := (cw84 (V := V) (r := r) (why := why) (price := price) (fee := fee) (vol := vol) (q := q) r').trans (if_neg hne)
  have hS : mSame V (clW V r why price fee vol q) nB nB r' := ⟨⟨Nat.le_refl _, hA.1.2.2.1.2, by omega⟩, fun _ _ => Iff.rfl, fun b h1 h2 => absurd h1 (by omega), fun b hb h72 => ⟨⟨rfl, rfl, rfl⟩, rfl, rfl, hq b fun z => hne ?_⟩, rfl, e81, e82⟩
  · refine ⟨?_, mR_2 hS h.2.1 h.2.2.1 h.2.2.2⟩
    rw [e81, e83, e84]
    exact mR_1 (V := V) h hc c2 hg
  · exact (hl_inj (by omega) (by omega)).mp (h72.symm.trans z.2)
/-- events of bells go up -/
def ordR (V : hs_S) (nR : Nat) : Prop := ∀ r r', r < r' → r' < nR → V.1 79 1 r < V.1 79 1 r'
theorem ord_see {U V : hs_S} {ev ng nl nR i r : Nat} (hC : rC U V ev ng nl nR) (hev : ev ≤ 512) (hO : ordR V nR) (hi : i < nR) (hr : r < nR) (h : ¬ V.1 78 1 i ≤ V.1 79 1 r) : r < i := by
  obtain ⟨_, _, ⟨f, l, ⟨c4, c5⟩, c6, _, c8, _⟩, _⟩ := hC.1 i hi
  have hfl : V.1 78 1 i < V.1 79 1 i := by rw [c6, c8]; exact nI_lt2 (by omega) c4
  rcases Nat.lt_trichotomy r i with z | z | z
  · exact z
  · rw [z] at h; rw [i32_lt] at hfl; rw [i32_le] at h; omega
  · have := hO i r z hr
    rw [i32_lt] at hfl this; rw [i32_le] at h; omega
theorem ord_le {U V : hs_S} {ev ng nl nR i r : Nat} (hC : rC U V ev ng nl nR) (hev : ev ≤ 512) (hO : ordR V nR) (hi : i < nR) (h : r < i) : V.1 78 1 r ≤ V.1 79 1 i := by
  obtain ⟨_, _, ⟨f, l, ⟨c4, c5⟩, c6, _, c8, _⟩, _⟩ := hC.1 r (by omega)
  have hfl : V.1 78 1 r < V.1 79 1 r := by rw [c6, c8]; exact nI_lt2 (by omega) c4
  have := hO r i h hi
  rw [i32_lt] at hfl this; rw [i32_le]; omega
theorem reckonAll_eq {n : Nat} {C C' V : hs_S} {ev ng nl nE nB nR nd : Nat} {x : Int32} {a81 a82 a83 a84 a74 : Nat → Int32} (hX : RX n C V ev ng nl nE nB nR nd) (hM : rM V ng nl nE nB nR) (hO : ordR V nR)
    (hold : ∀ r, r < nR → C.1 8 (C.2.1 14 1 r) 5 = a81 r ∧ C.1 8 (C.2.1 14 1 r) 6 = a82 r ∧ C.1 8 (C.2.1 14 1 r) 7 = a83 r ∧ C.1 8 (C.2.1 14 1 r) 8 = a84 r) (hold2 : ∀ b, b < nB → C.1 0 (b + 1) 9 = a74 b) (h74 : ∀ b, b < nB → V.1 72 1 b = -1 → V.1 74 1 b = a74 b)
    (hR : R_Clr_reckonAll C x C') : KF C C' ∧ ((∀ r, r < nR → C'.1 8 (C.2.1 14 1 r) 5 = V.1 81 1 r ∧ C'.1 8 (C.2.1 14 1 r) 6 = V.1 82 1 r ∧ C'.1 8 (C.2.1 14 1 r) 7 = V.1 83 1 r ∧ C'.1 8 (C.2.1 14 1 r) 8 = V.1 84 1 r) ∧ ∀ b, b < nB → C'.1 0 (b + 1) 9 = V.1 74 1 b) ∧
    ∃ q : Nat → Int32, x = cntQ q nR ∧ ∀ i, i < nR → (q i = 0 ↔ (a81 i = V.1 81 1 i ∧ a82 i = V.1 82 1 i ∧ a83 i = V.1 83 1 i) ∧ ∀ b, b < nB → V.1 72 1 b = nI i → a74 b = V.1 74 1 b) := by
  obtain ⟨hA, hG, hH, hE, hF, hN, hB, hC⟩ := id hX
  have hev := hA.1.1
  have hR30 := hA.1.2.2.2.1
  have hz : hs_sz C 14 = nR := hA.2.2.1.2.2.2.2
  obtain ⟨U, q, h0, hstep, rfl, rfl⟩ := hR
  rw [hz] at hstep ⊢
  have inj := hC.2.2.1
  have chain : ∀ i, i ≤ nR → KF C (U i) ∧ (∀ r, r < i → (U i).1 8 (C.2.1 14 1 r) 5 = V.1 81 1 r ∧ (U i).1 8 (C.2.1 14 1 r) 6 = V.1 82 1 r ∧ (U i).1 8 (C.2.1 14 1 r) 7 = V.1 83 1 r ∧ (U i).1 8 (C.2.1 14 1 r) 8 = V.1 84 1 r) ∧ (∀ r, i ≤ r → r < nR → (U i).1 8 (C.2.1 14 1 r) 5 = a81 r ∧ (U i).1 8 (C.2.1 14 1 r) 6 = a82 r ∧ (U i).1 8 (C.2.1 14 1 r) 7 = a83 r ∧ (U i).1 8 (C.2.1 14 1 r) 8 = a84 r) ∧
      (∀ b, b < nB → (∃ r, r < i ∧ V.1 72 1 b = nI r) → (U i).1 0 (b + 1) 9 = V.1 74 1 b) ∧ (∀ b, b < nB → ¬ (∃ r, r < i ∧ V.1 72 1 b = nI r) → (U i).1 0 (b + 1) 9 = a74 b) ∧
      (∀ r, r < i → (q r = 0 ↔ (a81 r = V.1 81 1 r ∧ a82 r = V.1 82 1 r ∧ a83 r = V.1 83 1 r) ∧ ∀ b, b < nB → V.1 72 1 b = nI r → a74 b = V.1 74 1 b)) := by
    intro i
    induction i with
    | zero =>
      intro _
      rw [h0]
      exact ⟨KF.rf, fun r hr => absurd hr (Nat.not_lt_zero _), fun r _ hr => hold r hr, fun b _ ⟨r, hr, _⟩ => absurd hr (Nat.not_lt_zero _), fun b hb _ => hold2 b hb, fun r hr => absurd hr (Nat.not_lt_zero _)⟩
    | succ i ih =>
      intro hi
      obtain ⟨k1, k2, k3, k4, k5, k6⟩ := ih (by omega)
      have hXi := RX_kf k1 hX
      have e14 : ∀ r, (U i).2.1 14 1 r = C.2.1 14 1 r := fun r => k1.2.1 14 1 r (by decide) (fun z => absurd z.1 (by decide))
      have hs := hstep i (by omega)
      have hs' : R_Clr_reckon ((U i).2.1 14 1 i) (U i) (q i) (U (i + 1)) := by rw [e14]; exact hs
      have hrk := reckon_eq hXi (by omega) (hM i (by omega)) (fun r' hr' z => by
        have hlt := ord_see hC (by omega) hO (by omega) hr' z
        rw [e14]; exact (k2 r' hlt).1) hs'
      rw [e14] at hrk
      obtain ⟨g1, g2, g3, g4, g5, g6⟩ := hrk
      have ne14 : ∀ r, r < nR → r ≠ i → C.2.1 14 1 r ≠ C.2.1 14 1 i := fun r hr hne z => hne (inj r i hr (by omega) z)
      refine ⟨k1.tr (reckon_kf hs), fun r hr => ?_, fun r hr hr2 => ?_, fun b hb hex => ?_, fun b hb hex => ?_, fun r hr => ?_⟩
      · by_cases z : r = i
        · rw [z]; exact g1
        · have := k2 r (by omega)
          rw [g3 _ 5 (ne14 r (by omega) z), g3 _ 6 (ne14 r (by omega) z), g3 _ 7 (ne14 r (by omega) z), g3 _ 8 (ne14 r (by omega) z)]
          exact this
      · have z : r ≠ i := by omega
        have := k3 r (by omega) hr2
        rw [g3 _ 5 (ne14 r (by omega) z), g3 _ 6 (ne14 r (by omega) z), g3 _ 7 (ne14 r (by omega) z), g3 _ 8 (ne14 r (by omega) z)]
        exact this
      · by_cases z : V.1 72 1 b = nI i
        · exact g2 b hb z
        · rw [g4 b hb z]
          obtain ⟨r, hr, er⟩ := hex
          exact k4 b hb ⟨r, by
            have : r ≠ i := fun w => z (by rw [← w]; exact er)
            omega, er⟩
      · have z : ¬ V.1 72 1 b = nI i := fun w => hex ⟨i, by omega, w⟩
        rw [g4 b hb z]
        exact k5 b hb fun ⟨r, hr, er⟩ => hex ⟨r, by omega, er⟩
      · by_cases z : r = i
        · subst z
          have k3' := k3 r (Nat.le_refl _) (by omega)
          rw [g6, k3'.1, k3'.2.1, k3'.2.2.1]
          refine and_congr Iff.rfl ⟨fun w b hb h72 => ?_, fun w b hb h72 => ?_⟩
          · rw [← w b hb h72]
            exact (k5 b hb fun ⟨r', hr', er'⟩ => by
              have := (hl_inj (a := r) (b := r') (by omega) (by omega)).mp (h72.symm.trans er')
              omega).symm
          · rw [← w b hb h72]
            exact k5 b hb fun ⟨r', hr', er'⟩ => by
              have := (hl_inj (a := r) (b := r') (by omega) (by omega)).mp (h72.symm.trans er')
              omega
        · exact k6 r (by omega)
  obtain ⟨k1, k2, k3, k4, k5, k6⟩ := chain nR (Nat.le_refl _)
  refine ⟨k1, ⟨k2, fun b hb => ?_⟩, q, rfl, k6⟩
  obtain ⟨c, hc, _, h⟩ := (hB b hb).2
  rcases h with ⟨h1, _⟩ | ⟨r, hr, h1, _⟩
  · rw [k5 b hb fun ⟨r, hr, er⟩ => absurd (er.symm.trans h1) (neg1 (by omega))]
    exact (h74 b hb h1).symm
  · exact k4 b hb ⟨r, hr, h1⟩
theorem cl_pt {S T : hs_S} (h : hs_cl T = hs_cl S) {t i p : Nat} (h4 : hs_scr t p = false) : T.1 t i p = S.1 t i p := by
  have := congrFun (congrFun (congrFun (congrArg Prod.fst h) t) i) p
  have e1 : (if hs_scr t p = true then 0 else T.1 t i p) = if hs_scr t p = true then 0 else S.1 t i p := this
  rw [h4] at e1
  exact e1
theorem cl_ptR {S T : hs_S} (h : hs_cl T = hs_cl S) {t i p : Nat} (h4 : hs_scR t p = false) : T.2.1 t i p = S.2.1 t i p := by
  have := congrFun (congrFun (congrFun (congrArg (fun z => z.2.1) h) t) i) p
  have e1 : (if hs_scR t p = true then 0 else T.2.1 t i p) = if hs_scR t p = true then 0 else S.2.1 t i p := this
  rw [h4] at e1
  exact e1
theorem cl_22 {S T : hs_S} (h : hs_cl T = hs_cl S) : T.2.2 = S.2.2 := congrArg (fun z => z.2.2) h
theorem clW_pt {V : hs_S} {r : Nat} {why price fee vol : Int32} {q : Nat → Int32} {t i p : Nat} (h74 : t ≠ 74) (h81 : t ≠ 81) (h82 : t ≠ 82) (h83 : t ≠ 83) (h84 : t ≠ 84) : (clW V r why price fee vol q).1 t i p = V.1 t i p :=
  (if_neg fun z => h74 z.1 : (if t = 74 ∧ i = 1 then q p else (hs_wI (hs_wI (hs_wI (hs_wI V 84 1 r why) 81 1 r price) 83 1 r fee) 82 1 r vol).1 t i p) = _).trans ((if_neg fun z => h82 z.1).trans ((if_neg fun z => h83 z.1).trans ((if_neg fun z => h81 z.1).trans (if_neg fun z => h84 z.1))))
/-- rows that all rounds anew leave -/
def hs_ska (t : Nat) : Bool := t == 74 || (t == 75 || (t == 81 || (t == 82 || (t == 83 || (t == 84 || t == 85)))))
theorem dI_0 {S X : hs_S} {i : Nat} : ∀ n, dI S X i n = 0 ↔ (S.1 81 1 i = X.1 81 1 i ∧ S.1 82 1 i = X.1 82 1 i ∧ S.1 83 1 i = X.1 83 1 i) ∧ ∀ b, b < n → S.1 72 1 b = nI i → X.1 74 1 b = S.1 74 1 b := by
  have z10 : ¬ (1 : Int32) = 0 := by decide
  intro n
  induction n with
  | zero =>
    unfold dI
    by_cases q1 : S.1 81 1 i = X.1 81 1 i
    · rw [if_pos q1]
      by_cases q2 : S.1 82 1 i = X.1 82 1 i
      · rw [if_pos q2]
        by_cases q3 : S.1 83 1 i = X.1 83 1 i
        · rw [if_pos q3]; exact ⟨fun _ => ⟨⟨q1, q2, q3⟩, fun b hb => absurd hb (Nat.not_lt_zero _)⟩, fun _ => rfl⟩
        · rw [if_neg q3]; exact ⟨fun z => absurd z z10, fun z => absurd z.1.2.2 q3⟩
      · rw [if_neg q2]; exact ⟨fun z => absurd z z10, fun z => absurd z.1.2.1 q2⟩
    · rw [if_neg q1]; exact ⟨fun z => absurd z z10, fun z => absurd z.1.1 q1⟩
  | succ n ih =>
    unfold dI
    by_cases q : dI S X i n = 0
    · rw [if_pos q]
      have h := ih.mp q
      by_cases q2 : S.1 72 1 n = nI i
      · rw [if_pos q2]
        by_cases q3 : X.1 74 1 n = S.1 74 1 n
        · rw [if_pos q3]
          refine ⟨fun _ => ⟨h.1, fun b hb h72 => ?_⟩, fun _ => rfl⟩
          by_cases w : b = n
          · rw [w]; exact q3
          · exact h.2 b (by omega) h72
        · rw [if_neg q3]; exact ⟨fun z => absurd z z10, fun z => absurd (z.2 n (by omega) q2) q3⟩
      · rw [if_neg q2]
        refine ⟨fun _ => ⟨h.1, fun b hb h72 => ?_⟩, fun _ => rfl⟩
        by_cases w : b = n
        · rw [w] at h72; exact absurd h72 q2
        · exact h.2 b (by omega) h72
    · rw [if_neg q]
      exact ⟨fun z => absurd z z10, fun z => absurd (ih.mpr ⟨z.1, fun b hb => z.2 b (by omega)⟩) q⟩
theorem reckonAll_kf {S T : hs_S} {x : Int32} (h : R_Clr_reckonAll S x T) : KF S T := by
  obtain ⟨U, q, h0, hs, rfl, _⟩ := h
  have : ∀ i, i ≤ hs_sz S 14 → KF S (U i) := by
    intro i
    induction i with
    | zero => intro _; rw [h0]; exact KF.rf
    | succ i ih => intro hi; exact (ih (by omega)).tr (reckon_kf (hs i (by omega)))
  exact this _ (Nat.le_refl _)
theorem RX_ev {n : Nat} {U V : hs_S} {ev ng nl nE nB nR nd : Nat} (h : RX n U V ev ng nl nE nB nR nd) (hn : n < 512) : RX (n + 1) (hs_wI U 10 1 5 (nI (ev + 1))) (hs_wI V 11 1 0 (nI (ev + 1))) (ev + 1) ng nl nE nB nR nd := by
  obtain ⟨hA, hG, hH, hE, hF, hN, hB, hC⟩ := h
  have hev := hA.1.1.1
  have hG' := rG_up hH (by omega) hG
  have hH' := rH_up hH
  have hE' := rE_up hE
  have hB' := rB_up hB
  have hC' := rC_up hC
  exact ⟨⟨⟨⟨by omega, by omega⟩, by have := hA.1.2; omega⟩, ⟨rfl, rfl, hA.2.1.2.2⟩, hA.2.2⟩, hG', hH', hE', hF, hN, hB', hC'⟩
theorem rL_of {S T : hs_S} (h35 : T.1 35 1 = S.1 35 1) (h36 : T.1 36 1 = S.1 36 1) (h37 : T.1 37 1 = S.1 37 1) (h86 : T.2.2.1 86 1 = S.2.2.1 86 1) (h87 : T.1 87 1 = S.1 87 1) (h88 : T.1 88 1 = S.1 88 1) (hZ : rZ T) (k : rL S S) : rL T T := by
  obtain ⟨k1, k2, k3, _⟩ := k
  refine ⟨?_, ?_, ?_, hZ⟩
  · rw [h36, h37, h87, h88]; exact k1
  · rw [h35, h86]; exact k2
  · rw [h86]; exact k3
theorem ska_lo {t : Nat} (h : t < 42) : hs_ska t = false := by
  unfold hs_ska
  simp only [Bool.or_eq_false_iff, beq_eq_false_iff_ne]
  omega
theorem P_reckon_of {n : Nat} {U V : hs_S} {ev ng nl nE nB nR nd r : Nat} (hX : RX n U V ev ng nl nE nB nR nd) (hr : r < nR) : P_Clr_reckon (U.2.1 14 1 r) U := by
  have hp := P_goTo_of (a := 0) (i := 0) hX
  have hz : hs_sz U 13 = nB := hX.1.2.2.1.2.2.1
  obtain ⟨_, ⟨c, hc, _, h2⟩, _⟩ := hX.2.2.2.2.2.2.2.1 r hr
  exact ⟨hp.1, hp.2, ⟨c, hc, h2⟩, fun k hk => (hX.2.2.2.2.2.2.1 k (by rw [hz] at hk; exact hk)).1.1.1⟩
theorem P_reckonAll_of {n : Nat} {U V : hs_S} {ev ng nl nE nB nR nd : Nat} (hX : RX n U V ev ng nl nE nB nR nd) : P_Clr_reckonAll U := by
  have hz : hs_sz U 14 = nR := hX.1.2.2.1.2.2.2.2
  have hR30 := hX.1.1.2.2.2.1
  refine ⟨by omega, fun i hi => ?_⟩
  rw [hz] at hi
  refine ⟨?_, P_reckon_of hX hi⟩
  have := (hX.2.2.2.2.2.2.2.1 i hi).1.1
  show U.2.1 14 1 i ≠ 0
  omega
theorem kf_mo {S T : hs_S} (h : KF S T) : hs_mo T = hs_mo S := by
  refine mo_of (fun t i p h1 _ _ => h.2.2 t i p ?_) (fun i p => by rw [h.1])
  unfold hs_fr hs_fs
  simp only [Bool.or_eq_false_iff, Bool.and_eq_false_iff, beq_eq_false_iff_ne]
  omega
theorem kf_co {S T : hs_S} (h : KF S T) : hs_co T = hs_co S := by
  refine co_of (fun t i p _ _ h3 _ => h.2.2 t i p h3) (fun t i p h4 => ?_) (congrArg Prod.snd h.1)
  unfold hs_scR at h4
  simp only [Bool.or_eq_false_iff, Bool.and_eq_false_iff, beq_eq_false_iff_ne] at h4
  exact h.2.1 t i p h4.1 (by omega)
theorem RS_kf {n : Nat} {S T : hs_S} {ev ng nl nE nB nR nd : Nat} (h : KF S T) (k : RS n S ev ng nl nE nB nR nd) (h1 : ∀ r, r < nR → T.1 8 (S.2.1 14 1 r) 5 = S.1 81 1 r ∧ T.1 8 (S.2.1 14 1 r) 6 = S.1 82 1 r ∧ T.1 8 (S.2.1 14 1 r) 7 = S.1 83 1 r ∧ T.1 8 (S.2.1 14 1 r) 8 = S.1 84 1 r) (h2 : ∀ b, b < nB → T.1 0 (b + 1) 9 = S.1 74 1 b) : RS n T ev ng nl nE nB nR nd := by
  obtain ⟨hX, hL, hQ, hM⟩ := k
  have e14 : ∀ r, T.2.1 14 1 r = S.2.1 14 1 r := fun r => h.2.1 14 1 r (by decide) (fun z => absurd z.1 (by decide))
  have f : ∀ t p, hs_fr t p = false → T.1 t 1 p = S.1 t 1 p := fun t p q => h.2.2 t 1 p q
  refine ⟨RX_cm (kf_co h) (kf_mo h) hX, rL_cm (kf_co h) (kf_mo h) hL, ⟨fun r hr => ?_, fun b hb => ⟨?_, fun z => ?_⟩⟩, fun r hr => mR_mo (kf_mo h) (hM r hr)⟩
  · rw [e14, f 81 r rfl, f 82 r rfl, f 83 r rfl, f 84 r rfl]
    exact h1 r hr
  · rw [f 74 b rfl]; exact h2 b hb
  · rw [f 72 b rfl] at z
    rw [f 74 b rfl]
    exact (hQ.2 b hb).2 z
