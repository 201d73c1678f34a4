/-! ===== what the bids of a round get, on both sides ===== -/
theorem sI_ge {f : Nat → Int} {b : Nat} : ∀ n, (∀ k, k < n → 0 ≤ f k) → b < n → f b ≤ sI f n := by
  intro n
  induction n with
  | zero => intro _ h; exact absurd h (Nat.not_lt_zero _)
  | succ n ih =>
    intro h hb
    have h1 := h n (by omega)
    have h2 := sI_nn n fun k hk => h k (by omega)
    show f b ≤ sI f n + f n
    by_cases q : b = n
    · rw [q]; omega
    · have := ih (fun k hk => h k (by omega)) (by omega)
      omega
theorem cons_i {v a all : Int32} (hv : 0 ≤ v.toInt ∧ v.toInt ≤ 8000) (ha : 0 ≤ a.toInt ∧ a.toInt ≤ 100) (h : 0 < all.toInt) : 0 ≤ (v * a / all).toInt ∧ (v * a / all).toInt ≤ 800000 := by
  have h1 : 0 ≤ v.toInt * a.toInt := Int.mul_nonneg hv.1 ha.1
  have h2 : v.toInt * a.toInt ≤ 8000 * 100 := Int.mul_le_mul hv.2 ha.2 ha.1 (by omega)
  have e : (v * a).toInt = v.toInt * a.toInt := i32_mul (by omega)
  rw [i32_div (by omega) h, e]
  exact ⟨Int.ediv_nonneg h1 (by omega), Int.le_trans (Int.ediv_le_self _ h1) (by omega)⟩
section
variable {U V : hs_S} {ev ng nl nB nR r b : Nat} {u all : Int32}
theorem c_po (hB : rB U V ev nB nR) (hC : rC U V ev ng nl nR) (hev : ev ≤ 512) (hR : nR ≤ 30) (hr : r < nR) (hp : U.1 8 (U.2.1 14 1 r) 5 = V.1 81 1 r) (hk80 : nB ≤ 80)
    (hv : U.1 8 (U.2.1 14 1 r) 6 = V.1 82 1 r) (hv0 : 0 ≤ (V.1 82 1 r).toInt ∧ (V.1 82 1 r).toInt ≤ 8000) (h80 : V.1 80 1 r = 0) (hb : b < nB) (hT : shT V (nI r) u b = true) : ∀ n, n ≤ nB → (cPo U (b + 1) n).toInt = (V.1 82 1 r).toInt - sI (fun c => if shT V (nI r) u c && shP V (nI r) u all c b then shW V (nI r) c else 0) n ∧ 0 ≤ sI (fun c => if shT V (nI r) u c && shP V (nI r) u all c b then shW V (nI r) c else 0) n ∧ sI (fun c => if shT V (nI r) u c && shP V (nI r) u all c b then shW V (nI r) c else 0) n ≤ 100 * n := by
  have hrc : (nI r).toNatClampNeg = r := hl_cl (by omega)
  have eb72 : V.1 72 1 b = nI r := shT_r (by omega) hT
  have er : U.2.1 0 (b + 1) 2 = U.2.1 14 1 r := (c_rd hB hC hR hr hb).mpr eb72
  obtain ⟨⟨⟨_, bid, _⟩, ⟨b3, _⟩, _, ⟨lb, hlb, bl1, bl2⟩, _⟩, _⟩ := hB b hb
  have eu : V.1 67 1 b = u := by unfold shT at hT; exact (decide_eq_true_eq.mp hT).1
  intro n
  induction n with
  | zero =>
    intro _
    refine ⟨?_, Int.le_refl _, Int.le_refl _⟩
    show (U.1 8 (U.2.1 0 (b + 1) 2) 6).toInt = _ - 0
    rw [er, hv]; omega
  | succ n ih =>
    intro hn
    obtain ⟨i1, i2, i3⟩ := ih (by omega)
    obtain ⟨⟨⟨b1, nid, _⟩, ⟨n3, _⟩, ⟨m, hm, b4, b5⟩, ⟨l, hl, nl1, nl2⟩, _⟩, _⟩ := hB n (by omega)
    have eb : bd U n = n + 1 := b1
    have hs := c_sd (w := u) hB hC hev hR hr hp (k := n) (by omega) hk80
    have hW : shW V (nI r) n = m := by unfold shW; rw [hrc, if_pos h80, b4]; exact nI_toInt (by omega)
    have hs1 : sI (fun c => if shT V (nI r) u c && shP V (nI r) u all c b then shW V (nI r) c else 0) (n + 1) = sI (fun c => if shT V (nI r) u c && shP V (nI r) u all c b then shW V (nI r) c else 0) n + (if shT V (nI r) u n && shP V (nI r) u all n b then shW V (nI r) n else 0) := rfl
    rw [hs1, hW]
    unfold cPo
    rw [er, b3, eu]
    by_cases q : shT V (nI r) u n = true
    · rw [if_neg (hs.mpr q), eb]
      have hga : ¬ F_Bid_goesAhead (n + 1) (b + 1) U = 0 ↔ shP V (nI r) u all n b = true := by
        have en : V.1 67 1 n = u := by unfold shT at q; exact (decide_eq_true_eq.mp q).1
        have k1 : shK V (nI r) u all n = if u = 0 then -(l : Int) else (l : Int) := by
          unfold shK; rw [hrc, if_pos h80, nl1, nI_toInt (by omega)]
        have k2 : shK V (nI r) u all b = if u = 0 then -(lb : Int) else (lb : Int) := by
          unfold shK; rw [hrc, if_pos h80, bl1, nI_toInt (by omega)]
        unfold F_Bid_goesAhead shP
        rw [bI_eq0, Classical.not_not, decide_eq_true_eq, k1, k2]
        unfold cGA
        rw [nl2, bl2, n3, en, nid, bid]
        have x1 : nI l = nI lb ↔ l = lb := hl_inj (by omega) (by omega)
        have x2 : nI b ≤ nI n ↔ b ≤ n := hl_le (by omega) (by omega)
        have x3 : nI lb ≤ nI l ↔ lb ≤ l := hl_le (by omega) (by omega)
        have x4 : nI l ≤ nI lb ↔ l ≤ lb := hl_le (by omega) (by omega)
        by_cases z : l = lb
        · rw [if_pos (x1.mpr z), x2, z]
          by_cases z0 : u = 0
          · rw [if_pos z0]; omega
          · rw [if_neg z0]; omega
        · rw [if_neg fun w => z (x1.mp w)]
          by_cases z0 : u = 0
          · rw [if_pos z0, if_pos z0, if_pos z0, x3]; omega
          · rw [if_neg z0, if_neg z0, if_neg z0, x4]; omega
      by_cases q2 : shP V (nI r) u all n b = true
      · rw [if_neg (hga.mpr q2), if_pos (by rw [Bool.and_eq_true]; exact ⟨q, q2⟩), b5, i32_sub (by rw [nI_toInt (by omega), i1]; omega), nI_toInt (by omega), i1]
        omega
      · have : F_Bid_goesAhead (n + 1) (b + 1) U = 0 := Classical.not_not.mp fun z => q2 (hga.mp z)
        rw [if_pos this, if_neg (fun z => q2 (by rw [Bool.and_eq_true] at z; exact z.2)), i1]
        omega
    · have : F_Clr_isOnSide (bd U n) (U.2.1 14 1 r) u U = 0 := Classical.not_not.mp fun z => q (hs.mp z)
      rw [if_pos this, if_neg (fun z => q (by rw [Bool.and_eq_true] at z; exact z.1)), i1]
      omega
theorem c_order (hB : rB U V ev nB nR) (hC : rC U V ev ng nl nR) (hev : ev ≤ 512) (hR : nR ≤ 30) (hr : r < nR) (hp : U.1 8 (U.2.1 14 1 r) 5 = V.1 81 1 r) (hk80 : nB ≤ 80) (hz : hs_sz U 13 = nB)
    (hv : U.1 8 (U.2.1 14 1 r) 6 = V.1 82 1 r) (hv0 : 0 ≤ (V.1 82 1 r).toInt ∧ (V.1 82 1 r).toInt ≤ 8000) (h80 : V.1 80 1 r = 0) (hb : b < nB) (hT : shT V (nI r) u b = true) : (F_Clr_partByOrder (b + 1) U).toInt = shG V (nI r) u all nB b := by
  have hrc : (nI r).toNatClampNeg = r := hl_cl (by omega)
  obtain ⟨h1, h2, h3⟩ := c_po (all := all) hB hC hev hR hr hp hk80 hv hv0 h80 hb hT nB (Nat.le_refl _)
  obtain ⟨⟨_, _, ⟨m, hm, b4, b5⟩, _⟩, _⟩ := hB b hb
  have eB : ∀ c, shB V (nI r) all c = 0 := fun c => by unfold shB; rw [hrc, if_pos h80]
  have eW : shW V (nI r) b = m := by unfold shW; rw [hrc, if_pos h80, b4]; exact nI_toInt (by omega)
  have eL : shL V (nI r) u all nB b = (cPo U (b + 1) nB).toInt := by
    unfold shL shV shV0
    rw [hrc, sI_0 nB fun k hk => by rw [eB]; exact ite_self _, h1, Int.sub_zero]
  unfold F_Clr_partByOrder shG
  rw [hz, eB, eW, eL, b5]
  have z0 : (0 : Int32).toInt = 0 := rfl
  have em : (nI m).toInt = m := nI_toInt (by omega)
  by_cases q : cPo U (b + 1) nB < nI m
  · rw [if_pos q]
    rw [i32_lt, em] at q
    by_cases q2 : 0 < cPo U (b + 1) nB
    · rw [if_pos q2]
      rw [i32_lt, z0] at q2
      omega
    · rw [if_neg q2, z0]
      rw [i32_lt, z0] at q2
      omega
  · rw [if_neg q]
    rw [i32_lt, em] at q
    by_cases q2 : 0 < nI m
    · rw [if_pos q2, em]
      omega
    · rw [i32_lt, z0, em] at q2
      omega
theorem c_pl (hB : rB U V ev nB nR) (hC : rC U V ev ng nl nR) (hev : ev ≤ 512) (hR : nR ≤ 30) (hr : r < nR) (hp : U.1 8 (U.2.1 14 1 r) 5 = V.1 81 1 r) (hk80 : nB ≤ 80)
    (hv : U.1 8 (U.2.1 14 1 r) 6 = V.1 82 1 r) (hv0 : 0 ≤ (V.1 82 1 r).toInt ∧ (V.1 82 1 r).toInt ≤ 8000) (h80 : ¬ V.1 80 1 r = 0) (hall : 0 < all.toInt) (hb : b < nB) (hT : shT V (nI r) u b = true) : ∀ n, n ≤ nB → ((cPl U (b + 1) all n).toInt = (V.1 82 1 r).toInt - sI (fun c => if shT V (nI r) u c then shB V (nI r) all c else 0) n ∧ 0 ≤ sI (fun c => if shT V (nI r) u c then shB V (nI r) all c else 0) n ∧ sI (fun c => if shT V (nI r) u c then shB V (nI r) all c else 0) n ≤ 800000 * n) ∧
    (cPa U (b + 1) all n).toInt = sI (fun c => if shT V (nI r) u c && shP V (nI r) u all c b then shW V (nI r) c else 0) n ∧ 0 ≤ sI (fun c => if shT V (nI r) u c && shP V (nI r) u all c b then shW V (nI r) c else 0) n ∧ sI (fun c => if shT V (nI r) u c && shP V (nI r) u all c b then shW V (nI r) c else 0) n ≤ n := by
  have hrc : (nI r).toNatClampNeg = r := hl_cl (by omega)
  have eb72 : V.1 72 1 b = nI r := shT_r (by omega) hT
  have er : U.2.1 0 (b + 1) 2 = U.2.1 14 1 r := (c_rd hB hC hR hr hb).mpr eb72
  obtain ⟨⟨⟨_, bid, _⟩, ⟨b3, _⟩, ⟨mb, hmb, bb4, bb5⟩, _⟩, _⟩ := hB b hb
  have eu : V.1 67 1 b = u := by unfold shT at hT; exact (decide_eq_true_eq.mp hT).1
  intro n
  induction n with
  | zero =>
    intro _
    refine ⟨⟨?_, Int.le_refl _, Int.le_refl _⟩, rfl, Int.le_refl _, Int.le_refl _⟩
    show (U.1 8 (U.2.1 0 (b + 1) 2) 6).toInt = _ - 0
    rw [er, hv]; omega
  | succ n ih =>
    intro hn
    obtain ⟨⟨i1, i2, i3⟩, i4, i5, i6⟩ := ih (by omega)
    obtain ⟨⟨⟨b1, nid, _⟩, ⟨n3, _⟩, ⟨m, hm, b4, b5⟩, _⟩, _⟩ := hB n (by omega)
    have eb : bd U n = n + 1 := b1
    have hs := c_sd (w := u) hB hC hev hR hr hp (k := n) (by omega) hk80
    have hW : shW V (nI r) n = 1 := by unfold shW; rw [hrc, if_neg h80]
    have em : (nI m).toInt = m := nI_toInt (by omega)
    have hBn : shB V (nI r) all n = (V.1 82 1 r * nI m / all).toInt := by unfold shB shV0; rw [hrc, if_neg h80, b4]
    have hc := cons_i (a := nI m) hv0 (by omega) hall
    have hs1 : sI (fun c => if shT V (nI r) u c && shP V (nI r) u all c b then shW V (nI r) c else 0) (n + 1) = sI (fun c => if shT V (nI r) u c && shP V (nI r) u all c b then shW V (nI r) c else 0) n + (if shT V (nI r) u n && shP V (nI r) u all n b then shW V (nI r) n else 0) := rfl
    have hs2 : sI (fun c => if shT V (nI r) u c then shB V (nI r) all c else 0) (n + 1) = sI (fun c => if shT V (nI r) u c then shB V (nI r) all c else 0) n + (if shT V (nI r) u n then shB V (nI r) all n else 0) := rfl
    rw [hs1, hs2, hW]
    unfold cPl cPa
    rw [er, b3, eu]
    by_cases q : shT V (nI r) u n = true
    · rw [if_neg (hs.mpr q), if_neg (hs.mpr q), eb, hv, b5, if_pos q, hBn]
      have hpc : cPaC U (b + 1) (n + 1) all ↔ shP V (nI r) u all n b = true := by
        have k1 : shK V (nI r) u all n = (V.1 82 1 r * nI m - V.1 82 1 r * nI m / all * all).toInt := by
          unfold shK shV0; rw [hrc, if_neg h80, b4]
        have k2 : shK V (nI r) u all b = (V.1 82 1 r * nI mb - V.1 82 1 r * nI mb / all * all).toInt := by
          unfold shK shV0; rw [hrc, if_neg h80, bb4]
        have x2 : nI b ≤ nI n ↔ b ≤ n := hl_le (by omega) (by omega)
        unfold cPaC cRs shP
        rw [decide_eq_true_eq, k1, k2, er, hv, b5, bb5, nid, bid, x2, i32_lt, i32_eq]
        omega
      refine ⟨⟨?_, by omega, by omega⟩, ?_⟩
      · rw [i32_sub (by rw [i1]; omega), i1]; omega
      · by_cases q2 : shP V (nI r) u all n b = true
        · rw [if_pos (hpc.mpr q2), if_pos (by rw [Bool.and_eq_true]; exact ⟨q, q2⟩)]
          have z1 : (1 : Int32).toInt = 1 := rfl
          rw [i32_add (by rw [i4, z1]; omega), i4, z1]
          omega
        · rw [if_neg fun z => q2 (hpc.mp z), if_neg (fun z => q2 (by rw [Bool.and_eq_true] at z; exact z.2)), i4]
          omega
    · have : F_Clr_isOnSide (bd U n) (U.2.1 14 1 r) u U = 0 := Classical.not_not.mp fun z => q (hs.mp z)
      rw [if_pos this, if_pos this, if_neg q, if_neg (fun z => q (by rw [Bool.and_eq_true] at z; exact z.1)), i1, i4]
      omega
theorem c_shares (hB : rB U V ev nB nR) (hC : rC U V ev ng nl nR) (hev : ev ≤ 512) (hR : nR ≤ 30) (hr : r < nR) (hp : U.1 8 (U.2.1 14 1 r) 5 = V.1 81 1 r) (hk80 : nB ≤ 80) (hz : hs_sz U 13 = nB)
    (hv : U.1 8 (U.2.1 14 1 r) 6 = V.1 82 1 r) (hv0 : 0 ≤ (V.1 82 1 r).toInt ∧ (V.1 82 1 r).toInt ≤ 8000) (h80 : ¬ V.1 80 1 r = 0) (hall : 0 < all.toInt) (hb : b < nB) (hT : shT V (nI r) u b = true) : (F_Clr_partByShares (b + 1) all U).toInt = shG V (nI r) u all nB b := by
  have hrc : (nI r).toNatClampNeg = r := hl_cl (by omega)
  obtain ⟨⟨h1, h2, h3⟩, h4, h5, h6⟩ := c_pl hB hC hev hR hr hp hk80 hv hv0 h80 hall hb hT nB (Nat.le_refl _)
  have eb72 : V.1 72 1 b = nI r := shT_r (by omega) hT
  have er : U.2.1 0 (b + 1) 2 = U.2.1 14 1 r := (c_rd hB hC hR hr hb).mpr eb72
  obtain ⟨⟨_, _, ⟨m, hm, b4, b5⟩, _⟩, _⟩ := hB b hb
  have em : (nI m).toInt = m := nI_toInt (by omega)
  have hc := cons_i (a := nI m) hv0 (by omega) hall
  have eB : shB V (nI r) all b = (V.1 82 1 r * nI m / all).toInt := by unfold shB shV0; rw [hrc, if_neg h80, b4]
  have eW : shW V (nI r) b = 1 := by unfold shW; rw [hrc, if_neg h80]
  have eL : shL V (nI r) u all nB b = (cPl U (b + 1) all nB).toInt - (cPa U (b + 1) all nB).toInt := by
    unfold shL shV shV0
    rw [hrc, h1, h4]
  have z0 : (0 : Int32).toInt = 0 := rfl
  have z1 : (1 : Int32).toInt = 1 := rfl
  unfold F_Clr_partByShares shG
  rw [hz, eB, eW, eL, er, hv, b5, if_pos (by rw [i32_lt, z0]; exact hall)]
  by_cases q : cPl U (b + 1) all nB ≤ cPa U (b + 1) all nB
  · rw [if_pos q, Int32.add_zero]
    rw [i32_le] at q
    omega
  · rw [if_neg q, i32_add (by rw [z1]; omega), z1]
    rw [i32_le] at q
    omega
end
