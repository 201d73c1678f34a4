/-! ===== a round, reckoned on both sides ===== -/
def hs_kl (S : hs_S) : hs_S := (fun t i p => if hs_fr t p = true then 0 else S.1 t i p, (fun t i p => if hs_scR t p = true then 0 else S.2.1 t i p, S.2.2))
theorem KF_kl {S T : hs_S} (h : KF S T) : hs_kl T = hs_kl S := by
  refine Prod.ext (funext fun t => funext fun i => funext fun p => ?_) (Prod.ext (funext fun t => funext fun i => funext fun p => ?_) h.1)
  · show (if hs_fr t p = true then 0 else T.1 t i p) = if hs_fr t p = true then 0 else S.1 t i p
    by_cases q : hs_fr t p = true
    · rw [if_pos q, if_pos q]
    · rw [if_neg q, if_neg q]
      exact h.2.2 t i p (by cases z : hs_fr t p with | true => exact absurd z q | false => rfl)
  · show (if hs_scR t p = true then 0 else T.2.1 t i p) = if hs_scR t p = true then 0 else S.2.1 t i p
    by_cases q : hs_scR t p = true
    · rw [if_pos q, if_pos q]
    · rw [if_neg q, if_neg q]
      exact h.2.1 t i p (fun z => q (by rw [z]; rfl)) (fun z => q (by rw [z.1, z.2]; rfl))
theorem RX_kf {n : Nat} {U T V : hs_S} {ev ng nl nE nB nR nd : Nat} (h : KF U T) (k : RX n U V ev ng nl nE nB nR nd) : RX n T V ev ng nl nE nB nR nd := by
  have k1 : RX n (hs_kl U) V ev ng nl nE nB nR nd := by
    obtain ⟨a, b, c, d, e, f, g, i⟩ := k
    exact ⟨a, b, c, d, e, f, g, i⟩
  rw [← KF_kl h] at k1
  obtain ⟨a, b, c, d, e, f, g, i⟩ := k1
  exact ⟨a, b, c, d, e, f, g, i⟩
/-- amounts of bids, as numbers -/
theorem amt {U V : hs_S} {ev nB nR b : Nat} (hB : rB U V ev nB nR) (hb : b < nB) : 1 ≤ (V.1 68 1 b).toInt ∧ (V.1 68 1 b).toInt ≤ 100 := by
  obtain ⟨⟨_, _, ⟨m, hm, b4, _⟩, _⟩, _⟩ := hB b hb
  rw [b4, nI_toInt (by omega)]
  omega
theorem all_pos {V : hs_S} {nB r b : Nat} {u : Int32} (h80 : nB ≤ 80) (hr : r < 30) (hm : ∀ b, b < nB → 1 ≤ (V.1 68 1 b).toInt ∧ (V.1 68 1 b).toInt ≤ 100) (hb : b < nB) (hT : shT V (nI r) u b = true) : 0 < (allR V nB r u).toInt := by
  have h1 := (sum_i (w := u) h80 hr hm nB (Nat.le_refl _)).1
  have h2 := sI_ge (f := fun b => if shT V (nI r) u b then (V.1 68 1 b).toInt else 0) (b := b) nB (fun k hk => by
    by_cases q : shT V (nI r) u k = true
    · show 0 ≤ (if shT V (nI r) u k then (V.1 68 1 k).toInt else 0)
      rw [if_pos q]; have := hm k hk; omega
    · show 0 ≤ (if shT V (nI r) u k then (V.1 68 1 k).toInt else 0)
      rw [if_neg q]; exact Int.le_refl _) hb
  have h3 : (if shT V (nI r) u b then (V.1 68 1 b).toInt else 0) = (V.1 68 1 b).toInt := if_pos hT
  have h4 := hm b hb
  have h2' : (if shT V (nI r) u b then (V.1 68 1 b).toInt else 0) ≤ sI (fun b => if shT V (nI r) u b then (V.1 68 1 b).toInt else 0) nB := h2
  show 0 < (sumR (V.1 67 1) (V.1 68 1) (V.1 69 1) (V.1 71 1) (V.1 72 1) (V.1 73 1) (V.1 81 1) r u nB).toInt
  omega
theorem c_part {n : Nat} {U V : hs_S} {ev ng nl nE nB nR nd r b : Nat} (hX : RX n U V ev ng nl nE nB nR nd) (hr : r < nR) (hp : U.1 8 (U.2.1 14 1 r) 5 = V.1 81 1 r) (hv : U.1 8 (U.2.1 14 1 r) 6 = V.1 82 1 r) (hv0 : 0 ≤ (V.1 82 1 r).toInt ∧ (V.1 82 1 r).toInt ≤ 8000) (hb : b < nB) (h72 : V.1 72 1 b = nI r) : (cPart U (U.2.1 14 1 r) (allR V nB r 0) (allR V nB r 1) (b + 1)).toInt = gotR V nB r b := by
  obtain ⟨hA, _, _, _, _, _, hB, hC⟩ := hX
  have hev := hA.1.1
  have h80 := hA.1.2.2.1.2
  have hR30 := hA.1.2.2.2.1
  have hz : hs_sz U 13 = nB := hA.2.2.1.2.2.1
  obtain ⟨⟨_, ⟨b3, b3'⟩, _⟩, _⟩ := hB b hb
  have hm := fun b hb => amt (b := b) hB hb
  have htp := c_tp hB hC (by omega) hR30 hr hp hb h72
  have r3 : U.1 8 (U.2.1 14 1 r) 3 = V.1 80 1 r := (hC.1 r hr).2.2.2.1.1
  have hT : ∀ u : Int32, shT V (nI r) u b = true ↔ (V.1 67 1 b = u ∧ mTP V b (nI r)) := fun u => by
    unfold shT F_takesPart
    rw [decide_eq_true_eq, bI_eq0, Classical.not_not, hl_cl (by omega)]
  unfold cPart gotR F_Bid_takesPart
  by_cases q : mTP V b (nI r)
  · rw [if_neg (by rw [bI_eq0]; exact Classical.not_not.mpr (htp.mpr q)), r3, b3]
    have go : ∀ u : Int32, V.1 67 1 b = u → (if V.1 80 1 r = 0 then F_Clr_partByOrder (b + 1) U else F_Clr_partByShares (b + 1) (allR V nB r u) U).toInt = shG V (nI r) u (allR V nB r u) nB b := fun u hu => by
      have ht := (hT u).mpr ⟨hu, q⟩
      by_cases z : V.1 80 1 r = 0
      · rw [if_pos z]
        exact c_order hB hC (by omega) hR30 hr hp h80 hz hv hv0 z hb ht
      · rw [if_neg z]
        exact c_shares hB hC (by omega) hR30 hr hp h80 hz hv hv0 z (all_pos h80 (by omega) hm hb ht) hb ht
    rcases b3' with z | z
    · have t1 : ¬ shT V (nI r) 1 b = true := fun w => by
        have := ((hT 1).mp w).1
        rw [z] at this; exact absurd this (by decide)
      rw [if_pos z, if_neg t1, if_pos ((hT 0).mpr ⟨z, q⟩)]
      exact go 0 z
    · rw [if_neg (show ¬ V.1 67 1 b = 0 by rw [z]; decide), if_pos ((hT 1).mpr ⟨z, q⟩)]
      exact go 1 z
  · rw [if_pos (bI_eq0.mpr fun z => q (htp.mp z)), if_neg fun z => q ((hT 1).mp z).2, if_neg fun z => q ((hT 0).mp z).2]
    rfl
theorem vol_b {V : hs_S} {nB r : Nat} (h80 : nB ≤ 80) (hr : r < 30) (hm : ∀ b, b < nB → 1 ≤ (V.1 68 1 b).toInt ∧ (V.1 68 1 b).toInt ≤ 100) (h : V.1 82 1 r = (if allR V nB r 0 ≤ allR V nB r 1 then allR V nB r 0 else allR V nB r 1)) : 0 ≤ (V.1 82 1 r).toInt ∧ (V.1 82 1 r).toInt ≤ 8000 := by
  obtain ⟨h1, h2, h3⟩ := sum_i (w := 0) h80 hr hm nB (Nat.le_refl _)
  obtain ⟨g1, g2, g3⟩ := sum_i (w := 1) h80 hr hm nB (Nat.le_refl _)
  have e0 : (allR V nB r 0).toInt = _ := h1
  have e1 : (allR V nB r 1).toInt = _ := g1
  rw [h]
  by_cases q : allR V nB r 0 ≤ allR V nB r 1
  · rw [if_pos q, e0]; omega
  · rw [if_neg q, e1]; omega
theorem reckon_eq {n : Nat} {U T V : hs_S} {ev ng nl nE nB nR nd r : Nat} {x : Int32} (hX : RX n U V ev ng nl nE nB nR nd) (hr : r < nR) (hM : mR V ng nl nE nB nR r) (hp : ∀ r', r' < nR → ¬ V.1 78 1 r ≤ V.1 79 1 r' → U.1 8 (U.2.1 14 1 r') 5 = V.1 81 1 r') (hR : R_Clr_reckon (U.2.1 14 1 r) U x T) :
    (T.1 8 (U.2.1 14 1 r) 5 = V.1 81 1 r ∧ T.1 8 (U.2.1 14 1 r) 6 = V.1 82 1 r ∧ T.1 8 (U.2.1 14 1 r) 7 = V.1 83 1 r ∧ T.1 8 (U.2.1 14 1 r) 8 = V.1 84 1 r) ∧ (∀ b, b < nB → V.1 72 1 b = nI r → T.1 0 (b + 1) 9 = V.1 74 1 b) ∧
    (∀ i p, i ≠ U.2.1 14 1 r → T.1 8 i p = U.1 8 i p) ∧ (∀ b, b < nB → ¬ V.1 72 1 b = nI r → T.1 0 (b + 1) 9 = U.1 0 (b + 1) 9) ∧ (x = 0 ∨ x = 1) ∧
    (x = 0 ↔ (U.1 8 (U.2.1 14 1 r) 5 = V.1 81 1 r ∧ U.1 8 (U.2.1 14 1 r) 6 = V.1 82 1 r ∧ U.1 8 (U.2.1 14 1 r) 7 = V.1 83 1 r) ∧ ∀ b, b < nB → V.1 72 1 b = nI r → U.1 0 (b + 1) 9 = V.1 74 1 b) := by
  obtain ⟨hA, hG, hH, hE, hF, hN, hB, hC⟩ := id hX
  have hev := hA.1.1
  have h80 := hA.1.2.2.1.2
  have hR30 := hA.1.2.2.2.1
  have hm := fun b hb => amt (b := b) hB hb
  obtain ⟨R, hRe⟩ : ∃ R, R = U.2.1 14 1 r := ⟨_, rfl⟩
  obtain ⟨c1, ⟨c, hc, c2, c3⟩, ⟨f, l, ⟨c4, c5⟩, c6, c7, c8, c9⟩, ⟨c10, _⟩, c11⟩ := hC.1 r hr
  rw [← hRe] at c1 c3 c7 c9 c10 c11 hR ⊢
  obtain ⟨S2, S6, y, hT, hPr, hSh, hx, hx0⟩ := hR
  rw [c7] at hT
  have hpp := P_goTo_of (a := nI f) (i := R + 1) hX
  have hFI := FI_goTo (Nat.succ_ne_zero _) hT hpp.1 hpp.2
  have hge : gEq (cEnv S2) (mX V ng nl nE nB nR (nI f)) := br_eq hX (by omega) (by rw [← c6]; exact c11) (by rw [← c6]; exact hp) hT
  obtain ⟨⟨f1, v1, f2, v2, m1, m2, m3, m4, m5⟩, m6, m7, m8⟩ := hM
  rw [c6, c2] at m1 m2 m3
  have e6 : (6 : Int32) * nI c = nI (6 * c) := pk_mul 6 c
  rw [e6] at m1 m2 m3
  rw [nI_1] at m2
  have k26 := hPr.1
  have s20 : S2.1 8 R 0 = nI c := (hT.1.2.2 8 R 0 (by decide) (by decide)).trans c3
  obtain ⟨f1', v1', f2', v2', g1, g2, g3, g4, g5⟩ := hPr.2 c hc s20
  obtain ⟨ef1, ev1⟩ := gVal_fun ((gVal_eq hge (by omega)).mp g1) m1
  obtain ⟨ef2, ev2⟩ := gVal_fun ((gVal_eq hge (by omega)).mp g2) m2
  subst ef1 ev1 ef2 ev2
  have hem : F_Fnd_isEmpty (nI (6 * c)) S2 = if (mX V ng nl nE nB nR (nI f)).1 (nI (6 * c)) = 0 then 1 else 0 := by
    rw [← (hge (6 * c) (by omega)).1]
    obtain ⟨_, g, hg, eg, _⟩ := hFI.1.2 (6 * c) (by omega)
    have es : (cEnv S2).1 (nI (6 * c)) = g := by
      show (S2.1 5 (S2.2.1 28 1 (nI (6 * c)).toNatClampNeg) 3).toNatClampNeg = g
      rw [hl_cl (by omega), eg, hl_cl (by omega)]
    unfold F_Fnd_isEmpty
    rw [hl_cl (by omega), eg, es]
    by_cases z : g = 0
    · rw [if_pos z, z]; exact bI_t rfl
    · rw [if_neg z]; exact bI_f fun w => z ((hl_inj (b := 0) (by omega) (by omega)).mp w)
  rw [hem, ← m3] at g3 g4 g5
  rw [← m4] at g4 g5
  rw [← m5] at g5
  have kf6 : KF U S6 := hT.1.kf.tr hPr.1.kf
  have hX6 := RX_kf kf6 hX
  have kfv : KF U (cVS R S6) := kf6.tr ⟨rfl, fun _ _ _ _ _ => rfl, fun t i p q => if_neg fun z => by rw [z.1, z.2.2] at q; exact absurd q (by decide)⟩
  have hXv := RX_kf kfv hX
  have r14 : ∀ k, S6.2.1 14 1 k = U.2.1 14 1 k := fun k => kf6.2.1 14 1 k (by decide) (fun z => absurd z.1 (by decide))
  have r14v : ∀ k, (cVS R S6).2.1 14 1 k = U.2.1 14 1 k := r14
  have eR6 : S6.2.1 14 1 r = R := (r14 r).trans hRe.symm
  have eRv : (cVS R S6).2.1 14 1 r = R := eR6
  have p6 : S6.1 8 (S6.2.1 14 1 r) 5 = V.1 81 1 r := by rw [eR6]; exact g4
  have hz6 : hs_sz S6 13 = nB := hX6.1.2.2.1.2.2.1
  have t0 : F_Clr_totalOf R 0 S6 = allR V nB r 0 := by
    unfold F_Clr_totalOf
    rw [hz6, ← eR6]
    exact c_to hX6.2.2.2.2.2.2.1 hX6.2.2.2.2.2.2.2 (by omega) hR30 hr p6 h80 nB (Nat.le_refl _)
  have t1 : F_Clr_totalOf R 1 S6 = allR V nB r 1 := by
    unfold F_Clr_totalOf
    rw [hz6, ← eR6]
    exact c_to hX6.2.2.2.2.2.2.1 hX6.2.2.2.2.2.2.2 (by omega) hR30 hr p6 h80 nB (Nat.le_refl _)
  have hvol : cVol R S6 = V.1 82 1 r := by
    unfold cVol
    rw [t0, t1, m6]
    by_cases z : allR V nB r 0 < allR V nB r 1
    · rw [if_pos z, if_pos (by rw [i32_lt] at z; rw [i32_le]; omega)]
    · rw [if_neg z]
      by_cases w : allR V nB r 0 ≤ allR V nB r 1
      · rw [if_pos w]
        rw [i32_lt] at z
        rw [i32_le] at w
        exact i32_eq.mpr (by omega)
      · rw [if_neg w]
  have hv0 := vol_b h80 (by omega) hm m6
  have pv : (cVS R S6).1 8 ((cVS R S6).2.1 14 1 r) 5 = V.1 81 1 r := by
    rw [eRv]
    exact (wI_at (S := S6) (t := 8) (i := R) (j := 6)).trans ((if_neg (by decide)).trans g4)
  have vv : (cVS R S6).1 8 ((cVS R S6).2.1 14 1 r) 6 = V.1 82 1 r := by
    rw [eRv]
    exact (wI_at (S := S6) (t := 8) (i := R) (j := 6)).trans ((if_pos rfl).trans hvol)
  have got : ∀ b, b < nB → V.1 72 1 b = nI r → cGt R S6 b = V.1 74 1 b := fun b hb h72 => by
    have ebd : bd S6 b = b + 1 := (hX6.2.2.2.2.2.2.1 b hb).1.1.1
    have := c_part hXv hr pv vv hv0 hb h72
    unfold cGt
    rw [ebd, t0, t1]
    rw [eRv] at this
    exact i32_eq.mpr (this.trans (m7 b hb h72).symm)
  have hbr : ∀ b, b < nB → (br S6 b = R ↔ V.1 72 1 b = nI r) := fun b hb => by
    have ebd : bd S6 b = b + 1 := (hX6.2.2.2.2.2.2.1 b hb).1.1.1
    have er : br S6 b = S6.2.1 0 (b + 1) 2 := congrArg (fun z => S6.2.1 0 z 2) ebd
    rw [er, ← eR6]
    exact c_rd hX6.2.2.2.2.2.2.1 hX6.2.2.2.2.2.2.2 hR30 hr hb
  obtain ⟨sh1, sh2, sh3, sh4, sh5⟩ := hSh
  have u9 : ∀ b, S6.1 0 (b + 1) 9 = U.1 0 (b + 1) 9 := fun b => (hPr.1.2.2 0 (b + 1) 9 rfl (fun z => absurd z.1 (by decide))).trans (hT.1.2.2 0 (b + 1) 9 (by decide) (by decide))
  have T5 : T.1 8 R 5 = V.1 81 1 r := (sh2 8 R 5 (fun z => absurd z.1 (by decide))).trans ((wI_at (S := S6) (t := 8) (i := R) (j := 6)).trans ((if_neg (by decide)).trans g4))
  have T6 : T.1 8 R 6 = V.1 82 1 r := (sh2 8 R 6 (fun z => absurd z.1 (by decide))).trans ((wI_at (S := S6) (t := 8) (i := R) (j := 6)).trans ((if_pos rfl).trans hvol))
  have T7 : T.1 8 R 7 = V.1 83 1 r := (sh2 8 R 7 (fun z => absurd z.1 (by decide))).trans ((wI_at (S := S6) (t := 8) (i := R) (j := 6)).trans ((if_neg (by decide)).trans g5))
  have T8 : T.1 8 R 8 = V.1 84 1 r := (sh2 8 R 8 (fun z => absurd z.1 (by decide))).trans ((wI_at (S := S6) (t := 8) (i := R) (j := 6)).trans ((if_neg (by decide)).trans g3))
  rw [hz6] at sh3 sh5
  refine ⟨⟨T5, T6, T7, T8⟩, fun b hb h72 => ?_, fun i p hi => ?_, fun b hb h72 => ?_, hx, ?_⟩
  · rw [sh3 b hb, if_pos ((hbr b hb).mpr h72)]
    exact got b hb h72
  · rw [sh2 8 i p (fun z => absurd z.1 (by decide))]
    exact (congrFun (wI_ne (S := S6) (t := 8) hi) p).trans ((hPr.1.2.2 8 i p rfl (fun z => hi z.2.1)).trans (hT.1.2.2 8 i p (by decide) (by decide)))
  · rw [sh3 b hb, if_neg fun z => h72 ((hbr b hb).mp z)]
    exact u9 b
  · rw [hx0, sh5, T5, T6, T7]
    refine ⟨fun z => ⟨⟨z.2.1, z.2.2.1, z.2.2.2⟩, fun b hb h72 => ?_⟩, fun z => ⟨fun b hb h72 => ?_, z.1⟩⟩
    · rw [← u9, ← got b hb h72]
      exact (z.1 b hb ((hbr b hb).mpr h72)).symm
    · have h72' := (hbr b hb).mp h72
      rw [got b hb h72', u9]
      exact (z.2 b hb h72').symm
