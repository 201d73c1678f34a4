/-! ===== the reference reckons a round ===== -/
abbrev clW (V : hs_S) (r : Nat) (why price fee vol : Int32) (q : Nat → Int32) : hs_S := hs_got (hs_wI (hs_wI (hs_wI (hs_wI V 84 1 r why) 81 1 r price) 83 1 r fee) 82 1 r vol) q
section
variable {V : hs_S} {r : Nat} {why price fee vol : Int32} {q : Nat → Int32}
theorem cw84 (p : Nat) : (clW V r why price fee vol q).1 84 1 p = if p = r then why else V.1 84 1 p := wI_at (S := V) (t := 84) (i := 1) (j := r) (x := why)
theorem cw81 (p : Nat) : (clW V r why price fee vol q).1 81 1 p = if p = r then price else V.1 81 1 p := wI_at (S := V) (t := 81) (i := 1) (j := r) (x := price)
theorem cw83 (p : Nat) : (clW V r why price fee vol q).1 83 1 p = if p = r then fee else V.1 83 1 p := wI_at (S := V) (t := 83) (i := 1) (j := r) (x := fee)
theorem cw82 (p : Nat) : (clW V r why price fee vol q).1 82 1 p = if p = r then vol else V.1 82 1 p := wI_at (S := V) (t := 82) (i := 1) (j := r) (x := vol)
end
/-- tables of an event that a round's price is not seen at -/
theorem mX_pr {U V V' : hs_S} {ev ng nl nE nB nR r : Nat} {e : Int32} (hE : rE U V ev nE) (h60 : nE ≤ 60)
    (h42 : V'.1 42 1 = V.1 42 1) (h43 : V'.1 43 1 = V.1 43 1) (h44 : V'.1 44 1 = V.1 44 1) (h46 : V'.1 46 1 = V.1 46 1) (h47 : V'.1 47 1 = V.1 47 1) (h48 : V'.1 48 1 = V.1 48 1) (h49 : V'.1 49 1 = V.1 49 1) (h53 : V'.1 53 1 = V.1 53 1) (h56 : V'.1 56 1 = V.1 56 1) (h57 : V'.1 57 1 = V.1 57 1) (h58 : V'.1 58 1 = V.1 58 1) (h59 : V'.1 59 1 = V.1 59 1)
    (h66 : V'.1 66 1 = V.1 66 1) (h67 : V'.1 67 1 = V.1 67 1) (h68 : V'.1 68 1 = V.1 68 1) (h69 : V'.1 69 1 = V.1 69 1) (h70 : V'.1 70 1 = V.1 70 1) (h71 : V'.1 71 1 = V.1 71 1) (h72 : V'.1 72 1 = V.1 72 1) (h73 : V'.1 73 1 = V.1 73 1) (h77 : V'.1 77 1 = V.1 77 1) (h79 : V'.1 79 1 = V.1 79 1)
    (h81 : ∀ k, k ≠ r → V'.1 81 1 k = V.1 81 1 k) (he : e ≤ V.1 79 1 r) : gEq (mX V' ng nl nE nB nR e) (mX V ng nl nE nB nR e) := by
  refine mX_eq hE h60 (fun c => ?_) (fun o c => ?_) (fun c => ?_) (fun k _ => ⟨?_, fun j _ => ?_⟩) (fun c => ?_) (fun c => ?_)
  · rw [h42, h43, h44]
  · rw [h42, h43, h44, h46, h47, h48, h49]
  · rw [h53, h56, h58]
  · rw [h57]
  · rw [h59]
  · rw [h77, h79]
    refine lastR_old (fun k _ => ⟨rfl, rfl, fun z => h81 k fun w => z (by rw [w]; exact he)⟩) nR (Nat.le_refl _) fun k a b => absurd a (by omega)
  · rw [h66, h67, h68, h69, h70, h71, h72, h73, h79]
theorem mR_cl {V V' : hs_S} {ng nl nE nB nR r : Nat} (h : hs_cl V' = hs_cl V) (k : mR V ng nl nE nB nR r) : mR V' ng nl nE nB nR r := mR_mo (cl_mo h) k
theorem clears_mR {n : Nat} {U V T : hs_S} {ev ng nl nE nB nR nd r : Nat} (hX : RX n U V ev ng nl nE nB nR nd) (hr : r < nR) (hR : R_clears (nI r) V T) : ∃ (why price fee vol : Int32) (q : Nat → Int32), hs_cl T = hs_cl (clW V r why price fee vol q) ∧ (∀ b, ¬ (b < nB ∧ V.1 72 1 b = nI r) → q b = V.1 74 1 b) ∧ mR (clW V r why price fee vol q) ng nl nE nB nR r := by
  obtain ⟨hA, hG, hH, hE, hF, hN, hB, hC⟩ := id hX
  have hev := hA.1.1
  have h80 := hA.1.2.2.1.2
  have h60 := hA.1.2.2.1.1
  have hR30 := hA.1.2.2.2.1
  have hrc : (nI r).toNatClampNeg = r := hl_cl (by omega)
  obtain ⟨_, ⟨c, hc, c2, _⟩, ⟨f, l, ⟨c4, c5⟩, c6, _, c8, _⟩, _⟩ := hC.1 r hr
  obtain ⟨f1, v1, f2, v2, q, ⟨m1, m2⟩, hcl, hq⟩ := hR
  have hmE : ∀ X : hs_S, X.1 11 1 1 = nI ng → X.1 11 1 5 = nI nl → X.1 11 1 12 = nI nE → X.1 11 1 24 = nI nB → X.1 11 1 36 = nI nR → ∀ e, mE X e = mX X ng nl nE nB nR e := fun X a b d e g => mE_r a b d e g (by have := hA.1; omega) (by have := hA.1; omega) h60 h80 hR30
  have vE := hmE V hA.2.1.2.2.1 hA.2.1.2.2.2.1 hA.2.1.2.2.2.2.1 hA.2.1.2.2.2.2.2.1 hA.2.1.2.2.2.2.2.2.1
  have e24 : V.1 11 1 24 = nI nB := hA.2.1.2.2.2.2.2.1
  unfold clE clC at m1 m2
  rw [hrc] at m1 m2
  have eE : clE V (nI r) = V.1 78 1 r := by unfold clE; rw [hrc]
  have eC : clC V (nI r) = 6 * V.1 77 1 r := by unfold clC; rw [hrc]
  rw [eE, eC] at hcl hq
  have le : V.1 78 1 r ≤ V.1 79 1 r := by rw [c6, c8]; exact (hl_le (by omega) (by omega)).mpr (by omega)
  have e6 : (6 : Int32) * V.1 77 1 r = nI (6 * c) := by rw [c2]; exact pk_mul 6 c
  obtain ⟨why, hwhy⟩ : ∃ w, w = clY V (6 * V.1 77 1 r) (V.1 78 1 r) f1 v1 := ⟨_, rfl⟩
  rw [← hwhy] at hcl hq m2
  obtain ⟨price, hprice⟩ : ∃ w, w = (if why = 0 then v1 else -1) := ⟨_, rfl⟩
  rw [← hprice] at hcl hq m2
  obtain ⟨fee, hfee⟩ : ∃ w, w = clF price v2 := ⟨_, rfl⟩
  rw [← hfee] at hcl hq
  have eU : clU V (nI r) why price fee = hs_wI (hs_wI (hs_wI (hs_wI V 84 1 r why) 81 1 r price) 83 1 r fee) 82 1 r (clVol (clU2 V (nI r) why price fee) (nI r)) := by
    unfold clU clU2 clU1
    rw [hrc]
  obtain ⟨vol, hvol⟩ : ∃ w, w = clVol (clU2 V (nI r) why price fee) (nI r) := ⟨_, rfl⟩
  rw [← hvol] at eU
  rw [eU] at hcl hq
  have sums : ∀ u, F_sumOf (nI r) u (clU2 V (nI r) why price fee) = allR (clW V r why price fee vol q) nB r u := fun u => by
    unfold F_sumOf
    have e24' : (clU2 V (nI r) why price fee).1 11 1 24 = nI nB := e24
    rw [e24', hl_cl (by omega), sum_r (by omega) nB h80]
    unfold clU2 clU1
    rw [hrc]
    rfl
  have sums2 : ∀ u, F_sumOf (nI r) u (hs_wI (hs_wI (hs_wI (hs_wI V 84 1 r why) 81 1 r price) 83 1 r fee) 82 1 r vol) = allR (clW V r why price fee vol q) nB r u := fun u => by
    unfold F_sumOf
    have e24' : (hs_wI (hs_wI (hs_wI (hs_wI V 84 1 r why) 81 1 r price) 83 1 r fee) 82 1 r vol).1 11 1 24 = nI nB := e24
    rw [e24', hl_cl (by omega), sum_r (by omega) nB h80]
    rfl
  obtain ⟨q1, q2, q3⟩ := hq nB h80 e24
  have gq : ∀ X : hs_S, X = clW V r why price fee vol q ∨ X = clU1 V (nI r) why price → gEq (mX X ng nl nE nB nR (V.1 78 1 r)) (mX V ng nl nE nB nR (V.1 78 1 r)) := fun X hXx => by
    rcases hXx with rfl | rfl
    · exact mX_pr hE h60 rfl rfl rfl rfl rfl rfl rfl rfl rfl rfl rfl rfl rfl rfl rfl rfl rfl rfl rfl rfl rfl rfl (fun k hk => (cw81 k).trans (if_neg hk)) le
    · unfold clU1
      rw [hrc]
      exact mX_pr hE h60 rfl rfl rfl rfl rfl rfl rfl rfl rfl rfl rfl rfl rfl rfl rfl rfl rfl rfl rfl rfl rfl rfl (fun k hk => (wI_at (S := V) (t := 81) (i := 1) (j := r) (x := price)).trans (if_neg hk)) le
  have g1 : gVal (mX V ng nl nE nB nR (V.1 78 1 r)) (nI (6 * c)) f1 v1 := by
    rw [← vE, ← mVal_g, ← e6]; exact m1
  have g2 : gVal (mX V ng nl nE nB nR (V.1 78 1 r)) (nI (6 * c + 1)) f2 v2 := by
    have e7 : (6 : Int32) * V.1 77 1 r + 1 = nI (6 * c + 1) := by rw [e6, nI_1]
    rw [e7] at m2
    have h1 := mVal_g.mp m2
    rw [hmE (clU1 V (nI r) why price) hA.2.1.2.2.1 hA.2.1.2.2.2.1 hA.2.1.2.2.2.2.1 hA.2.1.2.2.2.2.2.1 hA.2.1.2.2.2.2.2.2.1] at h1
    exact (gVal_eq (gq _ (Or.inr rfl)) (by omega)).mp h1
  have gW := gq _ (Or.inl rfl)
  have hem : F_isEmptyAt (nI (6 * c)) (V.1 78 1 r) V = 0 ↔ ¬ (mX (clW V r why price fee vol q) ng nl nE nB nR (V.1 78 1 r)).1 (nI (6 * c)) = 0 := by
    rw [mSz_e (by omega) (mOk_of (e := V.1 78 1 r) hX).2.1, (gW (6 * c) (by omega)).1, ← vE]
    show 0 < mSz V (nI (6 * c)) (V.1 78 1 r) ↔ ¬ mSz V (nI (6 * c)) (V.1 78 1 r) = 0
    omega
  have ewhy : why = cY (if (mX (clW V r why price fee vol q) ng nl nE nB nR (V.1 78 1 r)).1 (nI (6 * c)) = 0 then 1 else 0) f1 v1 := by
    refine Eq.trans hwhy ?_
    rw [e6]
    unfold clY cY
    by_cases z : F_isEmptyAt (nI (6 * c)) (V.1 78 1 r) V = 0
    · rw [if_pos z, if_neg (hem.mp z), if_pos rfl]
    · rw [if_neg z, if_pos (Classical.not_not.mp fun w => z (hem.mpr w)), if_neg (by decide)]
  refine ⟨why, price, fee, vol, q, hcl, q2, ⟨f1, v1, f2, v2, ?_, ?_, ?_, ?_, ?_⟩, ?_, fun b hb h72 => ?_, fun u hu => ?_⟩
  · show gVal (mX (clW V r why price fee vol q) ng nl nE nB nR (V.1 78 1 r)) (6 * V.1 77 1 r) f1 v1
    rw [e6]
    exact (gVal_eq gW (by omega)).mpr g1
  · show gVal (mX (clW V r why price fee vol q) ng nl nE nB nR (V.1 78 1 r)) (6 * V.1 77 1 r + 1) f2 v2
    rw [e6, nI_1]
    exact (gVal_eq gW (by omega)).mpr g2
  · rw [cw84, if_pos rfl]
    show why = cY (if (mX (clW V r why price fee vol q) ng nl nE nB nR (V.1 78 1 r)).1 (6 * V.1 77 1 r) = 0 then 1 else 0) f1 v1
    rw [e6]
    exact ewhy
  · rw [cw84, cw81, if_pos rfl, if_pos rfl]; exact hprice
  · rw [cw83, cw81, if_pos rfl, if_pos rfl]; exact hfee
  · refine (cw82 _).trans ((if_pos rfl).trans (hvol.trans ?_))
    unfold clVol
    rw [sums, sums]
  · have h1 := q1 b hb h72
    show (q b).toInt = _
    rw [h1]
    unfold clG gotR
    rw [sums2, sums2]
    rfl
  · have h1 := q3 u hu
    rw [cw82, if_pos rfl]
    have e2 : shV0 (hs_wI (hs_wI (hs_wI (hs_wI V 84 1 r why) 81 1 r price) 83 1 r fee) 82 1 r vol) (nI r) = vol := by
      unfold shV0
      rw [hrc]
      exact (wI_at (S := V) (t := 82) (i := 1) (j := r) (x := vol)).trans (if_pos rfl)
    rw [e2] at h1
    exact h1
/-- the other rounds stay, where they do not see its price -/
theorem clW_mR {n : Nat} {U V : hs_S} {ev ng nl nE nB nR nd r r' : Nat} {why price fee vol : Int32} {q : Nat → Int32} (hX : RX n U V ev ng nl nE nB nR nd) (hr : r < nR) (hr' : r' < nR) (hne : r' ≠ r) (hq : ∀ b, ¬ (b < nB ∧ V.1 72 1 b = nI r) → q b = V.1 74 1 b) (hs : V.1 78 1 r' ≤ V.1 79 1 r) (h : mR V ng nl nE nB nR r') : mR (clW V r why price fee vol q) ng nl nE nB nR r' := by
  obtain ⟨hA, hG, hH, hE, hF, hN, hB, hC⟩ := id hX
  have hR30 := hA.1.2.2.2.1
  obtain ⟨_, ⟨c, hc, c2, _⟩, _⟩ := hC.1 r' hr'
  have hg : gEq (mX (clW V r why price fee vol q) ng nl nE nB nR (V.1 78 1 r')) (mX V ng nl nE nB nR (V.1 78 1 r')) := mX_pr hE hA.1.2.2.1.1 rfl rfl rfl rfl rfl rfl rfl rfl rfl rfl rfl rfl rfl rfl rfl rfl rfl rfl rfl rfl rfl rfl (fun k hk => (cw81 k).trans (if_neg hk)) hs
  have e81 := (cw81 (V := V) (r := r) (why := why) (price := price) (fee := fee) (vol := vol) (q := q) r').trans (if_neg hne)
  have e82 := (cw82 (V := V) (r := r) (why := why) (price := price) (fee := fee) (vol := vol) (q := q) r').trans (if_neg hne)
  have e83 := (cw83 (V := V) (r := r) (why := why) (price := price) (fee := fee) (vol := vol) (q := q) r').trans (if_neg hne)
  have e84 := (cw84 (V := V) (r := r) (why := why) (price := price) (fee := fee) (vol := vol) (q := q) r').trans (if_neg hne)
  have hS : mSame V (clW V r why price fee vol q) nB nB r' := ⟨⟨Nat.le_refl _, hA.1.2.2.1.2, by omega⟩, fun _ _ => Iff.rfl, fun b h1 h2 => absurd h1 (by omega), fun b hb h72 => ⟨⟨rfl, rfl, rfl⟩, rfl, rfl, hq b fun z => hne ?_⟩, rfl, e81, e82⟩
  · refine ⟨?_, mR_2 hS h.2.1 h.2.2.1 h.2.2.2⟩
    rw [e81, e83, e84]
    exact mR_1 (V := V) h hc c2 hg
  · exact (hl_inj (by omega) (by omega)).mp (h72.symm.trans z.2)
