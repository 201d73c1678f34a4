/-! ===== what a round comes to is there, whatever it is ===== -/
theorem ofInt_i {x : Int} (h : -2147483648 ≤ x ∧ x < 2147483648) : (Int32.ofInt x).toInt = x := by
  rw [Int32.toInt_ofInt]
  exact bm32 h
theorem ex_mR {n : Nat} {U V : hs_S} {ev ng nl nE nB nR nd r : Nat} (hX : RX n U V ev ng nl nE nB nR nd) (hr : r < nR) : ∃ (why price fee vol : Int32) (q : Nat → Int32), (∀ b, ¬ (b < nB ∧ V.1 72 1 b = nI r) → q b = V.1 74 1 b) ∧ mR (clW V r why price fee vol q) ng nl nE nB nR r := by
  obtain ⟨hA, hG, hH, hE, hF, hN, hB, hC⟩ := id hX
  have hev := hA.1.1
  have h80 := hA.1.2.2.1.2
  have h60 := hA.1.2.2.1.1
  have hR30 := hA.1.2.2.2.1
  have hrc : (nI r).toNatClampNeg = r := hl_cl (by omega)
  obtain ⟨_, ⟨c, hc, c2, _⟩, ⟨f, l, ⟨c4, c5⟩, c6, _, c8, _⟩, _⟩ := hC.1 r hr
  have le : V.1 78 1 r ≤ V.1 79 1 r := by rw [c6, c8]; exact (hl_le (by omega) (by omega)).mpr (by omega)
  have e6 : (6 : Int32) * V.1 77 1 r = nI (6 * c) := by rw [c2]; exact pk_mul 6 c
  obtain ⟨f1, v1, g1⟩ := gVal_ex (mX V ng nl nE nB nR (V.1 78 1 r)) (nI (6 * c))
  obtain ⟨f2, v2, g2⟩ := gVal_ex (mX V ng nl nE nB nR (V.1 78 1 r)) (nI (6 * c + 1))
  obtain ⟨why, hwhy⟩ : ∃ w, w = cY (if (mX V ng nl nE nB nR (V.1 78 1 r)).1 (nI (6 * c)) = 0 then 1 else 0) f1 v1 := ⟨_, rfl⟩
  obtain ⟨price, hprice⟩ : ∃ w, w = (if why = 0 then v1 else -1) := ⟨_, rfl⟩
  obtain ⟨fee, hfee⟩ : ∃ w, w = clF price v2 := ⟨_, rfl⟩
  obtain ⟨vol, hvol⟩ : ∃ w, w = (if allR (clW V r why price fee 0 (V.1 74 1)) nB r 0 ≤ allR (clW V r why price fee 0 (V.1 74 1)) nB r 1 then allR (clW V r why price fee 0 (V.1 74 1)) nB r 0 else allR (clW V r why price fee 0 (V.1 74 1)) nB r 1) := ⟨_, rfl⟩
  obtain ⟨q, hq⟩ : ∃ q : Nat → Int32, q = fun b => if b < nB ∧ V.1 72 1 b = nI r then Int32.ofInt (gotR (clW V r why price fee vol (V.1 74 1)) nB r b) else V.1 74 1 b := ⟨_, rfl⟩
  have eAll : ∀ u, allR (clW V r why price fee 0 (V.1 74 1)) nB r u = allR (clW V r why price fee vol q) nB r u := fun _ => rfl
  have eGot : ∀ b, gotR (clW V r why price fee vol (V.1 74 1)) nB r b = gotR (clW V r why price fee vol q) nB r b := fun _ => rfl
  rw [eAll, eAll] at hvol
  have hm : ∀ b, b < nB → 1 ≤ ((clW V r why price fee vol q).1 68 1 b).toInt ∧ ((clW V r why price fee vol q).1 68 1 b).toInt ≤ 100 := fun b hb => amt (b := b) hB hb
  have e82 : (clW V r why price fee vol q).1 82 1 r = vol := (cw82 r).trans (if_pos rfl)
  have hvb := vol_b (V := clW V r why price fee vol q) h80 (by omega) hm (e82.trans hvol)
  rw [e82] at hvb
  have eV0 : shV0 (clW V r why price fee vol q) (nI r) = vol := by unfold shV0; rw [hrc]; exact e82
  have ha : ∀ u, (allR (clW V r why price fee vol q) nB r u).toInt = sI (fun b => if shT (clW V r why price fee vol q) (nI r) u b then ((clW V r why price fee vol q).1 68 1 b).toInt else 0) nB := fun u => (sum_i (w := u) h80 (by omega) hm nB (Nat.le_refl _)).1
  have hv : ∀ u : Int32, u = 0 ∨ u = 1 → (shV0 (clW V r why price fee vol q) (nI r)).toInt ≤ (allR (clW V r why price fee vol q) nB r u).toInt := fun u hu => by
    rw [eV0]
    have h := hvol
    by_cases w : allR (clW V r why price fee vol q) nB r 0 ≤ allR (clW V r why price fee vol q) nB r 1
    · rw [if_pos w] at h
      have h' := congrArg Int32.toInt h
      rw [i32_le] at w
      rcases hu with rfl | rfl <;> omega
    · rw [if_neg w] at h
      have h' := congrArg Int32.toInt h
      rw [i32_le] at w
      rcases hu with rfl | rfl <;> omega
  have hv0 : 0 ≤ (shV0 (clW V r why price fee vol q) (nI r)).toInt := by rw [eV0]; exact hvb.1
  have gb : ∀ b, b < nB → 0 ≤ gotR (clW V r why price fee vol q) nB r b ∧ gotR (clW V r why price fee vol q) nB r b ≤ 8000 := fun b hb => by
    unfold gotR
    by_cases w1 : shT (clW V r why price fee vol q) (nI r) 1 b = true
    · rw [if_pos w1]; exact shG_b h80 hm (ha 1) hv0 (hv 1 (Or.inr rfl)) hb w1
    · rw [if_neg w1]
      by_cases w0 : shT (clW V r why price fee vol q) (nI r) 0 b = true
      · rw [if_pos w0]; exact shG_b h80 hm (ha 0) hv0 (hv 0 (Or.inl rfl)) hb w0
      · rw [if_neg w0]; omega
  have eq : ∀ b, b < nB → V.1 72 1 b = nI r → (q b).toInt = gotR (clW V r why price fee vol q) nB r b := fun b hb h72 => by
    have h1 : q b = Int32.ofInt (gotR (clW V r why price fee vol q) nB r b) := by
      rw [← eGot]
      exact (congrFun hq b).trans (if_pos ⟨hb, h72⟩)
    rw [h1]
    have := gb b hb
    exact ofInt_i (by omega)
  have gW : gEq (mX (clW V r why price fee vol q) ng nl nE nB nR (V.1 78 1 r)) (mX V ng nl nE nB nR (V.1 78 1 r)) := mX_pr hE h60 rfl rfl rfl rfl rfl rfl rfl rfl rfl rfl rfl rfl rfl rfl rfl rfl rfl rfl rfl rfl rfl rfl (fun k hk => (cw81 k).trans (if_neg hk)) le
  refine ⟨why, price, fee, vol, q, fun b hb => (congrFun hq b).trans (if_neg hb), ⟨f1, v1, f2, v2, ?_, ?_, ?_, ?_, ?_⟩, ?_, fun b hb h72 => eq b hb h72, fun u hu => ?_⟩
  · show gVal (mX (clW V r why price fee vol q) ng nl nE nB nR (V.1 78 1 r)) (6 * V.1 77 1 r) f1 v1
    rw [e6]
    exact (gVal_eq gW (by omega)).mpr g1
  · show gVal (mX (clW V r why price fee vol q) ng nl nE nB nR (V.1 78 1 r)) (6 * V.1 77 1 r + 1) f2 v2
    rw [e6, nI_1]
    exact (gVal_eq gW (by omega)).mpr g2
  · rw [cw84, if_pos rfl]
    show why = cY (if (mX (clW V r why price fee vol q) ng nl nE nB nR (V.1 78 1 r)).1 (6 * V.1 77 1 r) = 0 then 1 else 0) f1 v1
    rw [e6, (gW (6 * c) (by omega)).1]
    exact hwhy
  · rw [cw84, cw81, if_pos rfl, if_pos rfl]; exact hprice
  · rw [cw83, cw81, if_pos rfl, if_pos rfl]; exact hfee
  · exact e82.trans hvol
  · rw [e82]
    have hs := sum_G (S := clW V r why price fee vol q) (r := nI r) (u := u) h80 hm (ha u) hv0 (hv u hu)
    rw [eV0] at hs
    rw [← hs]
    refine sI_c nB fun b hb => ?_
    by_cases w : shT (clW V r why price fee vol q) (nI r) u b = true
    · rw [if_pos w, if_pos w]
      have h72 : V.1 72 1 b = nI r := shT_r (S := clW V r why price fee vol q) (by omega) w
      refine (eq b hb h72).trans ?_
      unfold gotR
      rcases hu with rfl | rfl
      · have : ¬ shT (clW V r why price fee vol q) (nI r) 1 b = true := fun w1 => by
          have a := (shT_mTP (by omega) w).1
          have b := (shT_mTP (by omega) w1).1
          exact absurd (a.symm.trans b) (by decide)
        rw [if_neg this, if_pos w]
      · rw [if_pos w]
    · rw [if_neg w, if_neg w]
