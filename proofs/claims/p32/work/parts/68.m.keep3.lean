/-! ===== the bell that clears, disputes ===== -/
theorem mrg_c {T W : hs_S} {t i p : Nat} (h : t < 42) (h2 : t ≠ 11) : (mrg T W).1 t i p = T.1 t i p := by
  show (if gh t = true then W.1 t i p else T.1 t i p) = _
  have : gh t = false := by
    unfold gh
    rw [beq_false_of_ne h2, decide_eq_false (by omega)]; rfl
  rw [this]; rfl
theorem mo_mrg {T W : hs_S} : hs_mo (mrg T W) = hs_mo W := by
  refine mo_of (fun t i p h _ _ => ?_) (fun _ _ => rfl)
  show (if gh t = true then W.1 t i p else T.1 t i p) = _
  have : gh t = true := by
    unfold gh
    rcases h with h | h
    · rw [decide_eq_true h]; simp
    · rw [h]; rfl
  rw [this]; rfl
theorem co_kf {T W C : hs_S} (kf : KF C T) : hs_co (mrg T W) = hs_co C := by
  refine co_of (fun t i p h1 h2 h3 _ => (mrg_c h1 h2).trans (kf.2.2 t i p h3)) (fun t i p h => ?_) (congrArg Prod.snd kf.1 : T.2.2.2 = C.2.2.2)
  show T.2.1 t i p = _
  unfold hs_scR at h
  simp only [Bool.or_eq_false_iff, Bool.and_eq_false_iff, beq_eq_false_iff_ne] at h
  exact kf.2.1 t i p h.1 (by omega)
theorem kp_clear {n c : Nat} {U T12 : hs_S} {x : Int32} (h : KS n U) (hn : n < 512) (hc : c < 4) (hfr : ¬ F_Rnd_wasFrozen (U.2.1 26 1 c) U = 0) (h30 : hs_sz U 14 < 30) (hRc : R_Clr_reckon (U.2.1 26 1 c) (E_Book_close (U.2.1 26 1 c) (U.1 10 1 5) U) x T12) : KS (n + 1) (hs_wI T12 10 1 5 (U.1 10 1 5 + 1)) := by
  obtain ⟨V, ev, ng, nl, nE, nB, nR, nd, hX, hL, hQ, hM⟩ := h
  have hA := hX.1
  have hC := hX.2.2.2.2.2.2.2
  have hev := hA.1.1
  have h80 := hA.1.2.2.1.2
  have e5 : U.1 10 1 5 = nI ev := hA.2.1.1
  have hz : hs_sz U 14 = nR := hA.2.2.1.2.2.2.2
  rw [hz] at h30
  have h62 : ¬ (mrg U V).1 62 1 c = -1 := fun z => hfr (bI_eq0.mpr (Classical.not_not.mpr ((frz_iff (hC.2.1 c hc) (by omega)).mp z)))
  rw [e5, nI_1]
  rw [e5] at hRc
  obtain ⟨R, hR⟩ : ∃ R, R = U.2.1 26 1 c := ⟨_, rfl⟩
  rw [← hR] at hRc
  obtain ⟨q, hq⟩ : ∃ q : Nat → Int32, ∀ b, q b = if b < nB ∧ (mrg U V).1 66 1 b = nI c ∧ (mrg U V).1 72 1 b = -1 then nI nR else (mrg U V).1 72 1 b := ⟨fun b => if b < nB ∧ (mrg U V).1 66 1 b = nI c ∧ (mrg U V).1 72 1 b = -1 then nI nR else (mrg U V).1 72 1 b, fun _ => rfl⟩
  have hX8 := close_RX (q := q) hX hn hc h62 h30 hq
  have hR' : (mrg U V).2.1 26 1 c = R := hR.symm
  rw [hR'] at hX8
  have hcz : cz (hs_ck (nI (ev + 1)) (E_Book_close R (nI ev) U)) = cz (hs_wI (E_Book_close R (nI ev) (mrg U V)) 10 1 5 (nI (ev + 1))) := by
    show cz (hs_wI (E_Book_close R (nI ev) U) 10 1 5 (nI (ev + 1))) = _
    rw [ci10, ci10, cz_close (S := U) (T := mrg U V) cz_mrg]
  have hXr := RX_cm (co_cz hcz) rfl hX8
  obtain ⟨why, price, fee, vol, q2, hq2, hmR⟩ := ex_mR hXr (show nR < nR + 1 by omega)
  have hX2 : RX (n + 1) (hs_ck (nI (ev + 1)) (E_Book_close R (nI ev) U)) (clW (blT (mrg U V) nR c (nI ev) (nI (ev + 1)) q) nR why price fee vol q2) (ev + 1) ng nl nE nB (nR + 1) nd := by
    obtain ⟨a, b, c', d, e, f, g, i⟩ := hXr
    exact ⟨a, b, c', d, e, f, g, i⟩
  have hM2 : rM (clW (blT (mrg U V) nR c (nI ev) (nI (ev + 1)) q) nR why price fee vol q2) ng nl nE nB (nR + 1) := fun r hr => by
    by_cases z : r = nR
    · rw [z]; exact hmR
    · refine clW_mR hXr (by omega) hr z hq2 ?_ (blT_mR hX (by omega) h30 hq (hM r (by omega)))
      rw [bl78, bl79, if_neg z, if_pos rfl]
      obtain ⟨_, _, ⟨f, l, ⟨c4, c5⟩, c6, _⟩, _⟩ := hC.1 r (by omega)
      rw [c6]
      exact (hl_le (by omega) (by omega)).mpr (by omega)
  obtain ⟨W, hW⟩ : ∃ W, W = clW (blT (mrg U V) nR c (nI ev) (nI (ev + 1)) q) nR why price fee vol q2 := ⟨_, rfl⟩
  have t81 : ∀ r, r ≠ nR → W.1 81 1 r = (mrg U V).1 81 1 r := fun r hr => by rw [hW]; exact (cw81 r).trans (if_neg hr)
  have t82 : ∀ r, r ≠ nR → W.1 82 1 r = (mrg U V).1 82 1 r := fun r hr => by rw [hW]; exact (cw82 r).trans (if_neg hr)
  have t83 : ∀ r, r ≠ nR → W.1 83 1 r = (mrg U V).1 83 1 r := fun r hr => by rw [hW]; exact (cw83 r).trans (if_neg hr)
  have t84 : ∀ r, r ≠ nR → W.1 84 1 r = (mrg U V).1 84 1 r := fun r hr => by rw [hW]; exact (cw84 r).trans (if_neg hr)
  have t72 : ∀ b, W.1 72 1 b = q b := fun b => by rw [hW]; rfl
  have t79 : ∀ r, W.1 79 1 r = if r = nR then nI ev else (mrg U V).1 79 1 r := fun r => by rw [hW]; exact bl79 (e' := nI (ev + 1)) (q := q)
  have t78 : ∀ r, W.1 78 1 r = if r = nR then (mrg U V).1 62 1 c else (mrg U V).1 78 1 r := fun r => by rw [hW]; exact bl78 (e := nI ev) (e' := nI (ev + 1)) (q := q)
  have t74 : ∀ b, ¬ (b < nB ∧ q b = nI nR) → W.1 74 1 b = (mrg U V).1 74 1 b := fun b hb => by rw [hW]; exact hq2 b hb
  have w58 : W.1 58 1 = (mrg U V).1 58 1 := by rw [hW]; rfl
  have w73 : W.1 73 1 = (mrg U V).1 73 1 := by rw [hW]; rfl
  have w87 : W.1 87 1 = (mrg U V).1 87 1 := by rw [hW]; rfl
  have w88 : W.1 88 1 = (mrg U V).1 88 1 := by rw [hW]; rfl
  have w86 : W.2.2.1 86 1 = (mrg U V).2.2.1 86 1 := by rw [hW]; rfl
  have w12 : W.1 11 1 12 = (mrg U V).1 11 1 12 := by rw [hW]; rfl
  have w24 : W.1 11 1 24 = (mrg U V).1 11 1 24 := by rw [hW]; rfl
  have w36 : W.1 11 1 36 = nI (nR + 1) := by rw [hW]; rfl
  rw [← hW] at hX2 hM2
  clear hW hmR hq2 hXr
  obtain ⟨g14, g14'⟩ : (hs_ck (nI (ev + 1)) (E_Book_close R (nI ev) U)).2.1 14 1 nR = R ∧ ∀ r, r < nR → (hs_ck (nI (ev + 1)) (E_Book_close R (nI ev) U)).2.1 14 1 r = U.2.1 14 1 r :=
    ⟨(cl14 (S := U) (R := R) (e := nI ev) (j := nR)).trans (by rw [hz, if_pos rfl]), fun r hr => (cl14 (S := U) (R := R) (e := nI ev) (j := r)).trans (by rw [hz, if_neg (by omega)])⟩
  have o8 : ∀ r, r < nR → (hs_ck (nI (ev + 1)) (E_Book_close R (nI ev) U)).1 8 (U.2.1 14 1 r) = U.1 8 (U.2.1 14 1 r) := fun r hr => cl8o (S := U) (hC.1 r hr).1.2 (by rw [hR]; exact hC.2.2.2.2 r c hr hc)
  have hRc' := ck_reckon (v := nI (ev + 1)) hRc
  have hrk := reckon_eq (T := hs_ck (nI (ev + 1)) T12) (x := x) hX2 (show nR < nR + 1 by omega) (hM2 nR (by omega)) (fun r' hr' z => by
    by_cases w : r' = nR
    · subst w
      refine absurd ?_ z
      rw [t79, if_pos rfl, t78, if_pos rfl]
      obtain ⟨f, hf, r7, _⟩ := (hC.2.1 c hc).2.2.1.resolve_left fun z => h62 z.1
      rw [r7]
      exact (hl_le (by omega) (by omega)).mpr (by omega)
    · rw [g14' r' (by omega), o8 r' (by omega), t81 r' w]
      exact (hQ.1 r' (by omega)).1) (by rw [g14]; exact hRc')
  rw [g14] at hrk
  obtain ⟨k1, k2, k3, k4, _⟩ := hrk
  have kf := reckon_kf hRc'
  have r14 : ∀ r, (hs_ck (nI (ev + 1)) T12).2.1 14 1 r = (hs_ck (nI (ev + 1)) (E_Book_close R (nI ev) U)).2.1 14 1 r := fun r => kf.2.1 14 1 r (by decide) (fun z => absurd z.1 (by decide))
  refine KS_of (T' := mrg (hs_ck (nI (ev + 1)) T12) W) ⟨ev + 1, ng, nl, nE, nB, nR + 1, nd, RX_cm (co_kf kf) mo_mrg hX2, ?_, ⟨fun r hr => ?_, fun b hb => ⟨?_, fun h72 => ?_⟩⟩, fun r hr => mR_mo mo_mrg (hM2 r hr)⟩ cz_mrg.symm
  · refine rL_of (S := mrg U V) (funext fun p => kf.2.2 35 1 p rfl) (funext fun p => kf.2.2 36 1 p rfl) (funext fun p => kf.2.2 37 1 p rfl) w86 w87 w88 ⟨fun j h1 h2 => ?_, fun b h1 h2 => ?_, fun r r' h1 h2 => ?_⟩ hL
    · refine (congrFun w58 j).trans (hL.2.2.2.1 j ?_ h2)
      have e : (mrg (hs_ck (nI (ev + 1)) T12) W).1 11 1 12 = (mrg U V).1 11 1 12 := w12
      rw [e] at h1; exact h1
    · have e : (mrg (hs_ck (nI (ev + 1)) T12) W).1 11 1 24 = (mrg U V).1 11 1 24 := w24
      rw [e] at h1
      have h1' : nB ≤ b := by rw [hA.2.1.2.2.2.2.2.1, hl_cl (by omega)] at h1; exact h1
      have := hL.2.2.2.2.1 b h1 h2
      exact ⟨(congrFun w73 b).trans this.1, (t74 b fun z => by omega).trans this.2⟩
    · have e : (mrg (hs_ck (nI (ev + 1)) T12) W).1 11 1 36 = nI (nR + 1) := w36
      rw [e, hl_cl (by omega)] at h2
      show W.1 79 1 r < W.1 79 1 r'
      rw [t79, t79, if_neg (by omega)]
      by_cases z : r' = nR
      · rw [if_pos z]
        obtain ⟨_, _, ⟨f, l, ⟨c4, c5⟩, _, _, c8, _⟩, _⟩ := hC.1 r (by omega)
        rw [c8]
        exact nI_lt2 (by omega) c5
      · rw [if_neg z]
        exact hL.2.2.2.2.2 r r' h1 (by rw [hA.2.1.2.2.2.2.2.2.1, hl_cl (by omega)]; omega)
  · show (hs_ck (nI (ev + 1)) T12).1 8 ((hs_ck (nI (ev + 1)) T12).2.1 14 1 r) 5 = W.1 81 1 r ∧ (hs_ck (nI (ev + 1)) T12).1 8 ((hs_ck (nI (ev + 1)) T12).2.1 14 1 r) 6 = W.1 82 1 r ∧ (hs_ck (nI (ev + 1)) T12).1 8 ((hs_ck (nI (ev + 1)) T12).2.1 14 1 r) 7 = W.1 83 1 r ∧ (hs_ck (nI (ev + 1)) T12).1 8 ((hs_ck (nI (ev + 1)) T12).2.1 14 1 r) 8 = W.1 84 1 r
    rw [r14]
    by_cases z : r = nR
    · rw [z, g14]; exact k1
    · have hne : U.2.1 14 1 r ≠ R := by rw [hR]; exact hC.2.2.2.2 r c (by omega) hc
      rw [g14' r (by omega), k3 _ 5 hne, k3 _ 6 hne, k3 _ 7 hne, k3 _ 8 hne, o8 r (by omega), t81 r z, t82 r z, t83 r z, t84 r z]
      exact hQ.1 r (by omega)
  · show (hs_ck (nI (ev + 1)) T12).1 0 (b + 1) 9 = W.1 74 1 b
    by_cases z : q b = nI nR
    · exact k2 b hb ((t72 b).trans z)
    · rw [k4 b hb (by rw [t72]; exact z), t74 b fun w => z w.2]
      exact (hQ.2 b hb).1
  · have h72' : q b = -1 := (t72 b).symm.trans h72
    show W.1 74 1 b = 0
    rw [t74 b fun w => neg1 (k := nR) (by omega) (w.2.symm.trans h72')]
    refine (hQ.2 b hb).2 ?_
    rw [hq b] at h72'
    by_cases z : b < nB ∧ (mrg U V).1 66 1 b = nI c ∧ (mrg U V).1 72 1 b = -1
    · exact z.2.2
    · rw [if_neg z] at h72'; exact h72'
/-- what all rounds come to is there -/
theorem ex_all {n : Nat} {C S : hs_S} {ev ng nl nE nB nR nd : Nat} (hX : RX n C S ev ng nl nE nB nR nd) (hO : ordR S nR) : ∃ W, RX n C W ev ng nl nE nB nR nd ∧ rM W ng nl nE nB nR ∧
    ((∀ t i p, hs_ska t = false → W.1 t i p = S.1 t i p) ∧ W.2 = S.2) ∧ (∀ b, ¬ (b < nB ∧ ∃ r, r < nR ∧ S.1 72 1 b = nI r) → W.1 74 1 b = S.1 74 1 b) := by
  have hev := hX.1.1.1
  have hR30 := hX.1.1.2.2.2.1
  have chain : ∀ i, i ≤ nR → ∃ W, RX n C W ev ng nl nE nB nR nd ∧ (∀ r, r < i → mR W ng nl nE nB nR r) ∧
      ((∀ t j p, hs_ska t = false → W.1 t j p = S.1 t j p) ∧ W.2 = S.2) ∧ (∀ b, ¬ (b < nB ∧ ∃ r, r < i ∧ S.1 72 1 b = nI r) → W.1 74 1 b = S.1 74 1 b) := by
    intro i
    induction i with
    | zero => exact fun _ => ⟨S, hX, fun r hr => absurd hr (Nat.not_lt_zero _), ⟨fun _ _ _ _ => rfl, rfl⟩, fun _ _ => rfl⟩
    | succ i ih =>
      intro hi
      obtain ⟨Ui, k1, k2, ⟨k3, k3'⟩, k4⟩ := ih (by omega)
      obtain ⟨why, price, fee, vol, q, hq, hm⟩ := ex_mR k1 (show i < nR by omega)
      have e72 : ∀ b, Ui.1 72 1 b = S.1 72 1 b := fun b => k3 72 1 b rfl
      have e79 : ∀ b, Ui.1 79 1 b = S.1 79 1 b := fun b => k3 79 1 b rfl
      have hOi : ordR Ui nR := fun r r' h1 h2 => by rw [e79, e79]; exact hO r r' h1 h2
      have hXW : RX n C (clW Ui i why price fee vol q) ev ng nl nE nB nR nd := by
        obtain ⟨a, b, c, d, e, f, g, i⟩ := k1
        exact ⟨a, b, c, d, e, f, g, i⟩
      refine ⟨clW Ui i why price fee vol q, hXW, fun r hr => ?_, ⟨fun t j p h => ?_, k3'⟩, fun b hb => ?_⟩
      · by_cases z : r = i
        · rw [z]; exact hm
        · exact clW_mR k1 (by omega) (by omega) z hq (ord_le k1.2.2.2.2.2.2.2 (by omega) hOi (by omega) (by omega)) (k2 r (by omega))
      · rw [clW_pt (fun z => by rw [z] at h; exact absurd h (by decide)) (fun z => by rw [z] at h; exact absurd h (by decide)) (fun z => by rw [z] at h; exact absurd h (by decide)) (fun z => by rw [z] at h; exact absurd h (by decide)) (fun z => by rw [z] at h; exact absurd h (by decide))]
        exact k3 t j p h
      · refine Eq.trans (hq b fun z => hb ⟨z.1, i, by omega, by rw [← e72]; exact z.2⟩) ?_
        exact k4 b fun ⟨z, r, hr, er⟩ => hb ⟨z, r, by omega, er⟩
  exact chain nR (Nat.le_refl _)
theorem kp_anew {n : Nat} {U V C M0 T : hs_S} {x : Int32} {ev ng nl nE nB nR nd : Nat} (hS : RS n (mrg U V) ev ng nl nE nB nR nd) (hn : n < 512) (hX0 : RX n C M0 ev ng nl nE nB nR nd)
    (c8 : C.1 8 = U.1 8) (c14 : C.2.1 14 = U.2.1 14) (c9 : ∀ b, C.1 0 (b + 1) 9 = U.1 0 (b + 1) 9) (c35 : C.1 35 = U.1 35) (c36 : C.1 36 = U.1 36) (c37 : C.1 37 = U.1 37)
    (m81 : M0.1 81 1 = (mrg U V).1 81 1) (m82 : M0.1 82 1 = (mrg U V).1 82 1) (m83 : M0.1 83 1 = (mrg U V).1 83 1) (m84 : M0.1 84 1 = (mrg U V).1 84 1) (m74 : M0.1 74 1 = (mrg U V).1 74 1) (m72 : M0.1 72 1 = (mrg U V).1 72 1) (m86 : M0.2.2.1 86 1 = (mrg U V).2.2.1 86 1) (m87 : M0.1 87 1 = (mrg U V).1 87 1) (m88 : M0.1 88 1 = (mrg U V).1 88 1) (mZ : rZ M0)
    (hRc : R_Clr_reckonAll (hs_wI C 10 1 5 (nI (ev + 1))) x T) : KS (n + 1) T := by
  have hA := hX0.1
  have hev := hA.1.1
  have hR30 := hA.1.2.2.2.1
  have h80 := hA.1.2.2.1.2
  have e36 : M0.1 11 1 36 = nI nR := hA.2.1.2.2.2.2.2.2.1
  have e24 : M0.1 11 1 24 = nI nB := hA.2.1.2.2.2.2.2.1
  have hO : ordR M0 nR := fun r r' h1 h2 => mZ.2.2 r r' h1 (by rw [e36, hl_cl (by omega)]; exact h2)
  obtain ⟨W, hXT, hMT, ⟨f1, f3⟩, f4⟩ := ex_all hX0 hO
  obtain ⟨E, hE⟩ : ∃ E, E = hs_wI W 11 1 0 (nI (ev + 1)) := ⟨_, rfl⟩
  have hXE : RX (n + 1) (hs_wI C 10 1 5 (nI (ev + 1))) E (ev + 1) ng nl nE nB nR nd := by rw [hE]; exact RX_ev hXT hn
  have hME : rM E ng nl nE nB nR := fun r hr => by
    have := hMT r hr
    rw [hE]
    exact this
  have eE : ∀ t i p, t ≠ 11 → hs_ska t = false → E.1 t i p = M0.1 t i p := fun t i p h1 h2 => by
    rw [hE]
    exact (if_neg fun z => h1 z.1).trans (f1 t i p h2)
  have eE11 : ∀ p, p ≠ 0 → E.1 11 1 p = M0.1 11 1 p := fun p h => by
    rw [hE]
    exact (if_neg fun z => h z.2.2).trans (f1 11 1 p rfl)
  have t72 : ∀ b, E.1 72 1 b = (mrg U V).1 72 1 b := fun b => (eE 72 1 b (by decide) rfl).trans (congrFun m72 b)
  have t74 : ∀ b, b < nB → (mrg U V).1 72 1 b = -1 → E.1 74 1 b = (mrg U V).1 74 1 b := fun b hb h => by
    rw [hE]
    refine Eq.trans (f4 b fun ⟨_, r, hr, er⟩ => ?_) (congrFun m74 b)
    rw [m72, h] at er
    exact neg1 (by omega) er.symm
  have hOE : ordR E nR := fun r r' h1 h2 => by
    rw [eE 79 1 r (by decide) rfl, eE 79 1 r' (by decide) rfl]
    exact hO r r' h1 h2
  obtain ⟨g1, ⟨g2, g3⟩, _⟩ := reckonAll_eq (a81 := (mrg U V).1 81 1) (a82 := (mrg U V).1 82 1) (a83 := (mrg U V).1 83 1) (a84 := (mrg U V).1 84 1) (a74 := (mrg U V).1 74 1) hXE hME hOE (fun r hr => by
    show C.1 8 (C.2.1 14 1 r) 5 = _ ∧ C.1 8 (C.2.1 14 1 r) 6 = _ ∧ C.1 8 (C.2.1 14 1 r) 7 = _ ∧ C.1 8 (C.2.1 14 1 r) 8 = _
    rw [c8, c14]
    exact hS.2.2.1.1 r hr) (fun b hb => by
    show C.1 0 (b + 1) 9 = _
    rw [c9]
    exact (hS.2.2.1.2 b hb).1) (fun b hb h => t74 b hb ((t72 b).symm.trans h)) hRc
  have r14 : ∀ r, T.2.1 14 1 r = C.2.1 14 1 r := fun r => g1.2.1 14 1 r (by decide) (fun z => absurd z.1 (by decide))
  refine KS_of (T' := mrg T E) ⟨ev + 1, ng, nl, nE, nB, nR, nd, RX_cm (co_kf g1) mo_mrg hXE, ?_, ⟨fun r hr => ?_, fun b hb => ⟨g3 b hb, fun h72 => ?_⟩⟩, fun r hr => mR_mo mo_mrg (hME r hr)⟩ cz_mrg.symm
  · refine rL_of (S := mrg U V) (funext fun p => ?_) (funext fun p => ?_) (funext fun p => ?_) ?_ (funext fun p => ?_) (funext fun p => ?_) ⟨fun j h1 h2 => ?_, fun b h1 h2 => ?_, fun r r' h1 h2 => hOE r r' h1 ?_⟩ hS.2.1
    · exact (g1.2.2 35 1 p rfl).trans (congrFun (congrFun c35 1) p)
    · exact (g1.2.2 36 1 p rfl).trans (congrFun (congrFun c36 1) p)
    · exact (g1.2.2 37 1 p rfl).trans (congrFun (congrFun c37 1) p)
    · show E.2.2.1 86 1 = _
      have : E.2 = M0.2 := by rw [hE]; exact f3
      rw [this, m86]
    · exact (eE 87 1 p (by decide) rfl).trans (congrFun m87 p)
    · exact (eE 88 1 p (by decide) rfl).trans (congrFun m88 p)
    · have e2 : (mrg T E).1 11 1 12 = M0.1 11 1 12 := eE11 12 (by decide)
      rw [e2] at h1
      exact (eE 58 1 j (by decide) rfl).trans (mZ.1 j h1 h2)
    · have e2 : (mrg T E).1 11 1 24 = M0.1 11 1 24 := eE11 24 (by decide)
      rw [e2] at h1
      have h1' := h1
      rw [e24, hl_cl (by omega)] at h1'
      have e3 : E.1 74 1 b = M0.1 74 1 b := by
        rw [hE]
        exact f4 b fun z => by omega
      exact ⟨(eE 73 1 b (by decide) rfl).trans (mZ.2.1 b h1 h2).1, e3.trans (mZ.2.1 b h1 h2).2⟩
    · have e2 : (mrg T E).1 11 1 36 = M0.1 11 1 36 := eE11 36 (by decide)
      rw [e2, e36, hl_cl (by omega)] at h2
      exact h2
  · show T.1 8 (T.2.1 14 1 r) 5 = E.1 81 1 r ∧ T.1 8 (T.2.1 14 1 r) 6 = E.1 82 1 r ∧ T.1 8 (T.2.1 14 1 r) 7 = E.1 83 1 r ∧ T.1 8 (T.2.1 14 1 r) 8 = E.1 84 1 r
    rw [r14]
    exact g2 r hr
  · have h72' : (mrg U V).1 72 1 b = -1 := (t72 b).symm.trans h72
    show E.1 74 1 b = 0
    rw [t74 b hb h72']
    exact (hS.2.2.1.2 b hb).2 h72'
