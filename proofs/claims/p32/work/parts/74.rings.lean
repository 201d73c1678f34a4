/-! ===== bells ===== -/
abbrev frzT (S : hs_S) (c : Nat) : hs_S := hs_wI (E_Rnd_freeze (S.2.1 26 1 c) (S.1 10 1 5) (S.1 27 1 c) 1 S) 10 1 5 (S.1 10 1 5 + 1)
theorem ac_bellF {n c : Nat} {S : hs_S} (h : KS n S) (hw : hs_Wi S) (hc : c < 4) (hf : F_Rnd_wasFrozen (S.2.1 26 1 c) S = 0) : m_L_call 13 (nI c) 0 0 S (lIs (-1) (frzT S c)) := by
  refine lc_13 hw fun hw => ok_C_bell hw fun _ => y_c hw hc ?_
  rw [hl_cl (by omega)]
  refine ⟨hl_ix (by omega) (by omega), (KS_cur h hc).1, fun z => absurd hf z, fun _ => ⟨KS_shr h hc, ?_⟩⟩
  rintro _ rfl _ rfl
  exact ⟨rfl, rfl⟩
theorem cl_frz {S U : hs_S} {c : Nat} (h : hs_cl S = hs_cl U) : hs_cl (frzT S c) = hs_cl (frzT U c) := by
  unfold frzT E_Rnd_freeze E_Rts_copy
  rw [jj_2 h (t := 26) rfl, jj_1 h (t := 10) rfl, jj_1 h (t := 27) rfl]
  exact cg_I (cg_cpy (cg_cpy (cg_I (cg_I h rfl) rfl) fun _ => rfl) fun _ => rfl) rfl
theorem frz_8 {S : hs_S} {c : Nat} : (frzT S c).1 8 (S.2.1 26 1 c) 1 = S.1 10 1 5 := (wI_at (S := hs_wI S 8 (S.2.1 26 1 c) 1 (S.1 10 1 5)) (t := 8) (i := S.2.1 26 1 c) (j := 3)).trans ((if_neg (by decide)).trans (wI_at.trans (if_pos rfl)))
theorem frz_f {n c : Nat} {S : hs_S} (h : KS n S) : ¬ F_Rnd_wasFrozen ((frzT S c).2.1 26 1 c) (frzT S c) = 0 := fun z => by
  have e : (frzT S c).1 8 (S.2.1 26 1 c) 1 = 2147483647 := fz_iff.mp z
  rw [frz_8] at e
  obtain ⟨⟨ev, hev, e2⟩, h5⟩ := (KS_sz h).2
  rw [e2] at e
  exact neMax (by omega) e
theorem bo_bellF {n c : Nat} {S U : hs_S} {Q : Int32 → hs_S → hs_S → Prop} (h : JJ n S U) (hn : n < 512) (hw : hs_Wi S) (hu : hs_Wi U) (hc : c < 4) (hf : F_Rnd_wasFrozen (S.2.1 26 1 c) S = 0) (hQ : ∀ T', JJ (n + 1) (frzT S c) T' → Q (-1) (frzT S c) T') : m_L_both 13 (nI c) 0 0 S U Q := by
  refine bo_f hw hu (ac_bellF h.1 hw hc hf) (ac_bellF h.u hu hc ((jj_fz h.2.2 c).trans hf)) rfl (hQ _ ⟨kp_freeze h.1 hn hc, ?_, cl_frz h.2.2⟩)
  rw [← h.2.1]
  exact csum_c (fun _ _ => rfl) 6 (Nat.le_refl _)
/-- a round closed -/
theorem KS_bk {n : Nat} {S : hs_S} (h : KS n S) : S.2.2.2 7 = S.2.2.2 8 + 1 ∧ S.2.2.2 20 = S.2.2.2 7 ∧ S.2.2.2 21 = S.2.2.2 7 ∧ ∀ c, c < 4 → S.2.1 26 1 c ≤ S.2.2.2 8 := by
  obtain ⟨V, ev, ng, nl, nE, nB, nR, nd, hX, _⟩ := KS_U h
  obtain ⟨a, b, c, _⟩ := hX.1.2.2.2
  exact ⟨a, b, c, fun c hc => (hX.2.2.2.2.2.2.2.2.1 c hc).1.2⟩
theorem close_P {n c : Nat} {U : hs_S} (h : KS n U) (hn : n < 512) (hc : c < 4) (hfr : ¬ F_Rnd_wasFrozen (U.2.1 26 1 c) U = 0) (h30 : hs_sz U 14 < 30) : P_Clr_reckon (U.2.1 26 1 c) (E_Book_close (U.2.1 26 1 c) (U.1 10 1 5) U) := by
  obtain ⟨V, ev, ng, nl, nE, nB, nR, nd, hX, hL, hQ, hM⟩ := h
  have hA := hX.1
  have hC := hX.2.2.2.2.2.2.2
  have hev := hA.1.1
  have e5 : U.1 10 1 5 = nI ev := hA.2.1.1
  have hz : hs_sz U 14 = nR := hA.2.2.1.2.2.2.2
  rw [hz] at h30
  have h62 : ¬ (mrg U V).1 62 1 c = -1 := fun z => hfr (bI_eq0.mpr (Classical.not_not.mpr ((frz_iff (hC.2.1 c hc) (by omega)).mp z)))
  rw [e5]
  obtain ⟨R, hR⟩ : ∃ R, R = U.2.1 26 1 c := ⟨_, rfl⟩
  rw [← hR]
  obtain ⟨q, hq⟩ : ∃ q : Nat → Int32, ∀ b, q b = if b < nB ∧ (mrg U V).1 66 1 b = nI c ∧ (mrg U V).1 72 1 b = -1 then nI nR else (mrg U V).1 72 1 b := ⟨fun b => if b < nB ∧ (mrg U V).1 66 1 b = nI c ∧ (mrg U V).1 72 1 b = -1 then nI nR else (mrg U V).1 72 1 b, fun _ => rfl⟩
  have hX8 := close_RX (q := q) hX hn hc h62 h30 hq
  have hR' : (mrg U V).2.1 26 1 c = R := hR.symm
  rw [hR'] at hX8
  have hcz : cz (hs_ck (nI (ev + 1)) (E_Book_close R (nI ev) U)) = cz (hs_wI (E_Book_close R (nI ev) (mrg U V)) 10 1 5 (nI (ev + 1))) := by
    show cz (hs_wI (E_Book_close R (nI ev) U) 10 1 5 (nI (ev + 1))) = _
    rw [ci10, ci10, cz_close (S := U) (T := mrg U V) cz_mrg]
  have hXr := RX_cm (co_cz hcz) rfl hX8
  have hP := P_reckon_of hXr (show nR < nR + 1 by omega)
  have h14 : (hs_ck (nI (ev + 1)) (E_Book_close R (nI ev) U)).2.1 14 1 nR = R := (cl14 (S := U) (R := R) (e := nI ev) (j := nR)).trans (if_pos hz.symm)
  rw [h14] at hP
  exact hP
def blC (S : hs_S) (c : Nat) : Int32 → hs_S → Prop := fun r T => r = nI (hs_sz S 14) ∧ ∃ (x : Int32) (W : hs_S), R_Clr_reckon (S.2.1 26 1 c) (E_Book_close (S.2.1 26 1 c) (S.1 10 1 5) S) x W ∧ T = hs_wI W 10 1 5 (S.1 10 1 5 + 1)
theorem ac_bellC {n c : Nat} {S : hs_S} (h : KS n S) (hn : n < 512) (hw : hs_Wi S) (hc : c < 4) (hf : ¬ F_Rnd_wasFrozen (S.2.1 26 1 c) S = 0) (h30 : hs_sz S 14 < 30) : m_L_call 13 (nI c) 0 0 S (blC S c) := by
  obtain ⟨n7, n20, n21, n8⟩ := KS_bk h
  refine lc_13 hw fun hw => ok_C_bell hw fun _ => y_c hw hc ?_
  rw [hl_cl (by omega)]
  refine ⟨hl_ix (by omega) (by omega), (KS_cur h hc).1, fun _ => ⟨fun _ => ?_, fun z => absurd (nI_lt2 (N := 30) (by omega) h30) z⟩, fun z => absurd z hf⟩
  refine ⟨⟨hw, by omega, ⟨c, hc, (KS_cur h hc).2.1⟩, n8 c hc, n7, by omega, by omega⟩, ?_⟩
  rintro _ _ ⟨rfl, rfl⟩
  refine ⟨close_P h hn hc hf h30, fun x W hR => ?_⟩
  rintro _ rfl
  refine ⟨rfl, x, W, hR, ?_⟩
  rw [(reckon_kf hR).2.2 10 1 5 rfl]
  rfl
theorem cg_close {S U : hs_S} {r : Nat} {e : Int32} (h : hs_cl S = hs_cl U) : hs_cl (E_Book_close r e S) = hs_cl (E_Book_close r e U) := by
  unfold E_Book_close E_Rnd_init E_Rts_init
  have h0 : hs_cl (hs_nw (Close0 r e S) 8) = hs_cl (hs_nw (Close0 r e U) 8) := cg_nw (cg_add (cg_I h rfl) rfl rfl)
  rw [show U.2.2.2 8 = S.2.2.2 8 from (tw_N h 8).symm, show U.1 8 r 0 = S.1 8 r 0 from jj_1 h rfl]
  have h1 : hs_cl (hs_nw (Rnd0 (S.2.2.2 8 + 1) (hs_nw (Close0 r e S) 8)) 7) = hs_cl (hs_nw (Rnd0 (S.2.2.2 8 + 1) (hs_nw (Close0 r e U) 8)) 7) := cg_nw (cg_I (cg_I (cg_I h0 rfl) rfl) rfl)
  have n7 := tw_N h0 7
  rw [n7]
  obtain ⟨X, hX⟩ : ∃ X, X = hs_nw (Rnd0 (S.2.2.2 8 + 1) (hs_nw (Close0 r e S) 8)) 7 := ⟨_, rfl⟩
  obtain ⟨Y, hY⟩ : ∃ Y, Y = hs_nw (Rnd0 (S.2.2.2 8 + 1) (hs_nw (Close0 r e U) 8)) 7 := ⟨_, rfl⟩
  rw [← hX, ← hY] at h1 ⊢
  have n20 := tw_N h1 20
  have h2 := cg_nw (t := 20) h1
  have h3 := cg_R (t := 7) (i := (hs_nw (Close0 r e U) 8).2.2.2 7 + 1) (p := 0) h2 (show X.2.2.2 20 + 1 = Y.2.2.2 20 + 1 by rw [n20])
  have n21 := tw_N h1 21
  have h4 := cg_nw (t := 21) h3
  have h5 := cg_R (t := 7) (i := (hs_nw (Close0 r e U) 8).2.2.2 7 + 1) (p := 1) h4 (show X.2.2.2 21 + 1 = Y.2.2.2 21 + 1 by rw [n21])
  have h6 : hs_cl (Rts0 ((hs_nw (Close0 r e U) 8).2.2.2 7 + 1) X) = hs_cl (Rts0 ((hs_nw (Close0 r e U) 8).2.2.2 7 + 1) Y) := h5
  rw [n20]
  exact cg_R (cg_I (cg_I (cg_I (cg_I (cg_I (cg_R (cg_row h6 rfl) rfl) rfl) rfl) rfl) rfl) rfl) rfl
theorem bo_bellC {n c : Nat} {S U : hs_S} {Q : Int32 → hs_S → hs_S → Prop} (h : JJ n S U) (hn : n < 512) (hw : hs_Wi S) (hu : hs_Wi U) (hc : c < 4) (hf : ¬ F_Rnd_wasFrozen (S.2.1 26 1 c) S = 0) (h30 : hs_sz S 14 < 30)
    (hQ : ∀ T T', JJ (n + 1) T T' → blC S c (nI (hs_sz S 14)) T → Q (nI (hs_sz S 14)) T T') : m_L_both 13 (nI c) 0 0 S U Q := by
  refine bo_of hw hu (ac_bellC h.1 hn hw hc hf h30) (ac_bellC h.u hn hu hc (by rw [jj_fz h.2.2 c]; exact hf) (by rw [← tw_sz h.2.2 14 rfl]; exact h30)) fun r T r' T' h1 h2 => ?_
  have h1' := h1
  obtain ⟨rfl, x, W, hR, rfl⟩ := h1
  obtain ⟨rfl, x', W', hR', rfl⟩ := h2
  refine ⟨by rw [tw_sz h.2.2 14 rfl], hQ _ _ ⟨kp_clear h.1 hn hc hf h30 hR, ?_, ?_⟩ h1'⟩
  · rw [← h.2.1]
    exact csum_c (fun o _ => (reckon_kf hR).2.2 36 1 o rfl) 6 (Nat.le_refl _)
  · rw [jj_2 h.2.2 rfl, jj_1 h.2.2 rfl] at hR'
    have := (det_reckon (cg_close h.2.2) (close_P h.1 hn hc hf h30) hR hR').2
    exact cg_I this (by rw [jj_1 h.2.2 rfl])
