/-! ===== settling, disputes ===== -/
theorem det_pay {S U T T' : hs_S} {c : Nat} {x y : Int32} (h : hs_cl S = hs_cl U) (hc : c < 4) (h1 : R_Ldg_payDues (nI c) S x T) (h2 : R_Ldg_payDues (nI c) U y T') : x = y ∧ hs_cl T = hs_cl T' := by
  obtain ⟨a1, a2, a3, a4, ⟨a5, a6⟩, a7⟩ := h1
  obtain ⟨b1, b2, b3, b4, ⟨b5, b6⟩, b7⟩ := h2
  obtain ⟨a8, a9⟩ := a7 c hc rfl
  obtain ⟨b8, b9⟩ := b7 c hc rfl
  have eD : ∀ o, pyD S (nI c) o = pyD U (nI c) o := fun o => tw_Ldg_dueOf h
  have eL : ∀ k, pyL S (nI c) k = pyL U (nI c) k := by
    intro k
    induction k with
    | zero => rfl
    | succ k ih => unfold pyL pyQ; rw [ih, eD]
  have eA : ∀ o k, pyA S (nI c) o k = pyA U (nI c) o k := by
    intro o k
    induction k with
    | zero => rfl
    | succ k ih => unfold pyA pyC; rw [ih, eD, eD]
  have eP : ∀ o, pyP S (nI c) o = pyP U (nI c) o := fun o => by unfold pyP pyQ; rw [eD, eL, eA]
  have eT : ∀ k, pyT S (nI c) k = pyT U (nI c) k := by
    intro k
    induction k with
    | zero => rfl
    | succ k ih => unfold pyT; rw [ih, eP]
  refine ⟨by rw [a3, b3, eT], cl_of (fun t i p q => ?_) (fun t i p q => ?_) ?_⟩
  · have e : S.1 t i p = U.1 t i p := cl_pt h q
    by_cases w35 : t = 35
    · subst w35
      by_cases wi : i = 1
      · subst wi
        by_cases wp : ∃ o, o < 6 ∧ p = 4 * o + c
        · obtain ⟨o, ho, rfl⟩ := wp
          rw [a8 o ho, b8 o ho, e, eD]
        · rw [a9 p fun o ho z => wp ⟨o, ho, z⟩, b9 p fun o ho z => wp ⟨o, ho, z⟩, e]
      · rw [a5 i p wi, b5 i p wi, e]
    · by_cases w36 : t = 36
      · subst w36
        by_cases wi : i = 1 ∧ p < 6
        · obtain ⟨rfl, wp⟩ := wi
          rw [a4 p wp, b4 p wp, e, eP]
        · rw [a6 i p wi, b6 i p wi, e]
      · unfold hs_scr at q
        simp only [Bool.or_eq_false_iff, Bool.and_eq_false_iff, beq_eq_false_iff_ne] at q
        rw [a2 t i p (by omega), b2 t i p (by omega), e]
  · rw [a1, b1]; exact cl_ptR h q
  · rw [a1, b1]; exact cl_22 h
theorem ac_settle {n c : Nat} {S : hs_S} (h : KS n S) (hw : hs_Wi S) (hc : c < 4) : m_L_call 19 (nI c) 0 0 S (fun x T => R_Ldg_payDues (nI c) (eU S) x T) := by
  refine lc_19 hw fun hw => ok_C_settle hw fun _ => y_c hw hc ?_
  rintro _ rfl
  have hP := (KS_bf h).1 c hc 0 (by omega)
  exact ⟨⟨⟨c, hc, rfl⟩, (KS_bf h).2, hP.1.2⟩, fun x T hR => hR⟩
theorem bo_settle {n c : Nat} {S U : hs_S} {Q : Int32 → hs_S → hs_S → Prop} (h : JJ n S U) (hn : n < 512) (hw : hs_Wi S) (hu : hs_Wi U) (hc : c < 4)
    (hQ : ∀ r T T', JJ (n + 1) T T' → 0 ≤ r.toInt → (∀ o, o < 6 → F_Ldg_dueOf (nI o) (nI c) T = 0) → ((∀ o, o < 6 → F_Ldg_dueOf (nI o) (nI c) S = 0) → r = 0) → (hs_sz T 12 = hs_sz S 12 ∧ hs_sz T 13 = hs_sz S 13 ∧ hs_sz T 14 = hs_sz S 14) → Q r T T') : m_L_both 19 (nI c) 0 0 S U Q := by
  refine bo_of hw hu (ac_settle h.1 hw hc) (ac_settle h.u hu hc) fun r T r' T' h1 h2 => ?_
  obtain ⟨d1, d2⟩ := det_pay (cl_eU h.2.2) hc h1 h2
  obtain ⟨k1, k2, k3, k4, k5⟩ := kp_settle h.1 hn hc h1
  have e2 : T.2 = S.2 := h1.1
  exact ⟨d1, hQ r T T' ⟨k1, by rw [k4]; exact h.2.1, d2⟩ k2 k3 k5 ⟨by unfold hs_sz; rw [e2], by unfold hs_sz; rw [e2], by unfold hs_sz; rw [e2]⟩⟩
/-- disputes -/
abbrev sbU (S : hs_S) (b : Nat) : hs_S := hs_wI (hs_wI S 0 (b + 1) 8 1) 10 1 5 (S.1 10 1 5 + 1)
abbrev seU (S : hs_S) (k : Nat) : hs_S := hs_wI (hs_wI S 3 (k + 1) 6 1) 10 1 5 (S.1 10 1 5 + 1)
theorem KS_br {n b : Nat} {S : hs_S} (h : KS n S) (hb : b < hs_sz S 13) : S.2.1 0 (b + 1) 2 ≠ 0 ∧ (¬ F_Rnd_isCleared (S.2.1 0 (b + 1) 2) S = 0 → 0 < hs_sz S 14) := by
  obtain ⟨V, ev, ng, nl, nE, nB, nR, nd, hX, hL, hQ, hM⟩ := KS_U h
  have hz : hs_sz S 13 = nB := hX.1.2.2.1.2.2.1
  have hz14 : hs_sz S 14 = nR := hX.1.2.2.1.2.2.2.2
  rw [hz] at hb
  have h2 := (hX.2.2.2.2.2.2.1 b hb).2
  obtain ⟨g1, c, hc, _, _, g4⟩ := bid_rd (nB := nB) h2 hX.2.2.2.2.2.2.2 (by have := hX.1.1.1; omega) hX.1.1.2.2.2.1
  refine ⟨g1, fun z => ?_⟩
  obtain ⟨c', hc', _, h3⟩ := h2
  rcases h3 with ⟨w, _⟩ | ⟨r, hr, _⟩
  · exact absurd (g4.mpr w) z
  · omega
theorem ac_sb {n b : Nat} {S : hs_S} (h : KS n S) (hn : n < 512) (hw : hs_Wi S) (hb : b < hs_sz S 13) (h1 : ¬ F_Rnd_isCleared (S.2.1 0 (b + 1) 2) S = 0) (h8 : S.1 0 (b + 1) 8 = 0) : m_L_call 23 (nI b) 0 0 S (fun x T => R_Clr_reckonAll (sbU S b) x T) := by
  refine lc_23 hw fun hw => ok_C_strikeBid hw fun _ => y_b h hw hb ⟨Nat.succ_ne_zero _, (KS_br h hb).1, fun _ => ⟨fun _ => ?_, fun z => absurd h8 z⟩, fun z => absurd z h1⟩
  rintro _ rfl _ rfl
  exact ⟨(kp_strikeBid h hn hb).1, fun x T hR => hR⟩
theorem ac_sb_n {n b : Nat} {S : hs_S} (h : KS n S) (hw : hs_Wi S) (hb : b < hs_sz S 13) (hx : F_Rnd_isCleared (S.2.1 0 (b + 1) 2) S = 0 ∨ ¬ S.1 0 (b + 1) 8 = 0) : m_L_call 23 (nI b) 0 0 S (lIs (-2100000003) S) := by
  exact lc_23 hw fun hw => ok_C_strikeBid hw fun _ => y_b h hw hb ⟨Nat.succ_ne_zero _, (KS_br h hb).1, fun z => ⟨fun z8 => absurd z8 (hx.resolve_left fun w => z w), fun _ => lX_s ⟨rfl, rfl⟩⟩, fun _ => lX_s ⟨rfl, rfl⟩⟩
theorem ac_sb_o {n : Nat} {S : hs_S} (h : KS n S) (hw : hs_Wi S) : m_L_call 23 (nI (hs_sz S 13)) 0 0 S (lIs (-2100000001) S) := by
  refine lc_23 hw fun hw => ok_C_strikeBid hw fun _ => n_b h hw (fun ⟨b, hb, e⟩ => ?_) (lX_o ⟨rfl, rfl⟩)
  have := (KS_sz h).1
  rw [(hl_inj (by omega) (by omega)).mp e] at hb
  omega
theorem ac_se {n k : Nat} {S : hs_S} (h : KS n S) (hn : n < 512) (hw : hs_Wi S) (hk : k < hs_sz S 12) (h6 : S.1 3 (k + 1) 6 = 0) : m_L_call 24 (nI k) 0 0 S (fun x T => R_Clr_reckonAll (seU S k) x T) := by
  have h60 := (KS_sz h).1.1
  have ek : S.2.1 12 1 k = k + 1 := KS_ed h hk
  refine lc_24 hw fun hw => ok_C_strikeEdit hw ⟨fun z => absurd z (nI_lo (by omega)), fun _ => ⟨fun _ => ?_, fun z => absurd (nI_lt2 (by omega) hk) z⟩⟩
  rw [hl_cl (by omega), ek]
  refine ⟨hl_ix (by omega) (by omega), Nat.succ_ne_zero _, fun _ => ?_, fun z => absurd h6 z⟩
  rintro _ rfl _ rfl
  exact ⟨(kp_strikeEdit h hn hk).1, fun x T hR => hR⟩
theorem ac_se_n {n k : Nat} {S : hs_S} (h : KS n S) (hw : hs_Wi S) (hk : k < hs_sz S 12) (h6 : ¬ S.1 3 (k + 1) 6 = 0) : m_L_call 24 (nI k) 0 0 S (lIs (-2100000003) S) := by
  have h60 := (KS_sz h).1.1
  have ek : S.2.1 12 1 k = k + 1 := KS_ed h hk
  refine lc_24 hw fun hw => ok_C_strikeEdit hw ⟨fun z => absurd z (nI_lo (by omega)), fun _ => ⟨fun _ => ?_, fun z => absurd (nI_lt2 (by omega) hk) z⟩⟩
  rw [hl_cl (by omega), ek]
  exact ⟨hl_ix (by omega) (by omega), Nat.succ_ne_zero _, fun z => absurd z h6, fun _ => lX_s ⟨rfl, rfl⟩⟩
theorem ac_se_o {n : Nat} {S : hs_S} (h : KS n S) (hw : hs_Wi S) : m_L_call 24 (nI (hs_sz S 12)) 0 0 S (lIs (-2100000001) S) := by
  have h60 := (KS_sz h).1.1
  refine lc_24 hw fun hw => ok_C_strikeEdit hw ⟨fun z => absurd z (nI_lo (by omega)), fun _ => ⟨fun z => absurd ((hl_lt (by omega) (by omega)).mp z) (by omega), fun _ => lX_o ⟨rfl, rfl⟩⟩⟩
theorem cntQ_n {q : Nat → Int32} : ∀ k, ∃ m : Nat, m ≤ k ∧ cntQ q k = nI m := by
  intro k
  induction k with
  | zero => exact ⟨0, Nat.le_refl _, rfl⟩
  | succ k ih =>
    obtain ⟨m, h1, h2⟩ := ih
    by_cases z : q k = 0
    · exact ⟨m, by omega, by unfold cntQ; rw [if_pos z, h2]⟩
    · exact ⟨m + 1, by omega, by unfold cntQ; rw [if_neg z, h2, nI_1]⟩
/-- all that a dispute leaves as it is -/
theorem all_kf {S T : hs_S} {x : Int32} (h : R_Clr_reckonAll S x T) : (∃ m : Nat, m ≤ hs_sz S 14 ∧ x = nI m) ∧ T.1 36 1 = S.1 36 1 ∧ T.1 10 1 5 = S.1 10 1 5 ∧ (∀ b p, p ≠ 9 → T.1 0 b p = S.1 0 b p) ∧ (∀ k p, T.1 3 k p = S.1 3 k p) ∧ (hs_sz T 12 = hs_sz S 12 ∧ hs_sz T 13 = hs_sz S 13 ∧ hs_sz T 14 = hs_sz S 14) := by
  have kf := reckonAll_kf h
  obtain ⟨U, q, h0, hs, hT, hx⟩ := h
  obtain ⟨m, hm, em⟩ := cntQ_n (q := q) (hs_sz S 14)
  refine ⟨⟨m, hm, hx.trans em⟩, funext fun p => kf.2.2 36 1 p rfl, kf.2.2 10 1 5 rfl, fun b p hp => kf.2.2 0 b p ?_, fun k p => kf.2.2 3 k p rfl, ⟨kf.2.1 12 2 0 (by decide) (by decide), kf.2.1 13 2 0 (by decide) (by decide), kf.2.1 14 2 0 (by decide) (by decide)⟩⟩
  unfold hs_fr hs_fs
  simp only [Bool.or_eq_false_iff, Bool.and_eq_false_iff, beq_eq_false_iff_ne]
  omega
theorem KS_got0 {n b : Nat} {S : hs_S} (h : KS n S) (hb : b < hs_sz S 13) (h8 : S.1 0 (b + 1) 8 = 1) : S.1 0 (b + 1) 9 = 0 := by
  obtain ⟨V, ev, ng, nl, nE, nB, nR, nd, hX, hL, hQ, hM⟩ := KS_U h
  have hz : hs_sz S 13 = nB := hX.1.2.2.1.2.2.1
  have h80 := hX.1.1.2.2.1.2
  rw [hz] at hb
  obtain ⟨q1, q2⟩ := hQ.2 b hb
  rw [q1]
  obtain ⟨i1, c, hc, _, h2⟩ := hX.2.2.2.2.2.2.1 b hb
  rcases h2 with ⟨w1, _⟩ | ⟨r, hr, w1, _⟩
  · exact q2 w1
  · have e73 : V.1 73 1 b = 1 := i1.2.2.2.2.2.2.1.symm.trans h8
    have no : ∀ u, shT V (nI r) u b = false := fun u => by
      rcases hq : shT V (nI r) u b with _ | _
      · rfl
      · have := (shT_mTP (by omega) hq).2.2.2.1
        rw [e73] at this
        exact absurd this (by decide)
    have := (hM r hr).2.2.1 b hb w1
    unfold gotR at this
    rw [no 1, no 0] at this
    exact i32_eq.mpr this
theorem bo_sb {n b : Nat} {S U : hs_S} {Q : Int32 → hs_S → hs_S → Prop} (h : JJ n S U) (hn : n < 512) (hw : hs_Wi S) (hu : hs_Wi U) (hb : b < hs_sz S 13)
    (h1 : (F_Rnd_isCleared (S.2.1 0 (b + 1) 2) S = 0 ∨ ¬ S.1 0 (b + 1) 8 = 0) → Q (-2100000003) S U)
    (h2 : 0 < hs_sz S 14 → ∀ (m : Nat) T T', m ≤ hs_sz S 14 → JJ (n + 1) T T' → T.1 10 1 5 = S.1 10 1 5 + 1 → T.1 0 (b + 1) 8 = 1 → (hs_sz T 12 = hs_sz S 12 ∧ hs_sz T 13 = hs_sz S 13 ∧ hs_sz T 14 = hs_sz S 14) → Q (nI m) T T') : m_L_both 23 (nI b) 0 0 S U Q := by
  have ez : hs_sz U 13 = hs_sz S 13 := (tw_sz h.2.2 13 rfl).symm
  have ec : F_Rnd_isCleared (U.2.1 0 (b + 1) 2) U = F_Rnd_isCleared (S.2.1 0 (b + 1) 2) S := by rw [jj_2 h.2.2 rfl]; exact (tw_Rnd_isCleared h.2.2).symm
  have e8 : U.1 0 (b + 1) 8 = S.1 0 (b + 1) 8 := jj_1 h.2.2 rfl
  by_cases q : F_Rnd_isCleared (S.2.1 0 (b + 1) 2) S = 0 ∨ ¬ S.1 0 (b + 1) 8 = 0
  · exact bo_f hw hu (ac_sb_n h.1 hw hb q) (ac_sb_n h.u hu (by rw [ez]; exact hb) (by rw [ec, e8]; exact q)) rfl (h1 q)
  · have q1 : ¬ F_Rnd_isCleared (S.2.1 0 (b + 1) 2) S = 0 := fun z => q (Or.inl z)
    have q2 : S.1 0 (b + 1) 8 = 0 := Classical.not_not.mp fun z => q (Or.inr z)
    refine bo_of hw hu (ac_sb h.1 hn hw hb q1 q2) (ac_sb h.u hn hu (by rw [ez]; exact hb) (by rw [ec]; exact q1) (e8.trans q2)) fun r T r' T' g1 g2 => ?_
    have cl : hs_cl (sbU S b) = hs_cl (sbU U b) := cg_I (cg_I h.2.2 rfl) (by rw [jj_1 h.2.2 rfl])
    obtain ⟨kP, kT⟩ := kp_strikeBid h.1 hn hb
    obtain ⟨d1, d2⟩ := det_reckonAll cl kP g1 g2
    obtain ⟨⟨m, hm, em⟩, f36, f10, f0, f3, fz⟩ := all_kf g1
    rw [em] at d1 ⊢
    refine ⟨d1, h2 ((KS_br h.1 hb).2 q1) m T T' hm ⟨kT _ _ g1, ?_, d2⟩ f10 ?_ fz⟩
    · rw [← h.2.1]
      exact csum_c (fun o _ => congrFun f36 o) 6 (Nat.le_refl _)
    · rw [f0 _ _ (by decide)]
      exact (wI_at (S := S) (t := 0) (i := b + 1) (j := 8)).trans (if_pos rfl)
theorem bo_se {n k : Nat} {S U : hs_S} {Q : Int32 → hs_S → hs_S → Prop} (h : JJ n S U) (hn : n < 512) (hw : hs_Wi S) (hu : hs_Wi U) (hk : k < hs_sz S 12)
    (h1 : ¬ S.1 3 (k + 1) 6 = 0 → Q (-2100000003) S U)
    (h2 : ∀ (m : Nat) T T', m ≤ hs_sz S 14 → JJ (n + 1) T T' → T.1 10 1 5 = S.1 10 1 5 + 1 → T.1 3 (k + 1) 6 = 1 → (hs_sz T 12 = hs_sz S 12 ∧ hs_sz T 13 = hs_sz S 13 ∧ hs_sz T 14 = hs_sz S 14) → Q (nI m) T T') : m_L_both 24 (nI k) 0 0 S U Q := by
  have ez : hs_sz U 12 = hs_sz S 12 := (tw_sz h.2.2 12 rfl).symm
  have e6 : U.1 3 (k + 1) 6 = S.1 3 (k + 1) 6 := jj_1 h.2.2 rfl
  by_cases q : S.1 3 (k + 1) 6 = 0
  · refine bo_of hw hu (ac_se h.1 hn hw hk q) (ac_se h.u hn hu (by rw [ez]; exact hk) (e6.trans q)) fun r T r' T' g1 g2 => ?_
    have cl : hs_cl (seU S k) = hs_cl (seU U k) := cg_I (cg_I h.2.2 rfl) (by rw [jj_1 h.2.2 rfl])
    obtain ⟨kP, kT⟩ := kp_strikeEdit h.1 hn hk
    obtain ⟨d1, d2⟩ := det_reckonAll cl kP g1 g2
    obtain ⟨⟨m, hm, em⟩, f36, f10, f0, f3, fz⟩ := all_kf g1
    rw [em] at d1 ⊢
    refine ⟨d1, h2 m T T' hm ⟨kT _ _ g1, ?_, d2⟩ f10 ?_ fz⟩
    · rw [← h.2.1]
      exact csum_c (fun o _ => congrFun f36 o) 6 (Nat.le_refl _)
    · rw [f3]
      exact (wI_at (S := S) (t := 3) (i := k + 1) (j := 6)).trans (if_pos rfl)
  · exact bo_f hw hu (ac_se_n h.1 hw hk q) (ac_se_n h.u hu (by rw [ez]; exact hk) (by rw [e6]; exact q)) rfl (h1 q)
