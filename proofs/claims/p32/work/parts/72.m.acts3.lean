/-! ===== formulas told; bids ===== -/
theorem fz_iff {S : hs_S} {i : Nat} : F_Rnd_wasFrozen i S = 0 ↔ S.1 8 i 1 = 2147483647 := by
  unfold F_Rnd_wasFrozen
  rw [bI_eq0]; exact Classical.not_not
theorem cd_iff {S : hs_S} {i : Nat} : F_Rnd_isCleared i S = 0 ↔ S.1 8 i 2 = 2147483647 := by
  unfold F_Rnd_isCleared
  rw [bI_eq0]; exact Classical.not_not
theorem jj_fz {S U : hs_S} (h : hs_cl S = hs_cl U) (c : Nat) : F_Rnd_wasFrozen (U.2.1 26 1 c) U = F_Rnd_wasFrozen (S.2.1 26 1 c) S := by
  rw [jj_2 h rfl]; exact (tw_Rnd_wasFrozen h).symm
theorem cg_tell {S U : hs_S} {a b e e' : Int32} {d d' : Nat} (h : hs_cl S = hs_cl U) (he : e = e') (hd : d = d') : hs_cl (E_Sht_tell a b e d S) = hs_cl (E_Sht_tell a b e' d' U) := by
  unfold E_Sht_tell
  subst he hd
  rw [show U.2.2.2 3 = S.2.2.2 3 from (tw_N h 3).symm, show hs_sz U 12 = hs_sz S 12 from (tw_sz h 12 rfl).symm, jj_1 h rfl]
  refine cg_add ?_ rfl rfl
  unfold E_Edit_init
  exact cg_R (cg_I (cg_I (cg_I (cg_I (cg_I (cg_I (cg_nw h) rfl) rfl) rfl) rfl) rfl) rfl) rfl
theorem cg_fml {S U : hs_S} {i : Nat} (h : hs_cl S = hs_cl U) : hs_cl (E_Fml_init i S) = hs_cl (E_Fml_init i U) := by
  unfold E_Fml_init
  have h1 := cg_nw (t := 22) h
  have h2 := cg_R (t := 5) (i := i) (p := 0) h1 (show S.2.2.2 22 + 1 = U.2.2.2 22 + 1 by rw [tw_N h 22])
  have h3 := cg_nw (t := 23) h2
  have h4 := cg_R (t := 5) (i := i) (p := 1) h3 (show S.2.2.2 23 + 1 = U.2.2.2 23 + 1 by rw [tw_N h 23])
  have h5 := cg_nw (t := 24) h4
  have h6 := cg_R (t := 5) (i := i) (p := 2) h5 (show S.2.2.2 24 + 1 = U.2.2.2 24 + 1 by rw [tw_N h 24])
  exact cg_I (cg_I h6 rfl) rfl
theorem cl_em {S U : hs_S} {k o : Nat} (h : hs_cl S = hs_cl U) : hs_cl (emU S k o) = hs_cl (emU U k o) := cg_I (cg_tell h (jj_1 h rfl).symm rfl) (by rw [jj_1 h rfl])
theorem cl_en {S U : hs_S} {k o : Nat} (h : hs_cl S = hs_cl U) : hs_cl (enU S (nI k) (nI o)) = hs_cl (enU U (nI k) (nI o)) := by
  unfold enU
  have h1 := cg_tell (a := nI k) (b := nI o) h (jj_1 h (t := 10) (i := 1) (p := 5) rfl).symm (jj_d h).symm
  rw [show U.2.2.2 5 = S.2.2.2 5 from (tw_N h 5).symm, jj_1 h (t := 10) rfl] at *
  exact cg_I (cg_R (cg_fml (cg_nw h1)) rfl) rfl
theorem ac_empty {n o c r : Nat} {S : hs_S} (h : KS n S) (hw : hs_Wi S) (ho : o < 6) (hc : c < 4) (hr : r < 6) (e : S.1 20 1 (6 * c + r) = nI o) (hf : F_Rnd_wasFrozen (S.2.1 26 1 c) S = 0) (hE : hs_sz S 12 < 60) : m_L_call 4 (nI o) (nI c) (nI r) S (lIs (nI (hs_sz S 12)) (emU S (6 * c + r) o)) := by
  have hk6 : (6 * c + r) / 6 = c := by omega
  refine lc_4 hw fun hw => ok_C_empty hw fun _ => y_o hw ho fun _ => y_cell hw hc hr fun _ => t_needEditable hw (by omega) (by rw [hk6]; exact (KS_cur h hc).1) (by omega) (fun q1 q2 q3 => ?_) (fun q => absurd ⟨e, by rw [hk6]; exact fz_iff.mp hf, hE⟩ q)
  refine ⟨⟨⟨6 * c + r, by omega, rfl⟩, by omega, by decide⟩, ?_⟩
  rintro _ _ ⟨rfl, rfl⟩ _ rfl
  exact ⟨rfl, rfl⟩
theorem ac_empty_n {n o c r : Nat} {S : hs_S} (h : KS n S) (hw : hs_Wi S) (ho : o < 6) (hc : c < 4) (hr : r < 6) (hf : ¬ F_Rnd_wasFrozen (S.2.1 26 1 c) S = 0) : m_L_call 4 (nI o) (nI c) (nI r) S (lIs (-2100000003) S) := by
  have hk6 : (6 * c + r) / 6 = c := by omega
  refine lc_4 hw fun hw => ok_C_empty hw fun _ => y_o hw ho fun _ => y_cell hw hc hr fun _ => t_needEditable hw (by omega) (by rw [hk6]; exact (KS_cur h hc).1) (KS_sz h).1.1 (fun q1 q2 q3 => absurd (fz_iff.mpr (by rw [hk6] at q2; exact q2)) hf) (fun q => lX_s ⟨rfl, rfl⟩)
theorem ac_enter {n o c r g : Nat} {S : hs_S} (h : KS n S) (hw : hs_Wi S) (ho : o < 6) (hc : c < 4) (hr : r < 6) (e : S.1 20 1 (6 * c + r) = nI o) (hf : F_Rnd_wasFrozen (S.2.1 26 1 c) S = 0) (hE : hs_sz S 12 < 60) (hd : dr S g 1) : m_L_call 3 (nI o) (nI c) (nI r) S (lIs (nI (hs_sz S 12)) (enU S (nI (6 * c + r)) (nI o))) := by
  have hk6 : (6 * c + r) / 6 = c := by omega
  obtain ⟨⟨d2, d5, _⟩, _, q22, q23, q24, _⟩ := KS_d h
  refine lc_3 hw fun hw => ok_C_enter hw fun _ => y_o hw ho fun _ => y_cell hw hc hr fun _ => t_needEditable hw (by omega) (by rw [hk6]; exact (KS_cur h hc).1) (by omega) (fun q1 q2 q3 => ?_) (fun q => absurd ⟨e, by rw [hk6]; exact fz_iff.mp hf, hE⟩ q)
  refine ⟨by omega, fun _ => ⟨⟨⟨6 * c + r, by omega, rfl⟩, by omega, by omega⟩, ?_⟩, fun z => absurd hd.2 z⟩
  rintro _ S8 ⟨rfl, h8⟩ S13 h13
  have hw8 : hs_Wi S8 := by
    rw [h8]
    exact hs_Wi_add (by intro j; rfl) (by decide) (hs_Wi_R rfl (by decide) (hs_Wi_I (hs_Wi_I (hs_Wi_I (hs_Wi_I (hs_Wi_I (hs_Wi_I (hs_Wi_nw (by intro j; rfl) (by decide) hw))))))))
  have hw14 := Wi_Fml hw8 (by rw [h8]; exact q22) (by rw [h8]; exact q23) (by rw [h8]; exact q24)
  rw [h13]
  refine ok_Fml_init (Nat.succ_ne_zero _) (v_Fml_init ⟨hw14, ?_⟩)
  rintro _ rfl _ rfl
  refine ⟨rfl, ?_⟩
  rw [h8]
  rfl
theorem ac_enter_n {n o c r : Nat} {S : hs_S} (h : KS n S) (hw : hs_Wi S) (ho : o < 6) (hc : c < 4) (hr : r < 6) (hf : ¬ F_Rnd_wasFrozen (S.2.1 26 1 c) S = 0) : m_L_call 3 (nI o) (nI c) (nI r) S (lIs (-2100000003) S) := by
  have hk6 : (6 * c + r) / 6 = c := by omega
  refine lc_3 hw fun hw => ok_C_enter hw fun _ => y_o hw ho fun _ => y_cell hw hc hr fun _ => t_needEditable hw (by omega) (by rw [hk6]; exact (KS_cur h hc).1) (KS_sz h).1.1 (fun q1 q2 q3 => absurd (fz_iff.mpr (by rw [hk6] at q2; exact q2)) hf) (fun q => lX_s ⟨rfl, rfl⟩)
theorem jj_own {S U : hs_S} (h : hs_cl S = hs_cl U) {k : Nat} {x : Int32} (e : S.1 20 1 k = x) : U.1 20 1 k = x := (jj_1 h rfl).trans e
theorem bo_empty {n o c r : Nat} {S U : hs_S} {Q : Int32 → hs_S → hs_S → Prop} (h : JJ n S U) (hn : n < 512) (hw : hs_Wi S) (hu : hs_Wi U) (ho : o < 6) (hc : c < 4) (hr : r < 6) (e : S.1 20 1 (6 * c + r) = nI o) (hE : hs_sz S 12 < 60) (h1 : ¬ F_Rnd_wasFrozen (S.2.1 26 1 c) S = 0 → Q (-2100000003) S U)
    (h2 : F_Rnd_wasFrozen (S.2.1 26 1 c) S = 0 → ∀ T T', JJ (n + 1) T T' → tld S T (6 * c + r) o 1 (ntL S c) → Q (nI (hs_sz S 12)) T T') : m_L_both 4 (nI o) (nI c) (nI r) S U Q := by
  have hk6 : (6 * c + r) / 6 = c := by omega
  by_cases hf : F_Rnd_wasFrozen (S.2.1 26 1 c) S = 0
  · have t := tld_em (o := o) h.1 (show 6 * c + r < 24 by omega)
    rw [hk6] at t
    refine bo_f hw hu (ac_empty h.1 hw ho hc hr e hf hE) (ac_empty h.u hu ho hc hr (jj_own h.2.2 e) ((jj_fz h.2.2 c).trans hf) (by rw [← tw_sz h.2.2 12 rfl]; exact hE)) (by rw [tw_sz h.2.2 12 rfl]) (h2 hf _ _ ⟨kp_empty h.1 (by omega) hn hE, ?_, cl_em h.2.2⟩ t)
    rw [← h.2.1]
    exact csum_c (fun _ _ => rfl) 6 (Nat.le_refl _)
  · exact bo_f hw hu (ac_empty_n h.1 hw ho hc hr hf) (ac_empty_n h.u hu ho hc hr (by rw [jj_fz h.2.2 c]; exact hf)) rfl (h1 hf)
theorem bo_enter {n o c r g : Nat} {S U : hs_S} {Q : Int32 → hs_S → hs_S → Prop} (h : JJ n S U) (hn : n < 512) (hw : hs_Wi S) (hu : hs_Wi U) (ho : o < 6) (hc : c < 4) (hr : r < 6) (e : S.1 20 1 (6 * c + r) = nI o) (hE : hs_sz S 12 < 60) (hd : dr S g 1) (h1 : ¬ F_Rnd_wasFrozen (S.2.1 26 1 c) S = 0 → Q (-2100000003) S U)
    (h2 : F_Rnd_wasFrozen (S.2.1 26 1 c) S = 0 → ∀ T T', JJ (n + 1) T T' → tld S T (6 * c + r) o (S.2.1 9 1 4) (ntL S c) → Q (nI (hs_sz S 12)) T T') : m_L_both 3 (nI o) (nI c) (nI r) S U Q := by
  have hk6 : (6 * c + r) / 6 = c := by omega
  by_cases hf : F_Rnd_wasFrozen (S.2.1 26 1 c) S = 0
  · have t := tld_en (o := o) h.1 (show 6 * c + r < 24 by omega)
    rw [hk6] at t
    have hd' : dr U g 1 := ⟨by rw [jj_d h.2.2, jj_1 h.2.2 rfl]; exact hd.1, by rw [jj_d h.2.2, jj_1 h.2.2 rfl]; exact hd.2⟩
    refine bo_f hw hu (ac_enter h.1 hw ho hc hr e hf hE hd) (ac_enter h.u hu ho hc hr (jj_own h.2.2 e) ((jj_fz h.2.2 c).trans hf) (by rw [← tw_sz h.2.2 12 rfl]; exact hE) hd') (by rw [tw_sz h.2.2 12 rfl]) (h2 hf _ _ ⟨kp_enter h.1 (by omega) hn hE hd.2, ?_, cl_en h.2.2⟩ t)
    rw [← h.2.1]
    exact csum_c (fun _ _ => rfl) 6 (Nat.le_refl _)
  · exact bo_f hw hu (ac_enter_n h.1 hw ho hc hr hf) (ac_enter_n h.u hu ho hc hr (by rw [jj_fz h.2.2 c]; exact hf)) rfl (h1 hf)
/-- a bid -/
abbrev bidT (S : hs_S) (o c : Nat) (b : Int32) (m l : Nat) : hs_S := hs_wI (hs_add (E_Bid_init (S.2.2.2 0 + 1) (nI (hs_sz S 13)) (nI o) (S.2.1 26 1 c) b (nI m) (nI l) (S.1 10 1 5) (hs_nw S 0)) 13 (S.2.2.2 0 + 1)) 10 1 5 (S.1 10 1 5 + 1)
theorem KS_bf {n : Nat} {S : hs_S} (h : KS n S) : (∀ c, c < 4 → ∀ o, o < 6 → P_Ldg_dueOf (nI o) (nI c) S) ∧ cBd S := by
  obtain ⟨V, k⟩ := h
  obtain ⟨ev, ng, nl, nE, nB, nR, nd, hS⟩ := k
  have h1 : ∀ c, c < 4 → ∀ o, o < 6 → P_Ldg_dueOf (nI o) (nI c) (mrg S V) := fun c hc o ho => (P_due_of hS ho hc).1
  exact ⟨h1, (P_due_of hS (show 0 < 6 by omega) (show 0 < 4 by omega)).2.2⟩
theorem mrg_ow {S V : hs_S} {o c : Int32} : ∀ k, cOw (mrg S V) o c k = cOw S o c k := by
  intro k
  induction k with
  | zero => rfl
  | succ k ih => unfold cOw; rw [ih]; rfl
theorem mrg_of {S V : hs_S} {o : Int32} : ∀ k, cOf (mrg S V) o k = cOf S o k := by
  intro k
  induction k with
  | zero => rfl
  | succ k ih => unfold cOf; rw [ih]; rfl
theorem mrg_due {S V : hs_S} {o c : Int32} : F_Ldg_dueOf o c (mrg S V) = F_Ldg_dueOf o c S := by
  show cOw (mrg S V) o c (hs_sz S 13) - _ = cOw S o c (hs_sz S 13) - _
  rw [mrg_ow]; rfl
theorem mrg_ex {S V : hs_S} {o : Int32} : F_Ldg_exposureOf o (mrg S V) = F_Ldg_exposureOf o S := by
  have e : ∀ k, cEx (mrg S V) o k = cEx S o k := by
    intro k
    induction k with
    | zero => exact mrg_of _
    | succ k ih => unfold cEx; rw [ih, mrg_due]
  exact e 4
theorem KS_ex {n o : Nat} {S : hs_S} (h : KS n S) (ho : o < 6) : P_Ldg_exposureOf (nI o) S ∧ 0 ≤ (F_Ldg_exposureOf (nI o) S).toInt ∧ (F_Ldg_exposureOf (nI o) S).toInt ≤ 2049495040 := by
  refine ⟨⟨(KS_bf h).2, fun c hc => (KS_bf h).1 c hc o ho⟩, ?_⟩
  obtain ⟨V, ev, ng, nl, nE, nB, nR, nd, hS⟩ := h
  have := (ex_c hS ho).2
  rw [mrg_ex] at this
  exact this
theorem ac_bid {n o c b m l : Nat} {S : hs_S} (h : KS n S) (hw : hs_Wi S) (ho : o < 6) (hc : c < 4) (hb : b < 2) (hm : 1 ≤ m ∧ m ≤ 100) (hl : l ≤ 9999) (hf : F_Rnd_wasFrozen (S.2.1 26 1 c) S = 0) (hB : hs_sz S 13 < 80) (hx : b = 0 ∨ F_Ldg_exposureOf (nI o) S + nI m * nI l ≤ S.1 37 1 o) : m_L_call 10 (nI o) (nI (2 * c + b)) (nI (16384 * (m + 2) + (l + 2))) S (lIs (nI (hs_sz S 13)) (bidT S o c (nI b) m l)) := by
  refine lc_10 hw fun hw => ?_
  have d1 : nI (2 * c + b) / 2 = nI c := pq_d (d := 2) (by omega) (by omega) (by omega)
  have d2 : nI (2 * c + b) - nI (2 * c + b) / 2 * 2 = nI b := pq_m (d := 2) (by omega) (by omega) (by omega)
  have d3 : nI (16384 * (m + 2) + (l + 2)) / 16384 - 2 = nI m := by
    rw [show (16384 : Int32) = nI 16384 from rfl, pq_d (by omega) (by omega) (by omega)]
    exact pq_s (k := 2) (by omega)
  have d4 : nI (16384 * (m + 2) + (l + 2)) - nI (16384 * (m + 2) + (l + 2)) / 16384 * 16384 - 2 = nI l := by
    rw [show (16384 : Int32) = nI 16384 from rfl, pq_m (by omega) (by omega) (by omega)]
    exact pq_s (k := 2) (by omega)
  have d6 : (if nI b = 1 then (1 : Int32) else 0) = nI b := by
    rcases (show b = 0 ∨ b = 1 by omega) with rfl | rfl <;> rfl
  have h3 : nI b = 0 ∨ nI b = 1 := by
    rcases (show b = 0 ∨ b = 1 by omega) with rfl | rfl
    · exact Or.inl rfl
    · exact Or.inr rfl
  rw [d2, d1, d3, d4, d6]
  have z1 : (1 : Int32).toInt = 1 := rfl
  have mk : ∀ S14 : hs_S, S14 = hs_nw S 0 → (hs_Wi S14 → m_Bid_init (S.2.2.2 0 + 1) (nI (hs_sz S 13)) (nI o) (S.2.1 26 1 c) (nI b) (nI m) (nI l) (S14.1 10 1 5) S14 (fun S15 => hs_Wi S15 ∧ (hs_sz S15 13 < 100 ∧ ∀ S18 : hs_S, S18 = hs_add S15 13 (S.2.2.2 0 + 1) → ∀ S19 : hs_S, S19 = hs_wI S18 10 1 5 (S18.1 10 1 5 + 1) → lIs (nI (hs_sz S 13)) (bidT S o c (nI b) m l) (nI (hs_sz S 13)) S19))) := by
    rintro _ rfl hw14
    refine ok_Bid_init (Nat.succ_ne_zero _) (KS_cur h hc).1 (v_Bid_init h3 ⟨?_, ?_, ?_⟩)
    · exact hs_Wi_I (hs_Wi_I (hs_Wi_I (hs_Wi_I (hs_Wi_R rfl (by decide) (hs_Wi_I (hs_Wi_I (hs_Wi_I (hs_Wi_I (hs_Wi_I hw14)))))))))
    · show hs_sz S 13 < 100
      omega
    · rintro _ rfl _ rfl
      exact ⟨rfl, rfl⟩
  refine ok_C_bid hw fun _ => y_o hw ho fun _ => y_c hw hc ?_
  rw [hl_cl (by omega)]
  refine ⟨fun z => absurd z ?_, fun _ => ⟨fun _ => ⟨fun z => absurd z (nI_lo (by omega)), fun _ => ⟨fun _ => ?_, fun z => absurd ((hl_le (b := 9999) (by omega) (by omega)).mpr hl) z⟩⟩, fun z => absurd ((hl_le (b := 100) (by omega) (by omega)).mpr hm.2) z⟩⟩
  · rw [i32_lt, nI_toInt (by omega), z1]; omega
  refine ⟨hl_ix (by omega) (by omega), (KS_cur h hc).1, fun _ => ⟨fun _ => ⟨fun _ => mk, fun b1 => ⟨(KS_ex h ho).1, hl_ix (by omega) (by omega), ?_⟩⟩, fun z => absurd (nI_lt2 (N := 80) (by omega) hB) z⟩, fun z => absurd hf z⟩
  rw [hl_cl (by omega)]
  refine ⟨fun _ => mk, fun z => absurd (hx.resolve_left fun w => b1 (by rw [w]; rfl)) z⟩
theorem ac_bid_n {n o c b m l : Nat} {S : hs_S} (h : KS n S) (hw : hs_Wi S) (ho : o < 6) (hc : c < 4) (hb : b < 2) (hm : 1 ≤ m ∧ m ≤ 100) (hl : l ≤ 9999) (hx : ¬ F_Rnd_wasFrozen (S.2.1 26 1 c) S = 0 ∨ (b = 1 ∧ ¬ F_Ldg_exposureOf (nI o) S + nI m * nI l ≤ S.1 37 1 o)) : m_L_call 10 (nI o) (nI (2 * c + b)) (nI (16384 * (m + 2) + (l + 2))) S (lIs (-2100000003) S) := by
  refine lc_10 hw fun hw => ?_
  have d1 : nI (2 * c + b) / 2 = nI c := pq_d (d := 2) (by omega) (by omega) (by omega)
  have d2 : nI (2 * c + b) - nI (2 * c + b) / 2 * 2 = nI b := pq_m (d := 2) (by omega) (by omega) (by omega)
  have d3 : nI (16384 * (m + 2) + (l + 2)) / 16384 - 2 = nI m := by
    rw [show (16384 : Int32) = nI 16384 from rfl, pq_d (by omega) (by omega) (by omega)]
    exact pq_s (k := 2) (by omega)
  have d4 : nI (16384 * (m + 2) + (l + 2)) - nI (16384 * (m + 2) + (l + 2)) / 16384 * 16384 - 2 = nI l := by
    rw [show (16384 : Int32) = nI 16384 from rfl, pq_m (by omega) (by omega) (by omega)]
    exact pq_s (k := 2) (by omega)
  have d6 : (if nI b = 1 then (1 : Int32) else 0) = nI b := by
    rcases (show b = 0 ∨ b = 1 by omega) with rfl | rfl <;> rfl
  rw [d2, d1, d3, d4, d6]
  have z1 : (1 : Int32).toInt = 1 := rfl
  refine ok_C_bid hw fun _ => y_o hw ho fun _ => y_c hw hc ?_
  rw [hl_cl (by omega)]
  refine ⟨fun z => absurd z ?_, fun _ => ⟨fun _ => ⟨fun z => absurd z (nI_lo (by omega)), fun _ => ⟨fun _ => ?_, fun z => absurd ((hl_le (b := 9999) (by omega) (by omega)).mpr hl) z⟩⟩, fun z => absurd ((hl_le (b := 100) (by omega) (by omega)).mpr hm.2) z⟩⟩
  · rw [i32_lt, nI_toInt (by omega), z1]; omega
  refine ⟨hl_ix (by omega) (by omega), (KS_cur h hc).1, fun q => ⟨fun _ => ⟨fun b0 => ?_, fun b1 => ⟨(KS_ex h ho).1, hl_ix (by omega) (by omega), ?_⟩⟩, fun _ => lX_s ⟨rfl, rfl⟩⟩, fun _ => lX_s ⟨rfl, rfl⟩⟩
  · have := (hx.resolve_left fun z => z q).1
    rw [this] at b0
    exact absurd b0 (by decide)
  · rw [hl_cl (by omega)]
    exact ⟨fun z => absurd z (hx.resolve_left fun z => z q).2, fun _ => lX_s ⟨rfl, rfl⟩⟩
theorem cl_bid {S U : hs_S} {o c m l : Nat} {b : Int32} (h : hs_cl S = hs_cl U) : hs_cl (bidT S o c b m l) = hs_cl (bidT U o c b m l) := by
  unfold bidT
  rw [show U.2.2.2 0 = S.2.2.2 0 from (tw_N h 0).symm, show hs_sz U 13 = hs_sz S 13 from (tw_sz h 13 rfl).symm, jj_1 h (t := 10) rfl, jj_2 h (t := 26) rfl]
  refine cg_I (cg_add ?_ rfl rfl) rfl
  unfold E_Bid_init
  exact cg_I (cg_I (cg_I (cg_I (cg_R (cg_I (cg_I (cg_I (cg_I (cg_I (cg_nw h) rfl) rfl) rfl) rfl) rfl) rfl) rfl) rfl) rfl) rfl
theorem bo_bid {n o c b m l : Nat} {S U : hs_S} {Q : Int32 → hs_S → hs_S → Prop} (h : JJ n S U) (hn : n < 512) (hw : hs_Wi S) (hu : hs_Wi U) (ho : o < 6) (hc : c < 4) (hb : b < 2) (hm : 1 ≤ m ∧ m ≤ 100) (hl : l ≤ 9999) (hB : hs_sz S 13 < 80)
    (h1 : ¬ F_Rnd_wasFrozen (S.2.1 26 1 c) S = 0 ∨ (b = 1 ∧ ¬ F_Ldg_exposureOf (nI o) S + nI m * nI l ≤ S.1 37 1 o) → Q (-2100000003) S U)
    (h2 : F_Rnd_wasFrozen (S.2.1 26 1 c) S = 0 → (b = 0 ∨ F_Ldg_exposureOf (nI o) S + nI m * nI l ≤ S.1 37 1 o) → ∀ T', JJ (n + 1) (bidT S o c (nI b) m l) T' → Q (nI (hs_sz S 13)) (bidT S o c (nI b) m l) T') : m_L_both 10 (nI o) (nI (2 * c + b)) (nI (16384 * (m + 2) + (l + 2))) S U Q := by
  have eX : F_Ldg_exposureOf (nI o) U = F_Ldg_exposureOf (nI o) S := (tw_Ldg_exposureOf h.2.2).symm
  have eL : U.1 37 1 o = S.1 37 1 o := jj_1 h.2.2 rfl
  by_cases hf : F_Rnd_wasFrozen (S.2.1 26 1 c) S = 0 ∧ (b = 0 ∨ F_Ldg_exposureOf (nI o) S + nI m * nI l ≤ S.1 37 1 o)
  · refine bo_f hw hu (ac_bid h.1 hw ho hc hb hm hl hf.1 hB hf.2) (ac_bid h.u hu ho hc hb hm hl ((jj_fz h.2.2 c).trans hf.1) (by rw [← tw_sz h.2.2 13 rfl]; exact hB) (by rw [eX, eL]; exact hf.2)) (by rw [tw_sz h.2.2 13 rfl]) (h2 hf.1 hf.2 _ ⟨kp_bid h.1 hn ho hc ?_ hm hl hB, ?_, cl_bid h.2.2⟩)
    · rcases (show b = 0 ∨ b = 1 by omega) with rfl | rfl
      · exact Or.inl rfl
      · exact Or.inr rfl
    · rw [← h.2.1]
      exact csum_c (fun _ _ => rfl) 6 (Nat.le_refl _)
  · have hx : ¬ F_Rnd_wasFrozen (S.2.1 26 1 c) S = 0 ∨ (b = 1 ∧ ¬ F_Ldg_exposureOf (nI o) S + nI m * nI l ≤ S.1 37 1 o) := by
      by_cases q : F_Rnd_wasFrozen (S.2.1 26 1 c) S = 0
      · exact Or.inr ⟨by
          rcases (show b = 0 ∨ b = 1 by omega) with w | w
          · exact absurd ⟨q, Or.inl w⟩ hf
          · exact w, fun z => hf ⟨q, Or.inr z⟩⟩
      · exact Or.inl q
    exact bo_f hw hu (ac_bid_n h.1 hw ho hc hb hm hl hx) (ac_bid_n h.u hu ho hc hb hm hl (by rw [jj_fz h.2.2 c, eX, eL]; exact hx)) rfl (h1 hx)
