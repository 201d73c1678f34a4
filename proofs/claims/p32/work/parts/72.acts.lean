/-! ===== what the law's calls answer, and leave ===== -/
/-- two sheets that were told the same -/
def JJ (n : Nat) (S U : hs_S) : Prop := KS n S ∧ csum S 6 = 0 ∧ hs_cl S = hs_cl U
theorem JJ.u {n : Nat} {S U : hs_S} (h : JJ n S U) : KS n U := KS_cl h.2.2.symm h.1
theorem JJ.le {n m : Nat} {S U : hs_S} (h : JJ n S U) (hm : n ≤ m) (hb : m ≤ 512) : JJ m S U := ⟨KS_le h.1 hm hb, h.2⟩
theorem bo_of {k a b c : Int32} {S U : hs_S} {P P' : Int32 → hs_S → Prop} {Q : Int32 → hs_S → hs_S → Prop} (hw : hs_Wi S) (hu : hs_Wi U) (h1 : m_L_call k a b c S P) (h2 : m_L_call k a b c U P') (hd : ∀ r T r' T', P r T → P' r' T' → r = r' ∧ Q r T T') : m_L_both k a b c S U Q :=
  ok_L_both hw hu fun _ => lq_mono h1 fun r T _ hP _ => lq_mono h2 fun r' T' _ hP' => ⟨fun z => absurd (hd r T r' T' hP hP').1 z, fun _ => (hd r T r' T' hP hP').2⟩
abbrev eU (S : hs_S) : hs_S := hs_wI S 10 1 5 (S.1 10 1 5 + 1)
abbrev lIs (x : Int32) (T0 : hs_S) : Int32 → hs_S → Prop := fun r T => r = x ∧ T = T0
theorem bo_f {k a b c : Int32} {S U T T' : hs_S} {x x' : Int32} {Q : Int32 → hs_S → hs_S → Prop} (hw : hs_Wi S) (hu : hs_Wi U) (h1 : m_L_call k a b c S (lIs x T)) (h2 : m_L_call k a b c U (lIs x' T')) (hx : x = x') (hQ : Q x T T') : m_L_both k a b c S U Q :=
  bo_of hw hu h1 h2 fun r T r' T' e1 e2 => by
    obtain ⟨rfl, rfl⟩ := e1
    obtain ⟨rfl, rfl⟩ := e2
    exact ⟨hx, hQ⟩
theorem csum_c {S T : hs_S} (h : ∀ o, o < 6 → T.1 36 1 o = S.1 36 1 o) : ∀ k, k ≤ 6 → csum T k = csum S k := by
  intro k
  induction k with
  | zero => intro _; rfl
  | succ k ih => intro hk; unfold csum; rw [ih (by omega), h k (by omega)]
theorem cl_eU {S U : hs_S} (h : hs_cl S = hs_cl U) : hs_cl (eU S) = hs_cl (eU U) := cg_I h (by rw [cl_pt h (t := 10) (i := 1) (p := 5) rfl])
/-- a cell is given -/
theorem cOC_n {S : hs_S} {i : Nat} {o : Int32} : ∀ k, k ≤ 24 → ∃ m : Nat, m ≤ k ∧ cOC S i o k = nI m ∧ ((∃ j, j < k ∧ S.1 20 i j = o) → 1 ≤ m) := by
  intro k
  induction k with
  | zero => intro _; exact ⟨0, Nat.le_refl _, rfl, fun ⟨j, hj, _⟩ => absurd hj (Nat.not_lt_zero _)⟩
  | succ k ih =>
    intro hk
    obtain ⟨m, h1, h2, h3⟩ := ih (by omega)
    by_cases q : S.1 20 i k = o
    · refine ⟨m + 1, by omega, ?_, fun _ => by omega⟩
      unfold cOC
      rw [if_pos q, h2, nI_1]
    · refine ⟨m, by omega, ?_, fun ⟨j, hj, e⟩ => h3 ⟨j, ?_, e⟩⟩
      · unfold cOC
        rw [if_neg q, h2]
      · by_cases w : j = k
        · rw [w] at e; exact absurd e q
        · omega
abbrev gvT (S : hs_S) (k o : Nat) : hs_S := eU (hs_wI S 20 1 k (nI o))
theorem ac_give {o c r o2 : Nat} {S : hs_S} (hw : hs_Wi S) (ho : o < 6) (hc : c < 4) (hr : r < 6) (ho2 : o2 < 6) (e : S.1 20 1 (6 * c + r) = nI o) : m_L_call 0 (nI o) (nI (8 * (c + 2) + (r + 1))) (nI o2) S (lIs (F_Rts_ownedBy 1 (nI o2) (gvT S (6 * c + r) o2)) (gvT S (6 * c + r) o2)) := by
  refine lc_0 hw fun hw => ?_
  have d1 : nI (8 * (c + 2) + (r + 1)) / 8 - 2 = nI c := by
    rw [show (8 : Int32) = nI 8 from rfl, pq_d (by omega) (by omega) (by omega)]
    exact pq_s (k := 2) (by omega)
  have d2 : nI (8 * (c + 2) + (r + 1)) - nI (8 * (c + 2) + (r + 1)) / 8 * 8 - 1 = nI r := by
    rw [show (8 : Int32) = nI 8 from rfl, pq_m (by omega) (by omega) (by omega)]
    exact pq_s (k := 1) (by omega)
  rw [d1, d2]
  refine ok_C_give hw fun _ => y_o hw ho fun _ => y_o hw ho2 fun _ => y_cell hw hc hr fun _ => y_oc hw (by omega) e ?_
  refine ⟨hl_ix (by omega) (by omega), ?_⟩
  rw [hl_cl (by omega)]
  rintro _ rfl _ rfl
  exact ⟨rfl, rfl⟩
theorem bo_give {n o c r o2 : Nat} {S U : hs_S} {Q : Int32 → hs_S → hs_S → Prop} (h : JJ n S U) (hn : n < 512) (hw : hs_Wi S) (hu : hs_Wi U) (ho : o < 6) (hc : c < 4) (hr : r < 6) (ho2 : o2 < 6) (e : S.1 20 1 (6 * c + r) = nI o)
    (hQ : ∀ (m : Nat) (T' : hs_S), 1 ≤ m → m ≤ 24 → JJ (n + 1) (gvT S (6 * c + r) o2) T' → Q (nI m) (gvT S (6 * c + r) o2) T') : m_L_both 0 (nI o) (nI (8 * (c + 2) + (r + 1))) (nI o2) S U Q := by
  have cl : hs_cl (gvT S (6 * c + r) o2) = hs_cl (gvT U (6 * c + r) o2) := cl_eU (cg_I h.2.2 rfl)
  have e' : U.1 20 1 (6 * c + r) = nI o := by rw [← cl_pt h.2.2 (t := 20) (i := 1) (p := 6 * c + r) rfl]; exact e
  refine bo_f hw hu (ac_give hw ho hc hr ho2 e) (ac_give hu ho hc hr ho2 e') (tw_Rts_ownedBy cl) ?_
  obtain ⟨m, h1, h2, h3⟩ := cOC_n (S := gvT S (6 * c + r) o2) (i := 1) (o := nI o2) 24 (Nat.le_refl _)
  have : F_Rts_ownedBy 1 (nI o2) (gvT S (6 * c + r) o2) = nI m := h2
  rw [this]
  refine hQ m _ (h3 ⟨6 * c + r, by omega, ?_⟩) h1 ⟨kp_give h.1 (by omega) ho2 hn, ?_, cl⟩
  · exact (wI_at (S := S) (t := 20) (i := 1) (j := 6 * c + r) (x := nI o2)).trans (if_pos rfl)
  · rw [← h.2.1]
    exact csum_c (fun _ _ => rfl) 6 (Nat.le_refl _)
/-- reading is let -/
theorem ac_let {o w c r l : Nat} {S : hs_S} (hw : hs_Wi S) (ho : o < 6) (hw6 : w < 6) (hc : c < 4) (hr : r < 6) (hl : l < 2) (hne : o ≠ w) : m_L_call 1 (nI o) (nI (8 * (w + 2) + (c + 2))) (nI (16 * (r + 1) + (2 * (r + 1) + l))) S (fun x T => R_Rts_letRead 1 (nI o) (nI w) (nI (6 * c + r)) (nI (6 * c + r)) (nI l) (eU S) x T) := by
  refine lc_1 hw fun hw => ?_
  have d1 : nI (8 * (w + 2) + (c + 2)) / 8 - 2 = nI w := by
    rw [show (8 : Int32) = nI 8 from rfl, pq_d (by omega) (by omega) (by omega)]
    exact pq_s (k := 2) (by omega)
  have d2 : nI (8 * (w + 2) + (c + 2)) - nI (8 * (w + 2) + (c + 2)) / 8 * 8 - 2 = nI c := by
    rw [show (8 : Int32) = nI 8 from rfl, pq_m (by omega) (by omega) (by omega)]
    exact pq_s (k := 2) (by omega)
  have d3 : nI (16 * (r + 1) + (2 * (r + 1) + l)) / 16 - 1 = nI r := by
    rw [show (16 : Int32) = nI 16 from rfl, pq_d (by omega) (by omega) (by omega)]
    exact pq_s (k := 1) (by omega)
  have d4 : (nI (16 * (r + 1) + (2 * (r + 1) + l)) - nI (16 * (r + 1) + (2 * (r + 1) + l)) / 16 * 16) / 2 - 1 = nI r := by
    rw [show (16 : Int32) = nI 16 from rfl, pq_m (by omega) (by omega) (by omega), show (2 : Int32) = nI 2 from rfl, pq_d (by omega) (by omega) (by omega)]
    exact pq_s (k := 1) (by omega)
  have d5 : nI (16 * (r + 1) + (2 * (r + 1) + l)) - nI (16 * (r + 1) + (2 * (r + 1) + l)) / 2 * 2 = nI l := by
    rw [show 16 * (r + 1) + (2 * (r + 1) + l) = 2 * (9 * (r + 1)) + l by omega, show (2 : Int32) = nI 2 from rfl]
    exact pq_m (by omega) (by omega) (by omega)
  have d6 : (if nI l = 1 then (1 : Int32) else 0) = nI l := by
    rcases (show l = 0 ∨ l = 1 by omega) with rfl | rfl <;> rfl
  rw [d1, d2, d3, d4, d5, d6]
  refine ok_C_let hw fun _ => y_o hw ho fun _ => y_o hw hw6 fun _ => y_cell hw hc hr fun _ => y_cell hw hc hr ?_
  refine ⟨fun _ => ⟨fun _ => ?_, fun z => absurd ((hl_le (by omega) (by omega)).mpr (Nat.le_refl _)) z⟩, fun z => absurd ((hl_inj (by omega) (by omega)).mp z) hne⟩
  rintro _ rfl
  exact ⟨⟨6 * c + r, 6 * c + r, Nat.le_refl _, by omega, rfl, rfl⟩, fun x T hR => hR⟩
theorem ac_let_b {o c r l : Nat} {S : hs_S} (hw : hs_Wi S) (ho : o < 6) (hc : c < 4) (hr : r < 6) (hl : l < 2) : m_L_call 1 (nI o) (nI (8 * (o + 2) + (c + 2))) (nI (16 * (r + 1) + (2 * (r + 1) + l))) S (lIs (-2100000002) S) := by
  refine lc_1 hw fun hw => ?_
  have d1 : nI (8 * (o + 2) + (c + 2)) / 8 - 2 = nI o := by
    rw [show (8 : Int32) = nI 8 from rfl, pq_d (by omega) (by omega) (by omega)]
    exact pq_s (k := 2) (by omega)
  have d2 : nI (8 * (o + 2) + (c + 2)) - nI (8 * (o + 2) + (c + 2)) / 8 * 8 - 2 = nI c := by
    rw [show (8 : Int32) = nI 8 from rfl, pq_m (by omega) (by omega) (by omega)]
    exact pq_s (k := 2) (by omega)
  have d3 : nI (16 * (r + 1) + (2 * (r + 1) + l)) / 16 - 1 = nI r := by
    rw [show (16 : Int32) = nI 16 from rfl, pq_d (by omega) (by omega) (by omega)]
    exact pq_s (k := 1) (by omega)
  have d4 : (nI (16 * (r + 1) + (2 * (r + 1) + l)) - nI (16 * (r + 1) + (2 * (r + 1) + l)) / 16 * 16) / 2 - 1 = nI r := by
    rw [show (16 : Int32) = nI 16 from rfl, pq_m (by omega) (by omega) (by omega), show (2 : Int32) = nI 2 from rfl, pq_d (by omega) (by omega) (by omega)]
    exact pq_s (k := 1) (by omega)
  rw [d1, d2, d3, d4]
  refine ok_C_let hw fun _ => y_o hw ho fun _ => y_o hw ho fun _ => y_cell hw hc hr fun _ => y_cell hw hc hr ?_
  exact ⟨fun z => absurd rfl z, fun _ => lX_a ⟨rfl, rfl⟩⟩
theorem letR_x {S T : hs_S} {o w k l : Nat} {x : Int32} (hk : k < 24) (hS : S.1 20 1 k = nI o) (h : R_Rts_letRead 1 (nI o) (nI w) (nI k) (nI k) (nI l) (eU S) x T) : x = 1 ∧ T = hs_rw (eU S) 21 (T.1 21 1) ∧ (∀ p, T.1 21 1 p = if p = k then cRB S 1 (nI w) (nI l) p else S.1 21 1 p) ∧ (∀ t i p, ¬ (t = 21 ∧ i = 1) → T.1 t i p = (eU S).1 t i p) ∧ T.2 = S.2 := by
  obtain ⟨h1, h2, h3⟩ := h
  obtain ⟨h4, h5⟩ := h3 k k (Nat.le_refl _) hk rfl rfl
  refine ⟨?_, ?_, fun p => ?_, h2, h1⟩
  · rw [h4, show k + 1 - k = 0 + 1 by omega]
    unfold cLC cLC
    have : (eU S).1 20 1 (k + 0) = nI o := hS
    rw [if_pos this]; rfl
  · refine Prod.ext (funext fun t => funext fun i => funext fun p => ?_) h1
    show _ = if t = 21 ∧ i = 1 then _ else (eU S).1 t i p
    by_cases q : t = 21 ∧ i = 1
    · obtain ⟨rfl, rfl⟩ := q
      rw [if_pos ⟨rfl, rfl⟩]
    · rw [if_neg q]; exact h2 t i p q
  · rw [h5]
    by_cases q : p = k
    · subst q
      rw [if_pos rfl, if_pos ⟨Nat.le_refl _, Nat.le_refl _, hS⟩]; rfl
    · rw [if_neg q, if_neg fun z => q (by omega)]; rfl
theorem bo_let {n o w c r l : Nat} {S U : hs_S} {Q : Int32 → hs_S → hs_S → Prop} (h : JJ n S U) (hn : n < 512) (hw : hs_Wi S) (hu : hs_Wi U) (ho : o < 6) (hw6 : w < 6) (hc : c < 4) (hr : r < 6) (hl : l < 2) (hne : o ≠ w) (e : S.1 20 1 (6 * c + r) = nI o)
    (hQ : ∀ (T T' : hs_S), JJ (n + 1) T T' → T.2 = S.2 → F_Cq_reads (nI w) (nI c) (nI r) T = nI l → T.1 20 1 (6 * c + r) = nI o → Q 1 T T') : m_L_both 1 (nI o) (nI (8 * (w + 2) + (c + 2))) (nI (16 * (r + 1) + (2 * (r + 1) + l))) S U Q := by
  have e' : U.1 20 1 (6 * c + r) = nI o := by rw [← cl_pt h.2.2 (t := 20) (i := 1) (p := 6 * c + r) rfl]; exact e
  refine bo_of hw hu (ac_let hw ho hw6 hc hr hl hne) (ac_let hu ho hw6 hc hr hl hne) fun x T x' T' hT hT' => ?_
  obtain ⟨a1, a2, a3, a4, a5⟩ := letR_x (by omega) e hT
  obtain ⟨b1, b2, b3, b4, b5⟩ := letR_x (by omega) e' hT'
  refine ⟨a1.trans b1.symm, ?_⟩
  rw [a1]
  have e20 : T.1 20 1 (6 * c + r) = nI o := (a4 20 1 (6 * c + r) (by omega)).trans e
  refine hQ T T' ⟨?_, ?_, ?_⟩ a5 ?_ e20
  · refine kp_let (q := T.1 21 1) (is := nI l) h.1 hc hr hr ho hw6 hn (fun p => ?_) (by rw [← a2])
    rw [a3]
    by_cases q : p = 6 * c + r
    · subst q
      rw [if_pos rfl, if_pos ⟨Nat.le_refl _, Nat.le_refl _, e⟩]
    · rw [if_neg q, if_neg fun z => q (by omega)]
  · rw [← h.2.1]
    exact csum_c (fun o _ => a4 36 1 o (by omega)) 6 (Nat.le_refl _)
  · refine cl_of (fun t i p q => ?_) (fun t i p q => ?_) ?_
    · by_cases z : t = 21 ∧ i = 1
      · obtain ⟨rfl, rfl⟩ := z
        rw [a3, b3]
        have : ∀ p, S.1 21 1 p = U.1 21 1 p := fun p => (cl_pt h.2.2 (t := 21) (i := 1) (p := p) rfl).symm ▸ rfl
        unfold cRB
        simp only [this]
      · rw [a4 t i p z, b4 t i p z]
        exact (cl_pt (cl_eU h.2.2) q).symm ▸ rfl
    · rw [a5, b5]; exact (cl_ptR h.2.2 q).symm ▸ rfl
    · rw [a5, b5]; exact (cl_22 h.2.2).symm ▸ rfl
  · unfold F_Cq_reads F_Rts_canRead
    have ec : F_Cq_cellAt (nI c) (nI r) = nI (6 * c + r) := nq_61
    rw [ec, hl_cl (by omega), e20, a3, if_pos rfl]
    have hb := bit_let (S := S) (is := nI l) (o := w) (w := w) (p := 6 * c + r) hw6 hw6
    rw [if_pos rfl] at hb
    rcases (show l = 0 ∨ l = 1 by omega) with rfl | rfl
    · exact bI_f fun z => z.elim (fun z => hne ((hl_inj (by omega) (by omega)).mp z)) (fun z => hb.mp z rfl)
    · exact bI_t (Or.inr (hb.mpr (by decide)))
theorem bo_let_b {o c r l : Nat} {S U : hs_S} {Q : Int32 → hs_S → hs_S → Prop} (hw : hs_Wi S) (hu : hs_Wi U) (ho : o < 6) (hc : c < 4) (hr : r < 6) (hl : l < 2) (hQ : Q (-2100000002) S U) : m_L_both 1 (nI o) (nI (8 * (o + 2) + (c + 2))) (nI (16 * (r + 1) + (2 * (r + 1) + l))) S U Q := bo_f hw hu (ac_let_b hw ho hc hr hl) (ac_let_b hu ho hc hr hl) rfl hQ
/-- a column's notice, its shares, an owner's limit -/
abbrev ntT (S : hs_S) (c m : Nat) : hs_S := eU (hs_wI S 25 1 c (nI m))
theorem ac_notice {c m : Nat} {S : hs_S} (hw : hs_Wi S) (hc : c < 4) (hm : m ≤ 50) : m_L_call 5 (nI c) (nI m) 0 S (lIs (S.1 25 1 c) (ntT S c m)) := by
  refine lc_5 hw fun hw => ok_C_notice hw fun _ => y_c hw hc ?_
  refine ⟨fun z => absurd z (nI_lo (by omega)), fun _ => ⟨fun _ => ⟨hl_ix (by omega) (by omega), ?_⟩, fun z => absurd ((hl_le (b := 50) (by omega) (by omega)).mpr hm) z⟩⟩
  rw [hl_cl (by omega)]
  rintro _ rfl _ rfl
  exact ⟨rfl, rfl⟩
theorem bo_notice {n c m : Nat} {S U : hs_S} {Q : Int32 → hs_S → hs_S → Prop} (h : JJ n S U) (hn : n < 512) (hw : hs_Wi S) (hu : hs_Wi U) (hc : c < 4) (hm : m ≤ 50) (hQ : ∀ T', JJ (n + 1) (ntT S c m) T' → Q (S.1 25 1 c) (ntT S c m) T') : m_L_both 5 (nI c) (nI m) 0 S U Q := by
  have cl : hs_cl (ntT S c m) = hs_cl (ntT U c m) := cl_eU (cg_I h.2.2 rfl)
  refine bo_f hw hu (ac_notice hw hc hm) (ac_notice hu hc hm) ((cl_pt h.2.2 (t := 25) (i := 1) (p := c) rfl).symm ▸ rfl) (hQ _ ⟨kp_notice h.1 hc hm hn, ?_, cl⟩)
  rw [← h.2.1]
  exact csum_c (fun _ _ => rfl) 6 (Nat.le_refl _)
theorem KS_ntc {n c : Nat} {S : hs_S} (h : KS n S) (hc : c < 4) : ∃ m : Nat, m ≤ 50 ∧ S.1 25 1 c = nI m := by
  obtain ⟨V, ev, ng, nl, nE, nB, nR, nd, hX, _⟩ := KS_U h
  obtain ⟨⟨e, m, hm, em⟩, _⟩ := hX.2.2.2.2.2.1 c hc
  exact ⟨m, hm, e.trans em⟩
abbrev shT' (S : hs_S) (c : Nat) (x : Int32) : hs_S := eU (hs_wI S 27 1 c x)
theorem KS_shr {n c : Nat} {S : hs_S} (h : KS n S) (hc : c < 4) : S.1 27 1 c = 0 ∨ S.1 27 1 c = 1 := by
  obtain ⟨V, ev, ng, nl, nE, nB, nR, nd, hX, _⟩ := KS_U h
  obtain ⟨_, e, em⟩ := hX.2.2.2.2.2.1 c hc
  rw [e]; exact em
theorem ac_share {n c l : Nat} {S : hs_S} (h : KS n S) (hw : hs_Wi S) (hc : c < 4) (hl : l < 2) : m_L_call 12 (nI c) (nI l) 0 S (lIs (S.1 27 1 c) (shT' S c (nI l))) := by
  have d6 : (if nI l = 1 then (1 : Int32) else 0) = nI l := by
    rcases (show l = 0 ∨ l = 1 by omega) with rfl | rfl <;> rfl
  have hb := KS_shr h hc
  refine lc_12 hw fun hw => ?_
  rw [d6]
  refine ok_C_share hw fun _ => y_c hw hc ⟨hl_ix (by omega) (by omega), ?_, ?_⟩
  · rcases (show l = 0 ∨ l = 1 by omega) with rfl | rfl
    · exact Or.inl rfl
    · exact Or.inr rfl
  · rw [hl_cl (by omega)]
    rintro _ rfl _ rfl
    refine ⟨hb, fun z => ⟨z.symm, rfl⟩, fun z => ⟨(hb.resolve_left z).symm, rfl⟩⟩
theorem bo_share {n c l : Nat} {S U : hs_S} {Q : Int32 → hs_S → hs_S → Prop} (h : JJ n S U) (hn : n < 512) (hw : hs_Wi S) (hu : hs_Wi U) (hc : c < 4) (hl : l < 2) (hQ : ∀ T', JJ (n + 1) (shT' S c (nI l)) T' → Q (S.1 27 1 c) (shT' S c (nI l)) T') : m_L_both 12 (nI c) (nI l) 0 S U Q := by
  have cl : hs_cl (shT' S c (nI l)) = hs_cl (shT' U c (nI l)) := cl_eU (cg_I h.2.2 rfl)
  refine bo_f hw hu (ac_share h.1 hw hc hl) (ac_share h.u hu hc hl) ((cl_pt h.2.2 (t := 27) (i := 1) (p := c) rfl).symm ▸ rfl) (hQ _ ⟨kp_share h.1 hc ?_ hn, ?_, cl⟩)
  · rcases (show l = 0 ∨ l = 1 by omega) with rfl | rfl
    · exact Or.inl rfl
    · exact Or.inr rfl
  · rw [← h.2.1]
    exact csum_c (fun _ _ => rfl) 6 (Nat.le_refl _)
abbrev liT (S : hs_S) (o m : Nat) : hs_S := eU (hs_wI S 37 1 o (nI m))
theorem ac_limit {o m : Nat} {S : hs_S} (hw : hs_Wi S) (ho : o < 6) (hm : m ≤ 1000000000) : m_L_call 21 (nI o) (nI m) 0 S (lIs (S.1 37 1 o) (liT S o m)) := by
  refine lc_21 hw fun hw => ok_C_limit hw fun _ => y_o hw ho ?_
  refine ⟨fun z => absurd z (nI_lo (by omega)), fun _ => ⟨fun _ => ⟨hl_ix (by omega) (by omega), ?_⟩, fun z => absurd ((hl_le (b := 1000000000) (by omega) (by omega)).mpr hm) z⟩⟩
  rw [hl_cl (by omega)]
  rintro _ rfl _ rfl
  exact ⟨rfl, rfl⟩
theorem bo_limit {n o m : Nat} {S U : hs_S} {Q : Int32 → hs_S → hs_S → Prop} (h : JJ n S U) (hn : n < 512) (hw : hs_Wi S) (hu : hs_Wi U) (ho : o < 6) (hm : m ≤ 1000000000) (hQ : ∀ T', JJ (n + 1) (liT S o m) T' → Q (S.1 37 1 o) (liT S o m) T') : m_L_both 21 (nI o) (nI m) 0 S U Q := by
  have cl : hs_cl (liT S o m) = hs_cl (liT U o m) := cl_eU (cg_I h.2.2 rfl)
  refine bo_f hw hu (ac_limit hw ho hm) (ac_limit hu ho hm) ((cl_pt h.2.2 (t := 37) (i := 1) (p := o) rfl).symm ▸ rfl) (hQ _ ⟨kp_limit h.1 ho hm hn, ?_, cl⟩)
  rw [← h.2.1]
  exact csum_c (fun _ _ => rfl) 6 (Nat.le_refl _)
theorem KS_lim {n o : Nat} {S : hs_S} (h : KS n S) (ho : o < 6) : ∃ m : Nat, m ≤ 1000000000 ∧ S.1 37 1 o = nI m := by
  obtain ⟨V, ev, ng, nl, nE, nB, nR, nd, _, hL, _⟩ := KS_U h
  obtain ⟨_, e, m, hm, em⟩ := hL.1 o ho
  exact ⟨m, hm, e.trans em⟩
