/-! ===== the law's formulas ===== -/
theorem tld_form {n m : Nat} {S T : hs_S} {k o d : Nat} {l e : Int32} (t : tld S T k o d l) (h : KS n S) (hT : KS m T) (he : ¬ e < S.1 10 1 5 + l) : cForm T e (nI k) (hs_sz T 12) = d := by
  have e2 : ed T (hs_sz S 12) = hs_sz S 12 + 1 := t.1.2.1
  have e3 : ¬ F_Edit_countsAt (hs_sz S 12 + 1) e T = 0 := by
    unfold F_Edit_countsAt
    rw [bI_eq0, t.2.2.1.2.2.2.2.2.1, t.2.2.1.2.2.2.2.1]
    exact fun z => z ⟨rfl, he⟩
  rw [t.1.1, cForm, e2, if_pos ⟨t.2.2.1.2.1, e3⟩]
  exact t.2.2.1.2.2.2.2.2.2
theorem emp_val {n k : Nat} {T X : hs_S} (h : KS n T) (hk : k < 24) (hf : cForm T (T.1 10 1 5) (nI k) (hs_sz T 12) = 1) (hX : R_Fnd_goTo (T.1 10 1 5) 1 T X) : gVal (cEnv X) (nI k) 0 0 := by
  obtain ⟨g, _, g3, _⟩ := hX
  refine Or.inl ⟨1, gev_end ?_⟩
  show 0 = (X.1 5 (X.2.1 28 1 (nI k).toNatClampNeg) 3).toNatClampNeg
  rw [hl_cl (by omega), (g3 k hk).2, hf, g.2.2 5 1 3 (by decide) (by decide), (KS_d h).1.2.2]
  rfl
theorem emp_0 {n o c r : Nat} {T T2 : hs_S} {a : Int32} (h : KS n T) (hc : c < 4) (hr : r < 6) (hf : cForm T (T.1 10 1 5) (nI (6 * c + r)) (hs_sz T 12) = 1) (hR : R_Cq_value (nI o) (nI c) (nI r) T a T2) : a = 0 := by
  obtain ⟨X, hX, _, _, ⟨f, hv⟩, _⟩ := hR
  rw [show F_Cq_cellAt (nI c) (nI r) = nI (6 * c + r) from nq_61] at hv
  exact (gVal_fun hv (emp_val h (by omega) hf hX)).2
theorem emp_1 {n o c r : Nat} {T T2 : hs_S} {a : Int32} (h : KS n T) (hc : c < 4) (hr : r < 6) (hf : cForm T (T.1 10 1 5) (nI (6 * c + r)) (hs_sz T 12) = 1) (hR : R_Cq_fault (nI o) (nI c) (nI r) T a T2) : a = 0 := by
  obtain ⟨X, hX, _, _, v, hv⟩ := hR
  rw [show F_Cq_cellAt (nI c) (nI r) = nI (6 * c + r) from nq_61] at hv
  exact (gVal_fun hv (emp_val h (by omega) hf hX)).1
theorem ed_fin {n c r o cn g nt N d : Nat} {zz x36 : Int32} {W T T' : hs_S} {Q : Int32 → hs_S → hs_S → Prop} (hW : KS n W) (hn : n + 2 ≤ 512) (hJ : JJ (n + 1) T T') (hc : c < 4) (hr : r < 6) (ho : o < 6) (t : tld W T (6 * c + r) o d (ntL W c)) (w25 : W.1 25 1 c = nI nt) (hnt : nt < 3) (hN : hs_sz W 12 = N) (hcn : cn ≤ 60) (ecn : F_Sht_countOf (nI (6 * c + r)) W = nI cn) (hd0 : d ≠ 0) (h5 : W.1 5 d 3 = if x36 = 0 then nI g else 0) (hd1 : ¬ x36 = 0 → d = 1) (w20 : W.1 20 1 (6 * c + r) = nI o)
    (hQ : ∀ T2, hs_cl T2 = hs_cl T → Q 1 T2 T') : ((P_L_some zz (3 : Int32) T) ∧ (∀ x43 : Int32, x43 = (if (1 : Int32) ≤ (nI nt) then (nI nt) else (1 : Int32)) → ((nI N) = (nI N) ∧ ((F_C_events T) = ((F_C_events W) + (1 : Int32)) ∧ ((P_Cq_edits (nI c) (nI r) T) ∧ ((F_Cq_edits (nI c) (nI r) T) = ((nI cn) + (1 : Int32)) ∧ (hs_Wi T → m_L_call (9 : Int32) (nI c) (nI r) (((16 : Int32) * ((nI cn) + (2 : Int32))) + (2 : Int32)) T (fun r50 S49 => (r50 = (nI N) ∧ (hs_Wi S49 → m_L_call (9 : Int32) (nI c) (nI r) ((((16 : Int32) * ((nI cn) + (2 : Int32))) + (2 : Int32)) + (1 : Int32)) S49 (fun r53 S52 => (r53 = (F_C_events W) ∧ (hs_Wi S52 → m_L_call (9 : Int32) (nI c) (nI r) ((((16 : Int32) * ((nI cn) + (2 : Int32))) + (2 : Int32)) + (2 : Int32)) S52 (fun r56 S55 => (r56 = ((F_C_events W) + x43) ∧ (hs_Wi S55 → m_L_call (9 : Int32) (nI c) (nI r) ((((16 : Int32) * ((nI cn) + (2 : Int32))) + (2 : Int32)) + (3 : Int32)) S55 (fun r59 S58 => (r59 = (nI o) ∧ (hs_Wi S58 → m_L_call (9 : Int32) (nI c) (nI r) ((((16 : Int32) * ((nI cn) + (2 : Int32))) + (2 : Int32)) + (4 : Int32)) S58 (fun r62 S61 => (∀ x63 : Int32, x63 = (if x36 = 0 then (nI g) else (0 : Int32)) → (r62 = x63 ∧ (hs_Wi S61 → m_L_call (9 : Int32) (nI c) (nI r) ((((16 : Int32) * ((nI cn) + (2 : Int32))) + (2 : Int32)) + (5 : Int32)) S61 (fun r66 S65 => (r66 = 0 ∧ (hs_Wi S65 → m_L_call (9 : Int32) (nI c) (nI r) ((((16 : Int32) * ((nI cn) + (2 : Int32))) + (2 : Int32)) + (6 : Int32)) S65 (fun r69 S68 => (∀ x70 : Int32, x70 = (if x43 = (1 : Int32) then (1 : Int32) else (0 : Int32)) → (r69 = x70 ∧ (((1 : Int32) < x43 → (Q (1 : Int32) S68 T')) ∧ (¬ (1 : Int32) < x43 → ((x36 = 0 → (Q (1 : Int32) S68 T')) ∧ (¬ x36 = 0 → ((P_Cq_value (nI o) (nI c) (nI r) S68) ∧ (∀ r76 : Int32, ∀ S75 : hs_S, R_Cq_value (nI o) (nI c) (nI r) S68 r76 S75 → (r76 = 0 ∧ ((P_Cq_fault (nI o) (nI c) (nI r) S75) ∧ (∀ r81 : Int32, ∀ S80 : hs_S, R_Cq_fault (nI o) (nI c) (nI r) S75 r81 S80 → (r81 = 0 ∧ (Q (1 : Int32) S80 T')))))))))))))))))))))))))))))))))))))))) := by
  obtain ⟨cn', hcn', c1, c2, c3⟩ := tld_n t hW hJ.1
  have : cn' = cn := (hl_inj (by omega) (by omega)).mp (c1.symm.trans ecn)
  subst this
  obtain ⟨ev, hev, eev⟩ := (KS_sz hW).2.1
  have b16 : ((16 : Int32) * (nI cn' + (2 : Int32))) + (2 : Int32) = nI (16 * (cn' + 2) + (0 + 2)) := by
    rw [show (16 : Int32) = nI 16 from rfl, show (2 : Int32) = nI 2 from rfl, nI_add, nI_mulI, nI_add]
  have bw : ∀ (w : Nat) (y : Int32), y = nI w → nI (16 * (cn' + 2) + (0 + 2)) + y = nI (16 * (cn' + 2) + (w + 2)) := fun w y hy => by
    rw [hy, nI_add]
    congr 1
    omega
  rw [b16, bw 1 1 rfl, bw 2 2 rfl, bw 3 3 rfl, bw 4 4 rfl, bw 5 5 rfl, bw 6 6 rfl]
  refine ⟨so_P (by decide), fun x43 hx43 => ?_⟩
  obtain ⟨lt, hlt, e43, eL⟩ : ∃ lt : Nat, (1 ≤ lt ∧ lt ≤ 2) ∧ x43 = nI lt ∧ ntL W c = nI lt := by
    unfold ntL
    rw [w25]
    rcases (show nt = 0 ∨ nt = 1 ∨ nt = 2 by omega) with rfl | rfl | rfl
    · exact ⟨1, by omega, hx43, rfl⟩
    · exact ⟨1, by omega, hx43, rfl⟩
    · exact ⟨2, by omega, hx43, rfl⟩
  rw [eL] at t
  rw [e43]
  have hp : F_Sht_placed (nI (6 * c + r)) (nI cn') T = N + 1 := by rw [c3, hN]
  obtain ⟨⟨z1, z2, z3⟩, a1, ⟨b0, b1, b2, b3, b4, b6, b5⟩, q10, q20, q5, _⟩ := id t
  have tc := tld_ct t hW hJ.1
  have tf := fun h => tld_form (e := T.1 10 1 5) t hW hJ.1 h
  rw [hN] at b0 b1 b2 b3 b4 b6 b5 tc
  have h5' : T.2.1 3 (N + 1) 5 ≠ 0 := by rw [b5]; exact hd0
  have t20 : T.1 20 1 (6 * c + r) = nI o := by rw [q20]; exact w20
  have clt : ¬ W.1 10 1 5 + 1 < W.1 10 1 5 + nI lt ↔ lt = 1 := by
    rw [eev, nI_1, nI_add, hl_lt (by omega) (by omega)]
    omega
  refine ⟨rfl, q10, ⟨pq_cell hc hr, KS_cEd hJ.1⟩, by rw [fq_edits, c2, nI_1], fun hw => ?_⟩
  refine lq_is (ac_edit (w := 0) hJ.1 hw hc hr hcn (by omega) hp h5') fun hw => ⟨b0, fun _ => ?_⟩
  refine lq_is (ac_edit (w := 1) hJ.1 hw hc hr hcn (by omega) hp h5') fun hw => ⟨b3, fun _ => ?_⟩
  refine lq_is (ac_edit (w := 2) hJ.1 hw hc hr hcn (by omega) hp h5') fun hw => ⟨b4, fun _ => ?_⟩
  refine lq_is (ac_edit (w := 3) hJ.1 hw hc hr hcn (by omega) hp h5') fun hw => ⟨b2, fun _ => ?_⟩
  refine lq_is (ac_edit (w := 4) hJ.1 hw hc hr hcn (by omega) hp h5') fun hw => fun x63 hx63 => ⟨?_, fun _ => ?_⟩
  · rw [hx63, ← h5, ← q5, ← b5]; rfl
  refine lq_is (ac_edit (w := 5) hJ.1 hw hc hr hcn (by omega) hp h5') fun hw => ⟨if_pos b6, fun _ => ?_⟩
  refine lq_is (ac_edit (w := 6) hJ.1 hw hc hr hcn (by omega) hp h5') fun hw => fun x70 hx70 => ⟨?_, fun _ => hQ T rfl, fun q => ⟨fun _ => hQ T rfl, fun q36 => ?_⟩⟩
  · rw [hx70]
    show (if N + 1 = F_Sht_counting (nI (6 * c + r)) (T.1 10 1 5) T then (1 : Int32) else 0) = _
    by_cases w : lt = 1
    · rw [if_pos (tc.mpr (clt.mpr w)), w]
      exact (if_pos rfl).symm
    · rw [if_neg fun y => w (clt.mp (tc.mp y)), if_neg (show ¬ nI lt = 1 from fun y => w ((hl_inj (b := 1) (by omega) (by omega)).mp y))]
  · have l1 : lt = 1 := by
      have : ¬ 1 < lt := fun w => q ((hl_lt (a := 1) (by omega) (by omega)).mpr w)
      omega
    have hf := tf (by rw [q10]; exact clt.mpr l1)
    rw [hd1 q36] at hf
    refine ⟨pq_val hJ.1 ho hc hr t20, fun a T2 hR => ⟨emp_0 hJ.1 hc hr hf hR, ?_⟩⟩
    have c2 := cl_value hR
    have k2 := KS_cl c2 hJ.1
    have t2 : T2.1 20 1 (6 * c + r) = nI o := (cl_pt c2 rfl).trans t20
    have hf2 : cForm T2 (T2.1 10 1 5) (nI (6 * c + r)) (hs_sz T2 12) = 1 := by
      have e : cForm T2 (T2.1 10 1 5) (nI (6 * c + r)) (hs_sz T2 12) = cForm T (T.1 10 1 5) (nI (6 * c + r)) (hs_sz T 12) := by
        rw [tw_sz c2 12 rfl, cl_pt c2 (t := 10) (i := 1) (p := 5) rfl, ← cl_cForm (S := T2), c2, cl_cForm]
      exact e.trans hf
    exact ⟨pq_val k2 ho hc hr t2, fun b T3 hR2 => ⟨emp_1 k2 hc hr hf2 hR2, hQ T3 ((cl_fault hR2).trans c2)⟩⟩
theorem la_edits {n ne : Nat} {x z : Int32} {S U : hs_S} {Q : Int32 → hs_S → hs_S → Prop} (h : JJ n S U) (hn : n + 3 < 512) (hw : hs_Wi S) (hu : hs_Wi U) (hz : hs_sz S 12 = ne) (h60 : ne < 60) (hQ : ∀ T T', JJ (n + 3) T T' → hs_sz T 13 = hs_sz S 13 → hs_sz T 14 = hs_sz S 14 → (hs_sz T 12 = ne ∨ hs_sz T 12 = ne + 1) → Q 1 T T') : m_L_edits (nI ne) x z S U Q := by
  refine ok_L_edits hw hu ?_
  unfold vc_L_edits
  obtain ⟨c, hc, ec⟩ := so_ex (N := 4) z 4 rfl (by omega) (by omega)
  rw [ec]
  refine ⟨so_P (by decide), so_P (by decide), fun x3 hx3 => ?_⟩
  obtain ⟨N3, hN3, e3⟩ : ∃ N3 : Nat, (0 < N3 ∧ N3 ≤ 6) ∧ x3 = nI N3 := by
    by_cases q : F_L_some (z >>> ((9 : Int32) &&& 31)) 3 = 0
    · rw [if_pos q] at hx3; exact ⟨6, by omega, hx3⟩
    · rw [if_neg q] at hx3; exact ⟨2, by omega, hx3⟩
  obtain ⟨r, hr', er⟩ := so_ex (N := N3) (z >>> ((3 : Int32) &&& 31)) x3 e3 hN3.1 (by omega)
  have hr : r < 6 := by omega
  have hk24 : 6 * c + r < 24 := by omega
  obtain ⟨o, ho, eo⟩ := KS_own h.1 hk24
  have own : F_Cq_ownerOf (nI c) (nI r) S = nI o := (fq_own hc hr).trans eo
  have k6 : (6 : Int32) * nI c + nI r = nI (6 * c + r) := nI_6c
  have kd : nI (6 * c + r) / 6 = nI c := by rw [k6_d hk24]; congr 1; omega
  have km : nI (6 * c + r) - nI (6 * c + r) / 6 * 6 = nI r := by rw [k6_m hk24]; congr 1; omega
  rw [er, own, k6, km, kd]
  have x30 : ¬ x3 = 0 := by
    rw [e3]
    exact fun y => absurd ((hl_inj (b := 0) (by omega) (by omega)).mp y) (by omega)
  obtain ⟨nt, hnt, ent⟩ := so_ex (N := 3) (x >>> ((5 : Int32) &&& 31)) 3 rfl (by omega) (by omega)
  rw [ent]
  refine ⟨so_P x30, pq_cell hc hr, fun hw => ac_wipe h.1 hw fun hu => ac_wipe h.u hu ?_⟩
  obtain ⟨jw, dw, ew⟩ := jj_wipe h
  obtain ⟨m, hm, em⟩ := so_ex (N := 41) (z >>> ((6 : Int32) &&& 31)) 41 rfl (by omega) (by omega)
  rw [em]
  have t0 : tkN 0 = 0 := by decide
  refine ⟨ew, so_P (by decide), fun hw hu => ?_⟩
  have w1 : wdOk 0 (nI m - 6) 0 := by
    refine ⟨⟨0, by omega, rfl⟩, fun _ => ?_, fun q => absurd q (by decide), fun q => absurd q (by decide)⟩
    have z6 : (6 : Int32).toInt = 6 := rfl
    have e : (nI m - 6).toInt = m - 6 := by rw [i32_sub (by rw [nI_toInt (by omega), z6]; omega), nI_toInt (by omega), z6]
    have za : (-1000000 : Int32).toInt = -1000000 := rfl
    have zb : (1000000 : Int32).toInt = 1000000 := rfl
    rw [i32_le, i32_le, e, za, zb]
    omega
  refine bo_word jw hw hu w1 dw (by omega) (by omega) (by omega) fun U12 j12 d12 => ⟨rfl, so_P (by decide), fun K hK => ?_⟩
  rw [t0] at d12
  -- what is told, from a draft that is ready
  have go : ∀ (g : Nat) (S18 U19 : hs_S), g ≤ 3 → JJ n S18 U19 → dr S18 g 1 → S18.1 20 1 (6 * c + r) = nI o → S18.2 = S.2 → K (nI g) S18 U19 := fun g S18 U19 hg jS hd e20 eS2 => hK _ _ _ ⟨so_P (by decide), fun hw hu => ?_⟩
  · have j1 := go 1 _ _ (by omega) j12 d12 eo rfl
    refine ⟨fun _ => j1, fun _ => ?_⟩
    obtain ⟨i1, hi1, ei1⟩ := so_ex (N := 7) (x >>> ((4 : Int32) &&& 31)) 7 rfl (by omega) (by omega)
    obtain ⟨i2, hi2, ei2⟩ := so_ex (N := 4) (x >>> ((7 : Int32) &&& 31)) 4 rfl (by omega) (by omega)
    obtain ⟨i3, hi3, ei3⟩ := so_ex (N := 6) (x >>> ((9 : Int32) &&& 31)) 6 rfl (by omega) (by omega)
    obtain ⟨i4, hi4, ei4⟩ := so_ex (N := 6) (x >>> ((2 : Int32) &&& 31)) 6 rfl (by omega) (by omega)
    have en : (1 : Int32) + nI i1 = nI (1 + i1) := by rw [show (1 : Int32) = nI 1 from rfl, nI_add]
    have en8 : (8 : Int32) + nI i4 = nI (8 + i4) := by rw [show (8 : Int32) = nI 8 from rfl, nI_add]
    rw [ei1, ei2, ei3, ei4, en, en8]
    refine ⟨so_P (by decide), so_P (by decide), so_P (by decide), fun hw hu => ?_⟩
    have w2 : wdOk (nI (1 + i1)) (nI i2) (nI i3) := ⟨⟨1 + i1, by omega, rfl⟩, fun q => absurd ((hl_inj (b := 0) (by omega) (by omega)).mp q) (by omega), fun _ _ => ⟨i2, hi2, rfl⟩, fun _ => ⟨i3, hi3, rfl⟩⟩
    have t2 : tkN (nI (1 + i1)) = 0 := if_pos ((hl_lt (b := 8) (by omega) (by omega)).mpr (by omega))
    refine bo_word j12 hw hu w2 d12 (by omega) (by omega) (by omega) fun U13 j13 d13 => ⟨rfl, so_P (by decide), fun hw hu => ?_⟩
    rw [t2] at d13
    have w3 : wdOk (nI (8 + i4)) 0 0 := ⟨⟨8 + i4, by omega, rfl⟩, fun q => absurd ((hl_inj (b := 0) (by omega) (by omega)).mp q) (by omega), fun _ q => absurd ((hl_le (b := 7) (by omega) (by omega)).mp q) (by omega), fun q => absurd ((hl_inj (b := 1) (by omega) (by omega)).mp q) (by omega)⟩
    have t3 : tkN (nI (8 + i4)) = 2 := (if_neg fun q => absurd ((hl_lt (b := 8) (by omega) (by omega)).mp q) (by omega)).trans (if_neg fun q => absurd ((hl_inj (b := 14) (by omega) (by omega)).mp q) (by omega))
    refine bo_word j13 hw hu w3 d13 (by omega) (by omega) (by omega) fun U14 j14 d14 => ⟨rfl, ?_⟩
    rw [t3] at d14
    exact go 3 _ _ (by omega) j14 d14 eo rfl
  -- a notice, given twice
  obtain ⟨b0, hb0, eb0⟩ := KS_ntc jS.1 hc
  refine bo_notice jS (by omega) hw hu hc (by omega) fun U22 j22 => ?_
  rw [eb0]
  refine ⟨nI_lo (by omega), fun q => absurd ((hl_le (a := 51) (by omega) (by omega)).mp q) (by omega), so_P (by decide), fun hw hu => ?_⟩
  refine bo_notice j22 (by omega) hw hu hc (by omega) fun U30 j30 => ?_
  have e25 : (ntT S18 c nt).1 25 1 c = nI nt := (wI_at (S := S18) (t := 25) (i := 1) (j := c) (x := nI nt)).trans (if_pos rfl)
  obtain ⟨W, hW⟩ : ∃ W, W = ntT (ntT S18 c nt) c nt := ⟨_, rfl⟩
  rw [← hW] at j30 ⊢
  have w25 : W.1 25 1 c = nI nt := by rw [hW]; exact (wI_at (S := ntT S18 c nt) (t := 25) (i := 1) (j := c) (x := nI nt)).trans (if_pos rfl)
  have w20 : W.1 20 1 (6 * c + r) = nI o := by rw [hW]; exact e20
  have wd : dr W g 1 := by rw [hW]; exact hd
  have wz : hs_sz W 12 = ne ∧ hs_sz W 13 = hs_sz S 13 ∧ hs_sz W 14 = hs_sz S 14 := by
    have := sz_of (S := S) (T := W) (by rw [hW]; exact eS2)
    exact ⟨this.1.trans hz, this.2⟩
  refine ⟨so_P (by decide), e25, ⟨pq_cell hc hr, KS_cEd j30.1⟩, so_P (by decide), ?_⟩
  rw [fq_edits]
  intro x36 hx36 x37 hx37 hw hu
  obtain ⟨evw, hevw, eev⟩ := (KS_sz j30.1).2.1
  -- what is told goes behind
  obtain ⟨cn, hcn, ecn⟩ : ∃ cn : Nat, cn ≤ 60 ∧ F_Sht_countOf (nI (6 * c + r)) W = nI cn := by
    obtain ⟨V, ev, ng, nl, nE, nB, nR, nd, hX, _⟩ := KS_U j30.1
    have h60' : nE ≤ 60 := hX.1.1.2.2.1.1
    have hzW : hs_sz W 12 = nE := hX.1.2.2.1.1
    have := cnN_le (a53 := V.1 53 1) (c := nI (6 * c + r)) nE
    refine ⟨cnN (V.1 53 1) (nI (6 * c + r)) nE, by omega, ?_⟩
    unfold F_Sht_countOf
    rw [hzW]
    exact (cEO_r _ fun j hj => (hX.2.2.2.1 j hj).1).trans (mEO_n _)
  rw [ecn]
  have nneg : ¬ nI ne = (-2100000003 : Int32) := nne (by omega) (by decide)
  have fq : ∀ T2 T T' d, tld W T (6 * c + r) o d (ntL W c) → JJ (n + 1 + 1 + 1) T T' → hs_cl T2 = hs_cl T → Q 1 T2 T' := fun T2 T T' d t hJ cl => by
    refine hQ _ _ ⟨KS_cl cl hJ.1, (tw_csum cl 6).trans hJ.2.1, cl.trans hJ.2.2⟩ ?_ ?_ (Or.inr ?_)
    · rw [tw_sz cl 13 rfl, ← wz.2.1]; exact t.2.2.2.2.2.2.2.2.2.2.1
    · rw [tw_sz cl 14 rfl, ← wz.2.2]; exact t.2.2.2.2.2.2.2.2.2.2.2
    · rw [tw_sz cl 12 rfl, ← wz.1]; exact t.1.1
  have fz : F_Rnd_wasFrozen (W.2.1 26 1 c) W ≠ 0 → (P_Cq_isFrozen (nI c) W ∧ (¬ F_Cq_isFrozen (nI c) W = 0 ∧ (F_C_events W = F_C_events W ∧ (P_Cq_edits (nI c) (nI r) W ∧ (F_Cq_edits (nI c) (nI r) W = nI cn ∧ (Q 1 W U30)))))) := fun q => ⟨pq_frz j30.1 hc, by rw [fq_frz hc]; exact q, rfl, ⟨pq_cell hc hr, KS_cEd j30.1⟩, by rw [fq_edits]; exact ecn, hQ _ _ (j30.le (by omega) (by omega)) wz.2.1 wz.2.2 (Or.inl wz.1)⟩
  by_cases q36 : x36 = 0
  · rw [if_pos q36] at hx37
    rw [hx37]
    refine bo_enter j30 (by omega) hw hu ho hc hr w20 (by omega) wd (fun q => ⟨fun y => absurd rfl y, fun _ => fz q⟩) (fun _ T T' hJ t => ⟨fun _ => ?_, fun y => absurd y (by rw [wz.1]; exact nneg)⟩)
    rw [wz.1]
    exact ed_fin (zz := x >>> ((5 : Int32) &&& 31)) (x36 := x36) (Q := Q) (g := g) (N := ne) (cn := cn) (nt := nt) (o := o) j30.1 (by omega) hJ hc hr ho t w25 hnt wz.1 hcn ecn (by have := (KS_d j30.1).1.1; omega) (by rw [if_pos q36]; exact wd.1) (fun y => absurd q36 y) w20 (fun T2 cl => fq T2 T T' _ t hJ cl)
  · rw [if_neg q36] at hx37
    rw [hx37]
    refine bo_empty j30 (by omega) hw hu ho hc hr w20 (by omega) (fun q => ⟨fun y => absurd rfl y, fun _ => fz q⟩) (fun _ T T' hJ t => ⟨fun _ => ?_, fun y => absurd y (by rw [wz.1]; exact nneg)⟩)
    rw [wz.1]
    exact ed_fin (zz := x >>> ((5 : Int32) &&& 31)) (x36 := x36) (Q := Q) (g := g) (N := ne) (cn := cn) (nt := nt) (o := o) j30.1 (by omega) hJ hc hr ho t w25 hnt wz.1 hcn ecn (by decide) (by rw [if_neg q36]; exact (KS_d j30.1).1.2.2) (fun _ => rfl) w20 (fun T2 cl => fq T2 T T' _ t hJ cl)
