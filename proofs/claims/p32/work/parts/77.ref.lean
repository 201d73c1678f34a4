/-! ===== what is refused ===== -/
theorem no_m {N : Nat} (hN : N < 2147483648) : ¬ ∃ o : Nat, o < N ∧ (-1 : Int32) = nI o := fun ⟨o, ho, e⟩ => neg1 (by omega) e.symm
theorem no_k {k N : Nat} (hk : k < 2147483648) (h : N ≤ k) : ¬ ∃ o : Nat, o < N ∧ nI k = nI o := fun ⟨o, ho, e⟩ => by
  have := (hl_inj hk (by omega)).mp e
  omega
section
variable {n : Nat} {S : hs_S}
theorem rf_0 (hw : hs_Wi S) : m_L_call 0 (-1) 17 0 S (lIs (-2100000001) S) := lc_0 hw fun hw => ok_C_give hw fun _ => n_o hw (no_m (by omega)) (lX_o ⟨rfl, rfl⟩)
theorem rf_1 (hw : hs_Wi S) : m_L_call 1 0 10 18 S (lIs (-2100000001) S) := lc_1 hw fun hw => by
  rw [show (10 : Int32) / 8 - 2 = -1 by decide]
  exact ok_C_let hw fun _ => y_o (o := 0) hw (by omega) fun _ => n_o hw (no_m (by omega)) (lX_o ⟨rfl, rfl⟩)
theorem rf_2 (hw : hs_Wi S) : m_L_call 1 0 26 114 S (lIs (-2100000001) S) := lc_1 hw fun hw => by
  rw [show (26 : Int32) / 8 - 2 = nI 1 by decide, show (114 : Int32) / 16 - 1 = nI 6 by decide]
  exact ok_C_let hw fun _ => y_o (o := 0) hw (by omega) fun _ => y_o hw (by omega) fun _ => n_cell hw (fun z => no_k (by omega) (by omega) z.2) (lX_o ⟨rfl, rfl⟩)
theorem rf_3 (hw : hs_Wi S) : m_L_call 2 1 4 0 S (lIs (-2100000002) S) := lc_2 hw fun hw => ok_C_word hw (word_vc (fun z => absurd (z.2.2.1 (by decide) (by decide)) (no_k (k := 4) (by omega) (by omega))) (fun _ => lX_a ⟨rfl, rfl⟩) rfl rfl)
theorem rf_4 (hw : hs_Wi S) : m_L_call 3 0 4 0 S (lIs (-2100000001) S) := lc_3 hw fun hw => ok_C_enter hw fun _ => y_o (o := 0) hw (by omega) fun _ => n_cell hw (fun z => no_k (k := 4) (by omega) (by omega) z.1) (lX_o ⟨rfl, rfl⟩)
theorem rf_5 (hw : hs_Wi S) : m_L_call 4 0 0 6 S (lIs (-2100000001) S) := lc_4 hw fun hw => ok_C_empty hw fun _ => y_o (o := 0) hw (by omega) fun _ => n_cell hw (fun z => no_k (k := 6) (by omega) (by omega) z.2) (lX_o ⟨rfl, rfl⟩)
theorem rf_6 (hw : hs_Wi S) : m_L_call 5 (-1) 0 0 S (lIs (-2100000001) S) := lc_5 hw fun hw => ok_C_notice hw fun _ => n_c hw (no_m (by omega)) (lX_o ⟨rfl, rfl⟩)
theorem rf_7 (hw : hs_Wi S) : m_L_call 5 0 (-1) 0 S (lIs (-2100000002) S) := lc_5 hw fun hw => ok_C_notice hw fun _ => y_c (c := 0) hw (by omega) ⟨fun _ => lX_a ⟨rfl, rfl⟩, fun z => absurd (by decide) z⟩
theorem rf_8 (hw : hs_Wi S) : m_L_call 6 0 0 (-1) S (lIs (-2100000001) S) := lc_6 hw fun hw => ok_C_value hw fun _ => y_o (o := 0) hw (by omega) fun _ => n_cell hw (fun z => no_m (by omega) z.2) (lX_o ⟨rfl, rfl⟩)
theorem rf_9 (hw : hs_Wi S) : m_L_call 7 (-1) 0 0 S (lIs (-2100000001) S) := lc_7 hw fun hw => ok_C_fault hw fun _ => n_o hw (no_m (by omega)) (lX_o ⟨rfl, rfl⟩)
theorem rf_10 (hw : hs_Wi S) : m_L_call 8 4 0 0 S (lIs (-2100000001) S) := lc_8 hw fun hw => ok_C_edits hw fun _ => n_cell hw (fun z => no_k (k := 4) (by omega) (by omega) z.1) (lX_o ⟨rfl, rfl⟩)
theorem rf_11 (h : KS n S) (hw : hs_Wi S) : m_L_call 9 0 0 18 S (lIs (-2100000001) S) := lc_9 hw fun hw => by
  have e : F_Sht_placed (nI 0) (-1) S = 0 := by
    obtain ⟨V, ev, ng, nl, nE, nB, nR, nd, hX, _⟩ := KS_U h
    have hz : hs_sz S 12 = nE := hX.1.2.2.1.1
    have h60 : nE ≤ 60 := hX.1.1.2.2.1.1
    unfold F_Sht_placed
    rw [hz]
    refine plc_no (V := V) (ev := ev) (fun j hj => (hX.2.2.2.1 j hj).1) (fun k hk z => ?_) nE (Nat.le_refl _)
    have := cnN_le (a53 := V.1 53 1) (c := nI 0) k
    exact neg1 (by omega) z.2
  rw [show (18 : Int32) / 16 - 2 = -1 by decide]
  exact ok_C_edit hw fun _ => y_cell (c := 0) (r := 0) hw (by omega) (by omega) ⟨KS_cEd h, fun z => absurd e z, fun _ => lX_o ⟨rfl, rfl⟩⟩
theorem rf_12 (hw : hs_Wi S) : m_L_call 10 0 8 49155 S (lIs (-2100000001) S) := lc_10 hw fun hw => by
  rw [show (8 : Int32) / 2 = nI 4 by decide]
  exact ok_C_bid hw fun _ => y_o (o := 0) hw (by omega) fun _ => n_c hw (no_k (by omega) (by omega)) (lX_o ⟨rfl, rfl⟩)
theorem rf_13 (h : KS n S) (hw : hs_Wi S) : m_L_call 11 0 (nI (hs_sz S 13)) 0 S (lIs (-2100000001) S) := lc_11 hw fun hw => ok_C_withdraw hw fun _ => y_o (o := 0) hw (by omega) fun _ => n_b h hw (no_k (by have := (KS_sz h).1; omega) (Nat.le_refl _)) (lX_o ⟨rfl, rfl⟩)
theorem rf_14 (hw : hs_Wi S) : m_L_call 12 4 0 0 S (lIs (-2100000001) S) := lc_12 hw fun hw => ok_C_share hw fun _ => n_c hw (no_k (k := 4) (by omega) (by omega)) (lX_o ⟨rfl, rfl⟩)
theorem rf_15 (hw : hs_Wi S) : m_L_call 13 (-1) 0 0 S (lIs (-2100000001) S) := lc_13 hw fun hw => ok_C_bell hw fun _ => n_c hw (no_m (by omega)) (lX_o ⟨rfl, rfl⟩)
theorem rf_16 (hw : hs_Wi S) : m_L_call 14 (-1) 0 0 S (lIs (-2100000001) S) := lc_14 hw fun hw => ok_C_isFrozen hw fun _ => n_c hw (no_m (by omega)) (lX_o ⟨rfl, rfl⟩)
theorem rf_17 (h : KS n S) (hw : hs_Wi S) : m_L_call 15 (nI (hs_sz S 14)) 0 0 S (lIs (-2100000001) S) := lc_15 hw fun hw => ok_C_round hw fun _ => n_r h hw (no_k (by have := (KS_sz h).1; omega) (Nat.le_refl _)) (lX_o ⟨rfl, rfl⟩)
theorem rf_18 (h : KS n S) (hw : hs_Wi S) : m_L_call 16 (nI (hs_sz S 14)) 0 0 S (lIs (-2100000001) S) := lc_16 hw fun hw => ok_C_priceAnew hw fun _ => n_r h hw (no_k (by have := (KS_sz h).1; omega) (Nat.le_refl _)) (lX_o ⟨rfl, rfl⟩)
theorem rf_19 (h : KS n S) (hw : hs_Wi S) : m_L_call 17 (-1) 0 0 S (lIs (-2100000001) S) := lc_17 hw fun hw => ok_C_got hw fun _ => n_b h hw (no_m (by have := (KS_sz h).1; omega)) (lX_o ⟨rfl, rfl⟩)
theorem rf_20 (hw : hs_Wi S) : m_L_call 18 6 0 0 S (lIs (-2100000001) S) := lc_18 hw fun hw => ok_C_due hw fun _ => n_o hw (no_k (k := 6) (by omega) (by omega)) (lX_o ⟨rfl, rfl⟩)
theorem rf_21 (hw : hs_Wi S) : m_L_call 19 4 0 0 S (lIs (-2100000001) S) := lc_19 hw fun hw => ok_C_settle hw fun _ => n_c hw (no_k (k := 4) (by omega) (by omega)) (lX_o ⟨rfl, rfl⟩)
theorem rf_22 (hw : hs_Wi S) : m_L_call 20 (-1) 0 0 S (lIs (-2100000001) S) := lc_20 hw fun hw => ok_C_cash hw fun _ => n_o hw (no_m (by omega)) (lX_o ⟨rfl, rfl⟩)
theorem rf_23 (hw : hs_Wi S) : m_L_call 21 0 (-1) 0 S (lIs (-2100000002) S) := lc_21 hw fun hw => ok_C_limit hw fun _ => y_o (o := 0) hw (by omega) ⟨fun _ => lX_a ⟨rfl, rfl⟩, fun z => absurd (by decide) z⟩
theorem rf_24 (hw : hs_Wi S) : m_L_call 22 6 0 0 S (lIs (-2100000001) S) := lc_22 hw fun hw => ok_C_exposure hw fun _ => n_o hw (no_k (k := 6) (by omega) (by omega)) (lX_o ⟨rfl, rfl⟩)
theorem rf_25 (h : KS n S) (hw : hs_Wi S) : m_L_call 23 (-1) 0 0 S (lIs (-2100000001) S) := lc_23 hw fun hw => ok_C_strikeBid hw fun _ => n_b h hw (no_m (by have := (KS_sz h).1; omega)) (lX_o ⟨rfl, rfl⟩)
theorem rf_27 (hw : hs_Wi S) : m_L_call 25 0 6 0 S (lIs (-2100000001) S) := lc_25 hw fun hw => ok_C_ownerOf hw fun _ => n_cell hw (fun z => no_k (k := 6) (by omega) (by omega) z.2) (lX_o ⟨rfl, rfl⟩)
theorem rf_28 (hw : hs_Wi S) : m_L_call 26 0 (-1) 0 S (lIs (-2100000001) S) := lc_26 hw fun hw => ok_C_reads hw fun _ => y_o (o := 0) hw (by omega) fun _ => n_cell hw (fun z => no_m (by omega) z.1) (lX_o ⟨rfl, rfl⟩)
end
theorem lq_is {d : Nat} {y : MethodName} {w : Cond} {av : List hs_V} {S T0 : hs_S} {x : Int32} {mc mS : Nat} {Q : Int32 → hs_S → Prop} {X : String → hs_S → Prop} (h : hs_M d y w av S mc mS (hs_qI (lIs x T0)) X) (hQ : hs_Wi T0 → Q x T0) : hs_M d y w av S mc mS (hs_qI Q) X := lq_mono h fun r T hw e => by
  obtain ⟨rfl, rfl⟩ := e
  exact hQ hw
theorem lq_L {d : Nat} {y : MethodName} {w : Cond} {av : List hs_V} {S : hs_S} {mc mS : Nat} {Q Q' : Int64 → hs_S → Prop} {X : String → hs_S → Prop} (h : hs_M d y w av S mc mS (hs_qL Q) X) (hQ : ∀ r T, hs_Wi T → Q r T → Q' r T) : hs_M d y w av S mc mS (hs_qL Q') X := h.mono (fun v S' q => by obtain ⟨hw, r, e, q⟩ := q; exact ⟨hw, r, e, hQ r S' hw q⟩) (fun _ _ q => q)
theorem la_refused {n : Nat} {S : hs_S} (h : KS n S) (hw : hs_Wi S) : m_L_refused (nI (hs_sz S 12)) (nI (hs_sz S 13)) (nI (hs_sz S 14)) S (fun x T => x = 1 ∧ hs_cl T = hs_cl S) := by
  refine ok_L_refused hw fun _ => lq_L (la_all h hw (Nat.le_refl _) (Nat.le_refl _)) fun r2 T hT hP => fun _ => ?_
  obtain ⟨er, ecl⟩ := hP
  have k := KS_cl ecl h
  have z12 : hs_sz S 12 = hs_sz T 12 := (tw_sz ecl 12 rfl).symm
  have z13 : hs_sz S 13 = hs_sz T 13 := (tw_sz ecl 13 rfl).symm
  have z14 : hs_sz S 14 = hs_sz T 14 := (tw_sz ecl 14 rfl).symm
  rw [z12, z13, z14]
  refine lq_is (rf_0 hT) fun _ => ⟨rfl, fun hw => lq_is (rf_1 hw) fun _ => ⟨rfl, fun hw => lq_is (rf_2 hw) fun _ => ⟨rfl, fun hw => lq_is (rf_3 hw) fun _ => ⟨rfl, fun hw => lq_is (rf_4 hw) fun _ => ⟨rfl, fun hw => lq_is (rf_5 hw) fun _ => ⟨rfl, fun hw => lq_is (rf_6 hw) fun _ => ⟨rfl, fun hw => lq_is (rf_7 hw) fun _ => ⟨rfl, fun hw => ?_⟩⟩⟩⟩⟩⟩⟩⟩
  refine lq_is (rf_8 hw) fun _ => ⟨rfl, fun hw => lq_is (rf_9 hw) fun _ => ⟨rfl, fun hw => lq_is (rf_10 hw) fun _ => ⟨rfl, fun hw => lq_is (rf_11 k hw) fun _ => ⟨rfl, fun hw => lq_is (rf_12 hw) fun _ => ⟨rfl, fun hw => lq_is (rf_13 k hw) fun _ => ⟨rfl, fun hw => lq_is (rf_14 hw) fun _ => ⟨rfl, fun hw => lq_is (rf_15 hw) fun _ => ⟨rfl, fun hw => ?_⟩⟩⟩⟩⟩⟩⟩⟩
  refine lq_is (rf_16 hw) fun _ => ⟨rfl, fun hw => lq_is (rf_17 k hw) fun _ => ⟨rfl, fun hw => lq_is (rf_18 k hw) fun _ => ⟨rfl, fun hw => lq_is (rf_19 k hw) fun _ => ⟨rfl, fun hw => lq_is (rf_20 hw) fun _ => ⟨rfl, fun hw => lq_is (rf_21 hw) fun _ => ⟨rfl, fun hw => lq_is (rf_22 hw) fun _ => ⟨rfl, fun hw => lq_is (rf_23 hw) fun _ => ⟨rfl, fun hw => ?_⟩⟩⟩⟩⟩⟩⟩⟩
  refine lq_is (rf_24 hw) fun _ => ⟨rfl, fun hw => lq_is (rf_25 k hw) fun _ => ⟨rfl, fun hw => lq_is (ac_se_o k hw) fun _ => ⟨rfl, fun hw => lq_is (rf_27 hw) fun _ => ⟨rfl, fun hw => lq_is (rf_28 hw) fun _ => ⟨rfl, fun hw => ?_⟩⟩⟩⟩⟩
  refine lq_L (la_all k hw (Nat.le_refl _) (Nat.le_refl _)) fun r T2 _ hP => ?_
  obtain ⟨e2, ec2⟩ := hP
  refine ⟨?_, rfl, ec2.trans ecl⟩
  rw [e2, er, z13, z14, fAll_tw ecl]
  exact (lg_cmp_eq _ _).mpr rfl
