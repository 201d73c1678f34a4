def m_C_give (a1 : Int32) (a2 : Int32) (a3 : Int32) (a4 : Int32) (S : hs_S) (Q : Int32 → hs_S → Prop) (Ex : String → hs_S → Prop) : Prop := hs_M 8 yX10_give (.code yX10_give cX10_give 6 (some FieldType.int)) [.inr (.inr (10, 1)), .inl a1, .inl a2, .inl a3, .inl a4] S 5 30 (hs_qI Q) (hs_qX Ex)
def vc_C_give (a1 : Int32) (a2 : Int32) (a3 : Int32) (a4 : Int32) (S : hs_S) (Q : Int32 → hs_S → Prop) (Ex : String → hs_S → Prop) : Prop := (hs_Wi S → (m_C_needOwner a1 S (fun S1 => (hs_Wi S1 → (m_C_needOwner a4 S1 (fun S3 => (hs_Wi S3 → (m_C_cellAt a2 a3 S3 (fun r6 S5 => (hs_Wi S5 → (m_C_needOwnCell a1 r6 S5 (fun S7 => ((0 ≤ r6.toInt ∧ r6.toInt < 24) ∧ (∀ S10 : hs_S, S10 = (hs_wI S7 20 1 r6.toNatClampNeg a4) → (∀ S11 : hs_S, S11 = (hs_wI S10 10 1 5 ((S10.1 10 1 5) + (1 : Int32))) → (Q (F_Rts_ownedBy 1 a4 S11) S11))))) Ex))) Ex))) Ex))) Ex))
set_option maxRecDepth 100000 in
set_option maxHeartbeats 4000000 in
theorem ok_C_give {a1 : Int32} {a2 : Int32} {a3 : Int32} {a4 : Int32} {S : hs_S} {Q : Int32 → hs_S → Prop} {Ex : String → hs_S → Prop} (hw : hs_Wi S) (hv : vc_C_give a1 a2 a3 a4 S Q Ex) : m_C_give a1 a2 a3 a4 S Q Ex := by
  unfold vc_C_give at hv
  refine hs_body (own := RX10) rfl rfl (Nat.le_of_ble_eq_true rfl) (fun Z X E N J0 => ?_)
  show wa Z 0 0 S 0 [(0, .inr (.inr (10, 1))), (1, .inl a1), (2, .inl a2), (3, .inl a3), (4, .inl a4)] []
  refine wa_iload_n X 1 rfl dX10_give_0 rfl ?_
  refine wa_callS X (As := [.inl a1]) (hv hw) kw_465 kw_21 kw_463 kw_464 nd_X10_needOwner rfl rfl (Nat.le_of_ble_eq_true rfl) dX10_give_1 ⟨⟨Nat.le_of_ble_eq_true rfl, Nat.le_of_ble_eq_true rfl⟩, Nat.le_of_ble_eq_true rfl, Nat.le_of_ble_eq_true rfl⟩ (fun v S1 h => ?_) (fun _ _ h => wx_out X E N (Nat.le_of_ble_eq_true rfl) (Nat.le_of_ble_eq_true rfl) h)
  obtain ⟨hw, rfl, hv⟩ := h
  refine wa_iload X 4 rfl dX10_give_4 ?_
  refine wa_callS X (As := [.inl a4]) (hv hw) kw_465 kw_21 kw_463 kw_464 nd_X10_needOwner rfl rfl (Nat.le_of_ble_eq_true rfl) dX10_give_6 ⟨⟨Nat.le_of_ble_eq_true rfl, Nat.le_of_ble_eq_true rfl⟩, Nat.le_of_ble_eq_true rfl, Nat.le_of_ble_eq_true rfl⟩ (fun v S3 h => ?_) (fun _ _ h => wx_out X E N (Nat.le_of_ble_eq_true rfl) (Nat.le_of_ble_eq_true rfl) h)
  obtain ⟨hw, rfl, hv⟩ := h
  refine wa_iload_n X 2 rfl dX10_give_9 rfl ?_
  refine wa_iload_n X 3 rfl dX10_give_10 rfl ?_
  refine wa_callS X (As := [.inl a2, .inl a3]) (hv hw) kw_352 kw_21 kw_350 kw_351 nd_X10_cellAt rfl rfl (Nat.le_of_ble_eq_true rfl) dX10_give_11 ⟨⟨Nat.le_of_ble_eq_true rfl, Nat.le_of_ble_eq_true rfl⟩, Nat.le_of_ble_eq_true rfl, Nat.le_of_ble_eq_true rfl⟩ (fun v S5 h => ?_) (fun _ _ h => wx_out X E N (Nat.le_of_ble_eq_true rfl) (Nat.le_of_ble_eq_true rfl) h)
  obtain ⟨hw, r6, rfl, hv⟩ := h
  refine wa_istore X (lv' := [(5, .inl r6), (0, .inr (.inr (10, 1))), (1, .inl a1), (2, .inl a2), (3, .inl a3), (4, .inl a4)]) dX10_give_14 (by decide) rfl ?_
  refine wa_aload_n X 1 rfl dX10_give_16 rfl ?_
  refine wa_iload_n X 2 rfl dX10_give_17 rfl ?_
  refine wa_iload X 0 rfl dX10_give_18 ?_
  refine wa_callV X (As := [.inl a1, .inl r6]) (hv hw) hk_10 hc_10 rfl kw_521 kw_21 kw_518 kw_520 kw_1 nd_X10_needOwnCell rfl rfl (Nat.le_of_ble_eq_true rfl) dX10_give_20 hs_1ne ⟨⟨Nat.le_of_ble_eq_true rfl, Nat.le_of_ble_eq_true rfl⟩, Nat.le_of_ble_eq_true rfl, Nat.le_of_ble_eq_true rfl⟩ (fun v S7 h => ?_) (fun _ _ h => wx_out X E N (Nat.le_of_ble_eq_true rfl) (Nat.le_of_ble_eq_true rfl) h)
  obtain ⟨hw, rfl, hv⟩ := h
  refine wa_aload_n X 1 rfl dX10_give_23 rfl ?_
  refine wa_getfw X hw (j := 0) (r := 1) hk_10 hc_10 i_10 (by decide) kw_327 rfl rfl (by decide) rfl dX10_give_24 hs_1ne ?_
  refine wa_getfw X hw (j := 0) (r := 1) hk_9 hc_9 i_9 (by decide) kw_134 rfl rfl (by decide) rfl dX10_give_27 hs_1ne ?_
  refine wa_getfw X hw (j := 0) (r := 1) hk_7 hc_7 i_7 (by decide) kw_68 rfl rfl (by decide) rfl dX10_give_30 hs_1ne ?_
  refine wa_iload X 0 rfl dX10_give_33 ?_
  refine wa_iload X 5 rfl dX10_give_35 ?_
  obtain ⟨o9, hv⟩ := hv
  refine wa_iast X hk_20 dX10_give_37 hs_1ne o9 (hs_eqS fun S10 hS10 => ?_)
  replace hv := hv S10 hS10
  replace hw : hs_Wi S10 := hS10 ▸ hs_Wi_I hw
  refine wa_aload_n X 1 rfl dX10_give_38 rfl ?_
  refine wa_dup X dX10_give_39 rfl ?_
  refine wa_getI X (j := 5) hk_10 hc_10 i_10 (by decide) kw_332 rfl dX10_give_40 hs_1ne ?_
  refine wa_iconst X dX10_give_43 kc1 ?_
  refine wa_iadd X dX10_give_44 ?_
  refine wa_putI X (j := 5) hk_10 hc_10 i_10 tyX10 tyX10_ok nmX10 (by decide) kw_332 rfl rfl dX10_give_45 hs_1ne ⟨rfl, Or.inl rfl⟩ (hs_eqS fun S11 hS11 => ?_)
  replace hv := hv S11 hS11
  replace hw : hs_Wi S11 := hS11 ▸ hs_Wi_I hw
  refine wa_aload_n X 1 rfl dX10_give_48 rfl ?_
  refine wa_getfw X hw (j := 0) (r := 1) hk_10 hc_10 i_10 (by decide) kw_327 rfl rfl (by decide) rfl dX10_give_49 hs_1ne ?_
  refine wa_getfw X hw (j := 0) (r := 1) hk_9 hc_9 i_9 (by decide) kw_134 rfl rfl (by decide) rfl dX10_give_52 hs_1ne ?_
  refine wa_iload X 5 rfl dX10_give_55 ?_
  refine wa_callV X (As := [.inl a4]) (f_Rts_ownedBy hs_1ne hw) hk_7 hc_7 rfl kw_541 kw_23 kw_538 kw_539 kw_540 nd_X7_ownedBy rfl rfl (Nat.le_of_ble_eq_true rfl) dX10_give_57 hs_1ne ⟨⟨Nat.le_of_ble_eq_true rfl, Nat.le_of_ble_eq_true rfl⟩, Nat.le_of_ble_eq_true rfl, Nat.le_of_ble_eq_true rfl⟩ (hs_pdk0 ?_) (fun _ _ h => h.elim)
  exact wa_ireturn X E dX10_give_60 (Nat.le_of_ble_eq_true rfl) (Nat.le_of_ble_eq_true rfl) (Or.inl rfl) ⟨hw, _, rfl, hv⟩

def m_C_let (a1 : Int32) (a2 : Int32) (a3 : Int32) (a4 : Int32) (a5 : Int32) (a6 : Int32) (S : hs_S) (Q : Int32 → hs_S → Prop) (Ex : String → hs_S → Prop) : Prop := hs_M 8 yX10_let (.code yX10_let cX10_let 9 (some FieldType.int)) [.inr (.inr (10, 1)), .inl a1, .inl a2, .inl a3, .inl a4, .inl a5, .inl a6] S 7 42 (hs_qI Q) (hs_qX Ex)
def vc_C_let (a1 : Int32) (a2 : Int32) (a3 : Int32) (a4 : Int32) (a5 : Int32) (a6 : Int32) (S : hs_S) (Q : Int32 → hs_S → Prop) (Ex : String → hs_S → Prop) : Prop := (hs_Wi S → (m_C_needOwner a1 S (fun S1 => (hs_Wi S1 → (m_C_needOwner a2 S1 (fun S3 => (hs_Wi S3 → (m_C_cellAt a3 a4 S3 (fun r6 S5 => (hs_Wi S5 → (m_C_cellAt a3 a5 S5 (fun r8 S7 => ((¬ a1 = a2 → ((r6 ≤ r8 → (∀ S11 : hs_S, S11 = (hs_wI S7 10 1 5 ((S7.1 10 1 5) + (1 : Int32))) → ((P_Rts_letRead 1 a1 a2 r6 r8 a6 S11) ∧ (∀ r14 : Int32, ∀ S13 : hs_S, R_Rts_letRead 1 a1 a2 r6 r8 a6 S11 r14 S13 → (Q r14 S13))))) ∧ (¬ r6 ≤ r8 → (Ex "java/lang/IllegalArgumentException" S7)))) ∧ (a1 = a2 → (Ex "java/lang/IllegalArgumentException" S7)))) Ex))) Ex))) Ex))) Ex))
set_option maxRecDepth 100000 in
set_option maxHeartbeats 4000000 in
theorem ok_C_let {a1 : Int32} {a2 : Int32} {a3 : Int32} {a4 : Int32} {a5 : Int32} {a6 : Int32} {S : hs_S} {Q : Int32 → hs_S → Prop} {Ex : String → hs_S → Prop} (hw : hs_Wi S) (hv : vc_C_let a1 a2 a3 a4 a5 a6 S Q Ex) : m_C_let a1 a2 a3 a4 a5 a6 S Q Ex := by
  unfold vc_C_let at hv
  refine hs_body (own := RX10) rfl rfl (Nat.le_of_ble_eq_true rfl) (fun Z X E N J0 => ?_)
  show wa Z 0 0 S 0 [(0, .inr (.inr (10, 1))), (1, .inl a1), (2, .inl a2), (3, .inl a3), (4, .inl a4), (5, .inl a5), (6, .inl a6)] []
  refine wa_iload_n X 1 rfl dX10_let_0 rfl ?_
  refine wa_callS X (As := [.inl a1]) (hv hw) kw_465 kw_21 kw_463 kw_464 nd_X10_needOwner rfl rfl (Nat.le_of_ble_eq_true rfl) dX10_let_1 ⟨⟨Nat.le_of_ble_eq_true rfl, Nat.le_of_ble_eq_true rfl⟩, Nat.le_of_ble_eq_true rfl, Nat.le_of_ble_eq_true rfl⟩ (fun v S1 h => ?_) (fun _ _ h => wx_out X E N (Nat.le_of_ble_eq_true rfl) (Nat.le_of_ble_eq_true rfl) h)
  obtain ⟨hw, rfl, hv⟩ := h
  refine wa_iload_n X 2 rfl dX10_let_4 rfl ?_
  refine wa_callS X (As := [.inl a2]) (hv hw) kw_465 kw_21 kw_463 kw_464 nd_X10_needOwner rfl rfl (Nat.le_of_ble_eq_true rfl) dX10_let_5 ⟨⟨Nat.le_of_ble_eq_true rfl, Nat.le_of_ble_eq_true rfl⟩, Nat.le_of_ble_eq_true rfl, Nat.le_of_ble_eq_true rfl⟩ (fun v S3 h => ?_) (fun _ _ h => wx_out X E N (Nat.le_of_ble_eq_true rfl) (Nat.le_of_ble_eq_true rfl) h)
  obtain ⟨hw, rfl, hv⟩ := h
  refine wa_iload_n X 3 rfl dX10_let_8 rfl ?_
  refine wa_iload X 4 rfl dX10_let_9 ?_
  refine wa_callS X (As := [.inl a3, .inl a4]) (hv hw) kw_352 kw_21 kw_350 kw_351 nd_X10_cellAt rfl rfl (Nat.le_of_ble_eq_true rfl) dX10_let_11 ⟨⟨Nat.le_of_ble_eq_true rfl, Nat.le_of_ble_eq_true rfl⟩, Nat.le_of_ble_eq_true rfl, Nat.le_of_ble_eq_true rfl⟩ (fun v S5 h => ?_) (fun _ _ h => wx_out X E N (Nat.le_of_ble_eq_true rfl) (Nat.le_of_ble_eq_true rfl) h)
  obtain ⟨hw, r6, rfl, hv⟩ := h
  refine wa_istore X (lv' := [(7, .inl r6), (0, .inr (.inr (10, 1))), (1, .inl a1), (2, .inl a2), (3, .inl a3), (4, .inl a4), (5, .inl a5), (6, .inl a6)]) dX10_let_14 (by decide) rfl ?_
  refine wa_iload_n X 4 rfl dX10_let_16 rfl ?_
  refine wa_iload X 6 rfl dX10_let_17 ?_
  refine wa_callS X (As := [.inl a3, .inl a5]) (hv hw) kw_352 kw_21 kw_350 kw_351 nd_X10_cellAt rfl rfl (Nat.le_of_ble_eq_true rfl) dX10_let_19 ⟨⟨Nat.le_of_ble_eq_true rfl, Nat.le_of_ble_eq_true rfl⟩, Nat.le_of_ble_eq_true rfl, Nat.le_of_ble_eq_true rfl⟩ (fun v S7 h => ?_) (fun _ _ h => wx_out X E N (Nat.le_of_ble_eq_true rfl) (Nat.le_of_ble_eq_true rfl) h)
  obtain ⟨hw, r8, rfl, hv⟩ := h
  refine wa_istore X (lv' := [(8, .inl r8), (7, .inl r6), (0, .inr (.inr (10, 1))), (1, .inl a1), (2, .inl a2), (3, .inl a3), (4, .inl a4), (5, .inl a5), (6, .inl a6)]) dX10_let_22 (by decide) rfl ?_
  refine wa_iload_n X 3 rfl dX10_let_24 rfl ?_
  refine wa_iload_n X 4 rfl dX10_let_25 rfl ?_
  refine wa_icmp_ne X (tgt := 39) dX10_let_26 (by decide) (fun c9 => ?_) (fun c9 => ?_)
  · replace hv := hv.1 c9
    refine wa_iload X 0 rfl dX10_let_39 ?_
    refine wa_iload X 1 rfl dX10_let_41 ?_
    refine wa_icmp_ge X (tgt := 56) dX10_let_43 (by decide) (fun c10 => ?_) (fun c10 => ?_)
    · replace hv := hv.1 c10
      refine wa_aload_n X 2 rfl dX10_let_56 rfl ?_
      refine wa_dup X dX10_let_57 rfl ?_
      refine wa_getI X (j := 5) hk_10 hc_10 i_10 (by decide) kw_332 rfl dX10_let_58 hs_1ne ?_
      refine wa_iconst X dX10_let_61 kc1 ?_
      refine wa_iadd X dX10_let_62 ?_
      refine wa_putI X (j := 5) hk_10 hc_10 i_10 tyX10 tyX10_ok nmX10 (by decide) kw_332 rfl rfl dX10_let_63 hs_1ne ⟨rfl, Or.inl rfl⟩ (hs_eqS fun S11 hS11 => ?_)
      replace hv := hv S11 hS11
      replace hw : hs_Wi S11 := hS11 ▸ hs_Wi_I hw
      refine wa_aload_n X 2 rfl dX10_let_66 rfl ?_
      refine wa_getfw X hw (j := 0) (r := 1) hk_10 hc_10 i_10 (by decide) kw_327 rfl rfl (by decide) rfl dX10_let_67 hs_1ne ?_
      refine wa_getfw X hw (j := 0) (r := 1) hk_9 hc_9 i_9 (by decide) kw_134 rfl rfl (by decide) rfl dX10_let_70 hs_1ne ?_
      refine wa_iload_n X 3 rfl dX10_let_73 rfl ?_
      refine wa_iload_n X 4 rfl dX10_let_74 rfl ?_
      refine wa_iload X 1 rfl dX10_let_75 ?_
      refine wa_iload X 0 rfl dX10_let_77 ?_
      refine wa_iload X 8 rfl dX10_let_79 ?_
      obtain ⟨o12, hv⟩ := hv
      refine wa_callV X (As := [.inl a1, .inl a2, .inl r6, .inl r8, .inl a6]) (ok_Rts_letRead hs_1ne hw (v_Rts_letRead o12)) hk_7 hc_7 rfl kw_566 kw_23 kw_563 kw_564 kw_565 nd_X7_letRead rfl rfl (Nat.le_of_ble_eq_true rfl) dX10_let_81 hs_1ne ⟨⟨Nat.le_of_ble_eq_true rfl, Nat.le_of_ble_eq_true rfl⟩, Nat.le_of_ble_eq_true rfl, Nat.le_of_ble_eq_true rfl⟩ (fun _ S13 h => ?_) (fun _ _ h => h.elim)
      obtain ⟨hw, r14, rfl, g15⟩ := h
      replace hv := hv r14 S13 g15
      exact wa_ireturn X E dX10_let_84 (Nat.le_of_ble_eq_true rfl) (Nat.le_of_ble_eq_true rfl) (Or.inl rfl) ⟨hw, _, rfl, hv⟩
    · replace hv := hv.2 c10
      exact wa_throw X E N (names := ["java/lang/RuntimeException", "java/lang/Exception"]) (text := "to is below from") kx_fit_IllegalArgumentException kx_names kw_546 kw_40 (by decide +kernel) kx_at_IllegalArgumentException_84 kx_ok_IllegalArgumentException_84 dX10_let_46 dX10_let_49 dX10_let_50 dX10_let_52 dX10_let_55 ⟨Nat.le_of_ble_eq_true rfl, Nat.le_of_ble_eq_true rfl, Nat.le_of_ble_eq_true rfl, Nat.le_of_ble_eq_true rfl⟩ (Nat.le_of_ble_eq_true rfl) (Nat.le_of_ble_eq_true rfl) ⟨hw, hv⟩
  · replace hv := hv.2 c9
    exact wa_throw X E N (names := ["java/lang/RuntimeException", "java/lang/Exception"]) (text := "both owners are the same") kx_fit_IllegalArgumentException kx_names kw_546 kw_40 (by decide +kernel) kx_at_IllegalArgumentException_84 kx_ok_IllegalArgumentException_84 dX10_let_29 dX10_let_32 dX10_let_33 dX10_let_35 dX10_let_38 ⟨Nat.le_of_ble_eq_true rfl, Nat.le_of_ble_eq_true rfl, Nat.le_of_ble_eq_true rfl, Nat.le_of_ble_eq_true rfl⟩ (Nat.le_of_ble_eq_true rfl) (Nat.le_of_ble_eq_true rfl) ⟨hw, hv⟩

def m_C_ownerOf (a1 : Int32) (a2 : Int32) (S : hs_S) (Q : Int32 → hs_S → Prop) (Ex : String → hs_S → Prop) : Prop := hs_M 8 yX10_ownerOf (.code yX10_ownerOf cX10_ownerOf 3 (some FieldType.int)) [.inr (.inr (10, 1)), .inl a1, .inl a2] S 2 12 (hs_qI Q) (hs_qX Ex)
def vc_C_ownerOf (a1 : Int32) (a2 : Int32) (S : hs_S) (Q : Int32 → hs_S → Prop) (Ex : String → hs_S → Prop) : Prop := (hs_Wi S → (m_C_cellAt a1 a2 S (fun r2 S1 => ((0 ≤ r2.toInt ∧ r2.toInt < 24) ∧ (Q (S1.1 20 1 r2.toNatClampNeg) S1))) Ex))
set_option maxRecDepth 100000 in
set_option maxHeartbeats 4000000 in
theorem ok_C_ownerOf {a1 : Int32} {a2 : Int32} {S : hs_S} {Q : Int32 → hs_S → Prop} {Ex : String → hs_S → Prop} (hw : hs_Wi S) (hv : vc_C_ownerOf a1 a2 S Q Ex) : m_C_ownerOf a1 a2 S Q Ex := by
  unfold vc_C_ownerOf at hv
  refine hs_body (own := RX10) rfl rfl (Nat.le_of_ble_eq_true rfl) (fun Z X E N J0 => ?_)
  show wa Z 0 0 S 0 [(0, .inr (.inr (10, 1))), (1, .inl a1), (2, .inl a2)] []
  refine wa_aload_n X 0 rfl dX10_ownerOf_0 rfl ?_
  refine wa_getfw X hw (j := 0) (r := 1) hk_10 hc_10 i_10 (by decide) kw_327 rfl rfl (by decide) rfl dX10_ownerOf_1 hs_1ne ?_
  refine wa_getfw X hw (j := 0) (r := 1) hk_9 hc_9 i_9 (by decide) kw_134 rfl rfl (by decide) rfl dX10_ownerOf_4 hs_1ne ?_
  refine wa_getfw X hw (j := 0) (r := 1) hk_7 hc_7 i_7 (by decide) kw_68 rfl rfl (by decide) rfl dX10_ownerOf_7 hs_1ne ?_
  refine wa_iload_n X 1 rfl dX10_ownerOf_10 rfl ?_
  refine wa_iload_n X 2 rfl dX10_ownerOf_11 rfl ?_
  refine wa_callS X (As := [.inl a1, .inl a2]) (hv hw) kw_352 kw_21 kw_350 kw_351 nd_X10_cellAt rfl rfl (Nat.le_of_ble_eq_true rfl) dX10_ownerOf_12 ⟨⟨Nat.le_of_ble_eq_true rfl, Nat.le_of_ble_eq_true rfl⟩, Nat.le_of_ble_eq_true rfl, Nat.le_of_ble_eq_true rfl⟩ (fun v S1 h => ?_) (fun _ _ h => wx_out X E N (Nat.le_of_ble_eq_true rfl) (Nat.le_of_ble_eq_true rfl) h)
  obtain ⟨hw, r2, rfl, hv⟩ := h
  obtain ⟨o3, hv⟩ := hv
  refine wa_iald X hk_20 dX10_ownerOf_15 hs_1ne o3 ?_
  exact wa_ireturn X E dX10_ownerOf_16 (Nat.le_of_ble_eq_true rfl) (Nat.le_of_ble_eq_true rfl) (Or.inl rfl) ⟨hw, _, rfl, hv⟩

def m_C_reads (a1 : Int32) (a2 : Int32) (a3 : Int32) (S : hs_S) (Q : Int32 → hs_S → Prop) (Ex : String → hs_S → Prop) : Prop := hs_M 8 yX10_reads (.code yX10_reads cX10_reads 4 (some FieldType.boolean)) [.inr (.inr (10, 1)), .inl a1, .inl a2, .inl a3] S 3 18 (hs_qI Q) (hs_qX Ex)
def vc_C_reads (a1 : Int32) (a2 : Int32) (a3 : Int32) (S : hs_S) (Q : Int32 → hs_S → Prop) (Ex : String → hs_S → Prop) : Prop := (hs_Wi S → (m_C_needOwner a1 S (fun S1 => (hs_Wi S1 → (m_C_cellAt a2 a3 S1 (fun r4 S3 => ((P_Rts_canRead 1 a1 r4 S3) ∧ (((F_Rts_canRead 1 a1 r4 S3) = 0 ∨ (F_Rts_canRead 1 a1 r4 S3) = 1) ∧ (Q (F_Rts_canRead 1 a1 r4 S3) S3)))) Ex))) Ex))
set_option maxRecDepth 100000 in
set_option maxHeartbeats 4000000 in
theorem ok_C_reads {a1 : Int32} {a2 : Int32} {a3 : Int32} {S : hs_S} {Q : Int32 → hs_S → Prop} {Ex : String → hs_S → Prop} (hw : hs_Wi S) (hv : vc_C_reads a1 a2 a3 S Q Ex) : m_C_reads a1 a2 a3 S Q Ex := by
  unfold vc_C_reads at hv
  refine hs_body (own := RX10) rfl rfl (Nat.le_of_ble_eq_true rfl) (fun Z X E N J0 => ?_)
  show wa Z 0 0 S 0 [(0, .inr (.inr (10, 1))), (1, .inl a1), (2, .inl a2), (3, .inl a3)] []
  refine wa_iload_n X 1 rfl dX10_reads_0 rfl ?_
  refine wa_callS X (As := [.inl a1]) (hv hw) kw_465 kw_21 kw_463 kw_464 nd_X10_needOwner rfl rfl (Nat.le_of_ble_eq_true rfl) dX10_reads_1 ⟨⟨Nat.le_of_ble_eq_true rfl, Nat.le_of_ble_eq_true rfl⟩, Nat.le_of_ble_eq_true rfl, Nat.le_of_ble_eq_true rfl⟩ (fun v S1 h => ?_) (fun _ _ h => wx_out X E N (Nat.le_of_ble_eq_true rfl) (Nat.le_of_ble_eq_true rfl) h)
  obtain ⟨hw, rfl, hv⟩ := h
  refine wa_aload_n X 0 rfl dX10_reads_4 rfl ?_
  refine wa_getfw X hw (j := 0) (r := 1) hk_10 hc_10 i_10 (by decide) kw_327 rfl rfl (by decide) rfl dX10_reads_5 hs_1ne ?_
  refine wa_getfw X hw (j := 0) (r := 1) hk_9 hc_9 i_9 (by decide) kw_134 rfl rfl (by decide) rfl dX10_reads_8 hs_1ne ?_
  refine wa_iload_n X 1 rfl dX10_reads_11 rfl ?_
  refine wa_iload_n X 2 rfl dX10_reads_12 rfl ?_
  refine wa_iload_n X 3 rfl dX10_reads_13 rfl ?_
  refine wa_callS X (As := [.inl a2, .inl a3]) (hv hw) kw_352 kw_21 kw_350 kw_351 nd_X10_cellAt rfl rfl (Nat.le_of_ble_eq_true rfl) dX10_reads_14 ⟨⟨Nat.le_of_ble_eq_true rfl, Nat.le_of_ble_eq_true rfl⟩, Nat.le_of_ble_eq_true rfl, Nat.le_of_ble_eq_true rfl⟩ (fun v S3 h => ?_) (fun _ _ h => wx_out X E N (Nat.le_of_ble_eq_true rfl) (Nat.le_of_ble_eq_true rfl) h)
  obtain ⟨hw, r4, rfl, hv⟩ := h
  obtain ⟨o5, hv⟩ := hv
  refine wa_callV X (As := [.inl a1, .inl r4]) (f_Rts_canRead hs_1ne hw o5) hk_7 hc_7 rfl kw_732 kw_23 kw_729 kw_730 kw_731 nd_X7_canRead rfl rfl (Nat.le_of_ble_eq_true rfl) dX10_reads_17 hs_1ne ⟨⟨Nat.le_of_ble_eq_true rfl, Nat.le_of_ble_eq_true rfl⟩, Nat.le_of_ble_eq_true rfl, Nat.le_of_ble_eq_true rfl⟩ (hs_pdk0 ?_) (fun _ _ h => h.elim)
  obtain ⟨o6, hv⟩ := hv
  exact wa_ireturn X E dX10_reads_20 (Nat.le_of_ble_eq_true rfl) (Nat.le_of_ble_eq_true rfl) (Or.inr ⟨rfl, o6⟩) ⟨hw, _, rfl, hv⟩

def m_C_word (a1 : Int32) (a2 : Int32) (a3 : Int32) (S : hs_S) (Q : Int32 → hs_S → Prop) (Ex : String → hs_S → Prop) : Prop := hs_M 6 yX10_word (.code yX10_word cX10_word 4 (some FieldType.int)) [.inr (.inr (10, 1)), .inl a1, .inl a2, .inl a3] S 1 6 (hs_qI Q) (hs_qX Ex)
def vc_C_word (a1 : Int32) (a2 : Int32) (a3 : Int32) (S : hs_S) (Q : Int32 → hs_S → Prop) (Ex : String → hs_S → Prop) : Prop := ((a1 < 0 → (Ex "java/lang/IllegalArgumentException" S)) ∧ (¬ a1 < 0 → ((a1 ≤ (14 : Int32) → ((¬ a1 = 0 → ((a1 < (1 : Int32) → ((¬ a1 = (1 : Int32) → (((S.2.1 9 1 4) ≠ 0) ∧ (((S.1 5 (S.2.1 9 1 4) 3) < (12 : Int32) → (((F_takes a1) ≤ (S.1 5 (S.2.1 9 1 4) 4) → ((P_Fml_append (S.2.1 9 1 4) a1 a2 a3 S) ∧ (∀ S10 : hs_S, S10 = (E_Fml_append (S.2.1 9 1 4) a1 a2 a3 S) → (((S10.2.1 9 1 4) ≠ 0) ∧ (Q (S10.1 5 (S10.2.1 9 1 4) 3) S10))))) ∧ (¬ (F_takes a1) ≤ (S.1 5 (S.2.1 9 1 4) 4) → (Ex "java/lang/IllegalStateException" S)))) ∧ (¬ (S.1 5 (S.2.1 9 1 4) 3) < (12 : Int32) → (Ex "java/lang/IllegalStateException" S))))) ∧ (a1 = (1 : Int32) → ((a3 < 0 → (Ex "java/lang/IllegalArgumentException" S)) ∧ (¬ a3 < 0 → ((a3 < (6 : Int32) → (((S.2.1 9 1 4) ≠ 0) ∧ (((S.1 5 (S.2.1 9 1 4) 3) < (12 : Int32) → (((F_takes a1) ≤ (S.1 5 (S.2.1 9 1 4) 4) → ((P_Fml_append (S.2.1 9 1 4) a1 a2 a3 S) ∧ (∀ S18 : hs_S, S18 = (E_Fml_append (S.2.1 9 1 4) a1 a2 a3 S) → (((S18.2.1 9 1 4) ≠ 0) ∧ (Q (S18.1 5 (S18.2.1 9 1 4) 3) S18))))) ∧ (¬ (F_takes a1) ≤ (S.1 5 (S.2.1 9 1 4) 4) → (Ex "java/lang/IllegalStateException" S)))) ∧ (¬ (S.1 5 (S.2.1 9 1 4) 3) < (12 : Int32) → (Ex "java/lang/IllegalStateException" S))))) ∧ (¬ a3 < (6 : Int32) → (Ex "java/lang/IllegalArgumentException" S)))))))) ∧ (¬ a1 < (1 : Int32) → (((7 : Int32) < a1 → ((¬ a1 = (1 : Int32) → (((S.2.1 9 1 4) ≠ 0) ∧ (((S.1 5 (S.2.1 9 1 4) 3) < (12 : Int32) → (((F_takes a1) ≤ (S.1 5 (S.2.1 9 1 4) 4) → ((P_Fml_append (S.2.1 9 1 4) a1 a2 a3 S) ∧ (∀ S26 : hs_S, S26 = (E_Fml_append (S.2.1 9 1 4) a1 a2 a3 S) → (((S26.2.1 9 1 4) ≠ 0) ∧ (Q (S26.1 5 (S26.2.1 9 1 4) 3) S26))))) ∧ (¬ (F_takes a1) ≤ (S.1 5 (S.2.1 9 1 4) 4) → (Ex "java/lang/IllegalStateException" S)))) ∧ (¬ (S.1 5 (S.2.1 9 1 4) 3) < (12 : Int32) → (Ex "java/lang/IllegalStateException" S))))) ∧ (a1 = (1 : Int32) → ((a3 < 0 → (Ex "java/lang/IllegalArgumentException" S)) ∧ (¬ a3 < 0 → ((a3 < (6 : Int32) → (((S.2.1 9 1 4) ≠ 0) ∧ (((S.1 5 (S.2.1 9 1 4) 3) < (12 : Int32) → (((F_takes a1) ≤ (S.1 5 (S.2.1 9 1 4) 4) → ((P_Fml_append (S.2.1 9 1 4) a1 a2 a3 S) ∧ (∀ S34 : hs_S, S34 = (E_Fml_append (S.2.1 9 1 4) a1 a2 a3 S) → (((S34.2.1 9 1 4) ≠ 0) ∧ (Q (S34.1 5 (S34.2.1 9 1 4) 3) S34))))) ∧ (¬ (F_takes a1) ≤ (S.1 5 (S.2.1 9 1 4) 4) → (Ex "java/lang/IllegalStateException" S)))) ∧ (¬ (S.1 5 (S.2.1 9 1 4) 3) < (12 : Int32) → (Ex "java/lang/IllegalStateException" S))))) ∧ (¬ a3 < (6 : Int32) → (Ex "java/lang/IllegalArgumentException" S)))))))) ∧ (¬ (7 : Int32) < a1 → ((a2 < 0 → (Ex "java/lang/IllegalArgumentException" S)) ∧ (¬ a2 < 0 → ((a2 < (4 : Int32) → ((¬ a1 = (1 : Int32) → (((S.2.1 9 1 4) ≠ 0) ∧ (((S.1 5 (S.2.1 9 1 4) 3) < (12 : Int32) → (((F_takes a1) ≤ (S.1 5 (S.2.1 9 1 4) 4) → ((P_Fml_append (S.2.1 9 1 4) a1 a2 a3 S) ∧ (∀ S43 : hs_S, S43 = (E_Fml_append (S.2.1 9 1 4) a1 a2 a3 S) → (((S43.2.1 9 1 4) ≠ 0) ∧ (Q (S43.1 5 (S43.2.1 9 1 4) 3) S43))))) ∧ (¬ (F_takes a1) ≤ (S.1 5 (S.2.1 9 1 4) 4) → (Ex "java/lang/IllegalStateException" S)))) ∧ (¬ (S.1 5 (S.2.1 9 1 4) 3) < (12 : Int32) → (Ex "java/lang/IllegalStateException" S))))) ∧ (a1 = (1 : Int32) → ((a3 < 0 → (Ex "java/lang/IllegalArgumentException" S)) ∧ (¬ a3 < 0 → ((a3 < (6 : Int32) → (((S.2.1 9 1 4) ≠ 0) ∧ (((S.1 5 (S.2.1 9 1 4) 3) < (12 : Int32) → (((F_takes a1) ≤ (S.1 5 (S.2.1 9 1 4) 4) → ((P_Fml_append (S.2.1 9 1 4) a1 a2 a3 S) ∧ (∀ S51 : hs_S, S51 = (E_Fml_append (S.2.1 9 1 4) a1 a2 a3 S) → (((S51.2.1 9 1 4) ≠ 0) ∧ (Q (S51.1 5 (S51.2.1 9 1 4) 3) S51))))) ∧ (¬ (F_takes a1) ≤ (S.1 5 (S.2.1 9 1 4) 4) → (Ex "java/lang/IllegalStateException" S)))) ∧ (¬ (S.1 5 (S.2.1 9 1 4) 3) < (12 : Int32) → (Ex "java/lang/IllegalStateException" S))))) ∧ (¬ a3 < (6 : Int32) → (Ex "java/lang/IllegalArgumentException" S)))))))) ∧ (¬ a2 < (4 : Int32) → (Ex "java/lang/IllegalArgumentException" S)))))))))) ∧ (a1 = 0 → ((a2 < (-1000000 : Int32) → (Ex "java/lang/IllegalArgumentException" S)) ∧ (¬ a2 < (-1000000 : Int32) → ((a2 ≤ (1000000 : Int32) → ((a1 < (1 : Int32) → ((¬ a1 = (1 : Int32) → (((S.2.1 9 1 4) ≠ 0) ∧ (((S.1 5 (S.2.1 9 1 4) 3) < (12 : Int32) → (((F_takes a1) ≤ (S.1 5 (S.2.1 9 1 4) 4) → ((P_Fml_append (S.2.1 9 1 4) a1 a2 a3 S) ∧ (∀ S61 : hs_S, S61 = (E_Fml_append (S.2.1 9 1 4) a1 a2 a3 S) → (((S61.2.1 9 1 4) ≠ 0) ∧ (Q (S61.1 5 (S61.2.1 9 1 4) 3) S61))))) ∧ (¬ (F_takes a1) ≤ (S.1 5 (S.2.1 9 1 4) 4) → (Ex "java/lang/IllegalStateException" S)))) ∧ (¬ (S.1 5 (S.2.1 9 1 4) 3) < (12 : Int32) → (Ex "java/lang/IllegalStateException" S))))) ∧ (a1 = (1 : Int32) → ((a3 < 0 → (Ex "java/lang/IllegalArgumentException" S)) ∧ (¬ a3 < 0 → ((a3 < (6 : Int32) → (((S.2.1 9 1 4) ≠ 0) ∧ (((S.1 5 (S.2.1 9 1 4) 3) < (12 : Int32) → (((F_takes a1) ≤ (S.1 5 (S.2.1 9 1 4) 4) → ((P_Fml_append (S.2.1 9 1 4) a1 a2 a3 S) ∧ (∀ S69 : hs_S, S69 = (E_Fml_append (S.2.1 9 1 4) a1 a2 a3 S) → (((S69.2.1 9 1 4) ≠ 0) ∧ (Q (S69.1 5 (S69.2.1 9 1 4) 3) S69))))) ∧ (¬ (F_takes a1) ≤ (S.1 5 (S.2.1 9 1 4) 4) → (Ex "java/lang/IllegalStateException" S)))) ∧ (¬ (S.1 5 (S.2.1 9 1 4) 3) < (12 : Int32) → (Ex "java/lang/IllegalStateException" S))))) ∧ (¬ a3 < (6 : Int32) → (Ex "java/lang/IllegalArgumentException" S)))))))) ∧ (¬ a1 < (1 : Int32) → (((7 : Int32) < a1 → ((¬ a1 = (1 : Int32) → (((S.2.1 9 1 4) ≠ 0) ∧ (((S.1 5 (S.2.1 9 1 4) 3) < (12 : Int32) → (((F_takes a1) ≤ (S.1 5 (S.2.1 9 1 4) 4) → ((P_Fml_append (S.2.1 9 1 4) a1 a2 a3 S) ∧ (∀ S77 : hs_S, S77 = (E_Fml_append (S.2.1 9 1 4) a1 a2 a3 S) → (((S77.2.1 9 1 4) ≠ 0) ∧ (Q (S77.1 5 (S77.2.1 9 1 4) 3) S77))))) ∧ (¬ (F_takes a1) ≤ (S.1 5 (S.2.1 9 1 4) 4) → (Ex "java/lang/IllegalStateException" S)))) ∧ (¬ (S.1 5 (S.2.1 9 1 4) 3) < (12 : Int32) → (Ex "java/lang/IllegalStateException" S))))) ∧ (a1 = (1 : Int32) → ((a3 < 0 → (Ex "java/lang/IllegalArgumentException" S)) ∧ (¬ a3 < 0 → ((a3 < (6 : Int32) → (((S.2.1 9 1 4) ≠ 0) ∧ (((S.1 5 (S.2.1 9 1 4) 3) < (12 : Int32) → (((F_takes a1) ≤ (S.1 5 (S.2.1 9 1 4) 4) → ((P_Fml_append (S.2.1 9 1 4) a1 a2 a3 S) ∧ (∀ S85 : hs_S, S85 = (E_Fml_append (S.2.1 9 1 4) a1 a2 a3 S) → (((S85.2.1 9 1 4) ≠ 0) ∧ (Q (S85.1 5 (S85.2.1 9 1 4) 3) S85))))) ∧ (¬ (F_takes a1) ≤ (S.1 5 (S.2.1 9 1 4) 4) → (Ex "java/lang/IllegalStateException" S)))) ∧ (¬ (S.1 5 (S.2.1 9 1 4) 3) < (12 : Int32) → (Ex "java/lang/IllegalStateException" S))))) ∧ (¬ a3 < (6 : Int32) → (Ex "java/lang/IllegalArgumentException" S)))))))) ∧ (¬ (7 : Int32) < a1 → ((a2 < 0 → (Ex "java/lang/IllegalArgumentException" S)) ∧ (¬ a2 < 0 → ((a2 < (4 : Int32) → ((¬ a1 = (1 : Int32) → (((S.2.1 9 1 4) ≠ 0) ∧ (((S.1 5 (S.2.1 9 1 4) 3) < (12 : Int32) → (((F_takes a1) ≤ (S.1 5 (S.2.1 9 1 4) 4) → ((P_Fml_append (S.2.1 9 1 4) a1 a2 a3 S) ∧ (∀ S94 : hs_S, S94 = (E_Fml_append (S.2.1 9 1 4) a1 a2 a3 S) → (((S94.2.1 9 1 4) ≠ 0) ∧ (Q (S94.1 5 (S94.2.1 9 1 4) 3) S94))))) ∧ (¬ (F_takes a1) ≤ (S.1 5 (S.2.1 9 1 4) 4) → (Ex "java/lang/IllegalStateException" S)))) ∧ (¬ (S.1 5 (S.2.1 9 1 4) 3) < (12 : Int32) → (Ex "java/lang/IllegalStateException" S))))) ∧ (a1 = (1 : Int32) → ((a3 < 0 → (Ex "java/lang/IllegalArgumentException" S)) ∧ (¬ a3 < 0 → ((a3 < (6 : Int32) → (((S.2.1 9 1 4) ≠ 0) ∧ (((S.1 5 (S.2.1 9 1 4) 3) < (12 : Int32) → (((F_takes a1) ≤ (S.1 5 (S.2.1 9 1 4) 4) → ((P_Fml_append (S.2.1 9 1 4) a1 a2 a3 S) ∧ (∀ S102 : hs_S, S102 = (E_Fml_append (S.2.1 9 1 4) a1 a2 a3 S) → (((S102.2.1 9 1 4) ≠ 0) ∧ (Q (S102.1 5 (S102.2.1 9 1 4) 3) S102))))) ∧ (¬ (F_takes a1) ≤ (S.1 5 (S.2.1 9 1 4) 4) → (Ex "java/lang/IllegalStateException" S)))) ∧ (¬ (S.1 5 (S.2.1 9 1 4) 3) < (12 : Int32) → (Ex "java/lang/IllegalStateException" S))))) ∧ (¬ a3 < (6 : Int32) → (Ex "java/lang/IllegalArgumentException" S)))))))) ∧ (¬ a2 < (4 : Int32) → (Ex "java/lang/IllegalArgumentException" S)))))))))) ∧ (¬ a2 ≤ (1000000 : Int32) → (Ex "java/lang/IllegalArgumentException" S)))))))) ∧ (¬ a1 ≤ (14 : Int32) → (Ex "java/lang/IllegalArgumentException" S)))))
set_option maxRecDepth 100000 in
set_option maxHeartbeats 4000000 in
theorem ok_C_word {a1 : Int32} {a2 : Int32} {a3 : Int32} {S : hs_S} {Q : Int32 → hs_S → Prop} {Ex : String → hs_S → Prop} (hw : hs_Wi S) (hv : vc_C_word a1 a2 a3 S Q Ex) : m_C_word a1 a2 a3 S Q Ex := by
  unfold vc_C_word at hv
  refine hs_body (own := RX10) rfl rfl (Nat.le_of_ble_eq_true rfl) (fun Z X E N J0 => ?_)
  show wa Z 0 0 S 0 [(0, .inr (.inr (10, 1))), (1, .inl a1), (2, .inl a2), (3, .inl a3)] []
  refine wa_iload_n X 1 rfl dX10_word_0 rfl ?_
  refine wa_if_lt X (tgt := 10) dX10_word_1 (by decide) (fun c1 => ?_) (fun c1 => ?_)
  · replace hv := hv.1 c1
    exact wa_throw X E N (names := ["java/lang/RuntimeException", "java/lang/Exception"]) (text := "no such word") kx_fit_IllegalArgumentException kx_names kw_546 kw_40 (by decide +kernel) kx_at_IllegalArgumentException_84 kx_ok_IllegalArgumentException_84 dX10_word_10 dX10_word_13 dX10_word_14 dX10_word_16 dX10_word_19 ⟨Nat.le_of_ble_eq_true rfl, Nat.le_of_ble_eq_true rfl, Nat.le_of_ble_eq_true rfl, Nat.le_of_ble_eq_true rfl⟩ (Nat.le_of_ble_eq_true rfl) (Nat.le_of_ble_eq_true rfl) ⟨hw, hv⟩
  · replace hv := hv.2 c1
    refine wa_iload_n X 1 rfl dX10_word_4 rfl ?_
    refine wa_bipush X dX10_word_5 kb14 ?_
    refine wa_icmp_le X (tgt := 20) dX10_word_7 (by decide) (fun c2 => ?_) (fun c2 => ?_)
    · replace hv := hv.1 c2
      refine wa_iload_n X 1 rfl dX10_word_20 rfl ?_
      refine wa_if_ne X (tgt := 46) dX10_word_21 (by decide) (fun c3 => ?_) (fun c3 => ?_)
      · replace hv := hv.1 c3
        refine wa_iload_n X 1 rfl dX10_word_46 rfl ?_
        refine wa_iconst X dX10_word_47 kc1 ?_
        refine wa_icmp_lt X (tgt := 76) dX10_word_48 (by decide) (fun c4 => ?_) (fun c4 => ?_)
        · replace hv := hv.1 c4
          refine wa_iload_n X 1 rfl dX10_word_76 rfl ?_
          refine wa_iconst X dX10_word_77 kc1 ?_
          refine wa_icmp_ne X (tgt := 101) dX10_word_78 (by decide) (fun c5 => ?_) (fun c5 => ?_)
          · replace hv := hv.1 c5
            refine wa_aload_n X 0 rfl dX10_word_101 rfl ?_
            refine wa_getfw X hw (j := 0) (r := 1) hk_10 hc_10 i_10 (by decide) kw_327 rfl rfl (by decide) rfl dX10_word_102 hs_1ne ?_
            refine wa_getR X (j := 4) hk_9 hc_9 i_9 (by decide) kw_144 rfl dX10_word_105 hs_1ne ?_
            obtain ⟨o6, hv⟩ := hv
            refine wa_getI X (j := 3) hk_5 hc_5 i_5 (by decide) kw_118 rfl dX10_word_108 o6 ?_
            refine wa_bipush X dX10_word_111 kb12 ?_
            refine wa_icmp_lt X (tgt := 126) dX10_word_113 (by decide) (fun c7 => ?_) (fun c7 => ?_)
            · replace hv := hv.1 c7
              refine wa_aload_n X 0 rfl dX10_word_126 rfl ?_
              refine wa_getfw X hw (j := 0) (r := 1) hk_10 hc_10 i_10 (by decide) kw_327 rfl rfl (by decide) rfl dX10_word_127 hs_1ne ?_
              refine wa_getR X (j := 4) hk_9 hc_9 i_9 (by decide) kw_144 rfl dX10_word_130 hs_1ne ?_
              refine wa_getI X (j := 4) hk_5 hc_5 i_5 (by decide) kw_120 rfl dX10_word_133 o6 ?_
              refine wa_iload_n X 1 rfl dX10_word_136 rfl ?_
              refine wa_callS X (As := [.inl a1]) (f_C_taken hw) kw_578 kw_21 kw_576 kw_577 nd_X10_taken rfl rfl (Nat.le_of_ble_eq_true rfl) dX10_word_137 ⟨⟨Nat.le_of_ble_eq_true rfl, Nat.le_of_ble_eq_true rfl⟩, Nat.le_of_ble_eq_true rfl, Nat.le_of_ble_eq_true rfl⟩ (hs_pdk0 ?_) (fun _ _ h => h.elim)
              refine wa_icmp_ge X (tgt := 153) dX10_word_140 (by decide) (fun c8 => ?_) (fun c8 => ?_)
              · replace hv := hv.1 c8
                refine wa_aload_n X 0 rfl dX10_word_153 rfl ?_
                refine wa_getfw X hw (j := 0) (r := 1) hk_10 hc_10 i_10 (by decide) kw_327 rfl rfl (by decide) rfl dX10_word_154 hs_1ne ?_
                refine wa_getR X (j := 4) hk_9 hc_9 i_9 (by decide) kw_144 rfl dX10_word_157 hs_1ne ?_
                refine wa_iload_n X 1 rfl dX10_word_160 rfl ?_
                refine wa_iload_n X 2 rfl dX10_word_161 rfl ?_
                refine wa_iload_n X 3 rfl dX10_word_162 rfl ?_
                obtain ⟨o9, hv⟩ := hv
                refine wa_callV X (As := [.inl a1, .inl a2, .inl a3]) (f_Fml_append o6 hw o9) hk_5 hc_5 rfl kw_583 kw_27 kw_580 kw_581 kw_582 nd_X5_append rfl rfl (Nat.le_of_ble_eq_true rfl) dX10_word_163 o6 ⟨⟨Nat.le_of_ble_eq_true rfl, Nat.le_of_ble_eq_true rfl⟩, Nat.le_of_ble_eq_true rfl, Nat.le_of_ble_eq_true rfl⟩ (hs_pdk fun S10 hS10 hw => ?_) (fun _ _ h => h.elim)
                replace hv := hv S10 hS10
                refine wa_aload_n X 0 rfl dX10_word_166 rfl ?_
                refine wa_getfw X hw (j := 0) (r := 1) hk_10 hc_10 i_10 (by decide) kw_327 rfl rfl (by decide) rfl dX10_word_167 hs_1ne ?_
                refine wa_getR X (j := 4) hk_9 hc_9 i_9 (by decide) kw_144 rfl dX10_word_170 hs_1ne ?_
                obtain ⟨o11, hv⟩ := hv
                refine wa_getI X (j := 3) hk_5 hc_5 i_5 (by decide) kw_118 rfl dX10_word_173 o11 ?_
                exact wa_ireturn X E dX10_word_176 (Nat.le_of_ble_eq_true rfl) (Nat.le_of_ble_eq_true rfl) (Or.inl rfl) ⟨hw, _, rfl, hv⟩
              · replace hv := hv.2 c8
                exact wa_throw X E N (names := ["java/lang/RuntimeException", "java/lang/Exception"]) (text := "there is not enough on the pile") kx_fit_IllegalStateException kx_names kw_522 kw_41 (by decide +kernel) kx_at_IllegalStateException_120 kx_ok_IllegalStateException_120 dX10_word_143 dX10_word_146 dX10_word_147 dX10_word_149 dX10_word_152 ⟨Nat.le_of_ble_eq_true rfl, Nat.le_of_ble_eq_true rfl, Nat.le_of_ble_eq_true rfl, Nat.le_of_ble_eq_true rfl⟩ (Nat.le_of_ble_eq_true rfl) (Nat.le_of_ble_eq_true rfl) ⟨hw, hv⟩
            · replace hv := hv.2 c7
              exact wa_throw X E N (names := ["java/lang/RuntimeException", "java/lang/Exception"]) (text := "the draft is full") kx_fit_IllegalStateException kx_names kw_522 kw_41 (by decide +kernel) kx_at_IllegalStateException_120 kx_ok_IllegalStateException_120 dX10_word_116 dX10_word_119 dX10_word_120 dX10_word_122 dX10_word_125 ⟨Nat.le_of_ble_eq_true rfl, Nat.le_of_ble_eq_true rfl, Nat.le_of_ble_eq_true rfl, Nat.le_of_ble_eq_true rfl⟩ (Nat.le_of_ble_eq_true rfl) (Nat.le_of_ble_eq_true rfl) ⟨hw, hv⟩
          · replace hv := hv.2 c5
            refine wa_iload_n X 3 rfl dX10_word_81 rfl ?_
            refine wa_if_lt X (tgt := 91) dX10_word_82 (by decide) (fun c12 => ?_) (fun c12 => ?_)
            · replace hv := hv.1 c12
              exact wa_throw X E N (names := ["java/lang/RuntimeException", "java/lang/Exception"]) (text := "no such row") kx_fit_IllegalArgumentException kx_names kw_546 kw_40 (by decide +kernel) kx_at_IllegalArgumentException_84 kx_ok_IllegalArgumentException_84 dX10_word_91 dX10_word_94 dX10_word_95 dX10_word_97 dX10_word_100 ⟨Nat.le_of_ble_eq_true rfl, Nat.le_of_ble_eq_true rfl, Nat.le_of_ble_eq_true rfl, Nat.le_of_ble_eq_true rfl⟩ (Nat.le_of_ble_eq_true rfl) (Nat.le_of_ble_eq_true rfl) ⟨hw, hv⟩
            · replace hv := hv.2 c12
              refine wa_iload_n X 3 rfl dX10_word_85 rfl ?_
              refine wa_bipush X dX10_word_86 kb6 ?_
              refine wa_icmp_lt X (tgt := 101) dX10_word_88 (by decide) (fun c13 => ?_) (fun c13 => ?_)
              · replace hv := hv.1 c13
                refine wa_aload_n X 0 rfl dX10_word_101 rfl ?_
                refine wa_getfw X hw (j := 0) (r := 1) hk_10 hc_10 i_10 (by decide) kw_327 rfl rfl (by decide) rfl dX10_word_102 hs_1ne ?_
                refine wa_getR X (j := 4) hk_9 hc_9 i_9 (by decide) kw_144 rfl dX10_word_105 hs_1ne ?_
                obtain ⟨o14, hv⟩ := hv
                refine wa_getI X (j := 3) hk_5 hc_5 i_5 (by decide) kw_118 rfl dX10_word_108 o14 ?_
                refine wa_bipush X dX10_word_111 kb12 ?_
                refine wa_icmp_lt X (tgt := 126) dX10_word_113 (by decide) (fun c15 => ?_) (fun c15 => ?_)
                · replace hv := hv.1 c15
                  refine wa_aload_n X 0 rfl dX10_word_126 rfl ?_
                  refine wa_getfw X hw (j := 0) (r := 1) hk_10 hc_10 i_10 (by decide) kw_327 rfl rfl (by decide) rfl dX10_word_127 hs_1ne ?_
                  refine wa_getR X (j := 4) hk_9 hc_9 i_9 (by decide) kw_144 rfl dX10_word_130 hs_1ne ?_
                  refine wa_getI X (j := 4) hk_5 hc_5 i_5 (by decide) kw_120 rfl dX10_word_133 o14 ?_
                  refine wa_iload_n X 1 rfl dX10_word_136 rfl ?_
                  refine wa_callS X (As := [.inl a1]) (f_C_taken hw) kw_578 kw_21 kw_576 kw_577 nd_X10_taken rfl rfl (Nat.le_of_ble_eq_true rfl) dX10_word_137 ⟨⟨Nat.le_of_ble_eq_true rfl, Nat.le_of_ble_eq_true rfl⟩, Nat.le_of_ble_eq_true rfl, Nat.le_of_ble_eq_true rfl⟩ (hs_pdk0 ?_) (fun _ _ h => h.elim)
                  refine wa_icmp_ge X (tgt := 153) dX10_word_140 (by decide) (fun c16 => ?_) (fun c16 => ?_)
                  · replace hv := hv.1 c16
                    refine wa_aload_n X 0 rfl dX10_word_153 rfl ?_
                    refine wa_getfw X hw (j := 0) (r := 1) hk_10 hc_10 i_10 (by decide) kw_327 rfl rfl (by decide) rfl dX10_word_154 hs_1ne ?_
                    refine wa_getR X (j := 4) hk_9 hc_9 i_9 (by decide) kw_144 rfl dX10_word_157 hs_1ne ?_
                    refine wa_iload_n X 1 rfl dX10_word_160 rfl ?_
                    refine wa_iload_n X 2 rfl dX10_word_161 rfl ?_
                    refine wa_iload_n X 3 rfl dX10_word_162 rfl ?_
                    obtain ⟨o17, hv⟩ := hv
                    refine wa_callV X (As := [.inl a1, .inl a2, .inl a3]) (f_Fml_append o14 hw o17) hk_5 hc_5 rfl kw_583 kw_27 kw_580 kw_581 kw_582 nd_X5_append rfl rfl (Nat.le_of_ble_eq_true rfl) dX10_word_163 o14 ⟨⟨Nat.le_of_ble_eq_true rfl, Nat.le_of_ble_eq_true rfl⟩, Nat.le_of_ble_eq_true rfl, Nat.le_of_ble_eq_true rfl⟩ (hs_pdk fun S18 hS18 hw => ?_) (fun _ _ h => h.elim)
                    replace hv := hv S18 hS18
                    refine wa_aload_n X 0 rfl dX10_word_166 rfl ?_
                    refine wa_getfw X hw (j := 0) (r := 1) hk_10 hc_10 i_10 (by decide) kw_327 rfl rfl (by decide) rfl dX10_word_167 hs_1ne ?_
                    refine wa_getR X (j := 4) hk_9 hc_9 i_9 (by decide) kw_144 rfl dX10_word_170 hs_1ne ?_
                    obtain ⟨o19, hv⟩ := hv
                    refine wa_getI X (j := 3) hk_5 hc_5 i_5 (by decide) kw_118 rfl dX10_word_173 o19 ?_
                    exact wa_ireturn X E dX10_word_176 (Nat.le_of_ble_eq_true rfl) (Nat.le_of_ble_eq_true rfl) (Or.inl rfl) ⟨hw, _, rfl, hv⟩
                  · replace hv := hv.2 c16
                    exact wa_throw X E N (names := ["java/lang/RuntimeException", "java/lang/Exception"]) (text := "there is not enough on the pile") kx_fit_IllegalStateException kx_names kw_522 kw_41 (by decide +kernel) kx_at_IllegalStateException_120 kx_ok_IllegalStateException_120 dX10_word_143 dX10_word_146 dX10_word_147 dX10_word_149 dX10_word_152 ⟨Nat.le_of_ble_eq_true rfl, Nat.le_of_ble_eq_true rfl, Nat.le_of_ble_eq_true rfl, Nat.le_of_ble_eq_true rfl⟩ (Nat.le_of_ble_eq_true rfl) (Nat.le_of_ble_eq_true rfl) ⟨hw, hv⟩
                · replace hv := hv.2 c15
                  exact wa_throw X E N (names := ["java/lang/RuntimeException", "java/lang/Exception"]) (text := "the draft is full") kx_fit_IllegalStateException kx_names kw_522 kw_41 (by decide +kernel) kx_at_IllegalStateException_120 kx_ok_IllegalStateException_120 dX10_word_116 dX10_word_119 dX10_word_120 dX10_word_122 dX10_word_125 ⟨Nat.le_of_ble_eq_true rfl, Nat.le_of_ble_eq_true rfl, Nat.le_of_ble_eq_true rfl, Nat.le_of_ble_eq_true rfl⟩ (Nat.le_of_ble_eq_true rfl) (Nat.le_of_ble_eq_true rfl) ⟨hw, hv⟩
              · replace hv := hv.2 c13
                exact wa_throw X E N (names := ["java/lang/RuntimeException", "java/lang/Exception"]) (text := "no such row") kx_fit_IllegalArgumentException kx_names kw_546 kw_40 (by decide +kernel) kx_at_IllegalArgumentException_84 kx_ok_IllegalArgumentException_84 dX10_word_91 dX10_word_94 dX10_word_95 dX10_word_97 dX10_word_100 ⟨Nat.le_of_ble_eq_true rfl, Nat.le_of_ble_eq_true rfl, Nat.le_of_ble_eq_true rfl, Nat.le_of_ble_eq_true rfl⟩ (Nat.le_of_ble_eq_true rfl) (Nat.le_of_ble_eq_true rfl) ⟨hw, hv⟩
        · replace hv := hv.2 c4
          refine wa_iload_n X 1 rfl dX10_word_51 rfl ?_
          refine wa_bipush X dX10_word_52 kb7 ?_
          refine wa_icmp_gt X (tgt := 76) dX10_word_54 (by decide) (fun c20 => ?_) (fun c20 => ?_)
          · replace hv := hv.1 c20
            refine wa_iload_n X 1 rfl dX10_word_76 rfl ?_
            refine wa_iconst X dX10_word_77 kc1 ?_
            refine wa_icmp_ne X (tgt := 101) dX10_word_78 (by decide) (fun c21 => ?_) (fun c21 => ?_)
            · replace hv := hv.1 c21
              refine wa_aload_n X 0 rfl dX10_word_101 rfl ?_
              refine wa_getfw X hw (j := 0) (r := 1) hk_10 hc_10 i_10 (by decide) kw_327 rfl rfl (by decide) rfl dX10_word_102 hs_1ne ?_
              refine wa_getR X (j := 4) hk_9 hc_9 i_9 (by decide) kw_144 rfl dX10_word_105 hs_1ne ?_
              obtain ⟨o22, hv⟩ := hv
              refine wa_getI X (j := 3) hk_5 hc_5 i_5 (by decide) kw_118 rfl dX10_word_108 o22 ?_
              refine wa_bipush X dX10_word_111 kb12 ?_
              refine wa_icmp_lt X (tgt := 126) dX10_word_113 (by decide) (fun c23 => ?_) (fun c23 => ?_)
              · replace hv := hv.1 c23
                refine wa_aload_n X 0 rfl dX10_word_126 rfl ?_
                refine wa_getfw X hw (j := 0) (r := 1) hk_10 hc_10 i_10 (by decide) kw_327 rfl rfl (by decide) rfl dX10_word_127 hs_1ne ?_
                refine wa_getR X (j := 4) hk_9 hc_9 i_9 (by decide) kw_144 rfl dX10_word_130 hs_1ne ?_
                refine wa_getI X (j := 4) hk_5 hc_5 i_5 (by decide) kw_120 rfl dX10_word_133 o22 ?_
                refine wa_iload_n X 1 rfl dX10_word_136 rfl ?_
                refine wa_callS X (As := [.inl a1]) (f_C_taken hw) kw_578 kw_21 kw_576 kw_577 nd_X10_taken rfl rfl (Nat.le_of_ble_eq_true rfl) dX10_word_137 ⟨⟨Nat.le_of_ble_eq_true rfl, Nat.le_of_ble_eq_true rfl⟩, Nat.le_of_ble_eq_true rfl, Nat.le_of_ble_eq_true rfl⟩ (hs_pdk0 ?_) (fun _ _ h => h.elim)
                refine wa_icmp_ge X (tgt := 153) dX10_word_140 (by decide) (fun c24 => ?_) (fun c24 => ?_)
                · replace hv := hv.1 c24
                  refine wa_aload_n X 0 rfl dX10_word_153 rfl ?_
                  refine wa_getfw X hw (j := 0) (r := 1) hk_10 hc_10 i_10 (by decide) kw_327 rfl rfl (by decide) rfl dX10_word_154 hs_1ne ?_
                  refine wa_getR X (j := 4) hk_9 hc_9 i_9 (by decide) kw_144 rfl dX10_word_157 hs_1ne ?_
                  refine wa_iload_n X 1 rfl dX10_word_160 rfl ?_
                  refine wa_iload_n X 2 rfl dX10_word_161 rfl ?_
                  refine wa_iload_n X 3 rfl dX10_word_162 rfl ?_
                  obtain ⟨o25, hv⟩ := hv
                  refine wa_callV X (As := [.inl a1, .inl a2, .inl a3]) (f_Fml_append o22 hw o25) hk_5 hc_5 rfl kw_583 kw_27 kw_580 kw_581 kw_582 nd_X5_append rfl rfl (Nat.le_of_ble_eq_true rfl) dX10_word_163 o22 ⟨⟨Nat.le_of_ble_eq_true rfl, Nat.le_of_ble_eq_true rfl⟩, Nat.le_of_ble_eq_true rfl, Nat.le_of_ble_eq_true rfl⟩ (hs_pdk fun S26 hS26 hw => ?_) (fun _ _ h => h.elim)
                  replace hv := hv S26 hS26
                  refine wa_aload_n X 0 rfl dX10_word_166 rfl ?_
                  refine wa_getfw X hw (j := 0) (r := 1) hk_10 hc_10 i_10 (by decide) kw_327 rfl rfl (by decide) rfl dX10_word_167 hs_1ne ?_
                  refine wa_getR X (j := 4) hk_9 hc_9 i_9 (by decide) kw_144 rfl dX10_word_170 hs_1ne ?_
                  obtain ⟨o27, hv⟩ := hv
                  refine wa_getI X (j := 3) hk_5 hc_5 i_5 (by decide) kw_118 rfl dX10_word_173 o27 ?_
                  exact wa_ireturn X E dX10_word_176 (Nat.le_of_ble_eq_true rfl) (Nat.le_of_ble_eq_true rfl) (Or.inl rfl) ⟨hw, _, rfl, hv⟩
                · replace hv := hv.2 c24
                  exact wa_throw X E N (names := ["java/lang/RuntimeException", "java/lang/Exception"]) (text := "there is not enough on the pile") kx_fit_IllegalStateException kx_names kw_522 kw_41 (by decide +kernel) kx_at_IllegalStateException_120 kx_ok_IllegalStateException_120 dX10_word_143 dX10_word_146 dX10_word_147 dX10_word_149 dX10_word_152 ⟨Nat.le_of_ble_eq_true rfl, Nat.le_of_ble_eq_true rfl, Nat.le_of_ble_eq_true rfl, Nat.le_of_ble_eq_true rfl⟩ (Nat.le_of_ble_eq_true rfl) (Nat.le_of_ble_eq_true rfl) ⟨hw, hv⟩
              · replace hv := hv.2 c23
                exact wa_throw X E N (names := ["java/lang/RuntimeException", "java/lang/Exception"]) (text := "the draft is full") kx_fit_IllegalStateException kx_names kw_522 kw_41 (by decide +kernel) kx_at_IllegalStateException_120 kx_ok_IllegalStateException_120 dX10_word_116 dX10_word_119 dX10_word_120 dX10_word_122 dX10_word_125 ⟨Nat.le_of_ble_eq_true rfl, Nat.le_of_ble_eq_true rfl, Nat.le_of_ble_eq_true rfl, Nat.le_of_ble_eq_true rfl⟩ (Nat.le_of_ble_eq_true rfl) (Nat.le_of_ble_eq_true rfl) ⟨hw, hv⟩
            · replace hv := hv.2 c21
              refine wa_iload_n X 3 rfl dX10_word_81 rfl ?_
              refine wa_if_lt X (tgt := 91) dX10_word_82 (by decide) (fun c28 => ?_) (fun c28 => ?_)
              · replace hv := hv.1 c28
                exact wa_throw X E N (names := ["java/lang/RuntimeException", "java/lang/Exception"]) (text := "no such row") kx_fit_IllegalArgumentException kx_names kw_546 kw_40 (by decide +kernel) kx_at_IllegalArgumentException_84 kx_ok_IllegalArgumentException_84 dX10_word_91 dX10_word_94 dX10_word_95 dX10_word_97 dX10_word_100 ⟨Nat.le_of_ble_eq_true rfl, Nat.le_of_ble_eq_true rfl, Nat.le_of_ble_eq_true rfl, Nat.le_of_ble_eq_true rfl⟩ (Nat.le_of_ble_eq_true rfl) (Nat.le_of_ble_eq_true rfl) ⟨hw, hv⟩
              · replace hv := hv.2 c28
                refine wa_iload_n X 3 rfl dX10_word_85 rfl ?_
                refine wa_bipush X dX10_word_86 kb6 ?_
                refine wa_icmp_lt X (tgt := 101) dX10_word_88 (by decide) (fun c29 => ?_) (fun c29 => ?_)
                · replace hv := hv.1 c29
                  refine wa_aload_n X 0 rfl dX10_word_101 rfl ?_
                  refine wa_getfw X hw (j := 0) (r := 1) hk_10 hc_10 i_10 (by decide) kw_327 rfl rfl (by decide) rfl dX10_word_102 hs_1ne ?_
                  refine wa_getR X (j := 4) hk_9 hc_9 i_9 (by decide) kw_144 rfl dX10_word_105 hs_1ne ?_
                  obtain ⟨o30, hv⟩ := hv
                  refine wa_getI X (j := 3) hk_5 hc_5 i_5 (by decide) kw_118 rfl dX10_word_108 o30 ?_
                  refine wa_bipush X dX10_word_111 kb12 ?_
                  refine wa_icmp_lt X (tgt := 126) dX10_word_113 (by decide) (fun c31 => ?_) (fun c31 => ?_)
                  · replace hv := hv.1 c31
                    refine wa_aload_n X 0 rfl dX10_word_126 rfl ?_
                    refine wa_getfw X hw (j := 0) (r := 1) hk_10 hc_10 i_10 (by decide) kw_327 rfl rfl (by decide) rfl dX10_word_127 hs_1ne ?_
                    refine wa_getR X (j := 4) hk_9 hc_9 i_9 (by decide) kw_144 rfl dX10_word_130 hs_1ne ?_
                    refine wa_getI X (j := 4) hk_5 hc_5 i_5 (by decide) kw_120 rfl dX10_word_133 o30 ?_
                    refine wa_iload_n X 1 rfl dX10_word_136 rfl ?_
                    refine wa_callS X (As := [.inl a1]) (f_C_taken hw) kw_578 kw_21 kw_576 kw_577 nd_X10_taken rfl rfl (Nat.le_of_ble_eq_true rfl) dX10_word_137 ⟨⟨Nat.le_of_ble_eq_true rfl, Nat.le_of_ble_eq_true rfl⟩, Nat.le_of_ble_eq_true rfl, Nat.le_of_ble_eq_true rfl⟩ (hs_pdk0 ?_) (fun _ _ h => h.elim)
                    refine wa_icmp_ge X (tgt := 153) dX10_word_140 (by decide) (fun c32 => ?_) (fun c32 => ?_)
                    · replace hv := hv.1 c32
                      refine wa_aload_n X 0 rfl dX10_word_153 rfl ?_
                      refine wa_getfw X hw (j := 0) (r := 1) hk_10 hc_10 i_10 (by decide) kw_327 rfl rfl (by decide) rfl dX10_word_154 hs_1ne ?_
                      refine wa_getR X (j := 4) hk_9 hc_9 i_9 (by decide) kw_144 rfl dX10_word_157 hs_1ne ?_
                      refine wa_iload_n X 1 rfl dX10_word_160 rfl ?_
                      refine wa_iload_n X 2 rfl dX10_word_161 rfl ?_
                      refine wa_iload_n X 3 rfl dX10_word_162 rfl ?_
                      obtain ⟨o33, hv⟩ := hv
                      refine wa_callV X (As := [.inl a1, .inl a2, .inl a3]) (f_Fml_append o30 hw o33) hk_5 hc_5 rfl kw_583 kw_27 kw_580 kw_581 kw_582 nd_X5_append rfl rfl (Nat.le_of_ble_eq_true rfl) dX10_word_163 o30 ⟨⟨Nat.le_of_ble_eq_true rfl, Nat.le_of_ble_eq_true rfl⟩, Nat.le_of_ble_eq_true rfl, Nat.le_of_ble_eq_true rfl⟩ (hs_pdk fun S34 hS34 hw => ?_) (fun _ _ h => h.elim)
                      replace hv := hv S34 hS34
                      refine wa_aload_n X 0 rfl dX10_word_166 rfl ?_
                      refine wa_getfw X hw (j := 0) (r := 1) hk_10 hc_10 i_10 (by decide) kw_327 rfl rfl (by decide) rfl dX10_word_167 hs_1ne ?_
                      refine wa_getR X (j := 4) hk_9 hc_9 i_9 (by decide) kw_144 rfl dX10_word_170 hs_1ne ?_
                      obtain ⟨o35, hv⟩ := hv
                      refine wa_getI X (j := 3) hk_5 hc_5 i_5 (by decide) kw_118 rfl dX10_word_173 o35 ?_
                      exact wa_ireturn X E dX10_word_176 (Nat.le_of_ble_eq_true rfl) (Nat.le_of_ble_eq_true rfl) (Or.inl rfl) ⟨hw, _, rfl, hv⟩
                    · replace hv := hv.2 c32
                      exact wa_throw X E N (names := ["java/lang/RuntimeException", "java/lang/Exception"]) (text := "there is not enough on the pile") kx_fit_IllegalStateException kx_names kw_522 kw_41 (by decide +kernel) kx_at_IllegalStateException_120 kx_ok_IllegalStateException_120 dX10_word_143 dX10_word_146 dX10_word_147 dX10_word_149 dX10_word_152 ⟨Nat.le_of_ble_eq_true rfl, Nat.le_of_ble_eq_true rfl, Nat.le_of_ble_eq_true rfl, Nat.le_of_ble_eq_true rfl⟩ (Nat.le_of_ble_eq_true rfl) (Nat.le_of_ble_eq_true rfl) ⟨hw, hv⟩
                  · replace hv := hv.2 c31
                    exact wa_throw X E N (names := ["java/lang/RuntimeException", "java/lang/Exception"]) (text := "the draft is full") kx_fit_IllegalStateException kx_names kw_522 kw_41 (by decide +kernel) kx_at_IllegalStateException_120 kx_ok_IllegalStateException_120 dX10_word_116 dX10_word_119 dX10_word_120 dX10_word_122 dX10_word_125 ⟨Nat.le_of_ble_eq_true rfl, Nat.le_of_ble_eq_true rfl, Nat.le_of_ble_eq_true rfl, Nat.le_of_ble_eq_true rfl⟩ (Nat.le_of_ble_eq_true rfl) (Nat.le_of_ble_eq_true rfl) ⟨hw, hv⟩
                · replace hv := hv.2 c29
                  exact wa_throw X E N (names := ["java/lang/RuntimeException", "java/lang/Exception"]) (text := "no such row") kx_fit_IllegalArgumentException kx_names kw_546 kw_40 (by decide +kernel) kx_at_IllegalArgumentException_84 kx_ok_IllegalArgumentException_84 dX10_word_91 dX10_word_94 dX10_word_95 dX10_word_97 dX10_word_100 ⟨Nat.le_of_ble_eq_true rfl, Nat.le_of_ble_eq_true rfl, Nat.le_of_ble_eq_true rfl, Nat.le_of_ble_eq_true rfl⟩ (Nat.le_of_ble_eq_true rfl) (Nat.le_of_ble_eq_true rfl) ⟨hw, hv⟩
          · replace hv := hv.2 c20
            refine wa_iload_n X 2 rfl dX10_word_57 rfl ?_
            refine wa_if_lt X (tgt := 66) dX10_word_58 (by decide) (fun c36 => ?_) (fun c36 => ?_)
            · replace hv := hv.1 c36
              exact wa_throw X E N (names := ["java/lang/RuntimeException", "java/lang/Exception"]) (text := "no such column") kx_fit_IllegalArgumentException kx_names kw_546 kw_40 (by decide +kernel) kx_at_IllegalArgumentException_84 kx_ok_IllegalArgumentException_84 dX10_word_66 dX10_word_69 dX10_word_70 dX10_word_72 dX10_word_75 ⟨Nat.le_of_ble_eq_true rfl, Nat.le_of_ble_eq_true rfl, Nat.le_of_ble_eq_true rfl, Nat.le_of_ble_eq_true rfl⟩ (Nat.le_of_ble_eq_true rfl) (Nat.le_of_ble_eq_true rfl) ⟨hw, hv⟩
            · replace hv := hv.2 c36
              refine wa_iload_n X 2 rfl dX10_word_61 rfl ?_
              refine wa_iconst X dX10_word_62 kc4 ?_
              refine wa_icmp_lt X (tgt := 76) dX10_word_63 (by decide) (fun c37 => ?_) (fun c37 => ?_)
              · replace hv := hv.1 c37
                refine wa_iload_n X 1 rfl dX10_word_76 rfl ?_
                refine wa_iconst X dX10_word_77 kc1 ?_
                refine wa_icmp_ne X (tgt := 101) dX10_word_78 (by decide) (fun c38 => ?_) (fun c38 => ?_)
                · replace hv := hv.1 c38
                  refine wa_aload_n X 0 rfl dX10_word_101 rfl ?_
                  refine wa_getfw X hw (j := 0) (r := 1) hk_10 hc_10 i_10 (by decide) kw_327 rfl rfl (by decide) rfl dX10_word_102 hs_1ne ?_
                  refine wa_getR X (j := 4) hk_9 hc_9 i_9 (by decide) kw_144 rfl dX10_word_105 hs_1ne ?_
                  obtain ⟨o39, hv⟩ := hv
                  refine wa_getI X (j := 3) hk_5 hc_5 i_5 (by decide) kw_118 rfl dX10_word_108 o39 ?_
                  refine wa_bipush X dX10_word_111 kb12 ?_
                  refine wa_icmp_lt X (tgt := 126) dX10_word_113 (by decide) (fun c40 => ?_) (fun c40 => ?_)
                  · replace hv := hv.1 c40
                    refine wa_aload_n X 0 rfl dX10_word_126 rfl ?_
                    refine wa_getfw X hw (j := 0) (r := 1) hk_10 hc_10 i_10 (by decide) kw_327 rfl rfl (by decide) rfl dX10_word_127 hs_1ne ?_
                    refine wa_getR X (j := 4) hk_9 hc_9 i_9 (by decide) kw_144 rfl dX10_word_130 hs_1ne ?_
                    refine wa_getI X (j := 4) hk_5 hc_5 i_5 (by decide) kw_120 rfl dX10_word_133 o39 ?_
                    refine wa_iload_n X 1 rfl dX10_word_136 rfl ?_
                    refine wa_callS X (As := [.inl a1]) (f_C_taken hw) kw_578 kw_21 kw_576 kw_577 nd_X10_taken rfl rfl (Nat.le_of_ble_eq_true rfl) dX10_word_137 ⟨⟨Nat.le_of_ble_eq_true rfl, Nat.le_of_ble_eq_true rfl⟩, Nat.le_of_ble_eq_true rfl, Nat.le_of_ble_eq_true rfl⟩ (hs_pdk0 ?_) (fun _ _ h => h.elim)
                    refine wa_icmp_ge X (tgt := 153) dX10_word_140 (by decide) (fun c41 => ?_) (fun c41 => ?_)
                    · replace hv := hv.1 c41
                      refine wa_aload_n X 0 rfl dX10_word_153 rfl ?_
                      refine wa_getfw X hw (j := 0) (r := 1) hk_10 hc_10 i_10 (by decide) kw_327 rfl rfl (by decide) rfl dX10_word_154 hs_1ne ?_
                      refine wa_getR X (j := 4) hk_9 hc_9 i_9 (by decide) kw_144 rfl dX10_word_157 hs_1ne ?_
                      refine wa_iload_n X 1 rfl dX10_word_160 rfl ?_
                      refine wa_iload_n X 2 rfl dX10_word_161 rfl ?_
                      refine wa_iload_n X 3 rfl dX10_word_162 rfl ?_
                      obtain ⟨o42, hv⟩ := hv
                      refine wa_callV X (As := [.inl a1, .inl a2, .inl a3]) (f_Fml_append o39 hw o42) hk_5 hc_5 rfl kw_583 kw_27 kw_580 kw_581 kw_582 nd_X5_append rfl rfl (Nat.le_of_ble_eq_true rfl) dX10_word_163 o39 ⟨⟨Nat.le_of_ble_eq_true rfl, Nat.le_of_ble_eq_true rfl⟩, Nat.le_of_ble_eq_true rfl, Nat.le_of_ble_eq_true rfl⟩ (hs_pdk fun S43 hS43 hw => ?_) (fun _ _ h => h.elim)
                      replace hv := hv S43 hS43
                      refine wa_aload_n X 0 rfl dX10_word_166 rfl ?_
                      refine wa_getfw X hw (j := 0) (r := 1) hk_10 hc_10 i_10 (by decide) kw_327 rfl rfl (by decide) rfl dX10_word_167 hs_1ne ?_
                      refine wa_getR X (j := 4) hk_9 hc_9 i_9 (by decide) kw_144 rfl dX10_word_170 hs_1ne ?_
                      obtain ⟨o44, hv⟩ := hv
                      refine wa_getI X (j := 3) hk_5 hc_5 i_5 (by decide) kw_118 rfl dX10_word_173 o44 ?_
                      exact wa_ireturn X E dX10_word_176 (Nat.le_of_ble_eq_true rfl) (Nat.le_of_ble_eq_true rfl) (Or.inl rfl) ⟨hw, _, rfl, hv⟩
                    · replace hv := hv.2 c41
                      exact wa_throw X E N (names := ["java/lang/RuntimeException", "java/lang/Exception"]) (text := "there is not enough on the pile") kx_fit_IllegalStateException kx_names kw_522 kw_41 (by decide +kernel) kx_at_IllegalStateException_120 kx_ok_IllegalStateException_120 dX10_word_143 dX10_word_146 dX10_word_147 dX10_word_149 dX10_word_152 ⟨Nat.le_of_ble_eq_true rfl, Nat.le_of_ble_eq_true rfl, Nat.le_of_ble_eq_true rfl, Nat.le_of_ble_eq_true rfl⟩ (Nat.le_of_ble_eq_true rfl) (Nat.le_of_ble_eq_true rfl) ⟨hw, hv⟩
                  · replace hv := hv.2 c40
                    exact wa_throw X E N (names := ["java/lang/RuntimeException", "java/lang/Exception"]) (text := "the draft is full") kx_fit_IllegalStateException kx_names kw_522 kw_41 (by decide +kernel) kx_at_IllegalStateException_120 kx_ok_IllegalStateException_120 dX10_word_116 dX10_word_119 dX10_word_120 dX10_word_122 dX10_word_125 ⟨Nat.le_of_ble_eq_true rfl, Nat.le_of_ble_eq_true rfl, Nat.le_of_ble_eq_true rfl, Nat.le_of_ble_eq_true rfl⟩ (Nat.le_of_ble_eq_true rfl) (Nat.le_of_ble_eq_true rfl) ⟨hw, hv⟩
                · replace hv := hv.2 c38
                  refine wa_iload_n X 3 rfl dX10_word_81 rfl ?_
                  refine wa_if_lt X (tgt := 91) dX10_word_82 (by decide) (fun c45 => ?_) (fun c45 => ?_)
                  · replace hv := hv.1 c45
                    exact wa_throw X E N (names := ["java/lang/RuntimeException", "java/lang/Exception"]) (text := "no such row") kx_fit_IllegalArgumentException kx_names kw_546 kw_40 (by decide +kernel) kx_at_IllegalArgumentException_84 kx_ok_IllegalArgumentException_84 dX10_word_91 dX10_word_94 dX10_word_95 dX10_word_97 dX10_word_100 ⟨Nat.le_of_ble_eq_true rfl, Nat.le_of_ble_eq_true rfl, Nat.le_of_ble_eq_true rfl, Nat.le_of_ble_eq_true rfl⟩ (Nat.le_of_ble_eq_true rfl) (Nat.le_of_ble_eq_true rfl) ⟨hw, hv⟩
                  · replace hv := hv.2 c45
                    refine wa_iload_n X 3 rfl dX10_word_85 rfl ?_
                    refine wa_bipush X dX10_word_86 kb6 ?_
                    refine wa_icmp_lt X (tgt := 101) dX10_word_88 (by decide) (fun c46 => ?_) (fun c46 => ?_)
                    · replace hv := hv.1 c46
                      refine wa_aload_n X 0 rfl dX10_word_101 rfl ?_
                      refine wa_getfw X hw (j := 0) (r := 1) hk_10 hc_10 i_10 (by decide) kw_327 rfl rfl (by decide) rfl dX10_word_102 hs_1ne ?_
                      refine wa_getR X (j := 4) hk_9 hc_9 i_9 (by decide) kw_144 rfl dX10_word_105 hs_1ne ?_
                      obtain ⟨o47, hv⟩ := hv
                      refine wa_getI X (j := 3) hk_5 hc_5 i_5 (by decide) kw_118 rfl dX10_word_108 o47 ?_
                      refine wa_bipush X dX10_word_111 kb12 ?_
                      refine wa_icmp_lt X (tgt := 126) dX10_word_113 (by decide) (fun c48 => ?_) (fun c48 => ?_)
                      · replace hv := hv.1 c48
                        refine wa_aload_n X 0 rfl dX10_word_126 rfl ?_
                        refine wa_getfw X hw (j := 0) (r := 1) hk_10 hc_10 i_10 (by decide) kw_327 rfl rfl (by decide) rfl dX10_word_127 hs_1ne ?_
                        refine wa_getR X (j := 4) hk_9 hc_9 i_9 (by decide) kw_144 rfl dX10_word_130 hs_1ne ?_
                        refine wa_getI X (j := 4) hk_5 hc_5 i_5 (by decide) kw_120 rfl dX10_word_133 o47 ?_
                        refine wa_iload_n X 1 rfl dX10_word_136 rfl ?_
                        refine wa_callS X (As := [.inl a1]) (f_C_taken hw) kw_578 kw_21 kw_576 kw_577 nd_X10_taken rfl rfl (Nat.le_of_ble_eq_true rfl) dX10_word_137 ⟨⟨Nat.le_of_ble_eq_true rfl, Nat.le_of_ble_eq_true rfl⟩, Nat.le_of_ble_eq_true rfl, Nat.le_of_ble_eq_true rfl⟩ (hs_pdk0 ?_) (fun _ _ h => h.elim)
                        refine wa_icmp_ge X (tgt := 153) dX10_word_140 (by decide) (fun c49 => ?_) (fun c49 => ?_)
                        · replace hv := hv.1 c49
                          refine wa_aload_n X 0 rfl dX10_word_153 rfl ?_
                          refine wa_getfw X hw (j := 0) (r := 1) hk_10 hc_10 i_10 (by decide) kw_327 rfl rfl (by decide) rfl dX10_word_154 hs_1ne ?_
                          refine wa_getR X (j := 4) hk_9 hc_9 i_9 (by decide) kw_144 rfl dX10_word_157 hs_1ne ?_
                          refine wa_iload_n X 1 rfl dX10_word_160 rfl ?_
                          refine wa_iload_n X 2 rfl dX10_word_161 rfl ?_
                          refine wa_iload_n X 3 rfl dX10_word_162 rfl ?_
                          obtain ⟨o50, hv⟩ := hv
                          refine wa_callV X (As := [.inl a1, .inl a2, .inl a3]) (f_Fml_append o47 hw o50) hk_5 hc_5 rfl kw_583 kw_27 kw_580 kw_581 kw_582 nd_X5_append rfl rfl (Nat.le_of_ble_eq_true rfl) dX10_word_163 o47 ⟨⟨Nat.le_of_ble_eq_true rfl, Nat.le_of_ble_eq_true rfl⟩, Nat.le_of_ble_eq_true rfl, Nat.le_of_ble_eq_true rfl⟩ (hs_pdk fun S51 hS51 hw => ?_) (fun _ _ h => h.elim)
                          replace hv := hv S51 hS51
                          refine wa_aload_n X 0 rfl dX10_word_166 rfl ?_
                          refine wa_getfw X hw (j := 0) (r := 1) hk_10 hc_10 i_10 (by decide) kw_327 rfl rfl (by decide) rfl dX10_word_167 hs_1ne ?_
                          refine wa_getR X (j := 4) hk_9 hc_9 i_9 (by decide) kw_144 rfl dX10_word_170 hs_1ne ?_
                          obtain ⟨o52, hv⟩ := hv
                          refine wa_getI X (j := 3) hk_5 hc_5 i_5 (by decide) kw_118 rfl dX10_word_173 o52 ?_
                          exact wa_ireturn X E dX10_word_176 (Nat.le_of_ble_eq_true rfl) (Nat.le_of_ble_eq_true rfl) (Or.inl rfl) ⟨hw, _, rfl, hv⟩
                        · replace hv := hv.2 c49
                          exact wa_throw X E N (names := ["java/lang/RuntimeException", "java/lang/Exception"]) (text := "there is not enough on the pile") kx_fit_IllegalStateException kx_names kw_522 kw_41 (by decide +kernel) kx_at_IllegalStateException_120 kx_ok_IllegalStateException_120 dX10_word_143 dX10_word_146 dX10_word_147 dX10_word_149 dX10_word_152 ⟨Nat.le_of_ble_eq_true rfl, Nat.le_of_ble_eq_true rfl, Nat.le_of_ble_eq_true rfl, Nat.le_of_ble_eq_true rfl⟩ (Nat.le_of_ble_eq_true rfl) (Nat.le_of_ble_eq_true rfl) ⟨hw, hv⟩
                      · replace hv := hv.2 c48
                        exact wa_throw X E N (names := ["java/lang/RuntimeException", "java/lang/Exception"]) (text := "the draft is full") kx_fit_IllegalStateException kx_names kw_522 kw_41 (by decide +kernel) kx_at_IllegalStateException_120 kx_ok_IllegalStateException_120 dX10_word_116 dX10_word_119 dX10_word_120 dX10_word_122 dX10_word_125 ⟨Nat.le_of_ble_eq_true rfl, Nat.le_of_ble_eq_true rfl, Nat.le_of_ble_eq_true rfl, Nat.le_of_ble_eq_true rfl⟩ (Nat.le_of_ble_eq_true rfl) (Nat.le_of_ble_eq_true rfl) ⟨hw, hv⟩
                    · replace hv := hv.2 c46
                      exact wa_throw X E N (names := ["java/lang/RuntimeException", "java/lang/Exception"]) (text := "no such row") kx_fit_IllegalArgumentException kx_names kw_546 kw_40 (by decide +kernel) kx_at_IllegalArgumentException_84 kx_ok_IllegalArgumentException_84 dX10_word_91 dX10_word_94 dX10_word_95 dX10_word_97 dX10_word_100 ⟨Nat.le_of_ble_eq_true rfl, Nat.le_of_ble_eq_true rfl, Nat.le_of_ble_eq_true rfl, Nat.le_of_ble_eq_true rfl⟩ (Nat.le_of_ble_eq_true rfl) (Nat.le_of_ble_eq_true rfl) ⟨hw, hv⟩
              · replace hv := hv.2 c37
                exact wa_throw X E N (names := ["java/lang/RuntimeException", "java/lang/Exception"]) (text := "no such column") kx_fit_IllegalArgumentException kx_names kw_546 kw_40 (by decide +kernel) kx_at_IllegalArgumentException_84 kx_ok_IllegalArgumentException_84 dX10_word_66 dX10_word_69 dX10_word_70 dX10_word_72 dX10_word_75 ⟨Nat.le_of_ble_eq_true rfl, Nat.le_of_ble_eq_true rfl, Nat.le_of_ble_eq_true rfl, Nat.le_of_ble_eq_true rfl⟩ (Nat.le_of_ble_eq_true rfl) (Nat.le_of_ble_eq_true rfl) ⟨hw, hv⟩
      · replace hv := hv.2 c3
        refine wa_iload_n X 2 rfl dX10_word_24 rfl ?_
        refine wa_ldc X kw_572 dX10_word_25 ?_
        refine wa_icmp_lt X (tgt := 36) dX10_word_27 (by decide) (fun c53 => ?_) (fun c53 => ?_)
        · replace hv := hv.1 c53
          exact wa_throw X E N (names := ["java/lang/RuntimeException", "java/lang/Exception"]) (text := "the number is out of range") kx_fit_IllegalArgumentException kx_names kw_546 kw_40 (by decide +kernel) kx_at_IllegalArgumentException_84 kx_ok_IllegalArgumentException_84 dX10_word_36 dX10_word_39 dX10_word_40 dX10_word_42 dX10_word_45 ⟨Nat.le_of_ble_eq_true rfl, Nat.le_of_ble_eq_true rfl, Nat.le_of_ble_eq_true rfl, Nat.le_of_ble_eq_true rfl⟩ (Nat.le_of_ble_eq_true rfl) (Nat.le_of_ble_eq_true rfl) ⟨hw, hv⟩
        · replace hv := hv.2 c53
          refine wa_iload_n X 2 rfl dX10_word_30 rfl ?_
          refine wa_ldc X kw_573 dX10_word_31 ?_
          refine wa_icmp_le X (tgt := 46) dX10_word_33 (by decide) (fun c54 => ?_) (fun c54 => ?_)
          · replace hv := hv.1 c54
            refine wa_iload_n X 1 rfl dX10_word_46 rfl ?_
            refine wa_iconst X dX10_word_47 kc1 ?_
            refine wa_icmp_lt X (tgt := 76) dX10_word_48 (by decide) (fun c55 => ?_) (fun c55 => ?_)
            · replace hv := hv.1 c55
              refine wa_iload_n X 1 rfl dX10_word_76 rfl ?_
              refine wa_iconst X dX10_word_77 kc1 ?_
              refine wa_icmp_ne X (tgt := 101) dX10_word_78 (by decide) (fun c56 => ?_) (fun c56 => ?_)
              · replace hv := hv.1 c56
                refine wa_aload_n X 0 rfl dX10_word_101 rfl ?_
                refine wa_getfw X hw (j := 0) (r := 1) hk_10 hc_10 i_10 (by decide) kw_327 rfl rfl (by decide) rfl dX10_word_102 hs_1ne ?_
                refine wa_getR X (j := 4) hk_9 hc_9 i_9 (by decide) kw_144 rfl dX10_word_105 hs_1ne ?_
                obtain ⟨o57, hv⟩ := hv
                refine wa_getI X (j := 3) hk_5 hc_5 i_5 (by decide) kw_118 rfl dX10_word_108 o57 ?_
                refine wa_bipush X dX10_word_111 kb12 ?_
                refine wa_icmp_lt X (tgt := 126) dX10_word_113 (by decide) (fun c58 => ?_) (fun c58 => ?_)
                · replace hv := hv.1 c58
                  refine wa_aload_n X 0 rfl dX10_word_126 rfl ?_
                  refine wa_getfw X hw (j := 0) (r := 1) hk_10 hc_10 i_10 (by decide) kw_327 rfl rfl (by decide) rfl dX10_word_127 hs_1ne ?_
                  refine wa_getR X (j := 4) hk_9 hc_9 i_9 (by decide) kw_144 rfl dX10_word_130 hs_1ne ?_
                  refine wa_getI X (j := 4) hk_5 hc_5 i_5 (by decide) kw_120 rfl dX10_word_133 o57 ?_
                  refine wa_iload_n X 1 rfl dX10_word_136 rfl ?_
                  refine wa_callS X (As := [.inl a1]) (f_C_taken hw) kw_578 kw_21 kw_576 kw_577 nd_X10_taken rfl rfl (Nat.le_of_ble_eq_true rfl) dX10_word_137 ⟨⟨Nat.le_of_ble_eq_true rfl, Nat.le_of_ble_eq_true rfl⟩, Nat.le_of_ble_eq_true rfl, Nat.le_of_ble_eq_true rfl⟩ (hs_pdk0 ?_) (fun _ _ h => h.elim)
                  refine wa_icmp_ge X (tgt := 153) dX10_word_140 (by decide) (fun c59 => ?_) (fun c59 => ?_)
                  · replace hv := hv.1 c59
                    refine wa_aload_n X 0 rfl dX10_word_153 rfl ?_
                    refine wa_getfw X hw (j := 0) (r := 1) hk_10 hc_10 i_10 (by decide) kw_327 rfl rfl (by decide) rfl dX10_word_154 hs_1ne ?_
                    refine wa_getR X (j := 4) hk_9 hc_9 i_9 (by decide) kw_144 rfl dX10_word_157 hs_1ne ?_
                    refine wa_iload_n X 1 rfl dX10_word_160 rfl ?_
                    refine wa_iload_n X 2 rfl dX10_word_161 rfl ?_
                    refine wa_iload_n X 3 rfl dX10_word_162 rfl ?_
                    obtain ⟨o60, hv⟩ := hv
                    refine wa_callV X (As := [.inl a1, .inl a2, .inl a3]) (f_Fml_append o57 hw o60) hk_5 hc_5 rfl kw_583 kw_27 kw_580 kw_581 kw_582 nd_X5_append rfl rfl (Nat.le_of_ble_eq_true rfl) dX10_word_163 o57 ⟨⟨Nat.le_of_ble_eq_true rfl, Nat.le_of_ble_eq_true rfl⟩, Nat.le_of_ble_eq_true rfl, Nat.le_of_ble_eq_true rfl⟩ (hs_pdk fun S61 hS61 hw => ?_) (fun _ _ h => h.elim)
                    replace hv := hv S61 hS61
                    refine wa_aload_n X 0 rfl dX10_word_166 rfl ?_
                    refine wa_getfw X hw (j := 0) (r := 1) hk_10 hc_10 i_10 (by decide) kw_327 rfl rfl (by decide) rfl dX10_word_167 hs_1ne ?_
                    refine wa_getR X (j := 4) hk_9 hc_9 i_9 (by decide) kw_144 rfl dX10_word_170 hs_1ne ?_
                    obtain ⟨o62, hv⟩ := hv
                    refine wa_getI X (j := 3) hk_5 hc_5 i_5 (by decide) kw_118 rfl dX10_word_173 o62 ?_
                    exact wa_ireturn X E dX10_word_176 (Nat.le_of_ble_eq_true rfl) (Nat.le_of_ble_eq_true rfl) (Or.inl rfl) ⟨hw, _, rfl, hv⟩
                  · replace hv := hv.2 c59
                    exact wa_throw X E N (names := ["java/lang/RuntimeException", "java/lang/Exception"]) (text := "there is not enough on the pile") kx_fit_IllegalStateException kx_names kw_522 kw_41 (by decide +kernel) kx_at_IllegalStateException_120 kx_ok_IllegalStateException_120 dX10_word_143 dX10_word_146 dX10_word_147 dX10_word_149 dX10_word_152 ⟨Nat.le_of_ble_eq_true rfl, Nat.le_of_ble_eq_true rfl, Nat.le_of_ble_eq_true rfl, Nat.le_of_ble_eq_true rfl⟩ (Nat.le_of_ble_eq_true rfl) (Nat.le_of_ble_eq_true rfl) ⟨hw, hv⟩
                · replace hv := hv.2 c58
                  exact wa_throw X E N (names := ["java/lang/RuntimeException", "java/lang/Exception"]) (text := "the draft is full") kx_fit_IllegalStateException kx_names kw_522 kw_41 (by decide +kernel) kx_at_IllegalStateException_120 kx_ok_IllegalStateException_120 dX10_word_116 dX10_word_119 dX10_word_120 dX10_word_122 dX10_word_125 ⟨Nat.le_of_ble_eq_true rfl, Nat.le_of_ble_eq_true rfl, Nat.le_of_ble_eq_true rfl, Nat.le_of_ble_eq_true rfl⟩ (Nat.le_of_ble_eq_true rfl) (Nat.le_of_ble_eq_true rfl) ⟨hw, hv⟩
              · replace hv := hv.2 c56
                refine wa_iload_n X 3 rfl dX10_word_81 rfl ?_
                refine wa_if_lt X (tgt := 91) dX10_word_82 (by decide) (fun c63 => ?_) (fun c63 => ?_)
                · replace hv := hv.1 c63
                  exact wa_throw X E N (names := ["java/lang/RuntimeException", "java/lang/Exception"]) (text := "no such row") kx_fit_IllegalArgumentException kx_names kw_546 kw_40 (by decide +kernel) kx_at_IllegalArgumentException_84 kx_ok_IllegalArgumentException_84 dX10_word_91 dX10_word_94 dX10_word_95 dX10_word_97 dX10_word_100 ⟨Nat.le_of_ble_eq_true rfl, Nat.le_of_ble_eq_true rfl, Nat.le_of_ble_eq_true rfl, Nat.le_of_ble_eq_true rfl⟩ (Nat.le_of_ble_eq_true rfl) (Nat.le_of_ble_eq_true rfl) ⟨hw, hv⟩
                · replace hv := hv.2 c63
                  refine wa_iload_n X 3 rfl dX10_word_85 rfl ?_
                  refine wa_bipush X dX10_word_86 kb6 ?_
                  refine wa_icmp_lt X (tgt := 101) dX10_word_88 (by decide) (fun c64 => ?_) (fun c64 => ?_)
                  · replace hv := hv.1 c64
                    refine wa_aload_n X 0 rfl dX10_word_101 rfl ?_
                    refine wa_getfw X hw (j := 0) (r := 1) hk_10 hc_10 i_10 (by decide) kw_327 rfl rfl (by decide) rfl dX10_word_102 hs_1ne ?_
                    refine wa_getR X (j := 4) hk_9 hc_9 i_9 (by decide) kw_144 rfl dX10_word_105 hs_1ne ?_
                    obtain ⟨o65, hv⟩ := hv
                    refine wa_getI X (j := 3) hk_5 hc_5 i_5 (by decide) kw_118 rfl dX10_word_108 o65 ?_
                    refine wa_bipush X dX10_word_111 kb12 ?_
                    refine wa_icmp_lt X (tgt := 126) dX10_word_113 (by decide) (fun c66 => ?_) (fun c66 => ?_)
                    · replace hv := hv.1 c66
                      refine wa_aload_n X 0 rfl dX10_word_126 rfl ?_
                      refine wa_getfw X hw (j := 0) (r := 1) hk_10 hc_10 i_10 (by decide) kw_327 rfl rfl (by decide) rfl dX10_word_127 hs_1ne ?_
                      refine wa_getR X (j := 4) hk_9 hc_9 i_9 (by decide) kw_144 rfl dX10_word_130 hs_1ne ?_
                      refine wa_getI X (j := 4) hk_5 hc_5 i_5 (by decide) kw_120 rfl dX10_word_133 o65 ?_
                      refine wa_iload_n X 1 rfl dX10_word_136 rfl ?_
                      refine wa_callS X (As := [.inl a1]) (f_C_taken hw) kw_578 kw_21 kw_576 kw_577 nd_X10_taken rfl rfl (Nat.le_of_ble_eq_true rfl) dX10_word_137 ⟨⟨Nat.le_of_ble_eq_true rfl, Nat.le_of_ble_eq_true rfl⟩, Nat.le_of_ble_eq_true rfl, Nat.le_of_ble_eq_true rfl⟩ (hs_pdk0 ?_) (fun _ _ h => h.elim)
                      refine wa_icmp_ge X (tgt := 153) dX10_word_140 (by decide) (fun c67 => ?_) (fun c67 => ?_)
                      · replace hv := hv.1 c67
                        refine wa_aload_n X 0 rfl dX10_word_153 rfl ?_
                        refine wa_getfw X hw (j := 0) (r := 1) hk_10 hc_10 i_10 (by decide) kw_327 rfl rfl (by decide) rfl dX10_word_154 hs_1ne ?_
                        refine wa_getR X (j := 4) hk_9 hc_9 i_9 (by decide) kw_144 rfl dX10_word_157 hs_1ne ?_
                        refine wa_iload_n X 1 rfl dX10_word_160 rfl ?_
                        refine wa_iload_n X 2 rfl dX10_word_161 rfl ?_
                        refine wa_iload_n X 3 rfl dX10_word_162 rfl ?_
                        obtain ⟨o68, hv⟩ := hv
                        refine wa_callV X (As := [.inl a1, .inl a2, .inl a3]) (f_Fml_append o65 hw o68) hk_5 hc_5 rfl kw_583 kw_27 kw_580 kw_581 kw_582 nd_X5_append rfl rfl (Nat.le_of_ble_eq_true rfl) dX10_word_163 o65 ⟨⟨Nat.le_of_ble_eq_true rfl, Nat.le_of_ble_eq_true rfl⟩, Nat.le_of_ble_eq_true rfl, Nat.le_of_ble_eq_true rfl⟩ (hs_pdk fun S69 hS69 hw => ?_) (fun _ _ h => h.elim)
                        replace hv := hv S69 hS69
                        refine wa_aload_n X 0 rfl dX10_word_166 rfl ?_
                        refine wa_getfw X hw (j := 0) (r := 1) hk_10 hc_10 i_10 (by decide) kw_327 rfl rfl (by decide) rfl dX10_word_167 hs_1ne ?_
                        refine wa_getR X (j := 4) hk_9 hc_9 i_9 (by decide) kw_144 rfl dX10_word_170 hs_1ne ?_
                        obtain ⟨o70, hv⟩ := hv
                        refine wa_getI X (j := 3) hk_5 hc_5 i_5 (by decide) kw_118 rfl dX10_word_173 o70 ?_
                        exact wa_ireturn X E dX10_word_176 (Nat.le_of_ble_eq_true rfl) (Nat.le_of_ble_eq_true rfl) (Or.inl rfl) ⟨hw, _, rfl, hv⟩
                      · replace hv := hv.2 c67
                        exact wa_throw X E N (names := ["java/lang/RuntimeException", "java/lang/Exception"]) (text := "there is not enough on the pile") kx_fit_IllegalStateException kx_names kw_522 kw_41 (by decide +kernel) kx_at_IllegalStateException_120 kx_ok_IllegalStateException_120 dX10_word_143 dX10_word_146 dX10_word_147 dX10_word_149 dX10_word_152 ⟨Nat.le_of_ble_eq_true rfl, Nat.le_of_ble_eq_true rfl, Nat.le_of_ble_eq_true rfl, Nat.le_of_ble_eq_true rfl⟩ (Nat.le_of_ble_eq_true rfl) (Nat.le_of_ble_eq_true rfl) ⟨hw, hv⟩
                    · replace hv := hv.2 c66
                      exact wa_throw X E N (names := ["java/lang/RuntimeException", "java/lang/Exception"]) (text := "the draft is full") kx_fit_IllegalStateException kx_names kw_522 kw_41 (by decide +kernel) kx_at_IllegalStateException_120 kx_ok_IllegalStateException_120 dX10_word_116 dX10_word_119 dX10_word_120 dX10_word_122 dX10_word_125 ⟨Nat.le_of_ble_eq_true rfl, Nat.le_of_ble_eq_true rfl, Nat.le_of_ble_eq_true rfl, Nat.le_of_ble_eq_true rfl⟩ (Nat.le_of_ble_eq_true rfl) (Nat.le_of_ble_eq_true rfl) ⟨hw, hv⟩
                  · replace hv := hv.2 c64
                    exact wa_throw X E N (names := ["java/lang/RuntimeException", "java/lang/Exception"]) (text := "no such row") kx_fit_IllegalArgumentException kx_names kw_546 kw_40 (by decide +kernel) kx_at_IllegalArgumentException_84 kx_ok_IllegalArgumentException_84 dX10_word_91 dX10_word_94 dX10_word_95 dX10_word_97 dX10_word_100 ⟨Nat.le_of_ble_eq_true rfl, Nat.le_of_ble_eq_true rfl, Nat.le_of_ble_eq_true rfl, Nat.le_of_ble_eq_true rfl⟩ (Nat.le_of_ble_eq_true rfl) (Nat.le_of_ble_eq_true rfl) ⟨hw, hv⟩
            · replace hv := hv.2 c55
              refine wa_iload_n X 1 rfl dX10_word_51 rfl ?_
              refine wa_bipush X dX10_word_52 kb7 ?_
              refine wa_icmp_gt X (tgt := 76) dX10_word_54 (by decide) (fun c71 => ?_) (fun c71 => ?_)
              · replace hv := hv.1 c71
                refine wa_iload_n X 1 rfl dX10_word_76 rfl ?_
                refine wa_iconst X dX10_word_77 kc1 ?_
                refine wa_icmp_ne X (tgt := 101) dX10_word_78 (by decide) (fun c72 => ?_) (fun c72 => ?_)
                · replace hv := hv.1 c72
                  refine wa_aload_n X 0 rfl dX10_word_101 rfl ?_
                  refine wa_getfw X hw (j := 0) (r := 1) hk_10 hc_10 i_10 (by decide) kw_327 rfl rfl (by decide) rfl dX10_word_102 hs_1ne ?_
                  refine wa_getR X (j := 4) hk_9 hc_9 i_9 (by decide) kw_144 rfl dX10_word_105 hs_1ne ?_
                  obtain ⟨o73, hv⟩ := hv
                  refine wa_getI X (j := 3) hk_5 hc_5 i_5 (by decide) kw_118 rfl dX10_word_108 o73 ?_
                  refine wa_bipush X dX10_word_111 kb12 ?_
                  refine wa_icmp_lt X (tgt := 126) dX10_word_113 (by decide) (fun c74 => ?_) (fun c74 => ?_)
                  · replace hv := hv.1 c74
                    refine wa_aload_n X 0 rfl dX10_word_126 rfl ?_
                    refine wa_getfw X hw (j := 0) (r := 1) hk_10 hc_10 i_10 (by decide) kw_327 rfl rfl (by decide) rfl dX10_word_127 hs_1ne ?_
                    refine wa_getR X (j := 4) hk_9 hc_9 i_9 (by decide) kw_144 rfl dX10_word_130 hs_1ne ?_
                    refine wa_getI X (j := 4) hk_5 hc_5 i_5 (by decide) kw_120 rfl dX10_word_133 o73 ?_
                    refine wa_iload_n X 1 rfl dX10_word_136 rfl ?_
                    refine wa_callS X (As := [.inl a1]) (f_C_taken hw) kw_578 kw_21 kw_576 kw_577 nd_X10_taken rfl rfl (Nat.le_of_ble_eq_true rfl) dX10_word_137 ⟨⟨Nat.le_of_ble_eq_true rfl, Nat.le_of_ble_eq_true rfl⟩, Nat.le_of_ble_eq_true rfl, Nat.le_of_ble_eq_true rfl⟩ (hs_pdk0 ?_) (fun _ _ h => h.elim)
                    refine wa_icmp_ge X (tgt := 153) dX10_word_140 (by decide) (fun c75 => ?_) (fun c75 => ?_)
                    · replace hv := hv.1 c75
                      refine wa_aload_n X 0 rfl dX10_word_153 rfl ?_
                      refine wa_getfw X hw (j := 0) (r := 1) hk_10 hc_10 i_10 (by decide) kw_327 rfl rfl (by decide) rfl dX10_word_154 hs_1ne ?_
                      refine wa_getR X (j := 4) hk_9 hc_9 i_9 (by decide) kw_144 rfl dX10_word_157 hs_1ne ?_
                      refine wa_iload_n X 1 rfl dX10_word_160 rfl ?_
                      refine wa_iload_n X 2 rfl dX10_word_161 rfl ?_
                      refine wa_iload_n X 3 rfl dX10_word_162 rfl ?_
                      obtain ⟨o76, hv⟩ := hv
                      refine wa_callV X (As := [.inl a1, .inl a2, .inl a3]) (f_Fml_append o73 hw o76) hk_5 hc_5 rfl kw_583 kw_27 kw_580 kw_581 kw_582 nd_X5_append rfl rfl (Nat.le_of_ble_eq_true rfl) dX10_word_163 o73 ⟨⟨Nat.le_of_ble_eq_true rfl, Nat.le_of_ble_eq_true rfl⟩, Nat.le_of_ble_eq_true rfl, Nat.le_of_ble_eq_true rfl⟩ (hs_pdk fun S77 hS77 hw => ?_) (fun _ _ h => h.elim)
                      replace hv := hv S77 hS77
                      refine wa_aload_n X 0 rfl dX10_word_166 rfl ?_
                      refine wa_getfw X hw (j := 0) (r := 1) hk_10 hc_10 i_10 (by decide) kw_327 rfl rfl (by decide) rfl dX10_word_167 hs_1ne ?_
                      refine wa_getR X (j := 4) hk_9 hc_9 i_9 (by decide) kw_144 rfl dX10_word_170 hs_1ne ?_
                      obtain ⟨o78, hv⟩ := hv
                      refine wa_getI X (j := 3) hk_5 hc_5 i_5 (by decide) kw_118 rfl dX10_word_173 o78 ?_
                      exact wa_ireturn X E dX10_word_176 (Nat.le_of_ble_eq_true rfl) (Nat.le_of_ble_eq_true rfl) (Or.inl rfl) ⟨hw, _, rfl, hv⟩
                    · replace hv := hv.2 c75
                      exact wa_throw X E N (names := ["java/lang/RuntimeException", "java/lang/Exception"]) (text := "there is not enough on the pile") kx_fit_IllegalStateException kx_names kw_522 kw_41 (by decide +kernel) kx_at_IllegalStateException_120 kx_ok_IllegalStateException_120 dX10_word_143 dX10_word_146 dX10_word_147 dX10_word_149 dX10_word_152 ⟨Nat.le_of_ble_eq_true rfl, Nat.le_of_ble_eq_true rfl, Nat.le_of_ble_eq_true rfl, Nat.le_of_ble_eq_true rfl⟩ (Nat.le_of_ble_eq_true rfl) (Nat.le_of_ble_eq_true rfl) ⟨hw, hv⟩
                  · replace hv := hv.2 c74
                    exact wa_throw X E N (names := ["java/lang/RuntimeException", "java/lang/Exception"]) (text := "the draft is full") kx_fit_IllegalStateException kx_names kw_522 kw_41 (by decide +kernel) kx_at_IllegalStateException_120 kx_ok_IllegalStateException_120 dX10_word_116 dX10_word_119 dX10_word_120 dX10_word_122 dX10_word_125 ⟨Nat.le_of_ble_eq_true rfl, Nat.le_of_ble_eq_true rfl, Nat.le_of_ble_eq_true rfl, Nat.le_of_ble_eq_true rfl⟩ (Nat.le_of_ble_eq_true rfl) (Nat.le_of_ble_eq_true rfl) ⟨hw, hv⟩
                · replace hv := hv.2 c72
                  refine wa_iload_n X 3 rfl dX10_word_81 rfl ?_
                  refine wa_if_lt X (tgt := 91) dX10_word_82 (by decide) (fun c79 => ?_) (fun c79 => ?_)
                  · replace hv := hv.1 c79
                    exact wa_throw X E N (names := ["java/lang/RuntimeException", "java/lang/Exception"]) (text := "no such row") kx_fit_IllegalArgumentException kx_names kw_546 kw_40 (by decide +kernel) kx_at_IllegalArgumentException_84 kx_ok_IllegalArgumentException_84 dX10_word_91 dX10_word_94 dX10_word_95 dX10_word_97 dX10_word_100 ⟨Nat.le_of_ble_eq_true rfl, Nat.le_of_ble_eq_true rfl, Nat.le_of_ble_eq_true rfl, Nat.le_of_ble_eq_true rfl⟩ (Nat.le_of_ble_eq_true rfl) (Nat.le_of_ble_eq_true rfl) ⟨hw, hv⟩
                  · replace hv := hv.2 c79
                    refine wa_iload_n X 3 rfl dX10_word_85 rfl ?_
                    refine wa_bipush X dX10_word_86 kb6 ?_
                    refine wa_icmp_lt X (tgt := 101) dX10_word_88 (by decide) (fun c80 => ?_) (fun c80 => ?_)
                    · replace hv := hv.1 c80
                      refine wa_aload_n X 0 rfl dX10_word_101 rfl ?_
                      refine wa_getfw X hw (j := 0) (r := 1) hk_10 hc_10 i_10 (by decide) kw_327 rfl rfl (by decide) rfl dX10_word_102 hs_1ne ?_
                      refine wa_getR X (j := 4) hk_9 hc_9 i_9 (by decide) kw_144 rfl dX10_word_105 hs_1ne ?_
                      obtain ⟨o81, hv⟩ := hv
                      refine wa_getI X (j := 3) hk_5 hc_5 i_5 (by decide) kw_118 rfl dX10_word_108 o81 ?_
                      refine wa_bipush X dX10_word_111 kb12 ?_
                      refine wa_icmp_lt X (tgt := 126) dX10_word_113 (by decide) (fun c82 => ?_) (fun c82 => ?_)
                      · replace hv := hv.1 c82
                        refine wa_aload_n X 0 rfl dX10_word_126 rfl ?_
                        refine wa_getfw X hw (j := 0) (r := 1) hk_10 hc_10 i_10 (by decide) kw_327 rfl rfl (by decide) rfl dX10_word_127 hs_1ne ?_
                        refine wa_getR X (j := 4) hk_9 hc_9 i_9 (by decide) kw_144 rfl dX10_word_130 hs_1ne ?_
                        refine wa_getI X (j := 4) hk_5 hc_5 i_5 (by decide) kw_120 rfl dX10_word_133 o81 ?_
                        refine wa_iload_n X 1 rfl dX10_word_136 rfl ?_
                        refine wa_callS X (As := [.inl a1]) (f_C_taken hw) kw_578 kw_21 kw_576 kw_577 nd_X10_taken rfl rfl (Nat.le_of_ble_eq_true rfl) dX10_word_137 ⟨⟨Nat.le_of_ble_eq_true rfl, Nat.le_of_ble_eq_true rfl⟩, Nat.le_of_ble_eq_true rfl, Nat.le_of_ble_eq_true rfl⟩ (hs_pdk0 ?_) (fun _ _ h => h.elim)
                        refine wa_icmp_ge X (tgt := 153) dX10_word_140 (by decide) (fun c83 => ?_) (fun c83 => ?_)
                        · replace hv := hv.1 c83
                          refine wa_aload_n X 0 rfl dX10_word_153 rfl ?_
                          refine wa_getfw X hw (j := 0) (r := 1) hk_10 hc_10 i_10 (by decide) kw_327 rfl rfl (by decide) rfl dX10_word_154 hs_1ne ?_
                          refine wa_getR X (j := 4) hk_9 hc_9 i_9 (by decide) kw_144 rfl dX10_word_157 hs_1ne ?_
                          refine wa_iload_n X 1 rfl dX10_word_160 rfl ?_
                          refine wa_iload_n X 2 rfl dX10_word_161 rfl ?_
                          refine wa_iload_n X 3 rfl dX10_word_162 rfl ?_
                          obtain ⟨o84, hv⟩ := hv
                          refine wa_callV X (As := [.inl a1, .inl a2, .inl a3]) (f_Fml_append o81 hw o84) hk_5 hc_5 rfl kw_583 kw_27 kw_580 kw_581 kw_582 nd_X5_append rfl rfl (Nat.le_of_ble_eq_true rfl) dX10_word_163 o81 ⟨⟨Nat.le_of_ble_eq_true rfl, Nat.le_of_ble_eq_true rfl⟩, Nat.le_of_ble_eq_true rfl, Nat.le_of_ble_eq_true rfl⟩ (hs_pdk fun S85 hS85 hw => ?_) (fun _ _ h => h.elim)
                          replace hv := hv S85 hS85
                          refine wa_aload_n X 0 rfl dX10_word_166 rfl ?_
                          refine wa_getfw X hw (j := 0) (r := 1) hk_10 hc_10 i_10 (by decide) kw_327 rfl rfl (by decide) rfl dX10_word_167 hs_1ne ?_
                          refine wa_getR X (j := 4) hk_9 hc_9 i_9 (by decide) kw_144 rfl dX10_word_170 hs_1ne ?_
                          obtain ⟨o86, hv⟩ := hv
                          refine wa_getI X (j := 3) hk_5 hc_5 i_5 (by decide) kw_118 rfl dX10_word_173 o86 ?_
                          exact wa_ireturn X E dX10_word_176 (Nat.le_of_ble_eq_true rfl) (Nat.le_of_ble_eq_true rfl) (Or.inl rfl) ⟨hw, _, rfl, hv⟩
                        · replace hv := hv.2 c83
                          exact wa_throw X E N (names := ["java/lang/RuntimeException", "java/lang/Exception"]) (text := "there is not enough on the pile") kx_fit_IllegalStateException kx_names kw_522 kw_41 (by decide +kernel) kx_at_IllegalStateException_120 kx_ok_IllegalStateException_120 dX10_word_143 dX10_word_146 dX10_word_147 dX10_word_149 dX10_word_152 ⟨Nat.le_of_ble_eq_true rfl, Nat.le_of_ble_eq_true rfl, Nat.le_of_ble_eq_true rfl, Nat.le_of_ble_eq_true rfl⟩ (Nat.le_of_ble_eq_true rfl) (Nat.le_of_ble_eq_true rfl) ⟨hw, hv⟩
                      · replace hv := hv.2 c82
                        exact wa_throw X E N (names := ["java/lang/RuntimeException", "java/lang/Exception"]) (text := "the draft is full") kx_fit_IllegalStateException kx_names kw_522 kw_41 (by decide +kernel) kx_at_IllegalStateException_120 kx_ok_IllegalStateException_120 dX10_word_116 dX10_word_119 dX10_word_120 dX10_word_122 dX10_word_125 ⟨Nat.le_of_ble_eq_true rfl, Nat.le_of_ble_eq_true rfl, Nat.le_of_ble_eq_true rfl, Nat.le_of_ble_eq_true rfl⟩ (Nat.le_of_ble_eq_true rfl) (Nat.le_of_ble_eq_true rfl) ⟨hw, hv⟩
                    · replace hv := hv.2 c80
                      exact wa_throw X E N (names := ["java/lang/RuntimeException", "java/lang/Exception"]) (text := "no such row") kx_fit_IllegalArgumentException kx_names kw_546 kw_40 (by decide +kernel) kx_at_IllegalArgumentException_84 kx_ok_IllegalArgumentException_84 dX10_word_91 dX10_word_94 dX10_word_95 dX10_word_97 dX10_word_100 ⟨Nat.le_of_ble_eq_true rfl, Nat.le_of_ble_eq_true rfl, Nat.le_of_ble_eq_true rfl, Nat.le_of_ble_eq_true rfl⟩ (Nat.le_of_ble_eq_true rfl) (Nat.le_of_ble_eq_true rfl) ⟨hw, hv⟩
              · replace hv := hv.2 c71
                refine wa_iload_n X 2 rfl dX10_word_57 rfl ?_
                refine wa_if_lt X (tgt := 66) dX10_word_58 (by decide) (fun c87 => ?_) (fun c87 => ?_)
                · replace hv := hv.1 c87
                  exact wa_throw X E N (names := ["java/lang/RuntimeException", "java/lang/Exception"]) (text := "no such column") kx_fit_IllegalArgumentException kx_names kw_546 kw_40 (by decide +kernel) kx_at_IllegalArgumentException_84 kx_ok_IllegalArgumentException_84 dX10_word_66 dX10_word_69 dX10_word_70 dX10_word_72 dX10_word_75 ⟨Nat.le_of_ble_eq_true rfl, Nat.le_of_ble_eq_true rfl, Nat.le_of_ble_eq_true rfl, Nat.le_of_ble_eq_true rfl⟩ (Nat.le_of_ble_eq_true rfl) (Nat.le_of_ble_eq_true rfl) ⟨hw, hv⟩
                · replace hv := hv.2 c87
                  refine wa_iload_n X 2 rfl dX10_word_61 rfl ?_
                  refine wa_iconst X dX10_word_62 kc4 ?_
                  refine wa_icmp_lt X (tgt := 76) dX10_word_63 (by decide) (fun c88 => ?_) (fun c88 => ?_)
                  · replace hv := hv.1 c88
                    refine wa_iload_n X 1 rfl dX10_word_76 rfl ?_
                    refine wa_iconst X dX10_word_77 kc1 ?_
                    refine wa_icmp_ne X (tgt := 101) dX10_word_78 (by decide) (fun c89 => ?_) (fun c89 => ?_)
                    · replace hv := hv.1 c89
                      refine wa_aload_n X 0 rfl dX10_word_101 rfl ?_
                      refine wa_getfw X hw (j := 0) (r := 1) hk_10 hc_10 i_10 (by decide) kw_327 rfl rfl (by decide) rfl dX10_word_102 hs_1ne ?_
                      refine wa_getR X (j := 4) hk_9 hc_9 i_9 (by decide) kw_144 rfl dX10_word_105 hs_1ne ?_
                      obtain ⟨o90, hv⟩ := hv
                      refine wa_getI X (j := 3) hk_5 hc_5 i_5 (by decide) kw_118 rfl dX10_word_108 o90 ?_
                      refine wa_bipush X dX10_word_111 kb12 ?_
                      refine wa_icmp_lt X (tgt := 126) dX10_word_113 (by decide) (fun c91 => ?_) (fun c91 => ?_)
                      · replace hv := hv.1 c91
                        refine wa_aload_n X 0 rfl dX10_word_126 rfl ?_
                        refine wa_getfw X hw (j := 0) (r := 1) hk_10 hc_10 i_10 (by decide) kw_327 rfl rfl (by decide) rfl dX10_word_127 hs_1ne ?_
                        refine wa_getR X (j := 4) hk_9 hc_9 i_9 (by decide) kw_144 rfl dX10_word_130 hs_1ne ?_
                        refine wa_getI X (j := 4) hk_5 hc_5 i_5 (by decide) kw_120 rfl dX10_word_133 o90 ?_
                        refine wa_iload_n X 1 rfl dX10_word_136 rfl ?_
                        refine wa_callS X (As := [.inl a1]) (f_C_taken hw) kw_578 kw_21 kw_576 kw_577 nd_X10_taken rfl rfl (Nat.le_of_ble_eq_true rfl) dX10_word_137 ⟨⟨Nat.le_of_ble_eq_true rfl, Nat.le_of_ble_eq_true rfl⟩, Nat.le_of_ble_eq_true rfl, Nat.le_of_ble_eq_true rfl⟩ (hs_pdk0 ?_) (fun _ _ h => h.elim)
                        refine wa_icmp_ge X (tgt := 153) dX10_word_140 (by decide) (fun c92 => ?_) (fun c92 => ?_)
                        · replace hv := hv.1 c92
                          refine wa_aload_n X 0 rfl dX10_word_153 rfl ?_
                          refine wa_getfw X hw (j := 0) (r := 1) hk_10 hc_10 i_10 (by decide) kw_327 rfl rfl (by decide) rfl dX10_word_154 hs_1ne ?_
                          refine wa_getR X (j := 4) hk_9 hc_9 i_9 (by decide) kw_144 rfl dX10_word_157 hs_1ne ?_
                          refine wa_iload_n X 1 rfl dX10_word_160 rfl ?_
                          refine wa_iload_n X 2 rfl dX10_word_161 rfl ?_
                          refine wa_iload_n X 3 rfl dX10_word_162 rfl ?_
                          obtain ⟨o93, hv⟩ := hv
                          refine wa_callV X (As := [.inl a1, .inl a2, .inl a3]) (f_Fml_append o90 hw o93) hk_5 hc_5 rfl kw_583 kw_27 kw_580 kw_581 kw_582 nd_X5_append rfl rfl (Nat.le_of_ble_eq_true rfl) dX10_word_163 o90 ⟨⟨Nat.le_of_ble_eq_true rfl, Nat.le_of_ble_eq_true rfl⟩, Nat.le_of_ble_eq_true rfl, Nat.le_of_ble_eq_true rfl⟩ (hs_pdk fun S94 hS94 hw => ?_) (fun _ _ h => h.elim)
                          replace hv := hv S94 hS94
                          refine wa_aload_n X 0 rfl dX10_word_166 rfl ?_
                          refine wa_getfw X hw (j := 0) (r := 1) hk_10 hc_10 i_10 (by decide) kw_327 rfl rfl (by decide) rfl dX10_word_167 hs_1ne ?_
                          refine wa_getR X (j := 4) hk_9 hc_9 i_9 (by decide) kw_144 rfl dX10_word_170 hs_1ne ?_
                          obtain ⟨o95, hv⟩ := hv
                          refine wa_getI X (j := 3) hk_5 hc_5 i_5 (by decide) kw_118 rfl dX10_word_173 o95 ?_
                          exact wa_ireturn X E dX10_word_176 (Nat.le_of_ble_eq_true rfl) (Nat.le_of_ble_eq_true rfl) (Or.inl rfl) ⟨hw, _, rfl, hv⟩
                        · replace hv := hv.2 c92
                          exact wa_throw X E N (names := ["java/lang/RuntimeException", "java/lang/Exception"]) (text := "there is not enough on the pile") kx_fit_IllegalStateException kx_names kw_522 kw_41 (by decide +kernel) kx_at_IllegalStateException_120 kx_ok_IllegalStateException_120 dX10_word_143 dX10_word_146 dX10_word_147 dX10_word_149 dX10_word_152 ⟨Nat.le_of_ble_eq_true rfl, Nat.le_of_ble_eq_true rfl, Nat.le_of_ble_eq_true rfl, Nat.le_of_ble_eq_true rfl⟩ (Nat.le_of_ble_eq_true rfl) (Nat.le_of_ble_eq_true rfl) ⟨hw, hv⟩
                      · replace hv := hv.2 c91
                        exact wa_throw X E N (names := ["java/lang/RuntimeException", "java/lang/Exception"]) (text := "the draft is full") kx_fit_IllegalStateException kx_names kw_522 kw_41 (by decide +kernel) kx_at_IllegalStateException_120 kx_ok_IllegalStateException_120 dX10_word_116 dX10_word_119 dX10_word_120 dX10_word_122 dX10_word_125 ⟨Nat.le_of_ble_eq_true rfl, Nat.le_of_ble_eq_true rfl, Nat.le_of_ble_eq_true rfl, Nat.le_of_ble_eq_true rfl⟩ (Nat.le_of_ble_eq_true rfl) (Nat.le_of_ble_eq_true rfl) ⟨hw, hv⟩
                    · replace hv := hv.2 c89
                      refine wa_iload_n X 3 rfl dX10_word_81 rfl ?_
                      refine wa_if_lt X (tgt := 91) dX10_word_82 (by decide) (fun c96 => ?_) (fun c96 => ?_)
                      · replace hv := hv.1 c96
                        exact wa_throw X E N (names := ["java/lang/RuntimeException", "java/lang/Exception"]) (text := "no such row") kx_fit_IllegalArgumentException kx_names kw_546 kw_40 (by decide +kernel) kx_at_IllegalArgumentException_84 kx_ok_IllegalArgumentException_84 dX10_word_91 dX10_word_94 dX10_word_95 dX10_word_97 dX10_word_100 ⟨Nat.le_of_ble_eq_true rfl, Nat.le_of_ble_eq_true rfl, Nat.le_of_ble_eq_true rfl, Nat.le_of_ble_eq_true rfl⟩ (Nat.le_of_ble_eq_true rfl) (Nat.le_of_ble_eq_true rfl) ⟨hw, hv⟩
                      · replace hv := hv.2 c96
                        refine wa_iload_n X 3 rfl dX10_word_85 rfl ?_
                        refine wa_bipush X dX10_word_86 kb6 ?_
                        refine wa_icmp_lt X (tgt := 101) dX10_word_88 (by decide) (fun c97 => ?_) (fun c97 => ?_)
                        · replace hv := hv.1 c97
                          refine wa_aload_n X 0 rfl dX10_word_101 rfl ?_
                          refine wa_getfw X hw (j := 0) (r := 1) hk_10 hc_10 i_10 (by decide) kw_327 rfl rfl (by decide) rfl dX10_word_102 hs_1ne ?_
                          refine wa_getR X (j := 4) hk_9 hc_9 i_9 (by decide) kw_144 rfl dX10_word_105 hs_1ne ?_
                          obtain ⟨o98, hv⟩ := hv
                          refine wa_getI X (j := 3) hk_5 hc_5 i_5 (by decide) kw_118 rfl dX10_word_108 o98 ?_
                          refine wa_bipush X dX10_word_111 kb12 ?_
                          refine wa_icmp_lt X (tgt := 126) dX10_word_113 (by decide) (fun c99 => ?_) (fun c99 => ?_)
                          · replace hv := hv.1 c99
                            refine wa_aload_n X 0 rfl dX10_word_126 rfl ?_
                            refine wa_getfw X hw (j := 0) (r := 1) hk_10 hc_10 i_10 (by decide) kw_327 rfl rfl (by decide) rfl dX10_word_127 hs_1ne ?_
                            refine wa_getR X (j := 4) hk_9 hc_9 i_9 (by decide) kw_144 rfl dX10_word_130 hs_1ne ?_
                            refine wa_getI X (j := 4) hk_5 hc_5 i_5 (by decide) kw_120 rfl dX10_word_133 o98 ?_
                            refine wa_iload_n X 1 rfl dX10_word_136 rfl ?_
                            refine wa_callS X (As := [.inl a1]) (f_C_taken hw) kw_578 kw_21 kw_576 kw_577 nd_X10_taken rfl rfl (Nat.le_of_ble_eq_true rfl) dX10_word_137 ⟨⟨Nat.le_of_ble_eq_true rfl, Nat.le_of_ble_eq_true rfl⟩, Nat.le_of_ble_eq_true rfl, Nat.le_of_ble_eq_true rfl⟩ (hs_pdk0 ?_) (fun _ _ h => h.elim)
                            refine wa_icmp_ge X (tgt := 153) dX10_word_140 (by decide) (fun c100 => ?_) (fun c100 => ?_)
                            · replace hv := hv.1 c100
                              refine wa_aload_n X 0 rfl dX10_word_153 rfl ?_
                              refine wa_getfw X hw (j := 0) (r := 1) hk_10 hc_10 i_10 (by decide) kw_327 rfl rfl (by decide) rfl dX10_word_154 hs_1ne ?_
                              refine wa_getR X (j := 4) hk_9 hc_9 i_9 (by decide) kw_144 rfl dX10_word_157 hs_1ne ?_
                              refine wa_iload_n X 1 rfl dX10_word_160 rfl ?_
                              refine wa_iload_n X 2 rfl dX10_word_161 rfl ?_
                              refine wa_iload_n X 3 rfl dX10_word_162 rfl ?_
                              obtain ⟨o101, hv⟩ := hv
                              refine wa_callV X (As := [.inl a1, .inl a2, .inl a3]) (f_Fml_append o98 hw o101) hk_5 hc_5 rfl kw_583 kw_27 kw_580 kw_581 kw_582 nd_X5_append rfl rfl (Nat.le_of_ble_eq_true rfl) dX10_word_163 o98 ⟨⟨Nat.le_of_ble_eq_true rfl, Nat.le_of_ble_eq_true rfl⟩, Nat.le_of_ble_eq_true rfl, Nat.le_of_ble_eq_true rfl⟩ (hs_pdk fun S102 hS102 hw => ?_) (fun _ _ h => h.elim)
                              replace hv := hv S102 hS102
                              refine wa_aload_n X 0 rfl dX10_word_166 rfl ?_
                              refine wa_getfw X hw (j := 0) (r := 1) hk_10 hc_10 i_10 (by decide) kw_327 rfl rfl (by decide) rfl dX10_word_167 hs_1ne ?_
                              refine wa_getR X (j := 4) hk_9 hc_9 i_9 (by decide) kw_144 rfl dX10_word_170 hs_1ne ?_
                              obtain ⟨o103, hv⟩ := hv
                              refine wa_getI X (j := 3) hk_5 hc_5 i_5 (by decide) kw_118 rfl dX10_word_173 o103 ?_
                              exact wa_ireturn X E dX10_word_176 (Nat.le_of_ble_eq_true rfl) (Nat.le_of_ble_eq_true rfl) (Or.inl rfl) ⟨hw, _, rfl, hv⟩
                            · replace hv := hv.2 c100
                              exact wa_throw X E N (names := ["java/lang/RuntimeException", "java/lang/Exception"]) (text := "there is not enough on the pile") kx_fit_IllegalStateException kx_names kw_522 kw_41 (by decide +kernel) kx_at_IllegalStateException_120 kx_ok_IllegalStateException_120 dX10_word_143 dX10_word_146 dX10_word_147 dX10_word_149 dX10_word_152 ⟨Nat.le_of_ble_eq_true rfl, Nat.le_of_ble_eq_true rfl, Nat.le_of_ble_eq_true rfl, Nat.le_of_ble_eq_true rfl⟩ (Nat.le_of_ble_eq_true rfl) (Nat.le_of_ble_eq_true rfl) ⟨hw, hv⟩
                          · replace hv := hv.2 c99
                            exact wa_throw X E N (names := ["java/lang/RuntimeException", "java/lang/Exception"]) (text := "the draft is full") kx_fit_IllegalStateException kx_names kw_522 kw_41 (by decide +kernel) kx_at_IllegalStateException_120 kx_ok_IllegalStateException_120 dX10_word_116 dX10_word_119 dX10_word_120 dX10_word_122 dX10_word_125 ⟨Nat.le_of_ble_eq_true rfl, Nat.le_of_ble_eq_true rfl, Nat.le_of_ble_eq_true rfl, Nat.le_of_ble_eq_true rfl⟩ (Nat.le_of_ble_eq_true rfl) (Nat.le_of_ble_eq_true rfl) ⟨hw, hv⟩
                        · replace hv := hv.2 c97
                          exact wa_throw X E N (names := ["java/lang/RuntimeException", "java/lang/Exception"]) (text := "no such row") kx_fit_IllegalArgumentException kx_names kw_546 kw_40 (by decide +kernel) kx_at_IllegalArgumentException_84 kx_ok_IllegalArgumentException_84 dX10_word_91 dX10_word_94 dX10_word_95 dX10_word_97 dX10_word_100 ⟨Nat.le_of_ble_eq_true rfl, Nat.le_of_ble_eq_true rfl, Nat.le_of_ble_eq_true rfl, Nat.le_of_ble_eq_true rfl⟩ (Nat.le_of_ble_eq_true rfl) (Nat.le_of_ble_eq_true rfl) ⟨hw, hv⟩
                  · replace hv := hv.2 c88
                    exact wa_throw X E N (names := ["java/lang/RuntimeException", "java/lang/Exception"]) (text := "no such column") kx_fit_IllegalArgumentException kx_names kw_546 kw_40 (by decide +kernel) kx_at_IllegalArgumentException_84 kx_ok_IllegalArgumentException_84 dX10_word_66 dX10_word_69 dX10_word_70 dX10_word_72 dX10_word_75 ⟨Nat.le_of_ble_eq_true rfl, Nat.le_of_ble_eq_true rfl, Nat.le_of_ble_eq_true rfl, Nat.le_of_ble_eq_true rfl⟩ (Nat.le_of_ble_eq_true rfl) (Nat.le_of_ble_eq_true rfl) ⟨hw, hv⟩
          · replace hv := hv.2 c54
            exact wa_throw X E N (names := ["java/lang/RuntimeException", "java/lang/Exception"]) (text := "the number is out of range") kx_fit_IllegalArgumentException kx_names kw_546 kw_40 (by decide +kernel) kx_at_IllegalArgumentException_84 kx_ok_IllegalArgumentException_84 dX10_word_36 dX10_word_39 dX10_word_40 dX10_word_42 dX10_word_45 ⟨Nat.le_of_ble_eq_true rfl, Nat.le_of_ble_eq_true rfl, Nat.le_of_ble_eq_true rfl, Nat.le_of_ble_eq_true rfl⟩ (Nat.le_of_ble_eq_true rfl) (Nat.le_of_ble_eq_true rfl) ⟨hw, hv⟩
    · replace hv := hv.2 c2
      exact wa_throw X E N (names := ["java/lang/RuntimeException", "java/lang/Exception"]) (text := "no such word") kx_fit_IllegalArgumentException kx_names kw_546 kw_40 (by decide +kernel) kx_at_IllegalArgumentException_84 kx_ok_IllegalArgumentException_84 dX10_word_10 dX10_word_13 dX10_word_14 dX10_word_16 dX10_word_19 ⟨Nat.le_of_ble_eq_true rfl, Nat.le_of_ble_eq_true rfl, Nat.le_of_ble_eq_true rfl, Nat.le_of_ble_eq_true rfl⟩ (Nat.le_of_ble_eq_true rfl) (Nat.le_of_ble_eq_true rfl) ⟨hw, hv⟩

def m_C_wipe (S : hs_S) (Q : Int32 → hs_S → Prop) : Prop := hs_M 2 yX10_wipe (.code yX10_wipe cX10_wipe 2 (some FieldType.int)) [.inr (.inr (10, 1))] S 0 0 (hs_qI Q) hs_nX
def vc_C_wipe (S : hs_S) (Q : Int32 → hs_S → Prop) : Prop := (((S.2.1 9 1 4) ≠ 0) ∧ (∀ S2 : hs_S, S2 = (E_Fml_clear (S.2.1 9 1 4) S) → (Q (S.1 5 (S.2.1 9 1 4) 3) S2)))
set_option maxRecDepth 100000 in
set_option maxHeartbeats 4000000 in
theorem ok_C_wipe {S : hs_S} {Q : Int32 → hs_S → Prop} (hw : hs_Wi S) (hv : vc_C_wipe S Q) : m_C_wipe S Q := by
  unfold vc_C_wipe at hv
  refine hs_body (own := RX10) rfl rfl (Nat.le_of_ble_eq_true rfl) (fun Z X E N J0 => ?_)
  show wa Z 0 0 S 0 [(0, .inr (.inr (10, 1)))] []
  refine wa_aload_n X 0 rfl dX10_wipe_0 rfl ?_
  refine wa_getfw X hw (j := 0) (r := 1) hk_10 hc_10 i_10 (by decide) kw_327 rfl rfl (by decide) rfl dX10_wipe_1 hs_1ne ?_
  refine wa_getR X (j := 4) hk_9 hc_9 i_9 (by decide) kw_144 rfl dX10_wipe_4 hs_1ne ?_
  obtain ⟨o1, hv⟩ := hv
  refine wa_getI X (j := 3) hk_5 hc_5 i_5 (by decide) kw_118 rfl dX10_wipe_7 o1 ?_
  refine wa_istore_n X (lv' := [(1, .inl (S.1 5 (S.2.1 9 1 4) 3)), (0, .inr (.inr (10, 1)))]) dX10_wipe_10 rfl (by decide) rfl ?_
  refine wa_aload_n X 1 rfl dX10_wipe_11 rfl ?_
  refine wa_getfw X hw (j := 0) (r := 1) hk_10 hc_10 i_10 (by decide) kw_327 rfl rfl (by decide) rfl dX10_wipe_12 hs_1ne ?_
  refine wa_getR X (j := 4) hk_9 hc_9 i_9 (by decide) kw_144 rfl dX10_wipe_15 hs_1ne ?_
  refine wa_callV X (As := []) (f_Fml_clear o1 hw) hk_5 hc_5 rfl kw_1096 kw_27 kw_1093 kw_1094 kw_1095 nd_X5_clear rfl rfl (Nat.le_of_ble_eq_true rfl) dX10_wipe_18 o1 ⟨⟨Nat.le_of_ble_eq_true rfl, Nat.le_of_ble_eq_true rfl⟩, Nat.le_of_ble_eq_true rfl, Nat.le_of_ble_eq_true rfl⟩ (hs_pdk fun S2 hS2 hw => ?_) (fun _ _ h => h.elim)
  replace hv := hv S2 hS2
  refine wa_iload_n X 0 rfl dX10_wipe_21 rfl ?_
  exact wa_ireturn X E dX10_wipe_22 (Nat.le_of_ble_eq_true rfl) (Nat.le_of_ble_eq_true rfl) (Or.inl rfl) ⟨hw, _, rfl, hv⟩

def m_C_enter (a1 : Int32) (a2 : Int32) (a3 : Int32) (S : hs_S) (Q : Int32 → hs_S → Prop) (Ex : String → hs_S → Prop) : Prop := hs_M 10 yX10_enter (.code yX10_enter cX10_enter 6 (some FieldType.int)) [.inr (.inr (10, 1)), .inl a1, .inl a2, .inl a3] S 11 238 (hs_qI Q) (hs_qX Ex)
def vc_C_enter (a1 : Int32) (a2 : Int32) (a3 : Int32) (S : hs_S) (Q : Int32 → hs_S → Prop) (Ex : String → hs_S → Prop) : Prop := (hs_Wi S → (m_C_needOwner a1 S (fun S1 => (hs_Wi S1 → (m_C_cellAt a2 a3 S1 (fun r4 S3 => (hs_Wi S3 → (m_C_needEditable a1 r4 S3 (fun S5 => (((S5.2.1 9 1 4) ≠ 0) ∧ (((S5.1 5 (S5.2.1 9 1 4) 4) = (1 : Int32) → ((P_Sht_tell r4 a1 (S5.1 10 1 5) (S5.2.1 9 1 4) S5) ∧ (∀ r11 : Int32, ∀ S10 : hs_S, R_Sht_tell r4 a1 (S5.1 10 1 5) (S5.2.1 9 1 4) S5 r11 S10 → (∀ S13 : hs_S, S13 = (hs_nw S10 5) → (m_Fml_init (S10.2.2.2 5 + 1) S13 (fun S14 => hs_Wi S14 ∧ (∀ S16 : hs_S, S16 = (hs_wR S14 9 1 4 (S10.2.2.2 5 + 1)) → (∀ S17 : hs_S, S17 = (hs_wI S16 10 1 5 ((S16.1 10 1 5) + (1 : Int32))) → (Q r11 S17))))))))) ∧ (¬ (S5.1 5 (S5.2.1 9 1 4) 4) = (1 : Int32) → (Ex "java/lang/IllegalStateException" S5))))) Ex))) Ex))) Ex))
set_option maxRecDepth 100000 in
set_option maxHeartbeats 4000000 in
theorem ok_C_enter {a1 : Int32} {a2 : Int32} {a3 : Int32} {S : hs_S} {Q : Int32 → hs_S → Prop} {Ex : String → hs_S → Prop} (hw : hs_Wi S) (hv : vc_C_enter a1 a2 a3 S Q Ex) : m_C_enter a1 a2 a3 S Q Ex := by
  unfold vc_C_enter at hv
  refine hs_body (own := RX10) rfl rfl (Nat.le_of_ble_eq_true rfl) (fun Z X E N J0 => ?_)
  show wa Z 0 0 S 0 [(0, .inr (.inr (10, 1))), (1, .inl a1), (2, .inl a2), (3, .inl a3)] []
  refine wa_iload_n X 1 rfl dX10_enter_0 rfl ?_
  refine wa_callS X (As := [.inl a1]) (hv hw) kw_465 kw_21 kw_463 kw_464 nd_X10_needOwner rfl rfl (Nat.le_of_ble_eq_true rfl) dX10_enter_1 ⟨⟨Nat.le_of_ble_eq_true rfl, Nat.le_of_ble_eq_true rfl⟩, Nat.le_of_ble_eq_true rfl, Nat.le_of_ble_eq_true rfl⟩ (fun v S1 h => ?_) (fun _ _ h => wx_out X E N (Nat.le_of_ble_eq_true rfl) (Nat.le_of_ble_eq_true rfl) h)
  obtain ⟨hw, rfl, hv⟩ := h
  refine wa_iload_n X 2 rfl dX10_enter_4 rfl ?_
  refine wa_iload_n X 3 rfl dX10_enter_5 rfl ?_
  refine wa_callS X (As := [.inl a2, .inl a3]) (hv hw) kw_352 kw_21 kw_350 kw_351 nd_X10_cellAt rfl rfl (Nat.le_of_ble_eq_true rfl) dX10_enter_6 ⟨⟨Nat.le_of_ble_eq_true rfl, Nat.le_of_ble_eq_true rfl⟩, Nat.le_of_ble_eq_true rfl, Nat.le_of_ble_eq_true rfl⟩ (fun v S3 h => ?_) (fun _ _ h => wx_out X E N (Nat.le_of_ble_eq_true rfl) (Nat.le_of_ble_eq_true rfl) h)
  obtain ⟨hw, r4, rfl, hv⟩ := h
  refine wa_istore X (lv' := [(4, .inl r4), (0, .inr (.inr (10, 1))), (1, .inl a1), (2, .inl a2), (3, .inl a3)]) dX10_enter_9 (by decide) rfl ?_
  refine wa_aload_n X 1 rfl dX10_enter_11 rfl ?_
  refine wa_iload_n X 2 rfl dX10_enter_12 rfl ?_
  refine wa_iload X 0 rfl dX10_enter_13 ?_
  refine wa_callV X (As := [.inl a1, .inl r4]) (hv hw) hk_10 hc_10 rfl kw_592 kw_21 kw_589 kw_591 kw_2 nd_X10_needEditable rfl rfl (Nat.le_of_ble_eq_true rfl) dX10_enter_15 hs_1ne ⟨⟨Nat.le_of_ble_eq_true rfl, Nat.le_of_ble_eq_true rfl⟩, Nat.le_of_ble_eq_true rfl, Nat.le_of_ble_eq_true rfl⟩ (fun v S5 h => ?_) (fun _ _ h => wx_out X E N (Nat.le_of_ble_eq_true rfl) (Nat.le_of_ble_eq_true rfl) h)
  obtain ⟨hw, rfl, hv⟩ := h
  refine wa_aload_n X 1 rfl dX10_enter_18 rfl ?_
  refine wa_getfw X hw (j := 0) (r := 1) hk_10 hc_10 i_10 (by decide) kw_327 rfl rfl (by decide) rfl dX10_enter_19 hs_1ne ?_
  refine wa_getR X (j := 4) hk_9 hc_9 i_9 (by decide) kw_144 rfl dX10_enter_22 hs_1ne ?_
  obtain ⟨o7, hv⟩ := hv
  refine wa_getI X (j := 4) hk_5 hc_5 i_5 (by decide) kw_120 rfl dX10_enter_25 o7 ?_
  refine wa_iconst X dX10_enter_28 kc1 ?_
  refine wa_icmp_eq X (tgt := 42) dX10_enter_29 (by decide) (fun c8 => ?_) (fun c8 => ?_)
  · replace hv := hv.1 c8
    refine wa_aload_n X 1 rfl dX10_enter_42 rfl ?_
    refine wa_getfw X hw (j := 0) (r := 1) hk_10 hc_10 i_10 (by decide) kw_327 rfl rfl (by decide) rfl dX10_enter_43 hs_1ne ?_
    refine wa_iload X 0 rfl dX10_enter_46 ?_
    refine wa_iload_n X 2 rfl dX10_enter_48 rfl ?_
    refine wa_aload_n X 1 rfl dX10_enter_49 rfl ?_
    refine wa_getI X (j := 5) hk_10 hc_10 i_10 (by decide) kw_332 rfl dX10_enter_50 hs_1ne ?_
    refine wa_aload_n X 1 rfl dX10_enter_53 rfl ?_
    refine wa_getfw X hw (j := 0) (r := 1) hk_10 hc_10 i_10 (by decide) kw_327 rfl rfl (by decide) rfl dX10_enter_54 hs_1ne ?_
    refine wa_getR X (j := 4) hk_9 hc_9 i_9 (by decide) kw_144 rfl dX10_enter_57 hs_1ne ?_
    obtain ⟨o9, hv⟩ := hv
    refine wa_callV X (As := [.inl r4, .inl a1, .inl (S5.1 10 1 5), .inr (.inr (5, (S5.2.1 9 1 4)))]) (ok_Sht_tell o7 hw (v_Sht_tell o9)) hk_9 hc_9 rfl kw_605 kw_22 kw_602 kw_603 kw_604 nd_X9_tell rfl rfl (Nat.le_of_ble_eq_true rfl) dX10_enter_60 hs_1ne ⟨⟨Nat.le_of_ble_eq_true rfl, Nat.le_of_ble_eq_true rfl⟩, Nat.le_of_ble_eq_true rfl, Nat.le_of_ble_eq_true rfl⟩ (fun _ S10 h => ?_) (fun _ _ h => h.elim)
    obtain ⟨hw, r11, rfl, g12⟩ := h
    replace hv := hv r11 S10 g12
    refine wa_istore X (lv' := [(5, .inl r11), (4, .inl r4), (0, .inr (.inr (10, 1))), (1, .inl a1), (2, .inl a2), (3, .inl a3)]) dX10_enter_63 (by decide) rfl ?_
    refine wa_aload_n X 2 rfl dX10_enter_65 rfl ?_
    refine wa_getfw X hw (j := 0) (r := 1) hk_10 hc_10 i_10 (by decide) kw_327 rfl rfl (by decide) rfl dX10_enter_66 hs_1ne ?_
    refine wa_new X (t := 5) hk_5 hc_5 i_5 tyX5 tyX5_ok dv_5 kw_710 kw_105 kw_27 dX10_enter_69 ⟨Nat.le_of_ble_eq_true rfl, Nat.le_of_ble_eq_true rfl⟩ (hs_eqS fun S13 hS13 => ?_)
    replace hv := hv S13 hS13
    clear hw
    refine wa_dup X dX10_enter_72 rfl ?_
    refine wa_callIN X (As := []) (hv) kw_108 kw_27 kw_711 kw_107 rfl nd_X5_init rfl rfl (Nat.le_of_ble_eq_true rfl) dX10_enter_73 (hs_sne _) ⟨⟨Nat.le_of_ble_eq_true rfl, Nat.le_of_ble_eq_true rfl⟩, Nat.le_of_ble_eq_true rfl, Nat.le_of_ble_eq_true rfl⟩ (fun v S14 h => ?_) (fun _ _ h => h.elim)
    obtain ⟨rfl, hw, hv⟩ := h
    refine wa_putR X (j := 4) hk_9 hc_9 i_9 tyX9 tyX9_ok nmX9 (by decide) kw_144 rfl rfl dX10_enter_76 hs_1ne ⟨rfl, Or.inl ⟨_, rfl⟩⟩ (hs_eqS fun S16 hS16 => ?_)
    replace hv := hv S16 hS16
    replace hw : hs_Wi S16 := hS16 ▸ hs_Wi_R rfl (by decide) hw
    refine wa_aload_n X 2 rfl dX10_enter_79 rfl ?_
    refine wa_dup X dX10_enter_80 rfl ?_
    refine wa_getI X (j := 5) hk_10 hc_10 i_10 (by decide) kw_332 rfl dX10_enter_81 hs_1ne ?_
    refine wa_iconst X dX10_enter_84 kc1 ?_
    refine wa_iadd X dX10_enter_85 ?_
    refine wa_putI X (j := 5) hk_10 hc_10 i_10 tyX10 tyX10_ok nmX10 (by decide) kw_332 rfl rfl dX10_enter_86 hs_1ne ⟨rfl, Or.inl rfl⟩ (hs_eqS fun S17 hS17 => ?_)
    replace hv := hv S17 hS17
    replace hw : hs_Wi S17 := hS17 ▸ hs_Wi_I hw
    refine wa_iload X 0 rfl dX10_enter_89 ?_
    exact wa_ireturn X E dX10_enter_91 (Nat.le_of_ble_eq_true rfl) (Nat.le_of_ble_eq_true rfl) (Or.inl rfl) ⟨hw, _, rfl, hv⟩
  · replace hv := hv.2 c8
    exact wa_throw X E N (names := ["java/lang/RuntimeException", "java/lang/Exception"]) (text := "the draft does not leave just one number") kx_fit_IllegalStateException kx_names kw_522 kw_41 (by decide +kernel) kx_at_IllegalStateException_120 kx_ok_IllegalStateException_120 dX10_enter_32 dX10_enter_35 dX10_enter_36 dX10_enter_38 dX10_enter_41 ⟨Nat.le_of_ble_eq_true rfl, Nat.le_of_ble_eq_true rfl, Nat.le_of_ble_eq_true rfl, Nat.le_of_ble_eq_true rfl⟩ (Nat.le_of_ble_eq_true rfl) (Nat.le_of_ble_eq_true rfl) ⟨hw, hv⟩

def m_C_empty (a1 : Int32) (a2 : Int32) (a3 : Int32) (S : hs_S) (Q : Int32 → hs_S → Prop) (Ex : String → hs_S → Prop) : Prop := hs_M 10 yX10_empty (.code yX10_empty cX10_empty 6 (some FieldType.int)) [.inr (.inr (10, 1)), .inl a1, .inl a2, .inl a3] S 7 197 (hs_qI Q) (hs_qX Ex)
def vc_C_empty (a1 : Int32) (a2 : Int32) (a3 : Int32) (S : hs_S) (Q : Int32 → hs_S → Prop) (Ex : String → hs_S → Prop) : Prop := (hs_Wi S → (m_C_needOwner a1 S (fun S1 => (hs_Wi S1 → (m_C_cellAt a2 a3 S1 (fun r4 S3 => (hs_Wi S3 → (m_C_needEditable a1 r4 S3 (fun S5 => ((P_Sht_tell r4 a1 (S5.1 10 1 5) 1 S5) ∧ (∀ r9 : Int32, ∀ S8 : hs_S, R_Sht_tell r4 a1 (S5.1 10 1 5) 1 S5 r9 S8 → (∀ S11 : hs_S, S11 = (hs_wI S8 10 1 5 ((S8.1 10 1 5) + (1 : Int32))) → (Q r9 S11))))) Ex))) Ex))) Ex))
set_option maxRecDepth 100000 in
set_option maxHeartbeats 4000000 in
theorem ok_C_empty {a1 : Int32} {a2 : Int32} {a3 : Int32} {S : hs_S} {Q : Int32 → hs_S → Prop} {Ex : String → hs_S → Prop} (hw : hs_Wi S) (hv : vc_C_empty a1 a2 a3 S Q Ex) : m_C_empty a1 a2 a3 S Q Ex := by
  unfold vc_C_empty at hv
  refine hs_body (own := RX10) rfl rfl (Nat.le_of_ble_eq_true rfl) (fun Z X E N J0 => ?_)
  show wa Z 0 0 S 0 [(0, .inr (.inr (10, 1))), (1, .inl a1), (2, .inl a2), (3, .inl a3)] []
  refine wa_iload_n X 1 rfl dX10_empty_0 rfl ?_
  refine wa_callS X (As := [.inl a1]) (hv hw) kw_465 kw_21 kw_463 kw_464 nd_X10_needOwner rfl rfl (Nat.le_of_ble_eq_true rfl) dX10_empty_1 ⟨⟨Nat.le_of_ble_eq_true rfl, Nat.le_of_ble_eq_true rfl⟩, Nat.le_of_ble_eq_true rfl, Nat.le_of_ble_eq_true rfl⟩ (fun v S1 h => ?_) (fun _ _ h => wx_out X E N (Nat.le_of_ble_eq_true rfl) (Nat.le_of_ble_eq_true rfl) h)
  obtain ⟨hw, rfl, hv⟩ := h
  refine wa_iload_n X 2 rfl dX10_empty_4 rfl ?_
  refine wa_iload_n X 3 rfl dX10_empty_5 rfl ?_
  refine wa_callS X (As := [.inl a2, .inl a3]) (hv hw) kw_352 kw_21 kw_350 kw_351 nd_X10_cellAt rfl rfl (Nat.le_of_ble_eq_true rfl) dX10_empty_6 ⟨⟨Nat.le_of_ble_eq_true rfl, Nat.le_of_ble_eq_true rfl⟩, Nat.le_of_ble_eq_true rfl, Nat.le_of_ble_eq_true rfl⟩ (fun v S3 h => ?_) (fun _ _ h => wx_out X E N (Nat.le_of_ble_eq_true rfl) (Nat.le_of_ble_eq_true rfl) h)
  obtain ⟨hw, r4, rfl, hv⟩ := h
  refine wa_istore X (lv' := [(4, .inl r4), (0, .inr (.inr (10, 1))), (1, .inl a1), (2, .inl a2), (3, .inl a3)]) dX10_empty_9 (by decide) rfl ?_
  refine wa_aload_n X 1 rfl dX10_empty_11 rfl ?_
  refine wa_iload_n X 2 rfl dX10_empty_12 rfl ?_
  refine wa_iload X 0 rfl dX10_empty_13 ?_
  refine wa_callV X (As := [.inl a1, .inl r4]) (hv hw) hk_10 hc_10 rfl kw_592 kw_21 kw_589 kw_591 kw_2 nd_X10_needEditable rfl rfl (Nat.le_of_ble_eq_true rfl) dX10_empty_15 hs_1ne ⟨⟨Nat.le_of_ble_eq_true rfl, Nat.le_of_ble_eq_true rfl⟩, Nat.le_of_ble_eq_true rfl, Nat.le_of_ble_eq_true rfl⟩ (fun v S5 h => ?_) (fun _ _ h => wx_out X E N (Nat.le_of_ble_eq_true rfl) (Nat.le_of_ble_eq_true rfl) h)
  obtain ⟨hw, rfl, hv⟩ := h
  refine wa_aload_n X 1 rfl dX10_empty_18 rfl ?_
  refine wa_getfw X hw (j := 0) (r := 1) hk_10 hc_10 i_10 (by decide) kw_327 rfl rfl (by decide) rfl dX10_empty_19 hs_1ne ?_
  refine wa_iload X 0 rfl dX10_empty_22 ?_
  refine wa_iload_n X 2 rfl dX10_empty_24 rfl ?_
  refine wa_aload_n X 1 rfl dX10_empty_25 rfl ?_
  refine wa_getI X (j := 5) hk_10 hc_10 i_10 (by decide) kw_332 rfl dX10_empty_26 hs_1ne ?_
  refine wa_aload_n X 1 rfl dX10_empty_29 rfl ?_
  refine wa_getfw X hw (j := 0) (r := 1) hk_10 hc_10 i_10 (by decide) kw_327 rfl rfl (by decide) rfl dX10_empty_30 hs_1ne ?_
  refine wa_getfw X hw (j := 3) (r := 1) hk_9 hc_9 i_9 (by decide) kw_142 rfl rfl (by decide) rfl dX10_empty_33 hs_1ne ?_
  obtain ⟨o7, hv⟩ := hv
  refine wa_callV X (As := [.inl r4, .inl a1, .inl (S5.1 10 1 5), .inr (.inr (5, 1))]) (ok_Sht_tell hs_1ne hw (v_Sht_tell o7)) hk_9 hc_9 rfl kw_605 kw_22 kw_602 kw_603 kw_604 nd_X9_tell rfl rfl (Nat.le_of_ble_eq_true rfl) dX10_empty_36 hs_1ne ⟨⟨Nat.le_of_ble_eq_true rfl, Nat.le_of_ble_eq_true rfl⟩, Nat.le_of_ble_eq_true rfl, Nat.le_of_ble_eq_true rfl⟩ (fun _ S8 h => ?_) (fun _ _ h => h.elim)
  obtain ⟨hw, r9, rfl, g10⟩ := h
  replace hv := hv r9 S8 g10
  refine wa_istore X (lv' := [(5, .inl r9), (4, .inl r4), (0, .inr (.inr (10, 1))), (1, .inl a1), (2, .inl a2), (3, .inl a3)]) dX10_empty_39 (by decide) rfl ?_
  refine wa_aload_n X 2 rfl dX10_empty_41 rfl ?_
  refine wa_dup X dX10_empty_42 rfl ?_
  refine wa_getI X (j := 5) hk_10 hc_10 i_10 (by decide) kw_332 rfl dX10_empty_43 hs_1ne ?_
  refine wa_iconst X dX10_empty_46 kc1 ?_
  refine wa_iadd X dX10_empty_47 ?_
  refine wa_putI X (j := 5) hk_10 hc_10 i_10 tyX10 tyX10_ok nmX10 (by decide) kw_332 rfl rfl dX10_empty_48 hs_1ne ⟨rfl, Or.inl rfl⟩ (hs_eqS fun S11 hS11 => ?_)
  replace hv := hv S11 hS11
  replace hw : hs_Wi S11 := hS11 ▸ hs_Wi_I hw
  refine wa_iload X 0 rfl dX10_empty_51 ?_
  exact wa_ireturn X E dX10_empty_53 (Nat.le_of_ble_eq_true rfl) (Nat.le_of_ble_eq_true rfl) (Or.inl rfl) ⟨hw, _, rfl, hv⟩

def m_C_notice (a1 : Int32) (a2 : Int32) (S : hs_S) (Q : Int32 → hs_S → Prop) (Ex : String → hs_S → Prop) : Prop := hs_M 7 yX10_notice (.code yX10_notice cX10_notice 4 (some FieldType.int)) [.inr (.inr (10, 1)), .inl a1, .inl a2] S 2 12 (hs_qI Q) (hs_qX Ex)
def vc_C_notice (a1 : Int32) (a2 : Int32) (S : hs_S) (Q : Int32 → hs_S → Prop) (Ex : String → hs_S → Prop) : Prop := (hs_Wi S → (m_C_needColumn a1 S (fun S1 => ((a2 < 0 → (Ex "java/lang/IllegalArgumentException" S1)) ∧ (¬ a2 < 0 → ((a2 ≤ (50 : Int32) → ((0 ≤ a1.toInt ∧ a1.toInt < 4) ∧ (∀ S6 : hs_S, S6 = (hs_wI S1 25 1 a1.toNatClampNeg a2) → (∀ S7 : hs_S, S7 = (hs_wI S6 10 1 5 ((S6.1 10 1 5) + (1 : Int32))) → (Q (S1.1 25 1 a1.toNatClampNeg) S7))))) ∧ (¬ a2 ≤ (50 : Int32) → (Ex "java/lang/IllegalArgumentException" S1)))))) Ex))
set_option maxRecDepth 100000 in
set_option maxHeartbeats 4000000 in
theorem ok_C_notice {a1 : Int32} {a2 : Int32} {S : hs_S} {Q : Int32 → hs_S → Prop} {Ex : String → hs_S → Prop} (hw : hs_Wi S) (hv : vc_C_notice a1 a2 S Q Ex) : m_C_notice a1 a2 S Q Ex := by
  unfold vc_C_notice at hv
  refine hs_body (own := RX10) rfl rfl (Nat.le_of_ble_eq_true rfl) (fun Z X E N J0 => ?_)
  show wa Z 0 0 S 0 [(0, .inr (.inr (10, 1))), (1, .inl a1), (2, .inl a2)] []
  refine wa_iload_n X 1 rfl dX10_notice_0 rfl ?_
  refine wa_callS X (As := [.inl a1]) (hv hw) kw_355 kw_21 kw_353 kw_354 nd_X10_needColumn rfl rfl (Nat.le_of_ble_eq_true rfl) dX10_notice_1 ⟨⟨Nat.le_of_ble_eq_true rfl, Nat.le_of_ble_eq_true rfl⟩, Nat.le_of_ble_eq_true rfl, Nat.le_of_ble_eq_true rfl⟩ (fun v S1 h => ?_) (fun _ _ h => wx_out X E N (Nat.le_of_ble_eq_true rfl) (Nat.le_of_ble_eq_true rfl) h)
  obtain ⟨hw, rfl, hv⟩ := h
  refine wa_iload_n X 2 rfl dX10_notice_4 rfl ?_
  refine wa_if_lt X (tgt := 14) dX10_notice_5 (by decide) (fun c3 => ?_) (fun c3 => ?_)
  · replace hv := hv.1 c3
    exact wa_throw X E N (names := ["java/lang/RuntimeException", "java/lang/Exception"]) (text := "the notice is out of range") kx_fit_IllegalArgumentException kx_names kw_546 kw_40 (by decide +kernel) kx_at_IllegalArgumentException_84 kx_ok_IllegalArgumentException_84 dX10_notice_14 dX10_notice_17 dX10_notice_18 dX10_notice_20 dX10_notice_23 ⟨Nat.le_of_ble_eq_true rfl, Nat.le_of_ble_eq_true rfl, Nat.le_of_ble_eq_true rfl, Nat.le_of_ble_eq_true rfl⟩ (Nat.le_of_ble_eq_true rfl) (Nat.le_of_ble_eq_true rfl) ⟨hw, hv⟩
  · replace hv := hv.2 c3
    refine wa_iload_n X 2 rfl dX10_notice_8 rfl ?_
    refine wa_bipush X dX10_notice_9 kb50 ?_
    refine wa_icmp_le X (tgt := 24) dX10_notice_11 (by decide) (fun c4 => ?_) (fun c4 => ?_)
    · replace hv := hv.1 c4
      refine wa_aload_n X 0 rfl dX10_notice_24 rfl ?_
      refine wa_getfw X hw (j := 0) (r := 1) hk_10 hc_10 i_10 (by decide) kw_327 rfl rfl (by decide) rfl dX10_notice_25 hs_1ne ?_
      refine wa_getfw X hw (j := 2) (r := 1) hk_9 hc_9 i_9 (by decide) kw_139 rfl rfl (by decide) rfl dX10_notice_28 hs_1ne ?_
      refine wa_iload_n X 1 rfl dX10_notice_31 rfl ?_
      obtain ⟨o5, hv⟩ := hv
      refine wa_iald X hk_25 dX10_notice_32 hs_1ne o5 ?_
      refine wa_istore_n X (lv' := [(3, .inl (S1.1 25 1 a1.toNatClampNeg)), (0, .inr (.inr (10, 1))), (1, .inl a1), (2, .inl a2)]) dX10_notice_33 rfl (by decide) rfl ?_
      refine wa_aload_n X 1 rfl dX10_notice_34 rfl ?_
      refine wa_getfw X hw (j := 0) (r := 1) hk_10 hc_10 i_10 (by decide) kw_327 rfl rfl (by decide) rfl dX10_notice_35 hs_1ne ?_
      refine wa_getfw X hw (j := 2) (r := 1) hk_9 hc_9 i_9 (by decide) kw_139 rfl rfl (by decide) rfl dX10_notice_38 hs_1ne ?_
      refine wa_iload_n X 2 rfl dX10_notice_41 rfl ?_
      refine wa_iload_n X 3 rfl dX10_notice_42 rfl ?_
      refine wa_iast X hk_25 dX10_notice_43 hs_1ne o5 (hs_eqS fun S6 hS6 => ?_)
      replace hv := hv S6 hS6
      replace hw : hs_Wi S6 := hS6 ▸ hs_Wi_I hw
      refine wa_aload_n X 1 rfl dX10_notice_44 rfl ?_
      refine wa_dup X dX10_notice_45 rfl ?_
      refine wa_getI X (j := 5) hk_10 hc_10 i_10 (by decide) kw_332 rfl dX10_notice_46 hs_1ne ?_
      refine wa_iconst X dX10_notice_49 kc1 ?_
      refine wa_iadd X dX10_notice_50 ?_
      refine wa_putI X (j := 5) hk_10 hc_10 i_10 tyX10 tyX10_ok nmX10 (by decide) kw_332 rfl rfl dX10_notice_51 hs_1ne ⟨rfl, Or.inl rfl⟩ (hs_eqS fun S7 hS7 => ?_)
      replace hv := hv S7 hS7
      replace hw : hs_Wi S7 := hS7 ▸ hs_Wi_I hw
      refine wa_iload_n X 0 rfl dX10_notice_54 rfl ?_
      exact wa_ireturn X E dX10_notice_55 (Nat.le_of_ble_eq_true rfl) (Nat.le_of_ble_eq_true rfl) (Or.inl rfl) ⟨hw, _, rfl, hv⟩
    · replace hv := hv.2 c4
      exact wa_throw X E N (names := ["java/lang/RuntimeException", "java/lang/Exception"]) (text := "the notice is out of range") kx_fit_IllegalArgumentException kx_names kw_546 kw_40 (by decide +kernel) kx_at_IllegalArgumentException_84 kx_ok_IllegalArgumentException_84 dX10_notice_14 dX10_notice_17 dX10_notice_18 dX10_notice_20 dX10_notice_23 ⟨Nat.le_of_ble_eq_true rfl, Nat.le_of_ble_eq_true rfl, Nat.le_of_ble_eq_true rfl, Nat.le_of_ble_eq_true rfl⟩ (Nat.le_of_ble_eq_true rfl) (Nat.le_of_ble_eq_true rfl) ⟨hw, hv⟩

def m_C_value (a1 : Int32) (a2 : Int32) (a3 : Int32) (S : hs_S) (Q : Int32 → hs_S → Prop) (Ex : String → hs_S → Prop) : Prop := hs_M 52 yX10_value (.code yX10_value cX10_value 5 (some FieldType.int)) [.inr (.inr (10, 1)), .inl a1, .inl a2, .inl a3] S 4 24 (hs_qI Q) (hs_qX Ex)
def vc_C_value (a1 : Int32) (a2 : Int32) (a3 : Int32) (S : hs_S) (Q : Int32 → hs_S → Prop) (Ex : String → hs_S → Prop) : Prop := (hs_Wi S → (m_C_needOwner a1 S (fun S1 => (hs_Wi S1 → (m_C_cellAt a2 a3 S1 (fun r4 S3 => (hs_Wi S3 → (m_C_needReader a1 r4 S3 (fun S5 => ((P_Fnd_goTo (S5.1 10 1 5) 1 S5) ∧ (∀ S8 : hs_S, R_Fnd_goTo (S5.1 10 1 5) 1 S5 S8 → ((P_Fnd_numberOf r4 S8) ∧ (∀ r13 : Int32, ∀ S12 : hs_S, R_Fnd_numberOf r4 S8 r13 S12 → (Q r13 S12)))))) Ex))) Ex))) Ex))
set_option maxRecDepth 100000 in
set_option maxHeartbeats 4000000 in
theorem ok_C_value {a1 : Int32} {a2 : Int32} {a3 : Int32} {S : hs_S} {Q : Int32 → hs_S → Prop} {Ex : String → hs_S → Prop} (hw : hs_Wi S) (hv : vc_C_value a1 a2 a3 S Q Ex) : m_C_value a1 a2 a3 S Q Ex := by
  unfold vc_C_value at hv
  refine hs_body (own := RX10) rfl rfl (Nat.le_of_ble_eq_true rfl) (fun Z X E N J0 => ?_)
  show wa Z 0 0 S 0 [(0, .inr (.inr (10, 1))), (1, .inl a1), (2, .inl a2), (3, .inl a3)] []
  refine wa_iload_n X 1 rfl dX10_value_0 rfl ?_
  refine wa_callS X (As := [.inl a1]) (hv hw) kw_465 kw_21 kw_463 kw_464 nd_X10_needOwner rfl rfl (Nat.le_of_ble_eq_true rfl) dX10_value_1 ⟨⟨Nat.le_of_ble_eq_true rfl, Nat.le_of_ble_eq_true rfl⟩, Nat.le_of_ble_eq_true rfl, Nat.le_of_ble_eq_true rfl⟩ (fun v S1 h => ?_) (fun _ _ h => wx_out X E N (Nat.le_of_ble_eq_true rfl) (Nat.le_of_ble_eq_true rfl) h)
  obtain ⟨hw, rfl, hv⟩ := h
  refine wa_iload_n X 2 rfl dX10_value_4 rfl ?_
  refine wa_iload_n X 3 rfl dX10_value_5 rfl ?_
  refine wa_callS X (As := [.inl a2, .inl a3]) (hv hw) kw_352 kw_21 kw_350 kw_351 nd_X10_cellAt rfl rfl (Nat.le_of_ble_eq_true rfl) dX10_value_6 ⟨⟨Nat.le_of_ble_eq_true rfl, Nat.le_of_ble_eq_true rfl⟩, Nat.le_of_ble_eq_true rfl, Nat.le_of_ble_eq_true rfl⟩ (fun v S3 h => ?_) (fun _ _ h => wx_out X E N (Nat.le_of_ble_eq_true rfl) (Nat.le_of_ble_eq_true rfl) h)
  obtain ⟨hw, r4, rfl, hv⟩ := h
  refine wa_istore X (lv' := [(4, .inl r4), (0, .inr (.inr (10, 1))), (1, .inl a1), (2, .inl a2), (3, .inl a3)]) dX10_value_9 (by decide) rfl ?_
  refine wa_aload_n X 1 rfl dX10_value_11 rfl ?_
  refine wa_iload_n X 2 rfl dX10_value_12 rfl ?_
  refine wa_iload X 0 rfl dX10_value_13 ?_
  refine wa_callV X (As := [.inl a1, .inl r4]) (hv hw) hk_10 hc_10 rfl kw_728 kw_21 kw_725 kw_727 kw_6 nd_X10_needReader rfl rfl (Nat.le_of_ble_eq_true rfl) dX10_value_15 hs_1ne ⟨⟨Nat.le_of_ble_eq_true rfl, Nat.le_of_ble_eq_true rfl⟩, Nat.le_of_ble_eq_true rfl, Nat.le_of_ble_eq_true rfl⟩ (fun v S5 h => ?_) (fun _ _ h => wx_out X E N (Nat.le_of_ble_eq_true rfl) (Nat.le_of_ble_eq_true rfl) h)
  obtain ⟨hw, rfl, hv⟩ := h
  refine wa_aload_n X 1 rfl dX10_value_18 rfl ?_
  refine wa_getfw X hw (j := 2) (r := 1) hk_10 hc_10 i_10 (by decide) kw_329 rfl rfl (by decide) rfl dX10_value_19 hs_1ne ?_
  refine wa_aload_n X 1 rfl dX10_value_22 rfl ?_
  refine wa_getI X (j := 5) hk_10 hc_10 i_10 (by decide) kw_332 rfl dX10_value_23 hs_1ne ?_
  refine wa_aload_n X 1 rfl dX10_value_26 rfl ?_
  refine wa_getfw X hw (j := 0) (r := 1) hk_10 hc_10 i_10 (by decide) kw_327 rfl rfl (by decide) rfl dX10_value_27 hs_1ne ?_
  refine wa_getfw X hw (j := 0) (r := 1) hk_9 hc_9 i_9 (by decide) kw_134 rfl rfl (by decide) rfl dX10_value_30 hs_1ne ?_
  obtain ⟨o7, hv⟩ := hv
  refine wa_callV X (As := [.inl (S5.1 10 1 5), .inr (.inr (7, 1))]) (ok_Fnd_goTo hs_1ne hw (v_Fnd_goTo o7)) hk_4 hc_4 rfl kw_737 kw_30 kw_734 kw_735 kw_736 nd_X4_goTo rfl rfl (Nat.le_of_ble_eq_true rfl) dX10_value_33 hs_1ne ⟨⟨Nat.le_of_ble_eq_true rfl, Nat.le_of_ble_eq_true rfl⟩, Nat.le_of_ble_eq_true rfl, Nat.le_of_ble_eq_true rfl⟩ (fun _ S8 h => ?_) (fun _ _ h => h.elim)
  obtain ⟨hw, rfl, g10⟩ := h
  replace hv := hv S8 g10
  refine wa_aload_n X 1 rfl dX10_value_36 rfl ?_
  refine wa_getfw X hw (j := 2) (r := 1) hk_10 hc_10 i_10 (by decide) kw_329 rfl rfl (by decide) rfl dX10_value_37 hs_1ne ?_
  refine wa_iload X 0 rfl dX10_value_40 ?_
  obtain ⟨o11, hv⟩ := hv
  refine wa_callV X (As := [.inl r4]) (ok_Fnd_numberOf hw (v_Fnd_numberOf o11)) hk_4 hc_4 rfl kw_766 kw_30 kw_763 kw_764 kw_765 nd_X4_numberOf rfl rfl (Nat.le_of_ble_eq_true rfl) dX10_value_42 hs_1ne ⟨⟨Nat.le_of_ble_eq_true rfl, Nat.le_of_ble_eq_true rfl⟩, Nat.le_of_ble_eq_true rfl, Nat.le_of_ble_eq_true rfl⟩ (fun _ S12 h => ?_) (fun _ _ h => h.elim)
  obtain ⟨hw, r13, rfl, g14⟩ := h
  replace hv := hv r13 S12 g14
  exact wa_ireturn X E dX10_value_45 (Nat.le_of_ble_eq_true rfl) (Nat.le_of_ble_eq_true rfl) (Or.inl rfl) ⟨hw, _, rfl, hv⟩

def m_C_fault (a1 : Int32) (a2 : Int32) (a3 : Int32) (S : hs_S) (Q : Int32 → hs_S → Prop) (Ex : String → hs_S → Prop) : Prop := hs_M 52 yX10_fault (.code yX10_fault cX10_fault 5 (some FieldType.int)) [.inr (.inr (10, 1)), .inl a1, .inl a2, .inl a3] S 4 24 (hs_qI Q) (hs_qX Ex)
def vc_C_fault (a1 : Int32) (a2 : Int32) (a3 : Int32) (S : hs_S) (Q : Int32 → hs_S → Prop) (Ex : String → hs_S → Prop) : Prop := (hs_Wi S → (m_C_needOwner a1 S (fun S1 => (hs_Wi S1 → (m_C_cellAt a2 a3 S1 (fun r4 S3 => (hs_Wi S3 → (m_C_needReader a1 r4 S3 (fun S5 => ((P_Fnd_goTo (S5.1 10 1 5) 1 S5) ∧ (∀ S8 : hs_S, R_Fnd_goTo (S5.1 10 1 5) 1 S5 S8 → ((P_Fnd_faultOf r4 S8) ∧ (∀ r13 : Int32, ∀ S12 : hs_S, R_Fnd_faultOf r4 S8 r13 S12 → (Q r13 S12)))))) Ex))) Ex))) Ex))
set_option maxRecDepth 100000 in
set_option maxHeartbeats 4000000 in
theorem ok_C_fault {a1 : Int32} {a2 : Int32} {a3 : Int32} {S : hs_S} {Q : Int32 → hs_S → Prop} {Ex : String → hs_S → Prop} (hw : hs_Wi S) (hv : vc_C_fault a1 a2 a3 S Q Ex) : m_C_fault a1 a2 a3 S Q Ex := by
  unfold vc_C_fault at hv
  refine hs_body (own := RX10) rfl rfl (Nat.le_of_ble_eq_true rfl) (fun Z X E N J0 => ?_)
  show wa Z 0 0 S 0 [(0, .inr (.inr (10, 1))), (1, .inl a1), (2, .inl a2), (3, .inl a3)] []
  refine wa_iload_n X 1 rfl dX10_fault_0 rfl ?_
  refine wa_callS X (As := [.inl a1]) (hv hw) kw_465 kw_21 kw_463 kw_464 nd_X10_needOwner rfl rfl (Nat.le_of_ble_eq_true rfl) dX10_fault_1 ⟨⟨Nat.le_of_ble_eq_true rfl, Nat.le_of_ble_eq_true rfl⟩, Nat.le_of_ble_eq_true rfl, Nat.le_of_ble_eq_true rfl⟩ (fun v S1 h => ?_) (fun _ _ h => wx_out X E N (Nat.le_of_ble_eq_true rfl) (Nat.le_of_ble_eq_true rfl) h)
  obtain ⟨hw, rfl, hv⟩ := h
  refine wa_iload_n X 2 rfl dX10_fault_4 rfl ?_
  refine wa_iload_n X 3 rfl dX10_fault_5 rfl ?_
  refine wa_callS X (As := [.inl a2, .inl a3]) (hv hw) kw_352 kw_21 kw_350 kw_351 nd_X10_cellAt rfl rfl (Nat.le_of_ble_eq_true rfl) dX10_fault_6 ⟨⟨Nat.le_of_ble_eq_true rfl, Nat.le_of_ble_eq_true rfl⟩, Nat.le_of_ble_eq_true rfl, Nat.le_of_ble_eq_true rfl⟩ (fun v S3 h => ?_) (fun _ _ h => wx_out X E N (Nat.le_of_ble_eq_true rfl) (Nat.le_of_ble_eq_true rfl) h)
  obtain ⟨hw, r4, rfl, hv⟩ := h
  refine wa_istore X (lv' := [(4, .inl r4), (0, .inr (.inr (10, 1))), (1, .inl a1), (2, .inl a2), (3, .inl a3)]) dX10_fault_9 (by decide) rfl ?_
  refine wa_aload_n X 1 rfl dX10_fault_11 rfl ?_
  refine wa_iload_n X 2 rfl dX10_fault_12 rfl ?_
  refine wa_iload X 0 rfl dX10_fault_13 ?_
  refine wa_callV X (As := [.inl a1, .inl r4]) (hv hw) hk_10 hc_10 rfl kw_728 kw_21 kw_725 kw_727 kw_6 nd_X10_needReader rfl rfl (Nat.le_of_ble_eq_true rfl) dX10_fault_15 hs_1ne ⟨⟨Nat.le_of_ble_eq_true rfl, Nat.le_of_ble_eq_true rfl⟩, Nat.le_of_ble_eq_true rfl, Nat.le_of_ble_eq_true rfl⟩ (fun v S5 h => ?_) (fun _ _ h => wx_out X E N (Nat.le_of_ble_eq_true rfl) (Nat.le_of_ble_eq_true rfl) h)
  obtain ⟨hw, rfl, hv⟩ := h
  refine wa_aload_n X 1 rfl dX10_fault_18 rfl ?_
  refine wa_getfw X hw (j := 2) (r := 1) hk_10 hc_10 i_10 (by decide) kw_329 rfl rfl (by decide) rfl dX10_fault_19 hs_1ne ?_
  refine wa_aload_n X 1 rfl dX10_fault_22 rfl ?_
  refine wa_getI X (j := 5) hk_10 hc_10 i_10 (by decide) kw_332 rfl dX10_fault_23 hs_1ne ?_
  refine wa_aload_n X 1 rfl dX10_fault_26 rfl ?_
  refine wa_getfw X hw (j := 0) (r := 1) hk_10 hc_10 i_10 (by decide) kw_327 rfl rfl (by decide) rfl dX10_fault_27 hs_1ne ?_
  refine wa_getfw X hw (j := 0) (r := 1) hk_9 hc_9 i_9 (by decide) kw_134 rfl rfl (by decide) rfl dX10_fault_30 hs_1ne ?_
  obtain ⟨o7, hv⟩ := hv
  refine wa_callV X (As := [.inl (S5.1 10 1 5), .inr (.inr (7, 1))]) (ok_Fnd_goTo hs_1ne hw (v_Fnd_goTo o7)) hk_4 hc_4 rfl kw_737 kw_30 kw_734 kw_735 kw_736 nd_X4_goTo rfl rfl (Nat.le_of_ble_eq_true rfl) dX10_fault_33 hs_1ne ⟨⟨Nat.le_of_ble_eq_true rfl, Nat.le_of_ble_eq_true rfl⟩, Nat.le_of_ble_eq_true rfl, Nat.le_of_ble_eq_true rfl⟩ (fun _ S8 h => ?_) (fun _ _ h => h.elim)
  obtain ⟨hw, rfl, g10⟩ := h
  replace hv := hv S8 g10
  refine wa_aload_n X 1 rfl dX10_fault_36 rfl ?_
  refine wa_getfw X hw (j := 2) (r := 1) hk_10 hc_10 i_10 (by decide) kw_329 rfl rfl (by decide) rfl dX10_fault_37 hs_1ne ?_
  refine wa_iload X 0 rfl dX10_fault_40 ?_
  obtain ⟨o11, hv⟩ := hv
  refine wa_callV X (As := [.inl r4]) (ok_Fnd_faultOf hw (v_Fnd_faultOf o11)) hk_4 hc_4 rfl kw_790 kw_30 kw_787 kw_788 kw_789 nd_X4_faultOf rfl rfl (Nat.le_of_ble_eq_true rfl) dX10_fault_42 hs_1ne ⟨⟨Nat.le_of_ble_eq_true rfl, Nat.le_of_ble_eq_true rfl⟩, Nat.le_of_ble_eq_true rfl, Nat.le_of_ble_eq_true rfl⟩ (fun _ S12 h => ?_) (fun _ _ h => h.elim)
  obtain ⟨hw, r13, rfl, g14⟩ := h
  replace hv := hv r13 S12 g14
  exact wa_ireturn X E dX10_fault_45 (Nat.le_of_ble_eq_true rfl) (Nat.le_of_ble_eq_true rfl) (Or.inl rfl) ⟨hw, _, rfl, hv⟩

def m_C_edits (a1 : Int32) (a2 : Int32) (S : hs_S) (Q : Int32 → hs_S → Prop) (Ex : String → hs_S → Prop) : Prop := hs_M 8 yX10_edits (.code yX10_edits cX10_edits 3 (some FieldType.int)) [.inr (.inr (10, 1)), .inl a1, .inl a2] S 2 12 (hs_qI Q) (hs_qX Ex)
def vc_C_edits (a1 : Int32) (a2 : Int32) (S : hs_S) (Q : Int32 → hs_S → Prop) (Ex : String → hs_S → Prop) : Prop := (hs_Wi S → (m_C_cellAt a1 a2 S (fun r2 S1 => ((P_Sht_countOf r2 S1) ∧ (Q (F_Sht_countOf r2 S1) S1))) Ex))
set_option maxRecDepth 100000 in
set_option maxHeartbeats 4000000 in
theorem ok_C_edits {a1 : Int32} {a2 : Int32} {S : hs_S} {Q : Int32 → hs_S → Prop} {Ex : String → hs_S → Prop} (hw : hs_Wi S) (hv : vc_C_edits a1 a2 S Q Ex) : m_C_edits a1 a2 S Q Ex := by
  unfold vc_C_edits at hv
  refine hs_body (own := RX10) rfl rfl (Nat.le_of_ble_eq_true rfl) (fun Z X E N J0 => ?_)
  show wa Z 0 0 S 0 [(0, .inr (.inr (10, 1))), (1, .inl a1), (2, .inl a2)] []
  refine wa_aload_n X 0 rfl dX10_edits_0 rfl ?_
  refine wa_getfw X hw (j := 0) (r := 1) hk_10 hc_10 i_10 (by decide) kw_327 rfl rfl (by decide) rfl dX10_edits_1 hs_1ne ?_
  refine wa_iload_n X 1 rfl dX10_edits_4 rfl ?_
  refine wa_iload_n X 2 rfl dX10_edits_5 rfl ?_
  refine wa_callS X (As := [.inl a1, .inl a2]) (hv hw) kw_352 kw_21 kw_350 kw_351 nd_X10_cellAt rfl rfl (Nat.le_of_ble_eq_true rfl) dX10_edits_6 ⟨⟨Nat.le_of_ble_eq_true rfl, Nat.le_of_ble_eq_true rfl⟩, Nat.le_of_ble_eq_true rfl, Nat.le_of_ble_eq_true rfl⟩ (fun v S1 h => ?_) (fun _ _ h => wx_out X E N (Nat.le_of_ble_eq_true rfl) (Nat.le_of_ble_eq_true rfl) h)
  obtain ⟨hw, r2, rfl, hv⟩ := h
  obtain ⟨o3, hv⟩ := hv
  refine wa_callV X (As := [.inl r2]) (f_Sht_countOf hw o3) hk_9 hc_9 rfl kw_428 kw_22 kw_425 kw_426 kw_427 nd_X9_countOf rfl rfl (Nat.le_of_ble_eq_true rfl) dX10_edits_9 hs_1ne ⟨⟨Nat.le_of_ble_eq_true rfl, Nat.le_of_ble_eq_true rfl⟩, Nat.le_of_ble_eq_true rfl, Nat.le_of_ble_eq_true rfl⟩ (hs_pdk0 ?_) (fun _ _ h => h.elim)
  exact wa_ireturn X E dX10_edits_12 (Nat.le_of_ble_eq_true rfl) (Nat.le_of_ble_eq_true rfl) (Or.inl rfl) ⟨hw, _, rfl, hv⟩

def m_C_edit (a1 : Int32) (a2 : Int32) (a3 : Int32) (a4 : Int32) (S : hs_S) (Q : Int32 → hs_S → Prop) (Ex : String → hs_S → Prop) : Prop := hs_M 8 yX10_edit (.code yX10_edit cX10_edit 7 (some FieldType.int)) [.inr (.inr (10, 1)), .inl a1, .inl a2, .inl a3, .inl a4] S 3 18 (hs_qI Q) (hs_qX Ex)
def vc_C_edit (a1 : Int32) (a2 : Int32) (a3 : Int32) (a4 : Int32) (S : hs_S) (Q : Int32 → hs_S → Prop) (Ex : String → hs_S → Prop) : Prop := (hs_Wi S → (m_C_cellAt a1 a2 S (fun r2 S1 => ((P_Sht_placed r2 a3 S1) ∧ ((¬ (F_Sht_placed r2 a3 S1) = 0 → ((a4 = (0 : Int32) → (Q (S1.1 3 (F_Sht_placed r2 a3 S1) 0) S1)) ∧ (a4 = (1 : Int32) → (Q (S1.1 3 (F_Sht_placed r2 a3 S1) 3) S1)) ∧ (a4 = (2 : Int32) → (Q (S1.1 3 (F_Sht_placed r2 a3 S1) 4) S1)) ∧ (a4 = (3 : Int32) → (Q (S1.1 3 (F_Sht_placed r2 a3 S1) 2) S1)) ∧ (a4 = (4 : Int32) → (((S1.2.1 3 (F_Sht_placed r2 a3 S1) 5) ≠ 0) ∧ (Q (S1.1 5 (S1.2.1 3 (F_Sht_placed r2 a3 S1) 5) 3) S1))) ∧ (a4 = (5 : Int32) → (((S1.1 3 (F_Sht_placed r2 a3 S1) 6) = 0 → (Q (0 : Int32) S1)) ∧ (¬ (S1.1 3 (F_Sht_placed r2 a3 S1) 6) = 0 → (Q (1 : Int32) S1)))) ∧ (a4 = (6 : Int32) → ((P_Sht_counting r2 (S1.1 10 1 5) S1) ∧ ((¬ (F_Sht_placed r2 a3 S1) = (F_Sht_counting r2 (S1.1 10 1 5) S1) → (Q (0 : Int32) S1)) ∧ ((F_Sht_placed r2 a3 S1) = (F_Sht_counting r2 (S1.1 10 1 5) S1) → (Q (1 : Int32) S1))))) ∧ (a4.toInt < 0 ∨ 6 < a4.toInt → (Ex "java/lang/IllegalArgumentException" S1)))) ∧ ((F_Sht_placed r2 a3 S1) = 0 → (Ex "java/lang/IndexOutOfBoundsException" S1))))) Ex))
set_option maxRecDepth 100000 in
set_option maxHeartbeats 4000000 in
theorem ok_C_edit {a1 : Int32} {a2 : Int32} {a3 : Int32} {a4 : Int32} {S : hs_S} {Q : Int32 → hs_S → Prop} {Ex : String → hs_S → Prop} (hw : hs_Wi S) (hv : vc_C_edit a1 a2 a3 a4 S Q Ex) : m_C_edit a1 a2 a3 a4 S Q Ex := by
  unfold vc_C_edit at hv
  refine hs_body (own := RX10) rfl rfl (Nat.le_of_ble_eq_true rfl) (fun Z X E N J0 => ?_)
  show wa Z 0 0 S 0 [(0, .inr (.inr (10, 1))), (1, .inl a1), (2, .inl a2), (3, .inl a3), (4, .inl a4)] []
  refine wa_iload_n X 1 rfl dX10_edit_0 rfl ?_
  refine wa_iload_n X 2 rfl dX10_edit_1 rfl ?_
  refine wa_callS X (As := [.inl a1, .inl a2]) (hv hw) kw_352 kw_21 kw_350 kw_351 nd_X10_cellAt rfl rfl (Nat.le_of_ble_eq_true rfl) dX10_edit_2 ⟨⟨Nat.le_of_ble_eq_true rfl, Nat.le_of_ble_eq_true rfl⟩, Nat.le_of_ble_eq_true rfl, Nat.le_of_ble_eq_true rfl⟩ (fun v S1 h => ?_) (fun _ _ h => wx_out X E N (Nat.le_of_ble_eq_true rfl) (Nat.le_of_ble_eq_true rfl) h)
  obtain ⟨hw, r2, rfl, hv⟩ := h
  refine wa_istore X (lv' := [(5, .inl r2), (0, .inr (.inr (10, 1))), (1, .inl a1), (2, .inl a2), (3, .inl a3), (4, .inl a4)]) dX10_edit_5 (by decide) rfl ?_
  refine wa_aload_n X 1 rfl dX10_edit_7 rfl ?_
  refine wa_getfw X hw (j := 0) (r := 1) hk_10 hc_10 i_10 (by decide) kw_327 rfl rfl (by decide) rfl dX10_edit_8 hs_1ne ?_
  refine wa_iload X 0 rfl dX10_edit_11 ?_
  refine wa_iload_n X 4 rfl dX10_edit_13 rfl ?_
  obtain ⟨o3, hv⟩ := hv
  refine wa_callV X (As := [.inl r2, .inl a3]) (f_Sht_placed hw o3) hk_9 hc_9 rfl kw_798 kw_22 kw_795 kw_796 kw_797 nd_X9_placed rfl rfl (Nat.le_of_ble_eq_true rfl) dX10_edit_14 hs_1ne ⟨⟨Nat.le_of_ble_eq_true rfl, Nat.le_of_ble_eq_true rfl⟩, Nat.le_of_ble_eq_true rfl, Nat.le_of_ble_eq_true rfl⟩ (hs_pdk0 ?_) (fun _ _ h => h.elim)
  refine wa_astore X (lv' := [(6, .inr (.inr (3, (F_Sht_placed r2 a3 S1)))), (5, .inl r2), (0, .inr (.inr (10, 1))), (1, .inl a1), (2, .inl a2), (3, .inl a3), (4, .inl a4)]) dX10_edit_17 (by decide) rfl ?_
  refine wa_aload X 0 rfl dX10_edit_19 ?_
  refine wa_ifnonnull X (tgt := 34) dX10_edit_21 (by decide) (fun c4 => ?_) (fun c4 => ?_)
  · replace hv := hv.1 c4
    refine wa_iload X 6 rfl dX10_edit_34 ?_
    by_cases c5 : a4 = (0 : Int32)
    · replace hv := hv.1 c5
      refine wa_tableIn X (tgt := 80) dX10_edit_36 (by rw [c5]; decide) (by rw [c5]; decide) (off := 44) (by rw [c5]; rfl) (by decide) ?_
      refine wa_aload X 0 rfl dX10_edit_80 ?_
      refine wa_getI X (j := 0) hk_3 hc_3 i_3 (by decide) kw_615 rfl dX10_edit_82 c4 ?_
      exact wa_ireturn X E dX10_edit_85 (Nat.le_of_ble_eq_true rfl) (Nat.le_of_ble_eq_true rfl) (Or.inl rfl) ⟨hw, _, rfl, hv⟩
    replace hv := hv.2
    by_cases c6 : a4 = (1 : Int32)
    · replace hv := hv.1 c6
      refine wa_tableIn X (tgt := 86) dX10_edit_36 (by rw [c6]; decide) (by rw [c6]; decide) (off := 50) (by rw [c6]; rfl) (by decide) ?_
      refine wa_aload X 0 rfl dX10_edit_86 ?_
      refine wa_getI X (j := 3) hk_3 hc_3 i_3 (by decide) kw_622 rfl dX10_edit_88 c4 ?_
      exact wa_ireturn X E dX10_edit_91 (Nat.le_of_ble_eq_true rfl) (Nat.le_of_ble_eq_true rfl) (Or.inl rfl) ⟨hw, _, rfl, hv⟩
    replace hv := hv.2
    by_cases c7 : a4 = (2 : Int32)
    · replace hv := hv.1 c7
      refine wa_tableIn X (tgt := 92) dX10_edit_36 (by rw [c7]; decide) (by rw [c7]; decide) (off := 56) (by rw [c7]; rfl) (by decide) ?_
      refine wa_aload X 0 rfl dX10_edit_92 ?_
      refine wa_getI X (j := 4) hk_3 hc_3 i_3 (by decide) kw_624 rfl dX10_edit_94 c4 ?_
      exact wa_ireturn X E dX10_edit_97 (Nat.le_of_ble_eq_true rfl) (Nat.le_of_ble_eq_true rfl) (Or.inl rfl) ⟨hw, _, rfl, hv⟩
    replace hv := hv.2
    by_cases c8 : a4 = (3 : Int32)
    · replace hv := hv.1 c8
      refine wa_tableIn X (tgt := 98) dX10_edit_36 (by rw [c8]; decide) (by rw [c8]; decide) (off := 62) (by rw [c8]; rfl) (by decide) ?_
      refine wa_aload X 0 rfl dX10_edit_98 ?_
      refine wa_getI X (j := 2) hk_3 hc_3 i_3 (by decide) kw_620 rfl dX10_edit_100 c4 ?_
      exact wa_ireturn X E dX10_edit_103 (Nat.le_of_ble_eq_true rfl) (Nat.le_of_ble_eq_true rfl) (Or.inl rfl) ⟨hw, _, rfl, hv⟩
    replace hv := hv.2
    by_cases c9 : a4 = (4 : Int32)
    · replace hv := hv.1 c9
      refine wa_tableIn X (tgt := 104) dX10_edit_36 (by rw [c9]; decide) (by rw [c9]; decide) (off := 68) (by rw [c9]; rfl) (by decide) ?_
      refine wa_aload X 0 rfl dX10_edit_104 ?_
      refine wa_getR X (j := 5) hk_3 hc_3 i_3 (by decide) kw_627 rfl dX10_edit_106 c4 ?_
      obtain ⟨o10, hv⟩ := hv
      refine wa_getI X (j := 3) hk_5 hc_5 i_5 (by decide) kw_118 rfl dX10_edit_109 o10 ?_
      exact wa_ireturn X E dX10_edit_112 (Nat.le_of_ble_eq_true rfl) (Nat.le_of_ble_eq_true rfl) (Or.inl rfl) ⟨hw, _, rfl, hv⟩
    replace hv := hv.2
    by_cases c11 : a4 = (5 : Int32)
    · replace hv := hv.1 c11
      refine wa_tableIn X (tgt := 113) dX10_edit_36 (by rw [c11]; decide) (by rw [c11]; decide) (off := 77) (by rw [c11]; rfl) (by decide) ?_
      refine wa_aload X 0 rfl dX10_edit_113 ?_
      refine wa_getI X (j := 6) hk_3 hc_3 i_3 (by decide) kw_629 rfl dX10_edit_115 c4 ?_
      refine wa_if_eq X (tgt := 125) dX10_edit_118 (by decide) (fun c12 => ?_) (fun c12 => ?_)
      · replace hv := hv.1 c12
        refine wa_iconst X dX10_edit_125 kc0 ?_
        exact wa_ireturn X E dX10_edit_126 (Nat.le_of_ble_eq_true rfl) (Nat.le_of_ble_eq_true rfl) (Or.inl rfl) ⟨hw, _, rfl, hv⟩
      · replace hv := hv.2 c12
        refine wa_iconst X dX10_edit_121 kc1 ?_
        refine wa_goto X (tgt := 126) dX10_edit_122 (by decide) ?_
        exact wa_ireturn X E dX10_edit_126 (Nat.le_of_ble_eq_true rfl) (Nat.le_of_ble_eq_true rfl) (Or.inl rfl) ⟨hw, _, rfl, hv⟩
    replace hv := hv.2
    by_cases c13 : a4 = (6 : Int32)
    · replace hv := hv.1 c13
      refine wa_tableIn X (tgt := 127) dX10_edit_36 (by rw [c13]; decide) (by rw [c13]; decide) (off := 91) (by rw [c13]; rfl) (by decide) ?_
      refine wa_aload X 0 rfl dX10_edit_127 ?_
      refine wa_aload_n X 2 rfl dX10_edit_129 rfl ?_
      refine wa_getfw X hw (j := 0) (r := 1) hk_10 hc_10 i_10 (by decide) kw_327 rfl rfl (by decide) rfl dX10_edit_130 hs_1ne ?_
      refine wa_iload X 1 rfl dX10_edit_133 ?_
      refine wa_aload_n X 2 rfl dX10_edit_135 rfl ?_
      refine wa_getI X (j := 5) hk_10 hc_10 i_10 (by decide) kw_332 rfl dX10_edit_136 hs_1ne ?_
      obtain ⟨o14, hv⟩ := hv
      refine wa_callV X (As := [.inl r2, .inl (S1.1 10 1 5)]) (f_Sht_counting hw o14) hk_9 hc_9 rfl kw_803 kw_22 kw_800 kw_801 kw_802 nd_X9_counting rfl rfl (Nat.le_of_ble_eq_true rfl) dX10_edit_139 hs_1ne ⟨⟨Nat.le_of_ble_eq_true rfl, Nat.le_of_ble_eq_true rfl⟩, Nat.le_of_ble_eq_true rfl, Nat.le_of_ble_eq_true rfl⟩ (hs_pdk0 ?_) (fun _ _ h => h.elim)
      refine wa_acmp_ne X (by decide) (tgt := 149) dX10_edit_142 (by decide) (fun c15 => ?_) (fun c15 => ?_)
      · replace hv := hv.1 c15
        refine wa_iconst X dX10_edit_149 kc0 ?_
        exact wa_ireturn X E dX10_edit_150 (Nat.le_of_ble_eq_true rfl) (Nat.le_of_ble_eq_true rfl) (Or.inl rfl) ⟨hw, _, rfl, hv⟩
      · replace hv := hv.2 c15
        refine wa_iconst X dX10_edit_145 kc1 ?_
        refine wa_goto X (tgt := 150) dX10_edit_146 (by decide) ?_
        exact wa_ireturn X E dX10_edit_150 (Nat.le_of_ble_eq_true rfl) (Nat.le_of_ble_eq_true rfl) (Or.inl rfl) ⟨hw, _, rfl, hv⟩
    replace hv := hv.2
    refine wa_tableOut X (tgt := 151) dX10_edit_36 (hs_swo0_6 c5 c6 c7 c8 c9 c11 c13) (by decide) ?_
    replace hv := hv (hs_swo0_6 c5 c6 c7 c8 c9 c11 c13)
    exact wa_throw X E N (names := ["java/lang/RuntimeException", "java/lang/Exception"]) (text := "what is out of range") kx_fit_IllegalArgumentException kx_names kw_546 kw_40 (by decide +kernel) kx_at_IllegalArgumentException_84 kx_ok_IllegalArgumentException_84 dX10_edit_151 dX10_edit_154 dX10_edit_155 dX10_edit_157 dX10_edit_160 ⟨Nat.le_of_ble_eq_true rfl, Nat.le_of_ble_eq_true rfl, Nat.le_of_ble_eq_true rfl, Nat.le_of_ble_eq_true rfl⟩ (Nat.le_of_ble_eq_true rfl) (Nat.le_of_ble_eq_true rfl) ⟨hw, hv⟩
  · replace hv := hv.2 c4
    exact wa_throw X E N (names := ["java/lang/RuntimeException", "java/lang/Exception"]) (text := "no such place") kx_fit_IndexOutOfBoundsException kx_names kw_356 kw_36 (by decide +kernel) kx_at_IndexOutOfBoundsException_181 kx_ok_IndexOutOfBoundsException_181 dX10_edit_24 dX10_edit_27 dX10_edit_28 dX10_edit_30 dX10_edit_33 ⟨Nat.le_of_ble_eq_true rfl, Nat.le_of_ble_eq_true rfl, Nat.le_of_ble_eq_true rfl, Nat.le_of_ble_eq_true rfl⟩ (Nat.le_of_ble_eq_true rfl) (Nat.le_of_ble_eq_true rfl) ⟨hw, hv⟩

def m_C_bid (a1 : Int32) (a2 : Int32) (a3 : Int32) (a4 : Int32) (a5 : Int32) (S : hs_S) (Q : Int32 → hs_S → Prop) (Ex : String → hs_S → Prop) : Prop := hs_M 9 yX10_bid (.code yX10_bid cX10_bid 8 (some FieldType.int)) [.inr (.inr (10, 1)), .inl a1, .inl a2, .inl a3, .inl a4, .inl a5] S 4 182 (hs_qI Q) (hs_qX Ex)
def vc_C_bid (a1 : Int32) (a2 : Int32) (a3 : Int32) (a4 : Int32) (a5 : Int32) (S : hs_S) (Q : Int32 → hs_S → Prop) (Ex : String → hs_S → Prop) : Prop := (hs_Wi S → (m_C_needOwner a1 S (fun S1 => (hs_Wi S1 → (m_C_needColumn a2 S1 (fun S3 => ((a4 < (1 : Int32) → (Ex "java/lang/IllegalArgumentException" S3)) ∧ (¬ a4 < (1 : Int32) → ((a4 ≤ (100 : Int32) → ((a5 < 0 → (Ex "java/lang/IllegalArgumentException" S3)) ∧ (¬ a5 < 0 → ((a5 ≤ (9999 : Int32) → ((0 ≤ a2.toInt ∧ a2.toInt < 4) ∧ (((S3.2.1 26 1 a2.toNatClampNeg) ≠ 0) ∧ (((F_Rnd_wasFrozen (S3.2.1 26 1 a2.toNatClampNeg) S3) = 0 → (((nI (hs_sz S3 13)) < (80 : Int32) → ((a3 = 0 → (∀ S14 : hs_S, S14 = (hs_nw S3 0) → (hs_Wi S14 → m_Bid_init (S3.2.2.2 0 + 1) (nI (hs_sz S3 13)) a1 (S3.2.1 26 1 a2.toNatClampNeg) a3 a4 a5 (S14.1 10 1 5) S14 (fun S15 => hs_Wi S15 ∧ (((hs_sz S15 13) < 100) ∧ (∀ S18 : hs_S, S18 = (hs_add S15 13 (S3.2.2.2 0 + 1)) → (∀ S19 : hs_S, S19 = (hs_wI S18 10 1 5 ((S18.1 10 1 5) + (1 : Int32))) → (Q (nI (hs_sz S3 13)) S19)))))))) ∧ (¬ a3 = 0 → ((P_Ldg_exposureOf a1 S3) ∧ ((0 ≤ a1.toInt ∧ a1.toInt < 6) ∧ ((((F_Ldg_exposureOf a1 S3) + (a4 * a5)) ≤ (S3.1 37 1 a1.toNatClampNeg) → (∀ S23 : hs_S, S23 = (hs_nw S3 0) → (hs_Wi S23 → m_Bid_init (S3.2.2.2 0 + 1) (nI (hs_sz S3 13)) a1 (S3.2.1 26 1 a2.toNatClampNeg) a3 a4 a5 (S23.1 10 1 5) S23 (fun S24 => hs_Wi S24 ∧ (((hs_sz S24 13) < 100) ∧ (∀ S27 : hs_S, S27 = (hs_add S24 13 (S3.2.2.2 0 + 1)) → (∀ S28 : hs_S, S28 = (hs_wI S27 10 1 5 ((S27.1 10 1 5) + (1 : Int32))) → (Q (nI (hs_sz S3 13)) S28)))))))) ∧ (¬ ((F_Ldg_exposureOf a1 S3) + (a4 * a5)) ≤ (S3.1 37 1 a1.toNatClampNeg) → (Ex "java/lang/IllegalStateException" S3)))))))) ∧ (¬ (nI (hs_sz S3 13)) < (80 : Int32) → (Ex "java/lang/IllegalStateException" S3)))) ∧ (¬ (F_Rnd_wasFrozen (S3.2.1 26 1 a2.toNatClampNeg) S3) = 0 → (Ex "java/lang/IllegalStateException" S3)))))) ∧ (¬ a5 ≤ (9999 : Int32) → (Ex "java/lang/IllegalArgumentException" S3)))))) ∧ (¬ a4 ≤ (100 : Int32) → (Ex "java/lang/IllegalArgumentException" S3)))))) Ex))) Ex))
set_option maxRecDepth 100000 in
set_option maxHeartbeats 4000000 in
theorem ok_C_bid {a1 : Int32} {a2 : Int32} {a3 : Int32} {a4 : Int32} {a5 : Int32} {S : hs_S} {Q : Int32 → hs_S → Prop} {Ex : String → hs_S → Prop} (hw : hs_Wi S) (hv : vc_C_bid a1 a2 a3 a4 a5 S Q Ex) : m_C_bid a1 a2 a3 a4 a5 S Q Ex := by
  unfold vc_C_bid at hv
  refine hs_body (own := RX10) rfl rfl (Nat.le_of_ble_eq_true rfl) (fun Z X E N J0 => ?_)
  show wa Z 0 0 S 0 [(0, .inr (.inr (10, 1))), (1, .inl a1), (2, .inl a2), (3, .inl a3), (4, .inl a4), (5, .inl a5)] []
  refine wa_iload_n X 1 rfl dX10_bid_0 rfl ?_
  refine wa_callS X (As := [.inl a1]) (hv hw) kw_465 kw_21 kw_463 kw_464 nd_X10_needOwner rfl rfl (Nat.le_of_ble_eq_true rfl) dX10_bid_1 ⟨⟨Nat.le_of_ble_eq_true rfl, Nat.le_of_ble_eq_true rfl⟩, Nat.le_of_ble_eq_true rfl, Nat.le_of_ble_eq_true rfl⟩ (fun v S1 h => ?_) (fun _ _ h => wx_out X E N (Nat.le_of_ble_eq_true rfl) (Nat.le_of_ble_eq_true rfl) h)
  obtain ⟨hw, rfl, hv⟩ := h
  refine wa_iload_n X 2 rfl dX10_bid_4 rfl ?_
  refine wa_callS X (As := [.inl a2]) (hv hw) kw_355 kw_21 kw_353 kw_354 nd_X10_needColumn rfl rfl (Nat.le_of_ble_eq_true rfl) dX10_bid_5 ⟨⟨Nat.le_of_ble_eq_true rfl, Nat.le_of_ble_eq_true rfl⟩, Nat.le_of_ble_eq_true rfl, Nat.le_of_ble_eq_true rfl⟩ (fun v S3 h => ?_) (fun _ _ h => wx_out X E N (Nat.le_of_ble_eq_true rfl) (Nat.le_of_ble_eq_true rfl) h)
  obtain ⟨hw, rfl, hv⟩ := h
  refine wa_iload X 4 rfl dX10_bid_8 ?_
  refine wa_iconst X dX10_bid_10 kc1 ?_
  refine wa_icmp_lt X (tgt := 21) dX10_bid_11 (by decide) (fun c5 => ?_) (fun c5 => ?_)
  · replace hv := hv.1 c5
    exact wa_throw X E N (names := ["java/lang/RuntimeException", "java/lang/Exception"]) (text := "many is out of range") kx_fit_IllegalArgumentException kx_names kw_546 kw_40 (by decide +kernel) kx_at_IllegalArgumentException_84 kx_ok_IllegalArgumentException_84 dX10_bid_21 dX10_bid_24 dX10_bid_25 dX10_bid_27 dX10_bid_30 ⟨Nat.le_of_ble_eq_true rfl, Nat.le_of_ble_eq_true rfl, Nat.le_of_ble_eq_true rfl, Nat.le_of_ble_eq_true rfl⟩ (Nat.le_of_ble_eq_true rfl) (Nat.le_of_ble_eq_true rfl) ⟨hw, hv⟩
  · replace hv := hv.2 c5
    refine wa_iload X 4 rfl dX10_bid_14 ?_
    refine wa_bipush X dX10_bid_16 kb100 ?_
    refine wa_icmp_le X (tgt := 31) dX10_bid_18 (by decide) (fun c6 => ?_) (fun c6 => ?_)
    · replace hv := hv.1 c6
      refine wa_iload X 5 rfl dX10_bid_31 ?_
      refine wa_if_lt X (tgt := 44) dX10_bid_33 (by decide) (fun c7 => ?_) (fun c7 => ?_)
      · replace hv := hv.1 c7
        exact wa_throw X E N (names := ["java/lang/RuntimeException", "java/lang/Exception"]) (text := "the limit is out of range") kx_fit_IllegalArgumentException kx_names kw_546 kw_40 (by decide +kernel) kx_at_IllegalArgumentException_84 kx_ok_IllegalArgumentException_84 dX10_bid_44 dX10_bid_47 dX10_bid_48 dX10_bid_50 dX10_bid_53 ⟨Nat.le_of_ble_eq_true rfl, Nat.le_of_ble_eq_true rfl, Nat.le_of_ble_eq_true rfl, Nat.le_of_ble_eq_true rfl⟩ (Nat.le_of_ble_eq_true rfl) (Nat.le_of_ble_eq_true rfl) ⟨hw, hv⟩
      · replace hv := hv.2 c7
        refine wa_iload X 5 rfl dX10_bid_36 ?_
        refine wa_sipush X dX10_bid_38 ks9999 ?_
        refine wa_icmp_le X (tgt := 54) dX10_bid_41 (by decide) (fun c8 => ?_) (fun c8 => ?_)
        · replace hv := hv.1 c8
          refine wa_aload_n X 0 rfl dX10_bid_54 rfl ?_
          refine wa_getfw X hw (j := 1) (r := 1) hk_10 hc_10 i_10 (by decide) kw_328 rfl rfl (by decide) rfl dX10_bid_55 hs_1ne ?_
          refine wa_getfw X hw (j := 1) (r := 1) hk_1 hc_1 i_1 (by decide) kw_229 rfl rfl (by decide) rfl dX10_bid_58 hs_1ne ?_
          refine wa_iload_n X 2 rfl dX10_bid_61 rfl ?_
          obtain ⟨o9, hv⟩ := hv
          refine wa_aald X hk_26 dX10_bid_62 hs_1ne o9 ?_
          refine wa_astore X (lv' := [(6, .inr (.inr (8, (S3.2.1 26 1 a2.toNatClampNeg)))), (0, .inr (.inr (10, 1))), (1, .inl a1), (2, .inl a2), (3, .inl a3), (4, .inl a4), (5, .inl a5)]) dX10_bid_63 (by decide) rfl ?_
          refine wa_aload X 0 rfl dX10_bid_65 ?_
          obtain ⟨o10, hv⟩ := hv
          refine wa_callV X (As := []) (f_Rnd_wasFrozen o10 hw) hk_8 hc_8 rfl kw_596 kw_29 kw_593 kw_594 kw_595 nd_X8_wasFrozen rfl rfl (Nat.le_of_ble_eq_true rfl) dX10_bid_67 o10 ⟨⟨Nat.le_of_ble_eq_true rfl, Nat.le_of_ble_eq_true rfl⟩, Nat.le_of_ble_eq_true rfl, Nat.le_of_ble_eq_true rfl⟩ (hs_pdk0 ?_) (fun _ _ h => h.elim)
          refine wa_if_eq X (tgt := 83) dX10_bid_70 (by decide) (fun c11 => ?_) (fun c11 => ?_)
          · replace hv := hv.1 c11
            refine wa_aload_n X 1 rfl dX10_bid_83 rfl ?_
            refine wa_getfw X hw (j := 1) (r := 1) hk_10 hc_10 i_10 (by decide) kw_328 rfl rfl (by decide) rfl dX10_bid_84 hs_1ne ?_
            refine wa_getfw X hw (j := 0) (r := 1) hk_1 hc_1 i_1 (by decide) kw_227 rfl rfl (by decide) rfl dX10_bid_87 hs_1ne ?_
            refine wa_lsize X hk_13 kw_599 dX10_bid_90 hs_1ne ⟨⟨Nat.le_of_ble_eq_true rfl, Nat.le_of_ble_eq_true rfl⟩, Nat.le_of_ble_eq_true rfl, Nat.le_of_ble_eq_true rfl⟩ (Nat.le_of_ble_eq_true rfl) ?_
            refine wa_bipush X dX10_bid_95 kb80 ?_
            refine wa_icmp_lt X (tgt := 110) dX10_bid_97 (by decide) (fun c12 => ?_) (fun c12 => ?_)
            · replace hv := hv.1 c12
              refine wa_iload_n X 4 rfl dX10_bid_110 rfl ?_
              refine wa_if_eq X (tgt := 150) dX10_bid_111 (by decide) (fun c13 => ?_) (fun c13 => ?_)
              · replace hv := hv.1 c13
                refine wa_aload_n X 1 rfl dX10_bid_150 rfl ?_
                refine wa_getfw X hw (j := 1) (r := 1) hk_10 hc_10 i_10 (by decide) kw_328 rfl rfl (by decide) rfl dX10_bid_151 hs_1ne ?_
                refine wa_getfw X hw (j := 0) (r := 1) hk_1 hc_1 i_1 (by decide) kw_227 rfl rfl (by decide) rfl dX10_bid_154 hs_1ne ?_
                refine wa_lsize X hk_13 kw_599 dX10_bid_157 hs_1ne ⟨⟨Nat.le_of_ble_eq_true rfl, Nat.le_of_ble_eq_true rfl⟩, Nat.le_of_ble_eq_true rfl, Nat.le_of_ble_eq_true rfl⟩ (Nat.le_of_ble_eq_true rfl) ?_
                refine wa_istore X (lv' := [(7, .inl (nI (hs_sz S3 13))), (6, .inr (.inr (8, (S3.2.1 26 1 a2.toNatClampNeg)))), (0, .inr (.inr (10, 1))), (1, .inl a1), (2, .inl a2), (3, .inl a3), (4, .inl a4), (5, .inl a5)]) dX10_bid_162 (by decide) rfl ?_
                refine wa_aload_n X 2 rfl dX10_bid_164 rfl ?_
                refine wa_getfw X hw (j := 1) (r := 1) hk_10 hc_10 i_10 (by decide) kw_328 rfl rfl (by decide) rfl dX10_bid_165 hs_1ne ?_
                refine wa_getfw X hw (j := 0) (r := 1) hk_1 hc_1 i_1 (by decide) kw_227 rfl rfl (by decide) rfl dX10_bid_168 hs_1ne ?_
                refine wa_new X (t := 0) hk_0 hc_0 i_0 tyX0 tyX0_ok dv_0 kw_829 kw_830 kw_46 dX10_bid_171 ⟨Nat.le_of_ble_eq_true rfl, Nat.le_of_ble_eq_true rfl⟩ (hs_eqS fun S14 hS14 => ?_)
                replace hv := hv S14 hS14
                replace hw : hs_Wi S14 := hS14 ▸ hs_Wi_nw (t := 0) (fun _ => rfl) (by decide) hw
                refine wa_dup X dX10_bid_174 rfl ?_
                refine wa_iload X 0 rfl dX10_bid_175 ?_
                refine wa_iload_n X 3 rfl dX10_bid_177 rfl ?_
                refine wa_aload X 1 rfl dX10_bid_178 ?_
                refine wa_iload_n X 5 rfl dX10_bid_180 rfl ?_
                refine wa_iload X 6 rfl dX10_bid_181 ?_
                refine wa_iload X 7 rfl dX10_bid_183 ?_
                refine wa_aload_n X 2 rfl dX10_bid_185 rfl ?_
                refine wa_getI X (j := 5) hk_10 hc_10 i_10 (by decide) kw_332 rfl dX10_bid_186 hs_1ne ?_
                refine wa_callI X (As := [.inl (nI (hs_sz S3 13)), .inl a1, .inr (.inr (8, (S3.2.1 26 1 a2.toNatClampNeg))), .inl a3, .inl a4, .inl a5, .inl (S14.1 10 1 5)]) (hv hw) kw_833 kw_46 kw_831 kw_832 rfl nd_X0_init rfl rfl (Nat.le_of_ble_eq_true rfl) dX10_bid_189 (hs_sne _) ⟨⟨Nat.le_of_ble_eq_true rfl, Nat.le_of_ble_eq_true rfl⟩, Nat.le_of_ble_eq_true rfl, Nat.le_of_ble_eq_true rfl⟩ (fun v S15 h => ?_) (fun _ _ h => h.elim)
                obtain ⟨rfl, hw, hv⟩ := h
                obtain ⟨o17, hv⟩ := hv
                refine wa_liadd X hk_13 hk_0 hc_0 kw_889 kw_1126 dX10_bid_192 hs_1ne (hs_sne _) ⟨Nat.le_of_ble_eq_true rfl, Nat.le_of_ble_eq_true rfl⟩ (Nat.le_of_ble_eq_true rfl) ⟨Nat.le_of_ble_eq_true rfl, Nat.le_of_ble_eq_true rfl⟩ o17 (hs_eqS fun S18 hS18 => ?_)
                replace hv := hv S18 hS18
                replace hw : hs_Wi S18 := hS18 ▸ hs_Wi_add (t := 13) (fun _ => rfl) (by decide) hw
                refine wa_pop X dX10_bid_197 rfl ?_
                refine wa_aload_n X 2 rfl dX10_bid_198 rfl ?_
                refine wa_dup X dX10_bid_199 rfl ?_
                refine wa_getI X (j := 5) hk_10 hc_10 i_10 (by decide) kw_332 rfl dX10_bid_200 hs_1ne ?_
                refine wa_iconst X dX10_bid_203 kc1 ?_
                refine wa_iadd X dX10_bid_204 ?_
                refine wa_putI X (j := 5) hk_10 hc_10 i_10 tyX10 tyX10_ok nmX10 (by decide) kw_332 rfl rfl dX10_bid_205 hs_1ne ⟨rfl, Or.inl rfl⟩ (hs_eqS fun S19 hS19 => ?_)
                replace hv := hv S19 hS19
                replace hw : hs_Wi S19 := hS19 ▸ hs_Wi_I hw
                refine wa_iload X 0 rfl dX10_bid_208 ?_
                exact wa_ireturn X E dX10_bid_210 (Nat.le_of_ble_eq_true rfl) (Nat.le_of_ble_eq_true rfl) (Or.inl rfl) ⟨hw, _, rfl, hv⟩
              · replace hv := hv.2 c13
                refine wa_aload_n X 1 rfl dX10_bid_114 rfl ?_
                refine wa_getfw X hw (j := 4) (r := 1) hk_10 hc_10 i_10 (by decide) kw_331 rfl rfl (by decide) rfl dX10_bid_115 hs_1ne ?_
                refine wa_iload_n X 2 rfl dX10_bid_118 rfl ?_
                obtain ⟨o20, hv⟩ := hv
                refine wa_callV X (As := [.inl a1]) (f_Ldg_exposureOf hw o20) hk_6 hc_6 rfl kw_816 kw_32 kw_813 kw_814 kw_815 nd_X6_exposureOf rfl rfl (Nat.le_of_ble_eq_true rfl) dX10_bid_119 hs_1ne ⟨⟨Nat.le_of_ble_eq_true rfl, Nat.le_of_ble_eq_true rfl⟩, Nat.le_of_ble_eq_true rfl, Nat.le_of_ble_eq_true rfl⟩ (hs_pdk0 ?_) (fun _ _ h => h.elim)
                refine wa_iload X 5 rfl dX10_bid_122 ?_
                refine wa_iload X 6 rfl dX10_bid_124 ?_
                refine wa_imul X dX10_bid_126 ?_
                refine wa_iadd X dX10_bid_127 ?_
                refine wa_aload_n X 1 rfl dX10_bid_128 rfl ?_
                refine wa_getfw X hw (j := 4) (r := 1) hk_10 hc_10 i_10 (by decide) kw_331 rfl rfl (by decide) rfl dX10_bid_129 hs_1ne ?_
                refine wa_getfw X hw (j := 3) (r := 1) hk_6 hc_6 i_6 (by decide) kw_311 rfl rfl (by decide) rfl dX10_bid_132 hs_1ne ?_
                refine wa_iload_n X 2 rfl dX10_bid_135 rfl ?_
                obtain ⟨o21, hv⟩ := hv
                refine wa_iald X hk_37 dX10_bid_136 hs_1ne o21 ?_
                refine wa_icmp_le X (tgt := 150) dX10_bid_137 (by decide) (fun c22 => ?_) (fun c22 => ?_)
                · replace hv := hv.1 c22
                  refine wa_aload_n X 1 rfl dX10_bid_150 rfl ?_
                  refine wa_getfw X hw (j := 1) (r := 1) hk_10 hc_10 i_10 (by decide) kw_328 rfl rfl (by decide) rfl dX10_bid_151 hs_1ne ?_
                  refine wa_getfw X hw (j := 0) (r := 1) hk_1 hc_1 i_1 (by decide) kw_227 rfl rfl (by decide) rfl dX10_bid_154 hs_1ne ?_
                  refine wa_lsize X hk_13 kw_599 dX10_bid_157 hs_1ne ⟨⟨Nat.le_of_ble_eq_true rfl, Nat.le_of_ble_eq_true rfl⟩, Nat.le_of_ble_eq_true rfl, Nat.le_of_ble_eq_true rfl⟩ (Nat.le_of_ble_eq_true rfl) ?_
                  refine wa_istore X (lv' := [(7, .inl (nI (hs_sz S3 13))), (6, .inr (.inr (8, (S3.2.1 26 1 a2.toNatClampNeg)))), (0, .inr (.inr (10, 1))), (1, .inl a1), (2, .inl a2), (3, .inl a3), (4, .inl a4), (5, .inl a5)]) dX10_bid_162 (by decide) rfl ?_
                  refine wa_aload_n X 2 rfl dX10_bid_164 rfl ?_
                  refine wa_getfw X hw (j := 1) (r := 1) hk_10 hc_10 i_10 (by decide) kw_328 rfl rfl (by decide) rfl dX10_bid_165 hs_1ne ?_
                  refine wa_getfw X hw (j := 0) (r := 1) hk_1 hc_1 i_1 (by decide) kw_227 rfl rfl (by decide) rfl dX10_bid_168 hs_1ne ?_
                  refine wa_new X (t := 0) hk_0 hc_0 i_0 tyX0 tyX0_ok dv_0 kw_829 kw_830 kw_46 dX10_bid_171 ⟨Nat.le_of_ble_eq_true rfl, Nat.le_of_ble_eq_true rfl⟩ (hs_eqS fun S23 hS23 => ?_)
                  replace hv := hv S23 hS23
                  replace hw : hs_Wi S23 := hS23 ▸ hs_Wi_nw (t := 0) (fun _ => rfl) (by decide) hw
                  refine wa_dup X dX10_bid_174 rfl ?_
                  refine wa_iload X 0 rfl dX10_bid_175 ?_
                  refine wa_iload_n X 3 rfl dX10_bid_177 rfl ?_
                  refine wa_aload X 1 rfl dX10_bid_178 ?_
                  refine wa_iload_n X 5 rfl dX10_bid_180 rfl ?_
                  refine wa_iload X 6 rfl dX10_bid_181 ?_
                  refine wa_iload X 7 rfl dX10_bid_183 ?_
                  refine wa_aload_n X 2 rfl dX10_bid_185 rfl ?_
                  refine wa_getI X (j := 5) hk_10 hc_10 i_10 (by decide) kw_332 rfl dX10_bid_186 hs_1ne ?_
                  refine wa_callI X (As := [.inl (nI (hs_sz S3 13)), .inl a1, .inr (.inr (8, (S3.2.1 26 1 a2.toNatClampNeg))), .inl a3, .inl a4, .inl a5, .inl (S23.1 10 1 5)]) (hv hw) kw_833 kw_46 kw_831 kw_832 rfl nd_X0_init rfl rfl (Nat.le_of_ble_eq_true rfl) dX10_bid_189 (hs_sne _) ⟨⟨Nat.le_of_ble_eq_true rfl, Nat.le_of_ble_eq_true rfl⟩, Nat.le_of_ble_eq_true rfl, Nat.le_of_ble_eq_true rfl⟩ (fun v S24 h => ?_) (fun _ _ h => h.elim)
                  obtain ⟨rfl, hw, hv⟩ := h
                  obtain ⟨o26, hv⟩ := hv
                  refine wa_liadd X hk_13 hk_0 hc_0 kw_889 kw_1126 dX10_bid_192 hs_1ne (hs_sne _) ⟨Nat.le_of_ble_eq_true rfl, Nat.le_of_ble_eq_true rfl⟩ (Nat.le_of_ble_eq_true rfl) ⟨Nat.le_of_ble_eq_true rfl, Nat.le_of_ble_eq_true rfl⟩ o26 (hs_eqS fun S27 hS27 => ?_)
                  replace hv := hv S27 hS27
                  replace hw : hs_Wi S27 := hS27 ▸ hs_Wi_add (t := 13) (fun _ => rfl) (by decide) hw
                  refine wa_pop X dX10_bid_197 rfl ?_
                  refine wa_aload_n X 2 rfl dX10_bid_198 rfl ?_
                  refine wa_dup X dX10_bid_199 rfl ?_
                  refine wa_getI X (j := 5) hk_10 hc_10 i_10 (by decide) kw_332 rfl dX10_bid_200 hs_1ne ?_
                  refine wa_iconst X dX10_bid_203 kc1 ?_
                  refine wa_iadd X dX10_bid_204 ?_
                  refine wa_putI X (j := 5) hk_10 hc_10 i_10 tyX10 tyX10_ok nmX10 (by decide) kw_332 rfl rfl dX10_bid_205 hs_1ne ⟨rfl, Or.inl rfl⟩ (hs_eqS fun S28 hS28 => ?_)
                  replace hv := hv S28 hS28
                  replace hw : hs_Wi S28 := hS28 ▸ hs_Wi_I hw
                  refine wa_iload X 0 rfl dX10_bid_208 ?_
                  exact wa_ireturn X E dX10_bid_210 (Nat.le_of_ble_eq_true rfl) (Nat.le_of_ble_eq_true rfl) (Or.inl rfl) ⟨hw, _, rfl, hv⟩
                · replace hv := hv.2 c22
                  exact wa_throw X E N (names := ["java/lang/RuntimeException", "java/lang/Exception"]) (text := "the owner's limit refuses the bid") kx_fit_IllegalStateException kx_names kw_522 kw_41 (by decide +kernel) kx_at_IllegalStateException_120 kx_ok_IllegalStateException_120 dX10_bid_140 dX10_bid_143 dX10_bid_144 dX10_bid_146 dX10_bid_149 ⟨Nat.le_of_ble_eq_true rfl, Nat.le_of_ble_eq_true rfl, Nat.le_of_ble_eq_true rfl, Nat.le_of_ble_eq_true rfl⟩ (Nat.le_of_ble_eq_true rfl) (Nat.le_of_ble_eq_true rfl) ⟨hw, hv⟩
            · replace hv := hv.2 c12
              exact wa_throw X E N (names := ["java/lang/RuntimeException", "java/lang/Exception"]) (text := "no more bids are made") kx_fit_IllegalStateException kx_names kw_522 kw_41 (by decide +kernel) kx_at_IllegalStateException_120 kx_ok_IllegalStateException_120 dX10_bid_100 dX10_bid_103 dX10_bid_104 dX10_bid_106 dX10_bid_109 ⟨Nat.le_of_ble_eq_true rfl, Nat.le_of_ble_eq_true rfl, Nat.le_of_ble_eq_true rfl, Nat.le_of_ble_eq_true rfl⟩ (Nat.le_of_ble_eq_true rfl) (Nat.le_of_ble_eq_true rfl) ⟨hw, hv⟩
          · replace hv := hv.2 c11
            exact wa_throw X E N (names := ["java/lang/RuntimeException", "java/lang/Exception"]) (text := "the column is frozen") kx_fit_IllegalStateException kx_names kw_522 kw_41 (by decide +kernel) kx_at_IllegalStateException_120 kx_ok_IllegalStateException_120 dX10_bid_73 dX10_bid_76 dX10_bid_77 dX10_bid_79 dX10_bid_82 ⟨Nat.le_of_ble_eq_true rfl, Nat.le_of_ble_eq_true rfl, Nat.le_of_ble_eq_true rfl, Nat.le_of_ble_eq_true rfl⟩ (Nat.le_of_ble_eq_true rfl) (Nat.le_of_ble_eq_true rfl) ⟨hw, hv⟩
        · replace hv := hv.2 c8
          exact wa_throw X E N (names := ["java/lang/RuntimeException", "java/lang/Exception"]) (text := "the limit is out of range") kx_fit_IllegalArgumentException kx_names kw_546 kw_40 (by decide +kernel) kx_at_IllegalArgumentException_84 kx_ok_IllegalArgumentException_84 dX10_bid_44 dX10_bid_47 dX10_bid_48 dX10_bid_50 dX10_bid_53 ⟨Nat.le_of_ble_eq_true rfl, Nat.le_of_ble_eq_true rfl, Nat.le_of_ble_eq_true rfl, Nat.le_of_ble_eq_true rfl⟩ (Nat.le_of_ble_eq_true rfl) (Nat.le_of_ble_eq_true rfl) ⟨hw, hv⟩
    · replace hv := hv.2 c6
      exact wa_throw X E N (names := ["java/lang/RuntimeException", "java/lang/Exception"]) (text := "many is out of range") kx_fit_IllegalArgumentException kx_names kw_546 kw_40 (by decide +kernel) kx_at_IllegalArgumentException_84 kx_ok_IllegalArgumentException_84 dX10_bid_21 dX10_bid_24 dX10_bid_25 dX10_bid_27 dX10_bid_30 ⟨Nat.le_of_ble_eq_true rfl, Nat.le_of_ble_eq_true rfl, Nat.le_of_ble_eq_true rfl, Nat.le_of_ble_eq_true rfl⟩ (Nat.le_of_ble_eq_true rfl) (Nat.le_of_ble_eq_true rfl) ⟨hw, hv⟩

def m_C_withdraw (a1 : Int32) (a2 : Int32) (S : hs_S) (Q : Int32 → hs_S → Prop) (Ex : String → hs_S → Prop) : Prop := hs_M 7 yX10_withdraw (.code yX10_withdraw cX10_withdraw 4 (some FieldType.int)) [.inr (.inr (10, 1)), .inl a1, .inl a2] S 3 18 (hs_qI Q) (hs_qX Ex)
def vc_C_withdraw (a1 : Int32) (a2 : Int32) (S : hs_S) (Q : Int32 → hs_S → Prop) (Ex : String → hs_S → Prop) : Prop := (hs_Wi S → (m_C_needOwner a1 S (fun S1 => (hs_Wi S1 → (m_C_bidNumbered a2 S1 (fun r4 S3 => ((r4 ≠ 0) ∧ (((S3.1 0 r4 1) = a1 → (((S3.1 0 r4 7) = (2147483647 : Int32) → (((S3.2.1 0 r4 2) ≠ 0) ∧ ((0 ≤ (S3.1 8 (S3.2.1 0 r4 2) 0).toInt ∧ (S3.1 8 (S3.2.1 0 r4 2) 0).toInt < 4) ∧ (((S3.2.1 26 1 (S3.1 8 (S3.2.1 0 r4 2) 0).toNatClampNeg) ≠ 0) ∧ (((F_Rnd_wasFrozen (S3.2.1 26 1 (S3.1 8 (S3.2.1 0 r4 2) 0).toNatClampNeg) S3) = 0 → (((F_Rnd_isCleared (S3.2.1 0 r4 2) S3) = 0 → (∀ S13 : hs_S, S13 = (hs_wI S3 0 r4 7 (S3.1 10 1 5)) → (∀ S14 : hs_S, S14 = (hs_wI S13 10 1 5 ((S13.1 10 1 5) + (1 : Int32))) → (Q (S14.1 0 r4 4) S14)))) ∧ (¬ (F_Rnd_isCleared (S3.2.1 0 r4 2) S3) = 0 → (Ex "java/lang/IllegalStateException" S3)))) ∧ (¬ (F_Rnd_wasFrozen (S3.2.1 26 1 (S3.1 8 (S3.2.1 0 r4 2) 0).toNatClampNeg) S3) = 0 → (Ex "java/lang/IllegalStateException" S3))))))) ∧ (¬ (S3.1 0 r4 7) = (2147483647 : Int32) → (Ex "java/lang/IllegalStateException" S3)))) ∧ (¬ (S3.1 0 r4 1) = a1 → (Ex "java/lang/IllegalStateException" S3))))) Ex))) Ex))
set_option maxRecDepth 100000 in
set_option maxHeartbeats 4000000 in
theorem ok_C_withdraw {a1 : Int32} {a2 : Int32} {S : hs_S} {Q : Int32 → hs_S → Prop} {Ex : String → hs_S → Prop} (hw : hs_Wi S) (hv : vc_C_withdraw a1 a2 S Q Ex) : m_C_withdraw a1 a2 S Q Ex := by
  unfold vc_C_withdraw at hv
  refine hs_body (own := RX10) rfl rfl (Nat.le_of_ble_eq_true rfl) (fun Z X E N J0 => ?_)
  show wa Z 0 0 S 0 [(0, .inr (.inr (10, 1))), (1, .inl a1), (2, .inl a2)] []
  refine wa_iload_n X 1 rfl dX10_withdraw_0 rfl ?_
  refine wa_callS X (As := [.inl a1]) (hv hw) kw_465 kw_21 kw_463 kw_464 nd_X10_needOwner rfl rfl (Nat.le_of_ble_eq_true rfl) dX10_withdraw_1 ⟨⟨Nat.le_of_ble_eq_true rfl, Nat.le_of_ble_eq_true rfl⟩, Nat.le_of_ble_eq_true rfl, Nat.le_of_ble_eq_true rfl⟩ (fun v S1 h => ?_) (fun _ _ h => wx_out X E N (Nat.le_of_ble_eq_true rfl) (Nat.le_of_ble_eq_true rfl) h)
  obtain ⟨hw, rfl, hv⟩ := h
  refine wa_aload_n X 0 rfl dX10_withdraw_4 rfl ?_
  refine wa_iload_n X 2 rfl dX10_withdraw_5 rfl ?_
  refine wa_callV X (As := [.inl a2]) (hv hw) hk_10 hc_10 rfl kw_897 kw_21 kw_894 kw_896 kw_12 nd_X10_bidNumbered rfl rfl (Nat.le_of_ble_eq_true rfl) dX10_withdraw_6 hs_1ne ⟨⟨Nat.le_of_ble_eq_true rfl, Nat.le_of_ble_eq_true rfl⟩, Nat.le_of_ble_eq_true rfl, Nat.le_of_ble_eq_true rfl⟩ (fun v S3 h => ?_) (fun _ _ h => wx_out X E N (Nat.le_of_ble_eq_true rfl) (Nat.le_of_ble_eq_true rfl) h)
  obtain ⟨hw, r4, rfl, hv⟩ := h
  refine wa_astore_n X (lv' := [(3, .inr (.inr (0, r4))), (0, .inr (.inr (10, 1))), (1, .inl a1), (2, .inl a2)]) dX10_withdraw_9 rfl (by decide) rfl ?_
  refine wa_aload_n X 0 rfl dX10_withdraw_10 rfl ?_
  obtain ⟨o5, hv⟩ := hv
  refine wa_getI X (j := 1) hk_0 hc_0 i_0 (by decide) kw_840 rfl dX10_withdraw_11 o5 ?_
  refine wa_iload_n X 2 rfl dX10_withdraw_14 rfl ?_
  refine wa_icmp_eq X (tgt := 29) dX10_withdraw_15 (by decide) (fun c6 => ?_) (fun c6 => ?_)
  · replace hv := hv.1 c6
    refine wa_aload_n X 0 rfl dX10_withdraw_29 rfl ?_
    refine wa_getI X (j := 7) hk_0 hc_0 i_0 (by decide) kw_861 rfl dX10_withdraw_30 o5 ?_
    refine wa_ldc_w X kw_902 dX10_withdraw_33 ?_
    refine wa_icmp_eq X (tgt := 50) dX10_withdraw_36 (by decide) (fun c7 => ?_) (fun c7 => ?_)
    · replace hv := hv.1 c7
      refine wa_aload_n X 1 rfl dX10_withdraw_50 rfl ?_
      refine wa_getfw X hw (j := 1) (r := 1) hk_10 hc_10 i_10 (by decide) kw_328 rfl rfl (by decide) rfl dX10_withdraw_51 hs_1ne ?_
      refine wa_getfw X hw (j := 1) (r := 1) hk_1 hc_1 i_1 (by decide) kw_229 rfl rfl (by decide) rfl dX10_withdraw_54 hs_1ne ?_
      refine wa_aload_n X 0 rfl dX10_withdraw_57 rfl ?_
      refine wa_getR X (j := 2) hk_0 hc_0 i_0 (by decide) kw_845 rfl dX10_withdraw_58 o5 ?_
      obtain ⟨o8, hv⟩ := hv
      refine wa_getI X (j := 0) hk_8 hc_8 i_8 (by decide) kw_178 rfl dX10_withdraw_61 o8 ?_
      obtain ⟨o9, hv⟩ := hv
      refine wa_aald X hk_26 dX10_withdraw_64 hs_1ne o9 ?_
      obtain ⟨o10, hv⟩ := hv
      refine wa_callV X (As := []) (f_Rnd_wasFrozen o10 hw) hk_8 hc_8 rfl kw_596 kw_29 kw_593 kw_594 kw_595 nd_X8_wasFrozen rfl rfl (Nat.le_of_ble_eq_true rfl) dX10_withdraw_65 o10 ⟨⟨Nat.le_of_ble_eq_true rfl, Nat.le_of_ble_eq_true rfl⟩, Nat.le_of_ble_eq_true rfl, Nat.le_of_ble_eq_true rfl⟩ (hs_pdk0 ?_) (fun _ _ h => h.elim)
      refine wa_if_eq X (tgt := 82) dX10_withdraw_68 (by decide) (fun c11 => ?_) (fun c11 => ?_)
      · replace hv := hv.1 c11
        refine wa_aload_n X 0 rfl dX10_withdraw_82 rfl ?_
        refine wa_getR X (j := 2) hk_0 hc_0 i_0 (by decide) kw_845 rfl dX10_withdraw_83 o5 ?_
        refine wa_callV X (As := []) (f_Rnd_isCleared o8 hw) hk_8 hc_8 rfl kw_825 kw_29 kw_905 kw_823 kw_824 nd_X8_isCleared rfl rfl (Nat.le_of_ble_eq_true rfl) dX10_withdraw_86 o8 ⟨⟨Nat.le_of_ble_eq_true rfl, Nat.le_of_ble_eq_true rfl⟩, Nat.le_of_ble_eq_true rfl, Nat.le_of_ble_eq_true rfl⟩ (hs_pdk0 ?_) (fun _ _ h => h.elim)
        refine wa_if_eq X (tgt := 103) dX10_withdraw_89 (by decide) (fun c12 => ?_) (fun c12 => ?_)
        · replace hv := hv.1 c12
          refine wa_aload_n X 0 rfl dX10_withdraw_103 rfl ?_
          refine wa_aload_n X 1 rfl dX10_withdraw_104 rfl ?_
          refine wa_getI X (j := 5) hk_10 hc_10 i_10 (by decide) kw_332 rfl dX10_withdraw_105 hs_1ne ?_
          refine wa_putI X (j := 7) hk_0 hc_0 i_0 tyX0 tyX0_ok nmX0 (by decide) kw_861 rfl rfl dX10_withdraw_108 o5 ⟨rfl, Or.inl rfl⟩ (hs_eqS fun S13 hS13 => ?_)
          replace hv := hv S13 hS13
          replace hw : hs_Wi S13 := hS13 ▸ hs_Wi_I hw
          refine wa_aload_n X 1 rfl dX10_withdraw_111 rfl ?_
          refine wa_dup X dX10_withdraw_112 rfl ?_
          refine wa_getI X (j := 5) hk_10 hc_10 i_10 (by decide) kw_332 rfl dX10_withdraw_113 hs_1ne ?_
          refine wa_iconst X dX10_withdraw_116 kc1 ?_
          refine wa_iadd X dX10_withdraw_117 ?_
          refine wa_putI X (j := 5) hk_10 hc_10 i_10 tyX10 tyX10_ok nmX10 (by decide) kw_332 rfl rfl dX10_withdraw_118 hs_1ne ⟨rfl, Or.inl rfl⟩ (hs_eqS fun S14 hS14 => ?_)
          replace hv := hv S14 hS14
          replace hw : hs_Wi S14 := hS14 ▸ hs_Wi_I hw
          refine wa_aload_n X 0 rfl dX10_withdraw_121 rfl ?_
          refine wa_getI X (j := 4) hk_0 hc_0 i_0 (by decide) kw_854 rfl dX10_withdraw_122 o5 ?_
          exact wa_ireturn X E dX10_withdraw_125 (Nat.le_of_ble_eq_true rfl) (Nat.le_of_ble_eq_true rfl) (Or.inl rfl) ⟨hw, _, rfl, hv⟩
        · replace hv := hv.2 c12
          exact wa_throwW X E N (names := ["java/lang/RuntimeException", "java/lang/Exception"]) (text := "its round was cleared") kx_fit_IllegalStateException kx_names kw_522 kw_41 (by decide +kernel) kx_at_IllegalStateException_120 kx_ok_IllegalStateException_120 dX10_withdraw_92 dX10_withdraw_95 dX10_withdraw_96 dX10_withdraw_99 dX10_withdraw_102 ⟨Nat.le_of_ble_eq_true rfl, Nat.le_of_ble_eq_true rfl, Nat.le_of_ble_eq_true rfl, Nat.le_of_ble_eq_true rfl⟩ (Nat.le_of_ble_eq_true rfl) (Nat.le_of_ble_eq_true rfl) ⟨hw, hv⟩
      · replace hv := hv.2 c11
        exact wa_throwW X E N (names := ["java/lang/RuntimeException", "java/lang/Exception"]) (text := "its column is frozen") kx_fit_IllegalStateException kx_names kw_522 kw_41 (by decide +kernel) kx_at_IllegalStateException_120 kx_ok_IllegalStateException_120 dX10_withdraw_71 dX10_withdraw_74 dX10_withdraw_75 dX10_withdraw_78 dX10_withdraw_81 ⟨Nat.le_of_ble_eq_true rfl, Nat.le_of_ble_eq_true rfl, Nat.le_of_ble_eq_true rfl, Nat.le_of_ble_eq_true rfl⟩ (Nat.le_of_ble_eq_true rfl) (Nat.le_of_ble_eq_true rfl) ⟨hw, hv⟩
    · replace hv := hv.2 c7
      exact wa_throwW X E N (names := ["java/lang/RuntimeException", "java/lang/Exception"]) (text := "it was withdrawn") kx_fit_IllegalStateException kx_names kw_522 kw_41 (by decide +kernel) kx_at_IllegalStateException_120 kx_ok_IllegalStateException_120 dX10_withdraw_39 dX10_withdraw_42 dX10_withdraw_43 dX10_withdraw_46 dX10_withdraw_49 ⟨Nat.le_of_ble_eq_true rfl, Nat.le_of_ble_eq_true rfl, Nat.le_of_ble_eq_true rfl, Nat.le_of_ble_eq_true rfl⟩ (Nat.le_of_ble_eq_true rfl) (Nat.le_of_ble_eq_true rfl) ⟨hw, hv⟩
  · replace hv := hv.2 c6
    exact wa_throwW X E N (names := ["java/lang/RuntimeException", "java/lang/Exception"]) (text := "it is not the owner's bid") kx_fit_IllegalStateException kx_names kw_522 kw_41 (by decide +kernel) kx_at_IllegalStateException_120 kx_ok_IllegalStateException_120 dX10_withdraw_18 dX10_withdraw_21 dX10_withdraw_22 dX10_withdraw_25 dX10_withdraw_28 ⟨Nat.le_of_ble_eq_true rfl, Nat.le_of_ble_eq_true rfl, Nat.le_of_ble_eq_true rfl, Nat.le_of_ble_eq_true rfl⟩ (Nat.le_of_ble_eq_true rfl) (Nat.le_of_ble_eq_true rfl) ⟨hw, hv⟩

def m_C_share (a1 : Int32) (a2 : Int32) (S : hs_S) (Q : Int32 → hs_S → Prop) (Ex : String → hs_S → Prop) : Prop := hs_M 7 yX10_share (.code yX10_share cX10_share 4 (some FieldType.boolean)) [.inr (.inr (10, 1)), .inl a1, .inl a2] S 1 6 (hs_qI Q) (hs_qX Ex)
def vc_C_share (a1 : Int32) (a2 : Int32) (S : hs_S) (Q : Int32 → hs_S → Prop) (Ex : String → hs_S → Prop) : Prop := (hs_Wi S → (m_C_needColumn a1 S (fun S1 => ((0 ≤ a1.toInt ∧ a1.toInt < 4) ∧ ((a2 = 0 ∨ a2 = 1) ∧ (∀ S5 : hs_S, S5 = (hs_wI S1 27 1 a1.toNatClampNeg a2) → (∀ S6 : hs_S, S6 = (hs_wI S5 10 1 5 ((S5.1 10 1 5) + (1 : Int32))) → (((S1.1 27 1 a1.toNatClampNeg) = 0 ∨ (S1.1 27 1 a1.toNatClampNeg) = 1) ∧ (Q (S1.1 27 1 a1.toNatClampNeg) S6))))))) Ex))
set_option maxRecDepth 100000 in
set_option maxHeartbeats 4000000 in
theorem ok_C_share {a1 : Int32} {a2 : Int32} {S : hs_S} {Q : Int32 → hs_S → Prop} {Ex : String → hs_S → Prop} (hw : hs_Wi S) (hv : vc_C_share a1 a2 S Q Ex) : m_C_share a1 a2 S Q Ex := by
  unfold vc_C_share at hv
  refine hs_body (own := RX10) rfl rfl (Nat.le_of_ble_eq_true rfl) (fun Z X E N J0 => ?_)
  show wa Z 0 0 S 0 [(0, .inr (.inr (10, 1))), (1, .inl a1), (2, .inl a2)] []
  refine wa_iload_n X 1 rfl dX10_share_0 rfl ?_
  refine wa_callS X (As := [.inl a1]) (hv hw) kw_355 kw_21 kw_353 kw_354 nd_X10_needColumn rfl rfl (Nat.le_of_ble_eq_true rfl) dX10_share_1 ⟨⟨Nat.le_of_ble_eq_true rfl, Nat.le_of_ble_eq_true rfl⟩, Nat.le_of_ble_eq_true rfl, Nat.le_of_ble_eq_true rfl⟩ (fun v S1 h => ?_) (fun _ _ h => wx_out X E N (Nat.le_of_ble_eq_true rfl) (Nat.le_of_ble_eq_true rfl) h)
  obtain ⟨hw, rfl, hv⟩ := h
  refine wa_aload_n X 0 rfl dX10_share_4 rfl ?_
  refine wa_getfw X hw (j := 1) (r := 1) hk_10 hc_10 i_10 (by decide) kw_328 rfl rfl (by decide) rfl dX10_share_5 hs_1ne ?_
  refine wa_getfw X hw (j := 3) (r := 1) hk_1 hc_1 i_1 (by decide) kw_235 rfl rfl (by decide) rfl dX10_share_8 hs_1ne ?_
  refine wa_iload_n X 1 rfl dX10_share_11 rfl ?_
  obtain ⟨o3, hv⟩ := hv
  refine wa_bald X hk_27 dX10_share_12 hs_1ne o3 ?_
  refine wa_istore_n X (lv' := [(3, .inl (S1.1 27 1 a1.toNatClampNeg)), (0, .inr (.inr (10, 1))), (1, .inl a1), (2, .inl a2)]) dX10_share_13 rfl (by decide) rfl ?_
  refine wa_aload_n X 1 rfl dX10_share_14 rfl ?_
  refine wa_getfw X hw (j := 1) (r := 1) hk_10 hc_10 i_10 (by decide) kw_328 rfl rfl (by decide) rfl dX10_share_15 hs_1ne ?_
  refine wa_getfw X hw (j := 3) (r := 1) hk_1 hc_1 i_1 (by decide) kw_235 rfl rfl (by decide) rfl dX10_share_18 hs_1ne ?_
  refine wa_iload_n X 2 rfl dX10_share_21 rfl ?_
  refine wa_iload_n X 3 rfl dX10_share_22 rfl ?_
  obtain ⟨o4, hv⟩ := hv
  refine wa_bast X hk_27 dX10_share_23 hs_1ne o3 o4 (hs_eqS fun S5 hS5 => ?_)
  replace hv := hv S5 hS5
  replace hw : hs_Wi S5 := hS5 ▸ hs_Wi_I hw
  refine wa_aload_n X 1 rfl dX10_share_24 rfl ?_
  refine wa_dup X dX10_share_25 rfl ?_
  refine wa_getI X (j := 5) hk_10 hc_10 i_10 (by decide) kw_332 rfl dX10_share_26 hs_1ne ?_
  refine wa_iconst X dX10_share_29 kc1 ?_
  refine wa_iadd X dX10_share_30 ?_
  refine wa_putI X (j := 5) hk_10 hc_10 i_10 tyX10 tyX10_ok nmX10 (by decide) kw_332 rfl rfl dX10_share_31 hs_1ne ⟨rfl, Or.inl rfl⟩ (hs_eqS fun S6 hS6 => ?_)
  replace hv := hv S6 hS6
  replace hw : hs_Wi S6 := hS6 ▸ hs_Wi_I hw
  refine wa_iload_n X 0 rfl dX10_share_34 rfl ?_
  obtain ⟨o7, hv⟩ := hv
  exact wa_ireturn X E dX10_share_35 (Nat.le_of_ble_eq_true rfl) (Nat.le_of_ble_eq_true rfl) (Or.inr ⟨rfl, o7⟩) ⟨hw, _, rfl, hv⟩

def m_C_bell (a1 : Int32) (S : hs_S) (Q : Int32 → hs_S → Prop) (Ex : String → hs_S → Prop) : Prop := hs_M 54 yX10_bell (.code yX10_bell cX10_bell 4 (some FieldType.int)) [.inr (.inr (10, 1)), .inl a1] S 6 225 (hs_qI Q) (hs_qX Ex)
def vc_C_bell (a1 : Int32) (S : hs_S) (Q : Int32 → hs_S → Prop) (Ex : String → hs_S → Prop) : Prop := (hs_Wi S → (m_C_needColumn a1 S (fun S1 => ((0 ≤ a1.toInt ∧ a1.toInt < 4) ∧ (((S1.2.1 26 1 a1.toNatClampNeg) ≠ 0) ∧ ((¬ (F_Rnd_wasFrozen (S1.2.1 26 1 a1.toNatClampNeg) S1) = 0 → (((nI (hs_sz S1 14)) < (30 : Int32) → ((P_Book_close (S1.2.1 26 1 a1.toNatClampNeg) (S1.1 10 1 5) S1) ∧ (∀ r9 : Int32, ∀ S8 : hs_S, R_Book_close (S1.2.1 26 1 a1.toNatClampNeg) (S1.1 10 1 5) S1 r9 S8 → ((P_Clr_reckon (S1.2.1 26 1 a1.toNatClampNeg) S8) ∧ (∀ r13 : Int32, ∀ S12 : hs_S, R_Clr_reckon (S1.2.1 26 1 a1.toNatClampNeg) S8 r13 S12 → (∀ S15 : hs_S, S15 = (hs_wI S12 10 1 5 ((S12.1 10 1 5) + (1 : Int32))) → (Q r9 S15))))))) ∧ (¬ (nI (hs_sz S1 14)) < (30 : Int32) → (Ex "java/lang/IllegalStateException" S1)))) ∧ ((F_Rnd_wasFrozen (S1.2.1 26 1 a1.toNatClampNeg) S1) = 0 → ((P_Rnd_freeze (S1.2.1 26 1 a1.toNatClampNeg) (S1.1 10 1 5) (S1.1 27 1 a1.toNatClampNeg) 1 S1) ∧ (∀ S17 : hs_S, S17 = (E_Rnd_freeze (S1.2.1 26 1 a1.toNatClampNeg) (S1.1 10 1 5) (S1.1 27 1 a1.toNatClampNeg) 1 S1) → (∀ S18 : hs_S, S18 = (hs_wI S17 10 1 5 ((S17.1 10 1 5) + (1 : Int32))) → (Q (-1 : Int32) S18))))))))) Ex))
set_option maxRecDepth 100000 in
set_option maxHeartbeats 4000000 in
theorem ok_C_bell {a1 : Int32} {S : hs_S} {Q : Int32 → hs_S → Prop} {Ex : String → hs_S → Prop} (hw : hs_Wi S) (hv : vc_C_bell a1 S Q Ex) : m_C_bell a1 S Q Ex := by
  unfold vc_C_bell at hv
  refine hs_body (own := RX10) rfl rfl (Nat.le_of_ble_eq_true rfl) (fun Z X E N J0 => ?_)
  show wa Z 0 0 S 0 [(0, .inr (.inr (10, 1))), (1, .inl a1)] []
  refine wa_iload_n X 1 rfl dX10_bell_0 rfl ?_
  refine wa_callS X (As := [.inl a1]) (hv hw) kw_355 kw_21 kw_353 kw_354 nd_X10_needColumn rfl rfl (Nat.le_of_ble_eq_true rfl) dX10_bell_1 ⟨⟨Nat.le_of_ble_eq_true rfl, Nat.le_of_ble_eq_true rfl⟩, Nat.le_of_ble_eq_true rfl, Nat.le_of_ble_eq_true rfl⟩ (fun v S1 h => ?_) (fun _ _ h => wx_out X E N (Nat.le_of_ble_eq_true rfl) (Nat.le_of_ble_eq_true rfl) h)
  obtain ⟨hw, rfl, hv⟩ := h
  refine wa_aload_n X 0 rfl dX10_bell_4 rfl ?_
  refine wa_getfw X hw (j := 1) (r := 1) hk_10 hc_10 i_10 (by decide) kw_328 rfl rfl (by decide) rfl dX10_bell_5 hs_1ne ?_
  refine wa_getfw X hw (j := 1) (r := 1) hk_1 hc_1 i_1 (by decide) kw_229 rfl rfl (by decide) rfl dX10_bell_8 hs_1ne ?_
  refine wa_iload_n X 1 rfl dX10_bell_11 rfl ?_
  obtain ⟨o3, hv⟩ := hv
  refine wa_aald X hk_26 dX10_bell_12 hs_1ne o3 ?_
  refine wa_astore_n X (lv' := [(2, .inr (.inr (8, (S1.2.1 26 1 a1.toNatClampNeg)))), (0, .inr (.inr (10, 1))), (1, .inl a1)]) dX10_bell_13 rfl (by decide) rfl ?_
  refine wa_aload_n X 0 rfl dX10_bell_14 rfl ?_
  obtain ⟨o4, hv⟩ := hv
  refine wa_callV X (As := []) (f_Rnd_wasFrozen o4 hw) hk_8 hc_8 rfl kw_596 kw_29 kw_593 kw_594 kw_595 nd_X8_wasFrozen rfl rfl (Nat.le_of_ble_eq_true rfl) dX10_bell_15 o4 ⟨⟨Nat.le_of_ble_eq_true rfl, Nat.le_of_ble_eq_true rfl⟩, Nat.le_of_ble_eq_true rfl, Nat.le_of_ble_eq_true rfl⟩ (hs_pdk0 ?_) (fun _ _ h => h.elim)
  refine wa_if_ne X (tgt := 57) dX10_bell_18 (by decide) (fun c5 => ?_) (fun c5 => ?_)
  · replace hv := hv.1 c5
    refine wa_aload_n X 1 rfl dX10_bell_57 rfl ?_
    refine wa_getfw X hw (j := 1) (r := 1) hk_10 hc_10 i_10 (by decide) kw_328 rfl rfl (by decide) rfl dX10_bell_58 hs_1ne ?_
    refine wa_getfw X hw (j := 2) (r := 1) hk_1 hc_1 i_1 (by decide) kw_233 rfl rfl (by decide) rfl dX10_bell_61 hs_1ne ?_
    refine wa_lsize X hk_14 kw_599 dX10_bell_64 hs_1ne ⟨⟨Nat.le_of_ble_eq_true rfl, Nat.le_of_ble_eq_true rfl⟩, Nat.le_of_ble_eq_true rfl, Nat.le_of_ble_eq_true rfl⟩ (Nat.le_of_ble_eq_true rfl) ?_
    refine wa_bipush X dX10_bell_69 kb30 ?_
    refine wa_icmp_lt X (tgt := 85) dX10_bell_71 (by decide) (fun c6 => ?_) (fun c6 => ?_)
    · replace hv := hv.1 c6
      refine wa_aload_n X 1 rfl dX10_bell_85 rfl ?_
      refine wa_getfw X hw (j := 1) (r := 1) hk_10 hc_10 i_10 (by decide) kw_328 rfl rfl (by decide) rfl dX10_bell_86 hs_1ne ?_
      refine wa_aload_n X 0 rfl dX10_bell_89 rfl ?_
      refine wa_aload_n X 1 rfl dX10_bell_90 rfl ?_
      refine wa_getI X (j := 5) hk_10 hc_10 i_10 (by decide) kw_332 rfl dX10_bell_91 hs_1ne ?_
      obtain ⟨o7, hv⟩ := hv
      refine wa_callV X (As := [.inr (.inr (8, (S1.2.1 26 1 a1.toNatClampNeg))), .inl (S1.1 10 1 5)]) (ok_Book_close o4 hw (v_Book_close o7)) hk_1 hc_1 rfl kw_928 kw_28 kw_925 kw_926 kw_927 nd_X1_close rfl rfl (Nat.le_of_ble_eq_true rfl) dX10_bell_94 hs_1ne ⟨⟨Nat.le_of_ble_eq_true rfl, Nat.le_of_ble_eq_true rfl⟩, Nat.le_of_ble_eq_true rfl, Nat.le_of_ble_eq_true rfl⟩ (fun _ S8 h => ?_) (fun _ _ h => h.elim)
      obtain ⟨hw, r9, rfl, g10⟩ := h
      replace hv := hv r9 S8 g10
      refine wa_istore_n X (lv' := [(3, .inl r9), (2, .inr (.inr (8, (S1.2.1 26 1 a1.toNatClampNeg)))), (0, .inr (.inr (10, 1))), (1, .inl a1)]) dX10_bell_97 rfl (by decide) rfl ?_
      refine wa_aload_n X 2 rfl dX10_bell_98 rfl ?_
      refine wa_getfw X hw (j := 3) (r := 1) hk_10 hc_10 i_10 (by decide) kw_330 rfl rfl (by decide) rfl dX10_bell_99 hs_1ne ?_
      refine wa_aload_n X 1 rfl dX10_bell_102 rfl ?_
      obtain ⟨o11, hv⟩ := hv
      refine wa_callV X (As := [.inr (.inr (8, (S1.2.1 26 1 a1.toNatClampNeg)))]) (ok_Clr_reckon o4 hw (v_Clr_reckon o11)) hk_2 hc_2 rfl kw_934 kw_31 kw_931 kw_932 kw_933 nd_X2_reckon rfl rfl (Nat.le_of_ble_eq_true rfl) dX10_bell_103 hs_1ne ⟨⟨Nat.le_of_ble_eq_true rfl, Nat.le_of_ble_eq_true rfl⟩, Nat.le_of_ble_eq_true rfl, Nat.le_of_ble_eq_true rfl⟩ (fun _ S12 h => ?_) (fun _ _ h => h.elim)
      obtain ⟨hw, r13, rfl, g14⟩ := h
      replace hv := hv r13 S12 g14
      refine wa_pop X dX10_bell_106 rfl ?_
      refine wa_aload_n X 2 rfl dX10_bell_107 rfl ?_
      refine wa_dup X dX10_bell_108 rfl ?_
      refine wa_getI X (j := 5) hk_10 hc_10 i_10 (by decide) kw_332 rfl dX10_bell_109 hs_1ne ?_
      refine wa_iconst X dX10_bell_112 kc1 ?_
      refine wa_iadd X dX10_bell_113 ?_
      refine wa_putI X (j := 5) hk_10 hc_10 i_10 tyX10 tyX10_ok nmX10 (by decide) kw_332 rfl rfl dX10_bell_114 hs_1ne ⟨rfl, Or.inl rfl⟩ (hs_eqS fun S15 hS15 => ?_)
      replace hv := hv S15 hS15
      replace hw : hs_Wi S15 := hS15 ▸ hs_Wi_I hw
      refine wa_iload_n X 0 rfl dX10_bell_117 rfl ?_
      exact wa_ireturn X E dX10_bell_118 (Nat.le_of_ble_eq_true rfl) (Nat.le_of_ble_eq_true rfl) (Or.inl rfl) ⟨hw, _, rfl, hv⟩
    · replace hv := hv.2 c6
      exact wa_throwW X E N (names := ["java/lang/RuntimeException", "java/lang/Exception"]) (text := "no more rounds are cleared") kx_fit_IllegalStateException kx_names kw_522 kw_41 (by decide +kernel) kx_at_IllegalStateException_120 kx_ok_IllegalStateException_120 dX10_bell_74 dX10_bell_77 dX10_bell_78 dX10_bell_81 dX10_bell_84 ⟨Nat.le_of_ble_eq_true rfl, Nat.le_of_ble_eq_true rfl, Nat.le_of_ble_eq_true rfl, Nat.le_of_ble_eq_true rfl⟩ (Nat.le_of_ble_eq_true rfl) (Nat.le_of_ble_eq_true rfl) ⟨hw, hv⟩
  · replace hv := hv.2 c5
    refine wa_aload_n X 0 rfl dX10_bell_21 rfl ?_
    refine wa_aload_n X 1 rfl dX10_bell_22 rfl ?_
    refine wa_getI X (j := 5) hk_10 hc_10 i_10 (by decide) kw_332 rfl dX10_bell_23 hs_1ne ?_
    refine wa_aload_n X 1 rfl dX10_bell_26 rfl ?_
    refine wa_getfw X hw (j := 1) (r := 1) hk_10 hc_10 i_10 (by decide) kw_328 rfl rfl (by decide) rfl dX10_bell_27 hs_1ne ?_
    refine wa_getfw X hw (j := 3) (r := 1) hk_1 hc_1 i_1 (by decide) kw_235 rfl rfl (by decide) rfl dX10_bell_30 hs_1ne ?_
    refine wa_iload_n X 2 rfl dX10_bell_33 rfl ?_
    refine wa_bald X hk_27 dX10_bell_34 hs_1ne o3 ?_
    refine wa_aload_n X 1 rfl dX10_bell_35 rfl ?_
    refine wa_getfw X hw (j := 0) (r := 1) hk_10 hc_10 i_10 (by decide) kw_327 rfl rfl (by decide) rfl dX10_bell_36 hs_1ne ?_
    refine wa_getfw X hw (j := 0) (r := 1) hk_9 hc_9 i_9 (by decide) kw_134 rfl rfl (by decide) rfl dX10_bell_39 hs_1ne ?_
    obtain ⟨o16, hv⟩ := hv
    refine wa_callV X (As := [.inl (S1.1 10 1 5), .inl (S1.1 27 1 a1.toNatClampNeg), .inr (.inr (7, 1))]) (f_Rnd_freeze o4 hs_1ne hw o16) hk_8 hc_8 rfl kw_918 kw_29 kw_915 kw_916 kw_917 nd_X8_freeze rfl rfl (Nat.le_of_ble_eq_true rfl) dX10_bell_42 o4 ⟨⟨Nat.le_of_ble_eq_true rfl, Nat.le_of_ble_eq_true rfl⟩, Nat.le_of_ble_eq_true rfl, Nat.le_of_ble_eq_true rfl⟩ (hs_pdk fun S17 hS17 hw => ?_) (fun _ _ h => h.elim)
    replace hv := hv S17 hS17
    refine wa_aload_n X 1 rfl dX10_bell_45 rfl ?_
    refine wa_dup X dX10_bell_46 rfl ?_
    refine wa_getI X (j := 5) hk_10 hc_10 i_10 (by decide) kw_332 rfl dX10_bell_47 hs_1ne ?_
    refine wa_iconst X dX10_bell_50 kc1 ?_
    refine wa_iadd X dX10_bell_51 ?_
    refine wa_putI X (j := 5) hk_10 hc_10 i_10 tyX10 tyX10_ok nmX10 (by decide) kw_332 rfl rfl dX10_bell_52 hs_1ne ⟨rfl, Or.inl rfl⟩ (hs_eqS fun S18 hS18 => ?_)
    replace hv := hv S18 hS18
    replace hw : hs_Wi S18 := hS18 ▸ hs_Wi_I hw
    refine wa_iconst X dX10_bell_55 kcm1 ?_
    exact wa_ireturn X E dX10_bell_56 (Nat.le_of_ble_eq_true rfl) (Nat.le_of_ble_eq_true rfl) (Or.inl rfl) ⟨hw, _, rfl, hv⟩

def m_C_isFrozen (a1 : Int32) (S : hs_S) (Q : Int32 → hs_S → Prop) (Ex : String → hs_S → Prop) : Prop := hs_M 7 yX10_isFrozen (.code yX10_isFrozen cX10_isFrozen 2 (some FieldType.boolean)) [.inr (.inr (10, 1)), .inl a1] S 1 6 (hs_qI Q) (hs_qX Ex)
def vc_C_isFrozen (a1 : Int32) (S : hs_S) (Q : Int32 → hs_S → Prop) (Ex : String → hs_S → Prop) : Prop := (hs_Wi S → (m_C_needColumn a1 S (fun S1 => ((0 ≤ a1.toInt ∧ a1.toInt < 4) ∧ (((S1.2.1 26 1 a1.toNatClampNeg) ≠ 0) ∧ (((F_Rnd_wasFrozen (S1.2.1 26 1 a1.toNatClampNeg) S1) = 0 ∨ (F_Rnd_wasFrozen (S1.2.1 26 1 a1.toNatClampNeg) S1) = 1) ∧ (Q (F_Rnd_wasFrozen (S1.2.1 26 1 a1.toNatClampNeg) S1) S1))))) Ex))
set_option maxRecDepth 100000 in
set_option maxHeartbeats 4000000 in
theorem ok_C_isFrozen {a1 : Int32} {S : hs_S} {Q : Int32 → hs_S → Prop} {Ex : String → hs_S → Prop} (hw : hs_Wi S) (hv : vc_C_isFrozen a1 S Q Ex) : m_C_isFrozen a1 S Q Ex := by
  unfold vc_C_isFrozen at hv
  refine hs_body (own := RX10) rfl rfl (Nat.le_of_ble_eq_true rfl) (fun Z X E N J0 => ?_)
  show wa Z 0 0 S 0 [(0, .inr (.inr (10, 1))), (1, .inl a1)] []
  refine wa_iload_n X 1 rfl dX10_isFrozen_0 rfl ?_
  refine wa_callS X (As := [.inl a1]) (hv hw) kw_355 kw_21 kw_353 kw_354 nd_X10_needColumn rfl rfl (Nat.le_of_ble_eq_true rfl) dX10_isFrozen_1 ⟨⟨Nat.le_of_ble_eq_true rfl, Nat.le_of_ble_eq_true rfl⟩, Nat.le_of_ble_eq_true rfl, Nat.le_of_ble_eq_true rfl⟩ (fun v S1 h => ?_) (fun _ _ h => wx_out X E N (Nat.le_of_ble_eq_true rfl) (Nat.le_of_ble_eq_true rfl) h)
  obtain ⟨hw, rfl, hv⟩ := h
  refine wa_aload_n X 0 rfl dX10_isFrozen_4 rfl ?_
  refine wa_getfw X hw (j := 1) (r := 1) hk_10 hc_10 i_10 (by decide) kw_328 rfl rfl (by decide) rfl dX10_isFrozen_5 hs_1ne ?_
  refine wa_getfw X hw (j := 1) (r := 1) hk_1 hc_1 i_1 (by decide) kw_229 rfl rfl (by decide) rfl dX10_isFrozen_8 hs_1ne ?_
  refine wa_iload_n X 1 rfl dX10_isFrozen_11 rfl ?_
  obtain ⟨o3, hv⟩ := hv
  refine wa_aald X hk_26 dX10_isFrozen_12 hs_1ne o3 ?_
  obtain ⟨o4, hv⟩ := hv
  refine wa_callV X (As := []) (f_Rnd_wasFrozen o4 hw) hk_8 hc_8 rfl kw_596 kw_29 kw_593 kw_594 kw_595 nd_X8_wasFrozen rfl rfl (Nat.le_of_ble_eq_true rfl) dX10_isFrozen_13 o4 ⟨⟨Nat.le_of_ble_eq_true rfl, Nat.le_of_ble_eq_true rfl⟩, Nat.le_of_ble_eq_true rfl, Nat.le_of_ble_eq_true rfl⟩ (hs_pdk0 ?_) (fun _ _ h => h.elim)
  obtain ⟨o5, hv⟩ := hv
  exact wa_ireturn X E dX10_isFrozen_16 (Nat.le_of_ble_eq_true rfl) (Nat.le_of_ble_eq_true rfl) (Or.inr ⟨rfl, o5⟩) ⟨hw, _, rfl, hv⟩

def m_C_round (a1 : Int32) (a2 : Int32) (S : hs_S) (Q : Int32 → hs_S → Prop) (Ex : String → hs_S → Prop) : Prop := hs_M 7 yX10_round (.code yX10_round cX10_round 4 (some FieldType.int)) [.inr (.inr (10, 1)), .inl a1, .inl a2] S 2 12 (hs_qI Q) (hs_qX Ex)
def vc_C_round (a1 : Int32) (a2 : Int32) (S : hs_S) (Q : Int32 → hs_S → Prop) (Ex : String → hs_S → Prop) : Prop := (hs_Wi S → (m_C_roundNumbered a1 S (fun r2 S1 => ((a2 = (0 : Int32) → ((r2 ≠ 0) ∧ (Q (S1.1 8 r2 0) S1))) ∧ (a2 = (1 : Int32) → ((r2 ≠ 0) ∧ (Q (S1.1 8 r2 5) S1))) ∧ (a2 = (2 : Int32) → ((r2 ≠ 0) ∧ (Q (S1.1 8 r2 6) S1))) ∧ (a2 = (3 : Int32) → ((r2 ≠ 0) ∧ (Q (S1.1 8 r2 7) S1))) ∧ (a2 = (4 : Int32) → ((r2 ≠ 0) ∧ (Q (S1.1 8 r2 8) S1))) ∧ (a2 = (5 : Int32) → ((P_Book_feesOf r2 S1) ∧ ((r2 ≠ 0) ∧ (Q (F_Book_feesOf r2 S1) S1)))) ∧ (a2.toInt < 0 ∨ 5 < a2.toInt → (Ex "java/lang/IllegalArgumentException" S1)))) Ex))
set_option maxRecDepth 100000 in
set_option maxHeartbeats 4000000 in
theorem ok_C_round {a1 : Int32} {a2 : Int32} {S : hs_S} {Q : Int32 → hs_S → Prop} {Ex : String → hs_S → Prop} (hw : hs_Wi S) (hv : vc_C_round a1 a2 S Q Ex) : m_C_round a1 a2 S Q Ex := by
  unfold vc_C_round at hv
  refine hs_body (own := RX10) rfl rfl (Nat.le_of_ble_eq_true rfl) (fun Z X E N J0 => ?_)
  show wa Z 0 0 S 0 [(0, .inr (.inr (10, 1))), (1, .inl a1), (2, .inl a2)] []
  refine wa_aload_n X 0 rfl dX10_round_0 rfl ?_
  refine wa_iload_n X 1 rfl dX10_round_1 rfl ?_
  refine wa_callV X (As := [.inl a1]) (hv hw) hk_10 hc_10 rfl kw_991 kw_21 kw_988 kw_990 kw_18 nd_X10_roundNumbered rfl rfl (Nat.le_of_ble_eq_true rfl) dX10_round_2 hs_1ne ⟨⟨Nat.le_of_ble_eq_true rfl, Nat.le_of_ble_eq_true rfl⟩, Nat.le_of_ble_eq_true rfl, Nat.le_of_ble_eq_true rfl⟩ (fun v S1 h => ?_) (fun _ _ h => wx_out X E N (Nat.le_of_ble_eq_true rfl) (Nat.le_of_ble_eq_true rfl) h)
  obtain ⟨hw, r2, rfl, hv⟩ := h
  refine wa_astore_n X (lv' := [(3, .inr (.inr (8, r2))), (0, .inr (.inr (10, 1))), (1, .inl a1), (2, .inl a2)]) dX10_round_5 rfl (by decide) rfl ?_
  refine wa_iload_n X 3 rfl dX10_round_6 rfl ?_
  by_cases c3 : a2 = (0 : Int32)
  · replace hv := hv.1 c3
    refine wa_tableIn X (tgt := 44) dX10_round_7 (by rw [c3]; decide) (by rw [c3]; decide) (off := 37) (by rw [c3]; rfl) (by decide) ?_
    refine wa_aload_n X 0 rfl dX10_round_44 rfl ?_
    obtain ⟨o4, hv⟩ := hv
    refine wa_getI X (j := 0) hk_8 hc_8 i_8 (by decide) kw_178 rfl dX10_round_45 o4 ?_
    exact wa_ireturn X E dX10_round_48 (Nat.le_of_ble_eq_true rfl) (Nat.le_of_ble_eq_true rfl) (Or.inl rfl) ⟨hw, _, rfl, hv⟩
  replace hv := hv.2
  by_cases c5 : a2 = (1 : Int32)
  · replace hv := hv.1 c5
    refine wa_tableIn X (tgt := 49) dX10_round_7 (by rw [c5]; decide) (by rw [c5]; decide) (off := 42) (by rw [c5]; rfl) (by decide) ?_
    refine wa_aload_n X 0 rfl dX10_round_49 rfl ?_
    obtain ⟨o6, hv⟩ := hv
    refine wa_getI X (j := 5) hk_8 hc_8 i_8 (by decide) kw_193 rfl dX10_round_50 o6 ?_
    exact wa_ireturn X E dX10_round_53 (Nat.le_of_ble_eq_true rfl) (Nat.le_of_ble_eq_true rfl) (Or.inl rfl) ⟨hw, _, rfl, hv⟩
  replace hv := hv.2
  by_cases c7 : a2 = (2 : Int32)
  · replace hv := hv.1 c7
    refine wa_tableIn X (tgt := 54) dX10_round_7 (by rw [c7]; decide) (by rw [c7]; decide) (off := 47) (by rw [c7]; rfl) (by decide) ?_
    refine wa_aload_n X 0 rfl dX10_round_54 rfl ?_
    obtain ⟨o8, hv⟩ := hv
    refine wa_getI X (j := 6) hk_8 hc_8 i_8 (by decide) kw_196 rfl dX10_round_55 o8 ?_
    exact wa_ireturn X E dX10_round_58 (Nat.le_of_ble_eq_true rfl) (Nat.le_of_ble_eq_true rfl) (Or.inl rfl) ⟨hw, _, rfl, hv⟩
  replace hv := hv.2
  by_cases c9 : a2 = (3 : Int32)
  · replace hv := hv.1 c9
    refine wa_tableIn X (tgt := 59) dX10_round_7 (by rw [c9]; decide) (by rw [c9]; decide) (off := 52) (by rw [c9]; rfl) (by decide) ?_
    refine wa_aload_n X 0 rfl dX10_round_59 rfl ?_
    obtain ⟨o10, hv⟩ := hv
    refine wa_getI X (j := 7) hk_8 hc_8 i_8 (by decide) kw_200 rfl dX10_round_60 o10 ?_
    exact wa_ireturn X E dX10_round_63 (Nat.le_of_ble_eq_true rfl) (Nat.le_of_ble_eq_true rfl) (Or.inl rfl) ⟨hw, _, rfl, hv⟩
  replace hv := hv.2
  by_cases c11 : a2 = (4 : Int32)
  · replace hv := hv.1 c11
    refine wa_tableIn X (tgt := 64) dX10_round_7 (by rw [c11]; decide) (by rw [c11]; decide) (off := 57) (by rw [c11]; rfl) (by decide) ?_
    refine wa_aload_n X 0 rfl dX10_round_64 rfl ?_
    obtain ⟨o12, hv⟩ := hv
    refine wa_getI X (j := 8) hk_8 hc_8 i_8 (by decide) kw_203 rfl dX10_round_65 o12 ?_
    exact wa_ireturn X E dX10_round_68 (Nat.le_of_ble_eq_true rfl) (Nat.le_of_ble_eq_true rfl) (Or.inl rfl) ⟨hw, _, rfl, hv⟩
  replace hv := hv.2
  by_cases c13 : a2 = (5 : Int32)
  · replace hv := hv.1 c13
    refine wa_tableIn X (tgt := 69) dX10_round_7 (by rw [c13]; decide) (by rw [c13]; decide) (off := 62) (by rw [c13]; rfl) (by decide) ?_
    refine wa_aload_n X 1 rfl dX10_round_69 rfl ?_
    refine wa_getfw X hw (j := 1) (r := 1) hk_10 hc_10 i_10 (by decide) kw_328 rfl rfl (by decide) rfl dX10_round_70 hs_1ne ?_
    refine wa_aload_n X 0 rfl dX10_round_73 rfl ?_
    obtain ⟨o14, hv⟩ := hv
    obtain ⟨o15, hv⟩ := hv
    refine wa_callV X (As := [.inr (.inr (8, r2))]) (f_Book_feesOf o15 hw o14) hk_1 hc_1 rfl kw_997 kw_28 kw_994 kw_995 kw_996 nd_X1_feesOf rfl rfl (Nat.le_of_ble_eq_true rfl) dX10_round_74 hs_1ne ⟨⟨Nat.le_of_ble_eq_true rfl, Nat.le_of_ble_eq_true rfl⟩, Nat.le_of_ble_eq_true rfl, Nat.le_of_ble_eq_true rfl⟩ (hs_pdk0 ?_) (fun _ _ h => h.elim)
    exact wa_ireturn X E dX10_round_77 (Nat.le_of_ble_eq_true rfl) (Nat.le_of_ble_eq_true rfl) (Or.inl rfl) ⟨hw, _, rfl, hv⟩
  replace hv := hv.2
  refine wa_tableOut X (tgt := 78) dX10_round_7 (hs_swo0_5 c3 c5 c7 c9 c11 c13) (by decide) ?_
  replace hv := hv (hs_swo0_5 c3 c5 c7 c9 c11 c13)
  exact wa_throw X E N (names := ["java/lang/RuntimeException", "java/lang/Exception"]) (text := "what is out of range") kx_fit_IllegalArgumentException kx_names kw_546 kw_40 (by decide +kernel) kx_at_IllegalArgumentException_84 kx_ok_IllegalArgumentException_84 dX10_round_78 dX10_round_81 dX10_round_82 dX10_round_84 dX10_round_87 ⟨Nat.le_of_ble_eq_true rfl, Nat.le_of_ble_eq_true rfl, Nat.le_of_ble_eq_true rfl, Nat.le_of_ble_eq_true rfl⟩ (Nat.le_of_ble_eq_true rfl) (Nat.le_of_ble_eq_true rfl) ⟨hw, hv⟩

def m_C_priceAnew (a1 : Int32) (S : hs_S) (Q : Int32 → hs_S → Prop) (Ex : String → hs_S → Prop) : Prop := hs_M 54 yX10_priceAnew (.code yX10_priceAnew cX10_priceAnew 4 (some FieldType.int)) [.inr (.inr (10, 1)), .inl a1] S 1 6 (hs_qI Q) (hs_qX Ex)
def vc_C_priceAnew (a1 : Int32) (S : hs_S) (Q : Int32 → hs_S → Prop) (Ex : String → hs_S → Prop) : Prop := (hs_Wi S → (m_C_roundNumbered a1 S (fun r2 S1 => (∃ I4 : Nat → Int32 → hs_S → Prop, (∃ n9, I4 n9 (0 : Int32) S1) ∧ (∀ N5 : Nat, ∀ x3 : Int32, ∀ S6 : hs_S, I4 N5 x3 S6 → ((a1 < x3 → ((r2 ≠ 0) ∧ (Q (S6.1 8 r2 5) S6))) ∧ (¬ a1 < x3 → (((nI (hs_sz S6 14)) ≤ x3 → ((r2 ≠ 0) ∧ (Q (S6.1 8 r2 5) S6))) ∧ (¬ (nI (hs_sz S6 14)) ≤ x3 → ((0 ≤ x3.toInt ∧ x3.toInt < (hs_sz S6 14)) ∧ (((S6.2.1 14 1 x3.toNatClampNeg) ≠ 0) ∧ ((P_Clr_reckon (S6.2.1 14 1 x3.toNatClampNeg) S6) ∧ (∀ r21 : Int32, ∀ S20 : hs_S, R_Clr_reckon (S6.2.1 14 1 x3.toNatClampNeg) S6 r21 S20 → (∃ q23, q23 < N5 ∧ I4 q23 (x3 + 1) S20)))))))))))) Ex))
set_option maxRecDepth 100000 in
set_option maxHeartbeats 4000000 in
theorem ok_C_priceAnew {a1 : Int32} {S : hs_S} {Q : Int32 → hs_S → Prop} {Ex : String → hs_S → Prop} (hw : hs_Wi S) (hv : vc_C_priceAnew a1 S Q Ex) : m_C_priceAnew a1 S Q Ex := by
  unfold vc_C_priceAnew at hv
  refine hs_body (own := RX10) rfl rfl (Nat.le_of_ble_eq_true rfl) (fun Z X E N J0 => ?_)
  show wa Z 0 0 S 0 [(0, .inr (.inr (10, 1))), (1, .inl a1)] []
  refine wa_aload_n X 0 rfl dX10_priceAnew_0 rfl ?_
  refine wa_iload_n X 1 rfl dX10_priceAnew_1 rfl ?_
  refine wa_callV X (As := [.inl a1]) (hv hw) hk_10 hc_10 rfl kw_991 kw_21 kw_988 kw_990 kw_18 nd_X10_roundNumbered rfl rfl (Nat.le_of_ble_eq_true rfl) dX10_priceAnew_2 hs_1ne ⟨⟨Nat.le_of_ble_eq_true rfl, Nat.le_of_ble_eq_true rfl⟩, Nat.le_of_ble_eq_true rfl, Nat.le_of_ble_eq_true rfl⟩ (fun v S1 h => ?_) (fun _ _ h => wx_out X E N (Nat.le_of_ble_eq_true rfl) (Nat.le_of_ble_eq_true rfl) h)
  obtain ⟨hw, r2, rfl, hv⟩ := h
  refine wa_astore_n X (lv' := [(2, .inr (.inr (8, r2))), (0, .inr (.inr (10, 1))), (1, .inl a1)]) dX10_priceAnew_5 rfl (by decide) rfl ?_
  refine wa_iconst X dX10_priceAnew_6 kc0 ?_
  refine wa_istore_n X (lv' := [(3, .inl (0 : Int32)), (2, .inr (.inr (8, r2))), (0, .inr (.inr (10, 1))), (1, .inl a1)]) dX10_priceAnew_7 rfl (by decide) rfl ?_
  obtain ⟨I4, ⟨n9, i7⟩, b8⟩ := hv
  refine wa_lv (lv' := [(0, .inr (.inr (10, 1))), (1, .inl a1), (2, .inr (.inr (8, r2))), (3, .inl (0 : Int32))]) [2, 3, 1, 0] rfl ?_
  suffices L10 : ∀ N5 : Nat, ∀ x3 : Int32, ∀ S6 : hs_S, hs_Wi S6 → I4 N5 x3 S6 → wa Z 1 6 S6 8 [(0, .inr (.inr (10, 1))), (1, .inl a1), (2, .inr (.inr (8, r2))), (3, .inl x3)] [] from L10 _ _ _ hw i7
  clear hw
  clear i7
  intro N5
  induction N5 using Nat.strongRecOn with
  | _ N5 h11 =>
    intro x3 S6 hw j12
    have hv := b8 N5 x3 S6 j12
    refine wa_iload_n X 3 rfl dX10_priceAnew_8 rfl ?_
    refine wa_iload_n X 1 rfl dX10_priceAnew_9 rfl ?_
    refine wa_icmp_gt X (tgt := 59) dX10_priceAnew_10 (by decide) (fun c13 => ?_) (fun c13 => ?_)
    · replace hv := hv.1 c13
      refine wa_aload_n X 2 rfl dX10_priceAnew_59 rfl ?_
      obtain ⟨o14, hv⟩ := hv
      refine wa_getI X (j := 5) hk_8 hc_8 i_8 (by decide) kw_193 rfl dX10_priceAnew_60 o14 ?_
      exact wa_ireturn X E dX10_priceAnew_63 (Nat.le_of_ble_eq_true rfl) (Nat.le_of_ble_eq_true rfl) (Or.inl rfl) ⟨hw, _, rfl, hv⟩
    · replace hv := hv.2 c13
      refine wa_iload_n X 3 rfl dX10_priceAnew_13 rfl ?_
      refine wa_aload_n X 0 rfl dX10_priceAnew_14 rfl ?_
      refine wa_getfw X hw (j := 1) (r := 1) hk_10 hc_10 i_10 (by decide) kw_328 rfl rfl (by decide) rfl dX10_priceAnew_15 hs_1ne ?_
      refine wa_getfw X hw (j := 2) (r := 1) hk_1 hc_1 i_1 (by decide) kw_233 rfl rfl (by decide) rfl dX10_priceAnew_18 hs_1ne ?_
      refine wa_lsize X hk_14 kw_599 dX10_priceAnew_21 hs_1ne ⟨⟨Nat.le_of_ble_eq_true rfl, Nat.le_of_ble_eq_true rfl⟩, Nat.le_of_ble_eq_true rfl, Nat.le_of_ble_eq_true rfl⟩ (Nat.le_of_ble_eq_true rfl) ?_
      refine wa_icmp_ge X (tgt := 59) dX10_priceAnew_26 (by decide) (fun c15 => ?_) (fun c15 => ?_)
      · replace hv := hv.1 c15
        refine wa_aload_n X 2 rfl dX10_priceAnew_59 rfl ?_
        obtain ⟨o16, hv⟩ := hv
        refine wa_getI X (j := 5) hk_8 hc_8 i_8 (by decide) kw_193 rfl dX10_priceAnew_60 o16 ?_
        exact wa_ireturn X E dX10_priceAnew_63 (Nat.le_of_ble_eq_true rfl) (Nat.le_of_ble_eq_true rfl) (Or.inl rfl) ⟨hw, _, rfl, hv⟩
      · replace hv := hv.2 c15
        refine wa_aload_n X 0 rfl dX10_priceAnew_29 rfl ?_
        refine wa_getfw X hw (j := 3) (r := 1) hk_10 hc_10 i_10 (by decide) kw_330 rfl rfl (by decide) rfl dX10_priceAnew_30 hs_1ne ?_
        refine wa_aload_n X 0 rfl dX10_priceAnew_33 rfl ?_
        refine wa_getfw X hw (j := 1) (r := 1) hk_10 hc_10 i_10 (by decide) kw_328 rfl rfl (by decide) rfl dX10_priceAnew_34 hs_1ne ?_
        refine wa_getfw X hw (j := 2) (r := 1) hk_1 hc_1 i_1 (by decide) kw_233 rfl rfl (by decide) rfl dX10_priceAnew_37 hs_1ne ?_
        refine wa_iload_n X 3 rfl dX10_priceAnew_40 rfl ?_
        obtain ⟨o17, hv⟩ := hv
        refine wa_lget X hk_14 kw_900 dX10_priceAnew_41 hs_1ne ⟨⟨Nat.le_of_ble_eq_true rfl, Nat.le_of_ble_eq_true rfl⟩, Nat.le_of_ble_eq_true rfl, Nat.le_of_ble_eq_true rfl⟩ (Nat.le_of_ble_eq_true rfl) o17 ?_
        obtain ⟨o18, hv⟩ := hv
        refine wa_cast X hk_8 hc_8 kw_993 dX10_priceAnew_46 o18 ?_
        obtain ⟨o19, hv⟩ := hv
        refine wa_callV X (As := [.inr (.inr (8, (S6.2.1 14 1 x3.toNatClampNeg)))]) (ok_Clr_reckon o18 hw (v_Clr_reckon o19)) hk_2 hc_2 rfl kw_934 kw_31 kw_931 kw_932 kw_933 nd_X2_reckon rfl rfl (Nat.le_of_ble_eq_true rfl) dX10_priceAnew_49 hs_1ne ⟨⟨Nat.le_of_ble_eq_true rfl, Nat.le_of_ble_eq_true rfl⟩, Nat.le_of_ble_eq_true rfl, Nat.le_of_ble_eq_true rfl⟩ (fun _ S20 h => ?_) (fun _ _ h => h.elim)
        obtain ⟨hw, r21, rfl, g22⟩ := h
        replace hv := hv r21 S20 g22
        refine wa_pop X dX10_priceAnew_52 rfl ?_
        refine wa_iinc X (v := (x3 + 1)) (lv' := [(3, .inl (x3 + 1)), (0, .inr (.inr (10, 1))), (1, .inl a1), (2, .inr (.inr (8, r2)))]) 3 rfl dX10_priceAnew_53 rfl (by decide) rfl ?_
        refine wa_goto X (tgt := 8) dX10_priceAnew_56 (by decide) ?_
        obtain ⟨q23, p24, hv⟩ := hv
        refine wa_lv (lv' := [(0, .inr (.inr (10, 1))), (1, .inl a1), (2, .inr (.inr (8, r2))), (3, .inl (x3 + 1))]) [1, 2, 3, 0] rfl ?_
        exact h11 q23 p24 _ _ hw hv

def m_C_got (a1 : Int32) (S : hs_S) (Q : Int32 → hs_S → Prop) (Ex : String → hs_S → Prop) : Prop := hs_M 7 yX10_got (.code yX10_got cX10_got 2 (some FieldType.int)) [.inr (.inr (10, 1)), .inl a1] S 1 6 (hs_qI Q) (hs_qX Ex)
def vc_C_got (a1 : Int32) (S : hs_S) (Q : Int32 → hs_S → Prop) (Ex : String → hs_S → Prop) : Prop := (hs_Wi S → (m_C_bidNumbered a1 S (fun r2 S1 => ((r2 ≠ 0) ∧ (Q (S1.1 0 r2 9) S1))) Ex))
set_option maxRecDepth 100000 in
set_option maxHeartbeats 4000000 in
theorem ok_C_got {a1 : Int32} {S : hs_S} {Q : Int32 → hs_S → Prop} {Ex : String → hs_S → Prop} (hw : hs_Wi S) (hv : vc_C_got a1 S Q Ex) : m_C_got a1 S Q Ex := by
  unfold vc_C_got at hv
  refine hs_body (own := RX10) rfl rfl (Nat.le_of_ble_eq_true rfl) (fun Z X E N J0 => ?_)
  show wa Z 0 0 S 0 [(0, .inr (.inr (10, 1))), (1, .inl a1)] []
  refine wa_aload_n X 0 rfl dX10_got_0 rfl ?_
  refine wa_iload_n X 1 rfl dX10_got_1 rfl ?_
  refine wa_callV X (As := [.inl a1]) (hv hw) hk_10 hc_10 rfl kw_897 kw_21 kw_894 kw_896 kw_12 nd_X10_bidNumbered rfl rfl (Nat.le_of_ble_eq_true rfl) dX10_got_2 hs_1ne ⟨⟨Nat.le_of_ble_eq_true rfl, Nat.le_of_ble_eq_true rfl⟩, Nat.le_of_ble_eq_true rfl, Nat.le_of_ble_eq_true rfl⟩ (fun v S1 h => ?_) (fun _ _ h => wx_out X E N (Nat.le_of_ble_eq_true rfl) (Nat.le_of_ble_eq_true rfl) h)
  obtain ⟨hw, r2, rfl, hv⟩ := h
  obtain ⟨o3, hv⟩ := hv
  refine wa_getI X (j := 9) hk_0 hc_0 i_0 (by decide) kw_866 rfl dX10_got_5 o3 ?_
  exact wa_ireturn X E dX10_got_8 (Nat.le_of_ble_eq_true rfl) (Nat.le_of_ble_eq_true rfl) (Or.inl rfl) ⟨hw, _, rfl, hv⟩

def m_C_due (a1 : Int32) (a2 : Int32) (S : hs_S) (Q : Int32 → hs_S → Prop) (Ex : String → hs_S → Prop) : Prop := hs_M 7 yX10_due (.code yX10_due cX10_due 3 (some FieldType.int)) [.inr (.inr (10, 1)), .inl a1, .inl a2] S 2 12 (hs_qI Q) (hs_qX Ex)
def vc_C_due (a1 : Int32) (a2 : Int32) (S : hs_S) (Q : Int32 → hs_S → Prop) (Ex : String → hs_S → Prop) : Prop := (hs_Wi S → (m_C_needOwner a1 S (fun S1 => (hs_Wi S1 → (m_C_needColumn a2 S1 (fun S3 => ((P_Ldg_dueOf a1 a2 S3) ∧ (Q (F_Ldg_dueOf a1 a2 S3) S3))) Ex))) Ex))
set_option maxRecDepth 100000 in
set_option maxHeartbeats 4000000 in
theorem ok_C_due {a1 : Int32} {a2 : Int32} {S : hs_S} {Q : Int32 → hs_S → Prop} {Ex : String → hs_S → Prop} (hw : hs_Wi S) (hv : vc_C_due a1 a2 S Q Ex) : m_C_due a1 a2 S Q Ex := by
  unfold vc_C_due at hv
  refine hs_body (own := RX10) rfl rfl (Nat.le_of_ble_eq_true rfl) (fun Z X E N J0 => ?_)
  show wa Z 0 0 S 0 [(0, .inr (.inr (10, 1))), (1, .inl a1), (2, .inl a2)] []
  refine wa_iload_n X 1 rfl dX10_due_0 rfl ?_
  refine wa_callS X (As := [.inl a1]) (hv hw) kw_465 kw_21 kw_463 kw_464 nd_X10_needOwner rfl rfl (Nat.le_of_ble_eq_true rfl) dX10_due_1 ⟨⟨Nat.le_of_ble_eq_true rfl, Nat.le_of_ble_eq_true rfl⟩, Nat.le_of_ble_eq_true rfl, Nat.le_of_ble_eq_true rfl⟩ (fun v S1 h => ?_) (fun _ _ h => wx_out X E N (Nat.le_of_ble_eq_true rfl) (Nat.le_of_ble_eq_true rfl) h)
  obtain ⟨hw, rfl, hv⟩ := h
  refine wa_iload_n X 2 rfl dX10_due_4 rfl ?_
  refine wa_callS X (As := [.inl a2]) (hv hw) kw_355 kw_21 kw_353 kw_354 nd_X10_needColumn rfl rfl (Nat.le_of_ble_eq_true rfl) dX10_due_5 ⟨⟨Nat.le_of_ble_eq_true rfl, Nat.le_of_ble_eq_true rfl⟩, Nat.le_of_ble_eq_true rfl, Nat.le_of_ble_eq_true rfl⟩ (fun v S3 h => ?_) (fun _ _ h => wx_out X E N (Nat.le_of_ble_eq_true rfl) (Nat.le_of_ble_eq_true rfl) h)
  obtain ⟨hw, rfl, hv⟩ := h
  refine wa_aload_n X 0 rfl dX10_due_8 rfl ?_
  refine wa_getfw X hw (j := 4) (r := 1) hk_10 hc_10 i_10 (by decide) kw_331 rfl rfl (by decide) rfl dX10_due_9 hs_1ne ?_
  refine wa_iload_n X 1 rfl dX10_due_12 rfl ?_
  refine wa_iload_n X 2 rfl dX10_due_13 rfl ?_
  obtain ⟨o5, hv⟩ := hv
  refine wa_callV X (As := [.inl a1, .inl a2]) (f_Ldg_dueOf hw o5) hk_6 hc_6 rfl kw_470 kw_32 kw_467 kw_468 kw_469 nd_X6_dueOf rfl rfl (Nat.le_of_ble_eq_true rfl) dX10_due_14 hs_1ne ⟨⟨Nat.le_of_ble_eq_true rfl, Nat.le_of_ble_eq_true rfl⟩, Nat.le_of_ble_eq_true rfl, Nat.le_of_ble_eq_true rfl⟩ (hs_pdk0 ?_) (fun _ _ h => h.elim)
  exact wa_ireturn X E dX10_due_17 (Nat.le_of_ble_eq_true rfl) (Nat.le_of_ble_eq_true rfl) (Or.inl rfl) ⟨hw, _, rfl, hv⟩

def m_C_settle (a1 : Int32) (S : hs_S) (Q : Int32 → hs_S → Prop) (Ex : String → hs_S → Prop) : Prop := hs_M 8 yX10_settle (.code yX10_settle cX10_settle 2 (some FieldType.int)) [.inr (.inr (10, 1)), .inl a1] S 1 6 (hs_qI Q) (hs_qX Ex)
def vc_C_settle (a1 : Int32) (S : hs_S) (Q : Int32 → hs_S → Prop) (Ex : String → hs_S → Prop) : Prop := (hs_Wi S → (m_C_needColumn a1 S (fun S1 => (∀ S3 : hs_S, S3 = (hs_wI S1 10 1 5 ((S1.1 10 1 5) + (1 : Int32))) → ((P_Ldg_payDues a1 S3) ∧ (∀ r6 : Int32, ∀ S5 : hs_S, R_Ldg_payDues a1 S3 r6 S5 → (Q r6 S5))))) Ex))
set_option maxRecDepth 100000 in
set_option maxHeartbeats 4000000 in
theorem ok_C_settle {a1 : Int32} {S : hs_S} {Q : Int32 → hs_S → Prop} {Ex : String → hs_S → Prop} (hw : hs_Wi S) (hv : vc_C_settle a1 S Q Ex) : m_C_settle a1 S Q Ex := by
  unfold vc_C_settle at hv
  refine hs_body (own := RX10) rfl rfl (Nat.le_of_ble_eq_true rfl) (fun Z X E N J0 => ?_)
  show wa Z 0 0 S 0 [(0, .inr (.inr (10, 1))), (1, .inl a1)] []
  refine wa_iload_n X 1 rfl dX10_settle_0 rfl ?_
  refine wa_callS X (As := [.inl a1]) (hv hw) kw_355 kw_21 kw_353 kw_354 nd_X10_needColumn rfl rfl (Nat.le_of_ble_eq_true rfl) dX10_settle_1 ⟨⟨Nat.le_of_ble_eq_true rfl, Nat.le_of_ble_eq_true rfl⟩, Nat.le_of_ble_eq_true rfl, Nat.le_of_ble_eq_true rfl⟩ (fun v S1 h => ?_) (fun _ _ h => wx_out X E N (Nat.le_of_ble_eq_true rfl) (Nat.le_of_ble_eq_true rfl) h)
  obtain ⟨hw, rfl, hv⟩ := h
  refine wa_aload_n X 0 rfl dX10_settle_4 rfl ?_
  refine wa_dup X dX10_settle_5 rfl ?_
  refine wa_getI X (j := 5) hk_10 hc_10 i_10 (by decide) kw_332 rfl dX10_settle_6 hs_1ne ?_
  refine wa_iconst X dX10_settle_9 kc1 ?_
  refine wa_iadd X dX10_settle_10 ?_
  refine wa_putI X (j := 5) hk_10 hc_10 i_10 tyX10 tyX10_ok nmX10 (by decide) kw_332 rfl rfl dX10_settle_11 hs_1ne ⟨rfl, Or.inl rfl⟩ (hs_eqS fun S3 hS3 => ?_)
  replace hv := hv S3 hS3
  replace hw : hs_Wi S3 := hS3 ▸ hs_Wi_I hw
  refine wa_aload_n X 0 rfl dX10_settle_14 rfl ?_
  refine wa_getfw X hw (j := 4) (r := 1) hk_10 hc_10 i_10 (by decide) kw_331 rfl rfl (by decide) rfl dX10_settle_15 hs_1ne ?_
  refine wa_iload_n X 1 rfl dX10_settle_18 rfl ?_
  obtain ⟨o4, hv⟩ := hv
  refine wa_callV X (As := [.inl a1]) (ok_Ldg_payDues hw (v_Ldg_payDues o4)) hk_6 hc_6 rfl kw_1013 kw_32 kw_1010 kw_1011 kw_1012 nd_X6_payDues rfl rfl (Nat.le_of_ble_eq_true rfl) dX10_settle_19 hs_1ne ⟨⟨Nat.le_of_ble_eq_true rfl, Nat.le_of_ble_eq_true rfl⟩, Nat.le_of_ble_eq_true rfl, Nat.le_of_ble_eq_true rfl⟩ (fun _ S5 h => ?_) (fun _ _ h => h.elim)
  obtain ⟨hw, r6, rfl, g7⟩ := h
  replace hv := hv r6 S5 g7
  exact wa_ireturn X E dX10_settle_22 (Nat.le_of_ble_eq_true rfl) (Nat.le_of_ble_eq_true rfl) (Or.inl rfl) ⟨hw, _, rfl, hv⟩

def m_C_cash (a1 : Int32) (S : hs_S) (Q : Int32 → hs_S → Prop) (Ex : String → hs_S → Prop) : Prop := hs_M 7 yX10_cash (.code yX10_cash cX10_cash 2 (some FieldType.int)) [.inr (.inr (10, 1)), .inl a1] S 1 6 (hs_qI Q) (hs_qX Ex)
def vc_C_cash (a1 : Int32) (S : hs_S) (Q : Int32 → hs_S → Prop) (Ex : String → hs_S → Prop) : Prop := (hs_Wi S → (m_C_needOwner a1 S (fun S1 => ((0 ≤ a1.toInt ∧ a1.toInt < 6) ∧ (Q (S1.1 36 1 a1.toNatClampNeg) S1))) Ex))
set_option maxRecDepth 100000 in
set_option maxHeartbeats 4000000 in
theorem ok_C_cash {a1 : Int32} {S : hs_S} {Q : Int32 → hs_S → Prop} {Ex : String → hs_S → Prop} (hw : hs_Wi S) (hv : vc_C_cash a1 S Q Ex) : m_C_cash a1 S Q Ex := by
  unfold vc_C_cash at hv
  refine hs_body (own := RX10) rfl rfl (Nat.le_of_ble_eq_true rfl) (fun Z X E N J0 => ?_)
  show wa Z 0 0 S 0 [(0, .inr (.inr (10, 1))), (1, .inl a1)] []
  refine wa_iload_n X 1 rfl dX10_cash_0 rfl ?_
  refine wa_callS X (As := [.inl a1]) (hv hw) kw_465 kw_21 kw_463 kw_464 nd_X10_needOwner rfl rfl (Nat.le_of_ble_eq_true rfl) dX10_cash_1 ⟨⟨Nat.le_of_ble_eq_true rfl, Nat.le_of_ble_eq_true rfl⟩, Nat.le_of_ble_eq_true rfl, Nat.le_of_ble_eq_true rfl⟩ (fun v S1 h => ?_) (fun _ _ h => wx_out X E N (Nat.le_of_ble_eq_true rfl) (Nat.le_of_ble_eq_true rfl) h)
  obtain ⟨hw, rfl, hv⟩ := h
  refine wa_aload_n X 0 rfl dX10_cash_4 rfl ?_
  refine wa_getfw X hw (j := 4) (r := 1) hk_10 hc_10 i_10 (by decide) kw_331 rfl rfl (by decide) rfl dX10_cash_5 hs_1ne ?_
  refine wa_getfw X hw (j := 2) (r := 1) hk_6 hc_6 i_6 (by decide) kw_309 rfl rfl (by decide) rfl dX10_cash_8 hs_1ne ?_
  refine wa_iload_n X 1 rfl dX10_cash_11 rfl ?_
  obtain ⟨o3, hv⟩ := hv
  refine wa_iald X hk_36 dX10_cash_12 hs_1ne o3 ?_
  exact wa_ireturn X E dX10_cash_13 (Nat.le_of_ble_eq_true rfl) (Nat.le_of_ble_eq_true rfl) (Or.inl rfl) ⟨hw, _, rfl, hv⟩

def m_C_limit (a1 : Int32) (a2 : Int32) (S : hs_S) (Q : Int32 → hs_S → Prop) (Ex : String → hs_S → Prop) : Prop := hs_M 7 yX10_limit (.code yX10_limit cX10_limit 4 (some FieldType.int)) [.inr (.inr (10, 1)), .inl a1, .inl a2] S 2 12 (hs_qI Q) (hs_qX Ex)
def vc_C_limit (a1 : Int32) (a2 : Int32) (S : hs_S) (Q : Int32 → hs_S → Prop) (Ex : String → hs_S → Prop) : Prop := (hs_Wi S → (m_C_needOwner a1 S (fun S1 => ((a2 < 0 → (Ex "java/lang/IllegalArgumentException" S1)) ∧ (¬ a2 < 0 → ((a2 ≤ (1000000000 : Int32) → ((0 ≤ a1.toInt ∧ a1.toInt < 6) ∧ (∀ S6 : hs_S, S6 = (hs_wI S1 37 1 a1.toNatClampNeg a2) → (∀ S7 : hs_S, S7 = (hs_wI S6 10 1 5 ((S6.1 10 1 5) + (1 : Int32))) → (Q (S1.1 37 1 a1.toNatClampNeg) S7))))) ∧ (¬ a2 ≤ (1000000000 : Int32) → (Ex "java/lang/IllegalArgumentException" S1)))))) Ex))
set_option maxRecDepth 100000 in
set_option maxHeartbeats 4000000 in
theorem ok_C_limit {a1 : Int32} {a2 : Int32} {S : hs_S} {Q : Int32 → hs_S → Prop} {Ex : String → hs_S → Prop} (hw : hs_Wi S) (hv : vc_C_limit a1 a2 S Q Ex) : m_C_limit a1 a2 S Q Ex := by
  unfold vc_C_limit at hv
  refine hs_body (own := RX10) rfl rfl (Nat.le_of_ble_eq_true rfl) (fun Z X E N J0 => ?_)
  show wa Z 0 0 S 0 [(0, .inr (.inr (10, 1))), (1, .inl a1), (2, .inl a2)] []
  refine wa_iload_n X 1 rfl dX10_limit_0 rfl ?_
  refine wa_callS X (As := [.inl a1]) (hv hw) kw_465 kw_21 kw_463 kw_464 nd_X10_needOwner rfl rfl (Nat.le_of_ble_eq_true rfl) dX10_limit_1 ⟨⟨Nat.le_of_ble_eq_true rfl, Nat.le_of_ble_eq_true rfl⟩, Nat.le_of_ble_eq_true rfl, Nat.le_of_ble_eq_true rfl⟩ (fun v S1 h => ?_) (fun _ _ h => wx_out X E N (Nat.le_of_ble_eq_true rfl) (Nat.le_of_ble_eq_true rfl) h)
  obtain ⟨hw, rfl, hv⟩ := h
  refine wa_iload_n X 2 rfl dX10_limit_4 rfl ?_
  refine wa_if_lt X (tgt := 15) dX10_limit_5 (by decide) (fun c3 => ?_) (fun c3 => ?_)
  · replace hv := hv.1 c3
    exact wa_throw X E N (names := ["java/lang/RuntimeException", "java/lang/Exception"]) (text := "the limit is out of range") kx_fit_IllegalArgumentException kx_names kw_546 kw_40 (by decide +kernel) kx_at_IllegalArgumentException_84 kx_ok_IllegalArgumentException_84 dX10_limit_15 dX10_limit_18 dX10_limit_19 dX10_limit_21 dX10_limit_24 ⟨Nat.le_of_ble_eq_true rfl, Nat.le_of_ble_eq_true rfl, Nat.le_of_ble_eq_true rfl, Nat.le_of_ble_eq_true rfl⟩ (Nat.le_of_ble_eq_true rfl) (Nat.le_of_ble_eq_true rfl) ⟨hw, hv⟩
  · replace hv := hv.2 c3
    refine wa_iload_n X 2 rfl dX10_limit_8 rfl ?_
    refine wa_ldc_w X kw_1032 dX10_limit_9 ?_
    refine wa_icmp_le X (tgt := 25) dX10_limit_12 (by decide) (fun c4 => ?_) (fun c4 => ?_)
    · replace hv := hv.1 c4
      refine wa_aload_n X 0 rfl dX10_limit_25 rfl ?_
      refine wa_getfw X hw (j := 4) (r := 1) hk_10 hc_10 i_10 (by decide) kw_331 rfl rfl (by decide) rfl dX10_limit_26 hs_1ne ?_
      refine wa_getfw X hw (j := 3) (r := 1) hk_6 hc_6 i_6 (by decide) kw_311 rfl rfl (by decide) rfl dX10_limit_29 hs_1ne ?_
      refine wa_iload_n X 1 rfl dX10_limit_32 rfl ?_
      obtain ⟨o5, hv⟩ := hv
      refine wa_iald X hk_37 dX10_limit_33 hs_1ne o5 ?_
      refine wa_istore_n X (lv' := [(3, .inl (S1.1 37 1 a1.toNatClampNeg)), (0, .inr (.inr (10, 1))), (1, .inl a1), (2, .inl a2)]) dX10_limit_34 rfl (by decide) rfl ?_
      refine wa_aload_n X 1 rfl dX10_limit_35 rfl ?_
      refine wa_getfw X hw (j := 4) (r := 1) hk_10 hc_10 i_10 (by decide) kw_331 rfl rfl (by decide) rfl dX10_limit_36 hs_1ne ?_
      refine wa_getfw X hw (j := 3) (r := 1) hk_6 hc_6 i_6 (by decide) kw_311 rfl rfl (by decide) rfl dX10_limit_39 hs_1ne ?_
      refine wa_iload_n X 2 rfl dX10_limit_42 rfl ?_
      refine wa_iload_n X 3 rfl dX10_limit_43 rfl ?_
      refine wa_iast X hk_37 dX10_limit_44 hs_1ne o5 (hs_eqS fun S6 hS6 => ?_)
      replace hv := hv S6 hS6
      replace hw : hs_Wi S6 := hS6 ▸ hs_Wi_I hw
      refine wa_aload_n X 1 rfl dX10_limit_45 rfl ?_
      refine wa_dup X dX10_limit_46 rfl ?_
      refine wa_getI X (j := 5) hk_10 hc_10 i_10 (by decide) kw_332 rfl dX10_limit_47 hs_1ne ?_
      refine wa_iconst X dX10_limit_50 kc1 ?_
      refine wa_iadd X dX10_limit_51 ?_
      refine wa_putI X (j := 5) hk_10 hc_10 i_10 tyX10 tyX10_ok nmX10 (by decide) kw_332 rfl rfl dX10_limit_52 hs_1ne ⟨rfl, Or.inl rfl⟩ (hs_eqS fun S7 hS7 => ?_)
      replace hv := hv S7 hS7
      replace hw : hs_Wi S7 := hS7 ▸ hs_Wi_I hw
      refine wa_iload_n X 0 rfl dX10_limit_55 rfl ?_
      exact wa_ireturn X E dX10_limit_56 (Nat.le_of_ble_eq_true rfl) (Nat.le_of_ble_eq_true rfl) (Or.inl rfl) ⟨hw, _, rfl, hv⟩
    · replace hv := hv.2 c4
      exact wa_throw X E N (names := ["java/lang/RuntimeException", "java/lang/Exception"]) (text := "the limit is out of range") kx_fit_IllegalArgumentException kx_names kw_546 kw_40 (by decide +kernel) kx_at_IllegalArgumentException_84 kx_ok_IllegalArgumentException_84 dX10_limit_15 dX10_limit_18 dX10_limit_19 dX10_limit_21 dX10_limit_24 ⟨Nat.le_of_ble_eq_true rfl, Nat.le_of_ble_eq_true rfl, Nat.le_of_ble_eq_true rfl, Nat.le_of_ble_eq_true rfl⟩ (Nat.le_of_ble_eq_true rfl) (Nat.le_of_ble_eq_true rfl) ⟨hw, hv⟩

def m_C_exposure (a1 : Int32) (S : hs_S) (Q : Int32 → hs_S → Prop) (Ex : String → hs_S → Prop) : Prop := hs_M 8 yX10_exposure (.code yX10_exposure cX10_exposure 2 (some FieldType.int)) [.inr (.inr (10, 1)), .inl a1] S 1 6 (hs_qI Q) (hs_qX Ex)
def vc_C_exposure (a1 : Int32) (S : hs_S) (Q : Int32 → hs_S → Prop) (Ex : String → hs_S → Prop) : Prop := (hs_Wi S → (m_C_needOwner a1 S (fun S1 => ((P_Ldg_exposureOf a1 S1) ∧ (Q (F_Ldg_exposureOf a1 S1) S1))) Ex))
set_option maxRecDepth 100000 in
set_option maxHeartbeats 4000000 in
theorem ok_C_exposure {a1 : Int32} {S : hs_S} {Q : Int32 → hs_S → Prop} {Ex : String → hs_S → Prop} (hw : hs_Wi S) (hv : vc_C_exposure a1 S Q Ex) : m_C_exposure a1 S Q Ex := by
  unfold vc_C_exposure at hv
  refine hs_body (own := RX10) rfl rfl (Nat.le_of_ble_eq_true rfl) (fun Z X E N J0 => ?_)
  show wa Z 0 0 S 0 [(0, .inr (.inr (10, 1))), (1, .inl a1)] []
  refine wa_iload_n X 1 rfl dX10_exposure_0 rfl ?_
  refine wa_callS X (As := [.inl a1]) (hv hw) kw_465 kw_21 kw_463 kw_464 nd_X10_needOwner rfl rfl (Nat.le_of_ble_eq_true rfl) dX10_exposure_1 ⟨⟨Nat.le_of_ble_eq_true rfl, Nat.le_of_ble_eq_true rfl⟩, Nat.le_of_ble_eq_true rfl, Nat.le_of_ble_eq_true rfl⟩ (fun v S1 h => ?_) (fun _ _ h => wx_out X E N (Nat.le_of_ble_eq_true rfl) (Nat.le_of_ble_eq_true rfl) h)
  obtain ⟨hw, rfl, hv⟩ := h
  refine wa_aload_n X 0 rfl dX10_exposure_4 rfl ?_
  refine wa_getfw X hw (j := 4) (r := 1) hk_10 hc_10 i_10 (by decide) kw_331 rfl rfl (by decide) rfl dX10_exposure_5 hs_1ne ?_
  refine wa_iload_n X 1 rfl dX10_exposure_8 rfl ?_
  obtain ⟨o3, hv⟩ := hv
  refine wa_callV X (As := [.inl a1]) (f_Ldg_exposureOf hw o3) hk_6 hc_6 rfl kw_816 kw_32 kw_813 kw_814 kw_815 nd_X6_exposureOf rfl rfl (Nat.le_of_ble_eq_true rfl) dX10_exposure_9 hs_1ne ⟨⟨Nat.le_of_ble_eq_true rfl, Nat.le_of_ble_eq_true rfl⟩, Nat.le_of_ble_eq_true rfl, Nat.le_of_ble_eq_true rfl⟩ (hs_pdk0 ?_) (fun _ _ h => h.elim)
  exact wa_ireturn X E dX10_exposure_12 (Nat.le_of_ble_eq_true rfl) (Nat.le_of_ble_eq_true rfl) (Or.inl rfl) ⟨hw, _, rfl, hv⟩

def m_C_strikeBid (a1 : Int32) (S : hs_S) (Q : Int32 → hs_S → Prop) (Ex : String → hs_S → Prop) : Prop := hs_M 55 yX10_strikeBid (.code yX10_strikeBid cX10_strikeBid 3 (some FieldType.int)) [.inr (.inr (10, 1)), .inl a1] S 2 12 (hs_qI Q) (hs_qX Ex)
def vc_C_strikeBid (a1 : Int32) (S : hs_S) (Q : Int32 → hs_S → Prop) (Ex : String → hs_S → Prop) : Prop := (hs_Wi S → (m_C_bidNumbered a1 S (fun r2 S1 => ((r2 ≠ 0) ∧ (((S1.2.1 0 r2 2) ≠ 0) ∧ ((¬ (F_Rnd_isCleared (S1.2.1 0 r2 2) S1) = 0 → (((S1.1 0 r2 8) = 0 → (∀ S7 : hs_S, S7 = (hs_wI S1 0 r2 8 (1 : Int32)) → (∀ S8 : hs_S, S8 = (hs_wI S7 10 1 5 ((S7.1 10 1 5) + (1 : Int32))) → ((P_Clr_reckonAll S8) ∧ (∀ r11 : Int32, ∀ S10 : hs_S, R_Clr_reckonAll S8 r11 S10 → (Q r11 S10)))))) ∧ (¬ (S1.1 0 r2 8) = 0 → (Ex "java/lang/IllegalStateException" S1)))) ∧ ((F_Rnd_isCleared (S1.2.1 0 r2 2) S1) = 0 → (Ex "java/lang/IllegalStateException" S1)))))) Ex))
set_option maxRecDepth 100000 in
set_option maxHeartbeats 4000000 in
theorem ok_C_strikeBid {a1 : Int32} {S : hs_S} {Q : Int32 → hs_S → Prop} {Ex : String → hs_S → Prop} (hw : hs_Wi S) (hv : vc_C_strikeBid a1 S Q Ex) : m_C_strikeBid a1 S Q Ex := by
  unfold vc_C_strikeBid at hv
  refine hs_body (own := RX10) rfl rfl (Nat.le_of_ble_eq_true rfl) (fun Z X E N J0 => ?_)
  show wa Z 0 0 S 0 [(0, .inr (.inr (10, 1))), (1, .inl a1)] []
  refine wa_aload_n X 0 rfl dX10_strikeBid_0 rfl ?_
  refine wa_iload_n X 1 rfl dX10_strikeBid_1 rfl ?_
  refine wa_callV X (As := [.inl a1]) (hv hw) hk_10 hc_10 rfl kw_897 kw_21 kw_894 kw_896 kw_12 nd_X10_bidNumbered rfl rfl (Nat.le_of_ble_eq_true rfl) dX10_strikeBid_2 hs_1ne ⟨⟨Nat.le_of_ble_eq_true rfl, Nat.le_of_ble_eq_true rfl⟩, Nat.le_of_ble_eq_true rfl, Nat.le_of_ble_eq_true rfl⟩ (fun v S1 h => ?_) (fun _ _ h => wx_out X E N (Nat.le_of_ble_eq_true rfl) (Nat.le_of_ble_eq_true rfl) h)
  obtain ⟨hw, r2, rfl, hv⟩ := h
  refine wa_astore_n X (lv' := [(2, .inr (.inr (0, r2))), (0, .inr (.inr (10, 1))), (1, .inl a1)]) dX10_strikeBid_5 rfl (by decide) rfl ?_
  refine wa_aload_n X 0 rfl dX10_strikeBid_6 rfl ?_
  obtain ⟨o3, hv⟩ := hv
  refine wa_getR X (j := 2) hk_0 hc_0 i_0 (by decide) kw_845 rfl dX10_strikeBid_7 o3 ?_
  obtain ⟨o4, hv⟩ := hv
  refine wa_callV X (As := []) (f_Rnd_isCleared o4 hw) hk_8 hc_8 rfl kw_825 kw_29 kw_905 kw_823 kw_824 nd_X8_isCleared rfl rfl (Nat.le_of_ble_eq_true rfl) dX10_strikeBid_10 o4 ⟨⟨Nat.le_of_ble_eq_true rfl, Nat.le_of_ble_eq_true rfl⟩, Nat.le_of_ble_eq_true rfl, Nat.le_of_ble_eq_true rfl⟩ (hs_pdk0 ?_) (fun _ _ h => h.elim)
  refine wa_if_ne X (tgt := 27) dX10_strikeBid_13 (by decide) (fun c5 => ?_) (fun c5 => ?_)
  · replace hv := hv.1 c5
    refine wa_aload_n X 0 rfl dX10_strikeBid_27 rfl ?_
    refine wa_getI X (j := 8) hk_0 hc_0 i_0 (by decide) kw_863 rfl dX10_strikeBid_28 o3 ?_
    refine wa_if_eq X (tgt := 45) dX10_strikeBid_31 (by decide) (fun c6 => ?_) (fun c6 => ?_)
    · replace hv := hv.1 c6
      refine wa_aload_n X 0 rfl dX10_strikeBid_45 rfl ?_
      refine wa_iconst X dX10_strikeBid_46 kc1 ?_
      refine wa_putI X (j := 8) hk_0 hc_0 i_0 tyX0 tyX0_ok nmX0 (by decide) kw_863 rfl rfl dX10_strikeBid_47 o3 ⟨rfl, Or.inr ⟨rfl, Or.inr rfl⟩⟩ (hs_eqS fun S7 hS7 => ?_)
      replace hv := hv S7 hS7
      replace hw : hs_Wi S7 := hS7 ▸ hs_Wi_I hw
      refine wa_aload_n X 1 rfl dX10_strikeBid_50 rfl ?_
      refine wa_dup X dX10_strikeBid_51 rfl ?_
      refine wa_getI X (j := 5) hk_10 hc_10 i_10 (by decide) kw_332 rfl dX10_strikeBid_52 hs_1ne ?_
      refine wa_iconst X dX10_strikeBid_55 kc1 ?_
      refine wa_iadd X dX10_strikeBid_56 ?_
      refine wa_putI X (j := 5) hk_10 hc_10 i_10 tyX10 tyX10_ok nmX10 (by decide) kw_332 rfl rfl dX10_strikeBid_57 hs_1ne ⟨rfl, Or.inl rfl⟩ (hs_eqS fun S8 hS8 => ?_)
      replace hv := hv S8 hS8
      replace hw : hs_Wi S8 := hS8 ▸ hs_Wi_I hw
      refine wa_aload_n X 1 rfl dX10_strikeBid_60 rfl ?_
      refine wa_getfw X hw (j := 3) (r := 1) hk_10 hc_10 i_10 (by decide) kw_330 rfl rfl (by decide) rfl dX10_strikeBid_61 hs_1ne ?_
      obtain ⟨o9, hv⟩ := hv
      refine wa_callV X (As := []) (ok_Clr_reckonAll hw (v_Clr_reckonAll o9)) hk_2 hc_2 rfl kw_1046 kw_31 kw_1043 kw_1044 kw_1045 nd_X2_reckonAll rfl rfl (Nat.le_of_ble_eq_true rfl) dX10_strikeBid_64 hs_1ne ⟨⟨Nat.le_of_ble_eq_true rfl, Nat.le_of_ble_eq_true rfl⟩, Nat.le_of_ble_eq_true rfl, Nat.le_of_ble_eq_true rfl⟩ (fun _ S10 h => ?_) (fun _ _ h => h.elim)
      obtain ⟨hw, r11, rfl, g12⟩ := h
      replace hv := hv r11 S10 g12
      exact wa_ireturn X E dX10_strikeBid_67 (Nat.le_of_ble_eq_true rfl) (Nat.le_of_ble_eq_true rfl) (Or.inl rfl) ⟨hw, _, rfl, hv⟩
    · replace hv := hv.2 c6
      exact wa_throwW X E N (names := ["java/lang/RuntimeException", "java/lang/Exception"]) (text := "it is struck") kx_fit_IllegalStateException kx_names kw_522 kw_41 (by decide +kernel) kx_at_IllegalStateException_120 kx_ok_IllegalStateException_120 dX10_strikeBid_34 dX10_strikeBid_37 dX10_strikeBid_38 dX10_strikeBid_41 dX10_strikeBid_44 ⟨Nat.le_of_ble_eq_true rfl, Nat.le_of_ble_eq_true rfl, Nat.le_of_ble_eq_true rfl, Nat.le_of_ble_eq_true rfl⟩ (Nat.le_of_ble_eq_true rfl) (Nat.le_of_ble_eq_true rfl) ⟨hw, hv⟩
  · replace hv := hv.2 c5
    exact wa_throwW X E N (names := ["java/lang/RuntimeException", "java/lang/Exception"]) (text := "its round was not cleared") kx_fit_IllegalStateException kx_names kw_522 kw_41 (by decide +kernel) kx_at_IllegalStateException_120 kx_ok_IllegalStateException_120 dX10_strikeBid_16 dX10_strikeBid_19 dX10_strikeBid_20 dX10_strikeBid_23 dX10_strikeBid_26 ⟨Nat.le_of_ble_eq_true rfl, Nat.le_of_ble_eq_true rfl, Nat.le_of_ble_eq_true rfl, Nat.le_of_ble_eq_true rfl⟩ (Nat.le_of_ble_eq_true rfl) (Nat.le_of_ble_eq_true rfl) ⟨hw, hv⟩

def m_C_strikeEdit (a1 : Int32) (S : hs_S) (Q : Int32 → hs_S → Prop) (Ex : String → hs_S → Prop) : Prop := hs_M 55 yX10_strikeEdit (.code yX10_strikeEdit cX10_strikeEdit 3 (some FieldType.int)) [.inr (.inr (10, 1)), .inl a1] S 1 6 (hs_qI Q) (hs_qX Ex)
def vc_C_strikeEdit (a1 : Int32) (S : hs_S) (Q : Int32 → hs_S → Prop) (Ex : String → hs_S → Prop) : Prop := ((a1 < 0 → (Ex "java/lang/IndexOutOfBoundsException" S)) ∧ (¬ a1 < 0 → ((a1 < (nI (hs_sz S 12)) → ((0 ≤ a1.toInt ∧ a1.toInt < (hs_sz S 12)) ∧ (((S.2.1 12 1 a1.toNatClampNeg) ≠ 0) ∧ (((S.1 3 (S.2.1 12 1 a1.toNatClampNeg) 6) = 0 → (∀ S6 : hs_S, S6 = (hs_wI S 3 (S.2.1 12 1 a1.toNatClampNeg) 6 (1 : Int32)) → (∀ S7 : hs_S, S7 = (hs_wI S6 10 1 5 ((S6.1 10 1 5) + (1 : Int32))) → ((P_Clr_reckonAll S7) ∧ (∀ r10 : Int32, ∀ S9 : hs_S, R_Clr_reckonAll S7 r10 S9 → (Q r10 S9)))))) ∧ (¬ (S.1 3 (S.2.1 12 1 a1.toNatClampNeg) 6) = 0 → (Ex "java/lang/IllegalStateException" S)))))) ∧ (¬ a1 < (nI (hs_sz S 12)) → (Ex "java/lang/IndexOutOfBoundsException" S)))))
set_option maxRecDepth 100000 in
set_option maxHeartbeats 4000000 in
theorem ok_C_strikeEdit {a1 : Int32} {S : hs_S} {Q : Int32 → hs_S → Prop} {Ex : String → hs_S → Prop} (hw : hs_Wi S) (hv : vc_C_strikeEdit a1 S Q Ex) : m_C_strikeEdit a1 S Q Ex := by
  unfold vc_C_strikeEdit at hv
  refine hs_body (own := RX10) rfl rfl (Nat.le_of_ble_eq_true rfl) (fun Z X E N J0 => ?_)
  show wa Z 0 0 S 0 [(0, .inr (.inr (10, 1))), (1, .inl a1)] []
  refine wa_iload_n X 1 rfl dX10_strikeEdit_0 rfl ?_
  refine wa_if_lt X (tgt := 20) dX10_strikeEdit_1 (by decide) (fun c1 => ?_) (fun c1 => ?_)
  · replace hv := hv.1 c1
    exact wa_throwW X E N (names := ["java/lang/RuntimeException", "java/lang/Exception"]) (text := "no such edit") kx_fit_IndexOutOfBoundsException kx_names kw_356 kw_36 (by decide +kernel) kx_at_IndexOutOfBoundsException_181 kx_ok_IndexOutOfBoundsException_181 dX10_strikeEdit_20 dX10_strikeEdit_23 dX10_strikeEdit_24 dX10_strikeEdit_27 dX10_strikeEdit_30 ⟨Nat.le_of_ble_eq_true rfl, Nat.le_of_ble_eq_true rfl, Nat.le_of_ble_eq_true rfl, Nat.le_of_ble_eq_true rfl⟩ (Nat.le_of_ble_eq_true rfl) (Nat.le_of_ble_eq_true rfl) ⟨hw, hv⟩
  · replace hv := hv.2 c1
    refine wa_iload_n X 1 rfl dX10_strikeEdit_4 rfl ?_
    refine wa_aload_n X 0 rfl dX10_strikeEdit_5 rfl ?_
    refine wa_getfw X hw (j := 0) (r := 1) hk_10 hc_10 i_10 (by decide) kw_327 rfl rfl (by decide) rfl dX10_strikeEdit_6 hs_1ne ?_
    refine wa_getfw X hw (j := 1) (r := 1) hk_9 hc_9 i_9 (by decide) kw_137 rfl rfl (by decide) rfl dX10_strikeEdit_9 hs_1ne ?_
    refine wa_lsize X hk_12 kw_599 dX10_strikeEdit_12 hs_1ne ⟨⟨Nat.le_of_ble_eq_true rfl, Nat.le_of_ble_eq_true rfl⟩, Nat.le_of_ble_eq_true rfl, Nat.le_of_ble_eq_true rfl⟩ (Nat.le_of_ble_eq_true rfl) ?_
    refine wa_icmp_lt X (tgt := 31) dX10_strikeEdit_17 (by decide) (fun c2 => ?_) (fun c2 => ?_)
    · replace hv := hv.1 c2
      refine wa_aload_n X 0 rfl dX10_strikeEdit_31 rfl ?_
      refine wa_getfw X hw (j := 0) (r := 1) hk_10 hc_10 i_10 (by decide) kw_327 rfl rfl (by decide) rfl dX10_strikeEdit_32 hs_1ne ?_
      refine wa_getfw X hw (j := 1) (r := 1) hk_9 hc_9 i_9 (by decide) kw_137 rfl rfl (by decide) rfl dX10_strikeEdit_35 hs_1ne ?_
      refine wa_iload_n X 1 rfl dX10_strikeEdit_38 rfl ?_
      obtain ⟨o3, hv⟩ := hv
      refine wa_lget X hk_12 kw_900 dX10_strikeEdit_39 hs_1ne ⟨⟨Nat.le_of_ble_eq_true rfl, Nat.le_of_ble_eq_true rfl⟩, Nat.le_of_ble_eq_true rfl, Nat.le_of_ble_eq_true rfl⟩ (Nat.le_of_ble_eq_true rfl) o3 ?_
      obtain ⟨o4, hv⟩ := hv
      refine wa_cast X hk_3 hc_3 kw_1054 dX10_strikeEdit_44 o4 ?_
      refine wa_astore_n X (lv' := [(2, .inr (.inr (3, (S.2.1 12 1 a1.toNatClampNeg)))), (0, .inr (.inr (10, 1))), (1, .inl a1)]) dX10_strikeEdit_47 rfl (by decide) rfl ?_
      refine wa_aload_n X 0 rfl dX10_strikeEdit_48 rfl ?_
      refine wa_getI X (j := 6) hk_3 hc_3 i_3 (by decide) kw_629 rfl dX10_strikeEdit_49 o4 ?_
      refine wa_if_eq X (tgt := 66) dX10_strikeEdit_52 (by decide) (fun c5 => ?_) (fun c5 => ?_)
      · replace hv := hv.1 c5
        refine wa_aload_n X 0 rfl dX10_strikeEdit_66 rfl ?_
        refine wa_iconst X dX10_strikeEdit_67 kc1 ?_
        refine wa_putI X (j := 6) hk_3 hc_3 i_3 tyX3 tyX3_ok nmX3 (by decide) kw_629 rfl rfl dX10_strikeEdit_68 o4 ⟨rfl, Or.inr ⟨rfl, Or.inr rfl⟩⟩ (hs_eqS fun S6 hS6 => ?_)
        replace hv := hv S6 hS6
        replace hw : hs_Wi S6 := hS6 ▸ hs_Wi_I hw
        refine wa_aload_n X 1 rfl dX10_strikeEdit_71 rfl ?_
        refine wa_dup X dX10_strikeEdit_72 rfl ?_
        refine wa_getI X (j := 5) hk_10 hc_10 i_10 (by decide) kw_332 rfl dX10_strikeEdit_73 hs_1ne ?_
        refine wa_iconst X dX10_strikeEdit_76 kc1 ?_
        refine wa_iadd X dX10_strikeEdit_77 ?_
        refine wa_putI X (j := 5) hk_10 hc_10 i_10 tyX10 tyX10_ok nmX10 (by decide) kw_332 rfl rfl dX10_strikeEdit_78 hs_1ne ⟨rfl, Or.inl rfl⟩ (hs_eqS fun S7 hS7 => ?_)
        replace hv := hv S7 hS7
        replace hw : hs_Wi S7 := hS7 ▸ hs_Wi_I hw
        refine wa_aload_n X 1 rfl dX10_strikeEdit_81 rfl ?_
        refine wa_getfw X hw (j := 3) (r := 1) hk_10 hc_10 i_10 (by decide) kw_330 rfl rfl (by decide) rfl dX10_strikeEdit_82 hs_1ne ?_
        obtain ⟨o8, hv⟩ := hv
        refine wa_callV X (As := []) (ok_Clr_reckonAll hw (v_Clr_reckonAll o8)) hk_2 hc_2 rfl kw_1046 kw_31 kw_1043 kw_1044 kw_1045 nd_X2_reckonAll rfl rfl (Nat.le_of_ble_eq_true rfl) dX10_strikeEdit_85 hs_1ne ⟨⟨Nat.le_of_ble_eq_true rfl, Nat.le_of_ble_eq_true rfl⟩, Nat.le_of_ble_eq_true rfl, Nat.le_of_ble_eq_true rfl⟩ (fun _ S9 h => ?_) (fun _ _ h => h.elim)
        obtain ⟨hw, r10, rfl, g11⟩ := h
        replace hv := hv r10 S9 g11
        exact wa_ireturn X E dX10_strikeEdit_88 (Nat.le_of_ble_eq_true rfl) (Nat.le_of_ble_eq_true rfl) (Or.inl rfl) ⟨hw, _, rfl, hv⟩
      · replace hv := hv.2 c5
        exact wa_throwW X E N (names := ["java/lang/RuntimeException", "java/lang/Exception"]) (text := "it is struck") kx_fit_IllegalStateException kx_names kw_522 kw_41 (by decide +kernel) kx_at_IllegalStateException_120 kx_ok_IllegalStateException_120 dX10_strikeEdit_55 dX10_strikeEdit_58 dX10_strikeEdit_59 dX10_strikeEdit_62 dX10_strikeEdit_65 ⟨Nat.le_of_ble_eq_true rfl, Nat.le_of_ble_eq_true rfl, Nat.le_of_ble_eq_true rfl, Nat.le_of_ble_eq_true rfl⟩ (Nat.le_of_ble_eq_true rfl) (Nat.le_of_ble_eq_true rfl) ⟨hw, hv⟩
    · replace hv := hv.2 c2
      exact wa_throwW X E N (names := ["java/lang/RuntimeException", "java/lang/Exception"]) (text := "no such edit") kx_fit_IndexOutOfBoundsException kx_names kw_356 kw_36 (by decide +kernel) kx_at_IndexOutOfBoundsException_181 kx_ok_IndexOutOfBoundsException_181 dX10_strikeEdit_20 dX10_strikeEdit_23 dX10_strikeEdit_24 dX10_strikeEdit_27 dX10_strikeEdit_30 ⟨Nat.le_of_ble_eq_true rfl, Nat.le_of_ble_eq_true rfl, Nat.le_of_ble_eq_true rfl, Nat.le_of_ble_eq_true rfl⟩ (Nat.le_of_ble_eq_true rfl) (Nat.le_of_ble_eq_true rfl) ⟨hw, hv⟩

def F_C_events (S : hs_S) : Int32 := S.1 10 1 5
def m_C_events (S : hs_S) (Q : Int32 → hs_S → Prop) : Prop := hs_M 1 yX10_events (.code yX10_events cX10_events 1 (some FieldType.int)) [.inr (.inr (10, 1))] S 0 0 (hs_qI Q) hs_nX
def vc_C_events (S : hs_S) (Q : Int32 → hs_S → Prop) : Prop := (Q (S.1 10 1 5) S)
set_option maxRecDepth 100000 in
set_option maxHeartbeats 4000000 in
theorem ok_C_events {S : hs_S} {Q : Int32 → hs_S → Prop} (hw : hs_Wi S) (hv : vc_C_events S Q) : m_C_events S Q := by
  unfold vc_C_events at hv
  refine hs_body (own := RX10) rfl rfl (Nat.le_of_ble_eq_true rfl) (fun Z X E N J0 => ?_)
  show wa Z 0 0 S 0 [(0, .inr (.inr (10, 1)))] []
  refine wa_aload_n X 0 rfl dX10_events_0 rfl ?_
  refine wa_getI X (j := 5) hk_10 hc_10 i_10 (by decide) kw_332 rfl dX10_events_1 hs_1ne ?_
  exact wa_ireturn X E dX10_events_4 (Nat.le_of_ble_eq_true rfl) (Nat.le_of_ble_eq_true rfl) (Or.inl rfl) ⟨hw, _, rfl, hv⟩
theorem v_C_events {S : hs_S} : vc_C_events S (fun r S' => r = F_C_events S ∧ S' = S) := ⟨rfl, rfl⟩
theorem f_C_events {S : hs_S} (hw : hs_Wi S) : hs_M 1 yX10_events (.code yX10_events cX10_events 1 (some FieldType.int)) [.inr (.inr (10, 1))] S 0 0 (hs_pd (some (.inl (F_C_events S))) S) hs_nX := hs_pdI (ok_C_events hw (v_C_events))

