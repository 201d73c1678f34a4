def m_C_needOwner (a1 : Int32) (S : hs_S) (Q : hs_S → Prop) (Ex : String → hs_S → Prop) : Prop := hs_M 6 yX10_needOwner (.code yX10_needOwner cX10_needOwner 1 none) [.inl a1] S 1 6 (hs_qV Q) (hs_qX Ex)
def vc_C_needOwner (a1 : Int32) (S : hs_S) (Q : hs_S → Prop) (Ex : String → hs_S → Prop) : Prop := ((a1 < 0 → (Ex "java/lang/IndexOutOfBoundsException" S)) ∧ (¬ a1 < 0 → ((a1 < (6 : Int32) → (Q S)) ∧ (¬ a1 < (6 : Int32) → (Ex "java/lang/IndexOutOfBoundsException" S)))))
set_option maxRecDepth 100000 in
set_option maxHeartbeats 4000000 in
theorem ok_C_needOwner {a1 : Int32} {S : hs_S} {Q : hs_S → Prop} {Ex : String → hs_S → Prop} (hw : hs_Wi S) (hv : vc_C_needOwner a1 S Q Ex) : m_C_needOwner a1 S Q Ex := by
  unfold vc_C_needOwner at hv
  refine hs_body (own := RX10) rfl rfl (Nat.le_of_ble_eq_true rfl) (fun Z X E N J0 => ?_)
  show wa Z 0 0 S 0 [(0, .inl a1)] []
  refine wa_iload_n X 0 rfl dX10_needOwner_0 rfl ?_
  refine wa_if_lt X (tgt := 10) dX10_needOwner_1 (by decide) (fun c1 => ?_) (fun c1 => ?_)
  · replace hv := hv.1 c1
    exact wa_throwW X E N (names := ["java/lang/RuntimeException", "java/lang/Exception"]) (text := "no such owner") kx_fit_IndexOutOfBoundsException kx_names kw_356 kw_36 (by decide +kernel) kx_at_IndexOutOfBoundsException_181 kx_ok_IndexOutOfBoundsException_181 dX10_needOwner_10 dX10_needOwner_13 dX10_needOwner_14 dX10_needOwner_17 dX10_needOwner_20 ⟨Nat.le_of_ble_eq_true rfl, Nat.le_of_ble_eq_true rfl, Nat.le_of_ble_eq_true rfl, Nat.le_of_ble_eq_true rfl⟩ (Nat.le_of_ble_eq_true rfl) (Nat.le_of_ble_eq_true rfl) ⟨hw, hv⟩
  · replace hv := hv.2 c1
    refine wa_iload_n X 0 rfl dX10_needOwner_4 rfl ?_
    refine wa_bipush X dX10_needOwner_5 kb6 ?_
    refine wa_icmp_lt X (tgt := 21) dX10_needOwner_7 (by decide) (fun c2 => ?_) (fun c2 => ?_)
    · replace hv := hv.1 c2
      exact wa_return X E dX10_needOwner_21 (Nat.le_of_ble_eq_true rfl) (Nat.le_of_ble_eq_true rfl) ⟨hw, rfl, hv⟩
    · replace hv := hv.2 c2
      exact wa_throwW X E N (names := ["java/lang/RuntimeException", "java/lang/Exception"]) (text := "no such owner") kx_fit_IndexOutOfBoundsException kx_names kw_356 kw_36 (by decide +kernel) kx_at_IndexOutOfBoundsException_181 kx_ok_IndexOutOfBoundsException_181 dX10_needOwner_10 dX10_needOwner_13 dX10_needOwner_14 dX10_needOwner_17 dX10_needOwner_20 ⟨Nat.le_of_ble_eq_true rfl, Nat.le_of_ble_eq_true rfl, Nat.le_of_ble_eq_true rfl, Nat.le_of_ble_eq_true rfl⟩ (Nat.le_of_ble_eq_true rfl) (Nat.le_of_ble_eq_true rfl) ⟨hw, hv⟩

def m_C_needColumn (a1 : Int32) (S : hs_S) (Q : hs_S → Prop) (Ex : String → hs_S → Prop) : Prop := hs_M 6 yX10_needColumn (.code yX10_needColumn cX10_needColumn 1 none) [.inl a1] S 1 6 (hs_qV Q) (hs_qX Ex)
def vc_C_needColumn (a1 : Int32) (S : hs_S) (Q : hs_S → Prop) (Ex : String → hs_S → Prop) : Prop := ((a1 < 0 → (Ex "java/lang/IndexOutOfBoundsException" S)) ∧ (¬ a1 < 0 → ((a1 < (4 : Int32) → (Q S)) ∧ (¬ a1 < (4 : Int32) → (Ex "java/lang/IndexOutOfBoundsException" S)))))
set_option maxRecDepth 100000 in
set_option maxHeartbeats 4000000 in
theorem ok_C_needColumn {a1 : Int32} {S : hs_S} {Q : hs_S → Prop} {Ex : String → hs_S → Prop} (hw : hs_Wi S) (hv : vc_C_needColumn a1 S Q Ex) : m_C_needColumn a1 S Q Ex := by
  unfold vc_C_needColumn at hv
  refine hs_body (own := RX10) rfl rfl (Nat.le_of_ble_eq_true rfl) (fun Z X E N J0 => ?_)
  show wa Z 0 0 S 0 [(0, .inl a1)] []
  refine wa_iload_n X 0 rfl dX10_needColumn_0 rfl ?_
  refine wa_if_lt X (tgt := 9) dX10_needColumn_1 (by decide) (fun c1 => ?_) (fun c1 => ?_)
  · replace hv := hv.1 c1
    exact wa_throw X E N (names := ["java/lang/RuntimeException", "java/lang/Exception"]) (text := "no such column") kx_fit_IndexOutOfBoundsException kx_names kw_356 kw_36 (by decide +kernel) kx_at_IndexOutOfBoundsException_181 kx_ok_IndexOutOfBoundsException_181 dX10_needColumn_9 dX10_needColumn_12 dX10_needColumn_13 dX10_needColumn_15 dX10_needColumn_18 ⟨Nat.le_of_ble_eq_true rfl, Nat.le_of_ble_eq_true rfl, Nat.le_of_ble_eq_true rfl, Nat.le_of_ble_eq_true rfl⟩ (Nat.le_of_ble_eq_true rfl) (Nat.le_of_ble_eq_true rfl) ⟨hw, hv⟩
  · replace hv := hv.2 c1
    refine wa_iload_n X 0 rfl dX10_needColumn_4 rfl ?_
    refine wa_iconst X dX10_needColumn_5 kc4 ?_
    refine wa_icmp_lt X (tgt := 19) dX10_needColumn_6 (by decide) (fun c2 => ?_) (fun c2 => ?_)
    · replace hv := hv.1 c2
      exact wa_return X E dX10_needColumn_19 (Nat.le_of_ble_eq_true rfl) (Nat.le_of_ble_eq_true rfl) ⟨hw, rfl, hv⟩
    · replace hv := hv.2 c2
      exact wa_throw X E N (names := ["java/lang/RuntimeException", "java/lang/Exception"]) (text := "no such column") kx_fit_IndexOutOfBoundsException kx_names kw_356 kw_36 (by decide +kernel) kx_at_IndexOutOfBoundsException_181 kx_ok_IndexOutOfBoundsException_181 dX10_needColumn_9 dX10_needColumn_12 dX10_needColumn_13 dX10_needColumn_15 dX10_needColumn_18 ⟨Nat.le_of_ble_eq_true rfl, Nat.le_of_ble_eq_true rfl, Nat.le_of_ble_eq_true rfl, Nat.le_of_ble_eq_true rfl⟩ (Nat.le_of_ble_eq_true rfl) (Nat.le_of_ble_eq_true rfl) ⟨hw, hv⟩

def m_C_cellAt (a1 : Int32) (a2 : Int32) (S : hs_S) (Q : Int32 → hs_S → Prop) (Ex : String → hs_S → Prop) : Prop := hs_M 7 yX10_cellAt (.code yX10_cellAt cX10_cellAt 2 (some FieldType.int)) [.inl a1, .inl a2] S 2 12 (hs_qI Q) (hs_qX Ex)
def vc_C_cellAt (a1 : Int32) (a2 : Int32) (S : hs_S) (Q : Int32 → hs_S → Prop) (Ex : String → hs_S → Prop) : Prop := (hs_Wi S → (m_C_needColumn a1 S (fun S1 => ((a2 < 0 → (Ex "java/lang/IndexOutOfBoundsException" S1)) ∧ (¬ a2 < 0 → ((a2 < (6 : Int32) → (Q ((a1 * (6 : Int32)) + a2) S1)) ∧ (¬ a2 < (6 : Int32) → (Ex "java/lang/IndexOutOfBoundsException" S1)))))) Ex))
set_option maxRecDepth 100000 in
set_option maxHeartbeats 4000000 in
theorem ok_C_cellAt {a1 : Int32} {a2 : Int32} {S : hs_S} {Q : Int32 → hs_S → Prop} {Ex : String → hs_S → Prop} (hw : hs_Wi S) (hv : vc_C_cellAt a1 a2 S Q Ex) : m_C_cellAt a1 a2 S Q Ex := by
  unfold vc_C_cellAt at hv
  refine hs_body (own := RX10) rfl rfl (Nat.le_of_ble_eq_true rfl) (fun Z X E N J0 => ?_)
  show wa Z 0 0 S 0 [(0, .inl a1), (1, .inl a2)] []
  refine wa_iload_n X 0 rfl dX10_cellAt_0 rfl ?_
  refine wa_callS X (As := [.inl a1]) (hv hw) kw_355 kw_21 kw_353 kw_354 nd_X10_needColumn rfl rfl (Nat.le_of_ble_eq_true rfl) dX10_cellAt_1 ⟨⟨Nat.le_of_ble_eq_true rfl, Nat.le_of_ble_eq_true rfl⟩, Nat.le_of_ble_eq_true rfl, Nat.le_of_ble_eq_true rfl⟩ (fun v S1 h => ?_) (fun _ _ h => wx_out X E N (Nat.le_of_ble_eq_true rfl) (Nat.le_of_ble_eq_true rfl) h)
  obtain ⟨hw, rfl, hv⟩ := h
  refine wa_iload_n X 1 rfl dX10_cellAt_4 rfl ?_
  refine wa_if_lt X (tgt := 14) dX10_cellAt_5 (by decide) (fun c3 => ?_) (fun c3 => ?_)
  · replace hv := hv.1 c3
    exact wa_throw X E N (names := ["java/lang/RuntimeException", "java/lang/Exception"]) (text := "no such row") kx_fit_IndexOutOfBoundsException kx_names kw_356 kw_36 (by decide +kernel) kx_at_IndexOutOfBoundsException_181 kx_ok_IndexOutOfBoundsException_181 dX10_cellAt_14 dX10_cellAt_17 dX10_cellAt_18 dX10_cellAt_20 dX10_cellAt_23 ⟨Nat.le_of_ble_eq_true rfl, Nat.le_of_ble_eq_true rfl, Nat.le_of_ble_eq_true rfl, Nat.le_of_ble_eq_true rfl⟩ (Nat.le_of_ble_eq_true rfl) (Nat.le_of_ble_eq_true rfl) ⟨hw, hv⟩
  · replace hv := hv.2 c3
    refine wa_iload_n X 1 rfl dX10_cellAt_8 rfl ?_
    refine wa_bipush X dX10_cellAt_9 kb6 ?_
    refine wa_icmp_lt X (tgt := 24) dX10_cellAt_11 (by decide) (fun c4 => ?_) (fun c4 => ?_)
    · replace hv := hv.1 c4
      refine wa_iload_n X 0 rfl dX10_cellAt_24 rfl ?_
      refine wa_bipush X dX10_cellAt_25 kb6 ?_
      refine wa_imul X dX10_cellAt_27 ?_
      refine wa_iload_n X 1 rfl dX10_cellAt_28 rfl ?_
      refine wa_iadd X dX10_cellAt_29 ?_
      exact wa_ireturn X E dX10_cellAt_30 (Nat.le_of_ble_eq_true rfl) (Nat.le_of_ble_eq_true rfl) (Or.inl rfl) ⟨hw, _, rfl, hv⟩
    · replace hv := hv.2 c4
      exact wa_throw X E N (names := ["java/lang/RuntimeException", "java/lang/Exception"]) (text := "no such row") kx_fit_IndexOutOfBoundsException kx_names kw_356 kw_36 (by decide +kernel) kx_at_IndexOutOfBoundsException_181 kx_ok_IndexOutOfBoundsException_181 dX10_cellAt_14 dX10_cellAt_17 dX10_cellAt_18 dX10_cellAt_20 dX10_cellAt_23 ⟨Nat.le_of_ble_eq_true rfl, Nat.le_of_ble_eq_true rfl, Nat.le_of_ble_eq_true rfl, Nat.le_of_ble_eq_true rfl⟩ (Nat.le_of_ble_eq_true rfl) (Nat.le_of_ble_eq_true rfl) ⟨hw, hv⟩

def m_C_needOwnCell (a1 : Int32) (a2 : Int32) (S : hs_S) (Q : hs_S → Prop) (Ex : String → hs_S → Prop) : Prop := hs_M 6 yX10_needOwnCell (.code yX10_needOwnCell cX10_needOwnCell 3 none) [.inr (.inr (10, 1)), .inl a1, .inl a2] S 1 6 (hs_qV Q) (hs_qX Ex)
def vc_C_needOwnCell (a1 : Int32) (a2 : Int32) (S : hs_S) (Q : hs_S → Prop) (Ex : String → hs_S → Prop) : Prop := ((0 ≤ a2.toInt ∧ a2.toInt < 24) ∧ (((S.1 20 1 a2.toNatClampNeg) = a1 → (Q S)) ∧ (¬ (S.1 20 1 a2.toNatClampNeg) = a1 → (Ex "java/lang/IllegalStateException" S))))
set_option maxRecDepth 100000 in
set_option maxHeartbeats 4000000 in
theorem ok_C_needOwnCell {a1 : Int32} {a2 : Int32} {S : hs_S} {Q : hs_S → Prop} {Ex : String → hs_S → Prop} (hw : hs_Wi S) (hv : vc_C_needOwnCell a1 a2 S Q Ex) : m_C_needOwnCell a1 a2 S Q Ex := by
  unfold vc_C_needOwnCell at hv
  refine hs_body (own := RX10) rfl rfl (Nat.le_of_ble_eq_true rfl) (fun Z X E N J0 => ?_)
  show wa Z 0 0 S 0 [(0, .inr (.inr (10, 1))), (1, .inl a1), (2, .inl a2)] []
  refine wa_aload_n X 0 rfl dX10_needOwnCell_0 rfl ?_
  refine wa_getfw X hw (j := 0) (r := 1) hk_10 hc_10 i_10 (by decide) kw_327 rfl rfl (by decide) rfl dX10_needOwnCell_1 hs_1ne ?_
  refine wa_getfw X hw (j := 0) (r := 1) hk_9 hc_9 i_9 (by decide) kw_134 rfl rfl (by decide) rfl dX10_needOwnCell_4 hs_1ne ?_
  refine wa_getfw X hw (j := 0) (r := 1) hk_7 hc_7 i_7 (by decide) kw_68 rfl rfl (by decide) rfl dX10_needOwnCell_7 hs_1ne ?_
  refine wa_iload_n X 2 rfl dX10_needOwnCell_10 rfl ?_
  obtain ⟨o1, hv⟩ := hv
  refine wa_iald X hk_20 dX10_needOwnCell_11 hs_1ne o1 ?_
  refine wa_iload_n X 1 rfl dX10_needOwnCell_12 rfl ?_
  refine wa_icmp_eq X (tgt := 27) dX10_needOwnCell_13 (by decide) (fun c2 => ?_) (fun c2 => ?_)
  · replace hv := hv.1 c2
    exact wa_return X E dX10_needOwnCell_27 (Nat.le_of_ble_eq_true rfl) (Nat.le_of_ble_eq_true rfl) ⟨hw, rfl, hv⟩
  · replace hv := hv.2 c2
    exact wa_throwW X E N (names := ["java/lang/RuntimeException", "java/lang/Exception"]) (text := "it is not the owner's cell") kx_fit_IllegalStateException kx_names kw_522 kw_41 (by decide +kernel) kx_at_IllegalStateException_120 kx_ok_IllegalStateException_120 dX10_needOwnCell_16 dX10_needOwnCell_19 dX10_needOwnCell_20 dX10_needOwnCell_23 dX10_needOwnCell_26 ⟨Nat.le_of_ble_eq_true rfl, Nat.le_of_ble_eq_true rfl, Nat.le_of_ble_eq_true rfl, Nat.le_of_ble_eq_true rfl⟩ (Nat.le_of_ble_eq_true rfl) (Nat.le_of_ble_eq_true rfl) ⟨hw, hv⟩

def m_C_needReader (a1 : Int32) (a2 : Int32) (S : hs_S) (Q : hs_S → Prop) (Ex : String → hs_S → Prop) : Prop := hs_M 6 yX10_needReader (.code yX10_needReader cX10_needReader 3 none) [.inr (.inr (10, 1)), .inl a1, .inl a2] S 1 6 (hs_qV Q) (hs_qX Ex)
def vc_C_needReader (a1 : Int32) (a2 : Int32) (S : hs_S) (Q : hs_S → Prop) (Ex : String → hs_S → Prop) : Prop := ((P_Rts_canRead 1 a1 a2 S) ∧ ((¬ (F_Rts_canRead 1 a1 a2 S) = 0 → (Q S)) ∧ ((F_Rts_canRead 1 a1 a2 S) = 0 → (Ex "java/lang/IllegalStateException" S))))
set_option maxRecDepth 100000 in
set_option maxHeartbeats 4000000 in
theorem ok_C_needReader {a1 : Int32} {a2 : Int32} {S : hs_S} {Q : hs_S → Prop} {Ex : String → hs_S → Prop} (hw : hs_Wi S) (hv : vc_C_needReader a1 a2 S Q Ex) : m_C_needReader a1 a2 S Q Ex := by
  unfold vc_C_needReader at hv
  refine hs_body (own := RX10) rfl rfl (Nat.le_of_ble_eq_true rfl) (fun Z X E N J0 => ?_)
  show wa Z 0 0 S 0 [(0, .inr (.inr (10, 1))), (1, .inl a1), (2, .inl a2)] []
  refine wa_aload_n X 0 rfl dX10_needReader_0 rfl ?_
  refine wa_getfw X hw (j := 0) (r := 1) hk_10 hc_10 i_10 (by decide) kw_327 rfl rfl (by decide) rfl dX10_needReader_1 hs_1ne ?_
  refine wa_getfw X hw (j := 0) (r := 1) hk_9 hc_9 i_9 (by decide) kw_134 rfl rfl (by decide) rfl dX10_needReader_4 hs_1ne ?_
  refine wa_iload_n X 1 rfl dX10_needReader_7 rfl ?_
  refine wa_iload_n X 2 rfl dX10_needReader_8 rfl ?_
  obtain ⟨o1, hv⟩ := hv
  refine wa_callV X (As := [.inl a1, .inl a2]) (f_Rts_canRead hs_1ne hw o1) hk_7 hc_7 rfl kw_732 kw_23 kw_729 kw_730 kw_731 nd_X7_canRead rfl rfl (Nat.le_of_ble_eq_true rfl) dX10_needReader_9 hs_1ne ⟨⟨Nat.le_of_ble_eq_true rfl, Nat.le_of_ble_eq_true rfl⟩, Nat.le_of_ble_eq_true rfl, Nat.le_of_ble_eq_true rfl⟩ (hs_pdk0 ?_) (fun _ _ h => h.elim)
  refine wa_if_ne X (tgt := 26) dX10_needReader_12 (by decide) (fun c2 => ?_) (fun c2 => ?_)
  · replace hv := hv.1 c2
    exact wa_return X E dX10_needReader_26 (Nat.le_of_ble_eq_true rfl) (Nat.le_of_ble_eq_true rfl) ⟨hw, rfl, hv⟩
  · replace hv := hv.2 c2
    exact wa_throwW X E N (names := ["java/lang/RuntimeException", "java/lang/Exception"]) (text := "the owner does not read it") kx_fit_IllegalStateException kx_names kw_522 kw_41 (by decide +kernel) kx_at_IllegalStateException_120 kx_ok_IllegalStateException_120 dX10_needReader_15 dX10_needReader_18 dX10_needReader_19 dX10_needReader_22 dX10_needReader_25 ⟨Nat.le_of_ble_eq_true rfl, Nat.le_of_ble_eq_true rfl, Nat.le_of_ble_eq_true rfl, Nat.le_of_ble_eq_true rfl⟩ (Nat.le_of_ble_eq_true rfl) (Nat.le_of_ble_eq_true rfl) ⟨hw, hv⟩

def m_C_needEditable (a1 : Int32) (a2 : Int32) (S : hs_S) (Q : hs_S → Prop) (Ex : String → hs_S → Prop) : Prop := hs_M 7 yX10_needEditable (.code yX10_needEditable cX10_needEditable 3 none) [.inr (.inr (10, 1)), .inl a1, .inl a2] S 2 12 (hs_qV Q) (hs_qX Ex)
def vc_C_needEditable (a1 : Int32) (a2 : Int32) (S : hs_S) (Q : hs_S → Prop) (Ex : String → hs_S → Prop) : Prop := (hs_Wi S → (m_C_needOwnCell a1 a2 S (fun S1 => ((0 ≤ (a2 / (6 : Int32)).toInt ∧ (a2 / (6 : Int32)).toInt < 4) ∧ (((S1.2.1 26 1 (a2 / (6 : Int32)).toNatClampNeg) ≠ 0) ∧ (((F_Rnd_wasFrozen (S1.2.1 26 1 (a2 / (6 : Int32)).toNatClampNeg) S1) = 0 → (((nI (hs_sz S1 12)) < (60 : Int32) → (Q S1)) ∧ (¬ (nI (hs_sz S1 12)) < (60 : Int32) → (Ex "java/lang/IllegalStateException" S1)))) ∧ (¬ (F_Rnd_wasFrozen (S1.2.1 26 1 (a2 / (6 : Int32)).toNatClampNeg) S1) = 0 → (Ex "java/lang/IllegalStateException" S1)))))) Ex))
set_option maxRecDepth 100000 in
set_option maxHeartbeats 4000000 in
theorem ok_C_needEditable {a1 : Int32} {a2 : Int32} {S : hs_S} {Q : hs_S → Prop} {Ex : String → hs_S → Prop} (hw : hs_Wi S) (hv : vc_C_needEditable a1 a2 S Q Ex) : m_C_needEditable a1 a2 S Q Ex := by
  unfold vc_C_needEditable at hv
  refine hs_body (own := RX10) rfl rfl (Nat.le_of_ble_eq_true rfl) (fun Z X E N J0 => ?_)
  show wa Z 0 0 S 0 [(0, .inr (.inr (10, 1))), (1, .inl a1), (2, .inl a2)] []
  refine wa_aload_n X 0 rfl dX10_needEditable_0 rfl ?_
  refine wa_iload_n X 1 rfl dX10_needEditable_1 rfl ?_
  refine wa_iload_n X 2 rfl dX10_needEditable_2 rfl ?_
  refine wa_callV X (As := [.inl a1, .inl a2]) (hv hw) hk_10 hc_10 rfl kw_521 kw_21 kw_518 kw_520 kw_1 nd_X10_needOwnCell rfl rfl (Nat.le_of_ble_eq_true rfl) dX10_needEditable_3 hs_1ne ⟨⟨Nat.le_of_ble_eq_true rfl, Nat.le_of_ble_eq_true rfl⟩, Nat.le_of_ble_eq_true rfl, Nat.le_of_ble_eq_true rfl⟩ (fun v S1 h => ?_) (fun _ _ h => wx_out X E N (Nat.le_of_ble_eq_true rfl) (Nat.le_of_ble_eq_true rfl) h)
  obtain ⟨hw, rfl, hv⟩ := h
  refine wa_aload_n X 0 rfl dX10_needEditable_6 rfl ?_
  refine wa_getfw X hw (j := 1) (r := 1) hk_10 hc_10 i_10 (by decide) kw_328 rfl rfl (by decide) rfl dX10_needEditable_7 hs_1ne ?_
  refine wa_getfw X hw (j := 1) (r := 1) hk_1 hc_1 i_1 (by decide) kw_229 rfl rfl (by decide) rfl dX10_needEditable_10 hs_1ne ?_
  refine wa_iload_n X 2 rfl dX10_needEditable_13 rfl ?_
  refine wa_bipush X dX10_needEditable_14 kb6 ?_
  refine wa_idiv X dX10_needEditable_16 (by decide) ?_
  obtain ⟨o3, hv⟩ := hv
  refine wa_aald X hk_26 dX10_needEditable_17 hs_1ne o3 ?_
  obtain ⟨o4, hv⟩ := hv
  refine wa_callV X (As := []) (f_Rnd_wasFrozen o4 hw) hk_8 hc_8 rfl kw_596 kw_29 kw_593 kw_594 kw_595 nd_X8_wasFrozen rfl rfl (Nat.le_of_ble_eq_true rfl) dX10_needEditable_18 o4 ⟨⟨Nat.le_of_ble_eq_true rfl, Nat.le_of_ble_eq_true rfl⟩, Nat.le_of_ble_eq_true rfl, Nat.le_of_ble_eq_true rfl⟩ (hs_pdk0 ?_) (fun _ _ h => h.elim)
  refine wa_if_eq X (tgt := 34) dX10_needEditable_21 (by decide) (fun c5 => ?_) (fun c5 => ?_)
  · replace hv := hv.1 c5
    refine wa_aload_n X 0 rfl dX10_needEditable_34 rfl ?_
    refine wa_getfw X hw (j := 0) (r := 1) hk_10 hc_10 i_10 (by decide) kw_327 rfl rfl (by decide) rfl dX10_needEditable_35 hs_1ne ?_
    refine wa_getfw X hw (j := 1) (r := 1) hk_9 hc_9 i_9 (by decide) kw_137 rfl rfl (by decide) rfl dX10_needEditable_38 hs_1ne ?_
    refine wa_lsize X hk_12 kw_599 dX10_needEditable_41 hs_1ne ⟨⟨Nat.le_of_ble_eq_true rfl, Nat.le_of_ble_eq_true rfl⟩, Nat.le_of_ble_eq_true rfl, Nat.le_of_ble_eq_true rfl⟩ (Nat.le_of_ble_eq_true rfl) ?_
    refine wa_bipush X dX10_needEditable_46 kb60 ?_
    refine wa_icmp_lt X (tgt := 62) dX10_needEditable_48 (by decide) (fun c6 => ?_) (fun c6 => ?_)
    · replace hv := hv.1 c6
      exact wa_return X E dX10_needEditable_62 (Nat.le_of_ble_eq_true rfl) (Nat.le_of_ble_eq_true rfl) ⟨hw, rfl, hv⟩
    · replace hv := hv.2 c6
      exact wa_throwW X E N (names := ["java/lang/RuntimeException", "java/lang/Exception"]) (text := "no more edits are told") kx_fit_IllegalStateException kx_names kw_522 kw_41 (by decide +kernel) kx_at_IllegalStateException_120 kx_ok_IllegalStateException_120 dX10_needEditable_51 dX10_needEditable_54 dX10_needEditable_55 dX10_needEditable_58 dX10_needEditable_61 ⟨Nat.le_of_ble_eq_true rfl, Nat.le_of_ble_eq_true rfl, Nat.le_of_ble_eq_true rfl, Nat.le_of_ble_eq_true rfl⟩ (Nat.le_of_ble_eq_true rfl) (Nat.le_of_ble_eq_true rfl) ⟨hw, hv⟩
  · replace hv := hv.2 c5
    exact wa_throw X E N (names := ["java/lang/RuntimeException", "java/lang/Exception"]) (text := "the column is frozen") kx_fit_IllegalStateException kx_names kw_522 kw_41 (by decide +kernel) kx_at_IllegalStateException_120 kx_ok_IllegalStateException_120 dX10_needEditable_24 dX10_needEditable_27 dX10_needEditable_28 dX10_needEditable_30 dX10_needEditable_33 ⟨Nat.le_of_ble_eq_true rfl, Nat.le_of_ble_eq_true rfl, Nat.le_of_ble_eq_true rfl, Nat.le_of_ble_eq_true rfl⟩ (Nat.le_of_ble_eq_true rfl) (Nat.le_of_ble_eq_true rfl) ⟨hw, hv⟩

def m_C_bidNumbered (a1 : Int32) (S : hs_S) (Q : Nat → hs_S → Prop) (Ex : String → hs_S → Prop) : Prop := hs_M 6 yX10_bidNumbered (.code yX10_bidNumbered cX10_bidNumbered 2 (some (FieldType.object "Cellmarket$Bid"))) [.inr (.inr (10, 1)), .inl a1] S 1 6 (hs_qR 0 Q) (hs_qX Ex)
def vc_C_bidNumbered (a1 : Int32) (S : hs_S) (Q : Nat → hs_S → Prop) (Ex : String → hs_S → Prop) : Prop := ((a1 < 0 → (Ex "java/lang/IndexOutOfBoundsException" S)) ∧ (¬ a1 < 0 → ((a1 < (nI (hs_sz S 13)) → ((0 ≤ a1.toInt ∧ a1.toInt < (hs_sz S 13)) ∧ (((S.2.1 13 1 a1.toNatClampNeg) ≠ 0) ∧ (Q (S.2.1 13 1 a1.toNatClampNeg) S)))) ∧ (¬ a1 < (nI (hs_sz S 13)) → (Ex "java/lang/IndexOutOfBoundsException" S)))))
set_option maxRecDepth 100000 in
set_option maxHeartbeats 4000000 in
theorem ok_C_bidNumbered {a1 : Int32} {S : hs_S} {Q : Nat → hs_S → Prop} {Ex : String → hs_S → Prop} (hw : hs_Wi S) (hv : vc_C_bidNumbered a1 S Q Ex) : m_C_bidNumbered a1 S Q Ex := by
  unfold vc_C_bidNumbered at hv
  refine hs_body (own := RX10) rfl rfl (Nat.le_of_ble_eq_true rfl) (fun Z X E N J0 => ?_)
  show wa Z 0 0 S 0 [(0, .inr (.inr (10, 1))), (1, .inl a1)] []
  refine wa_iload_n X 1 rfl dX10_bidNumbered_0 rfl ?_
  refine wa_if_lt X (tgt := 20) dX10_bidNumbered_1 (by decide) (fun c1 => ?_) (fun c1 => ?_)
  · replace hv := hv.1 c1
    exact wa_throwW X E N (names := ["java/lang/RuntimeException", "java/lang/Exception"]) (text := "no such bid") kx_fit_IndexOutOfBoundsException kx_names kw_356 kw_36 (by decide +kernel) kx_at_IndexOutOfBoundsException_181 kx_ok_IndexOutOfBoundsException_181 dX10_bidNumbered_20 dX10_bidNumbered_23 dX10_bidNumbered_24 dX10_bidNumbered_27 dX10_bidNumbered_30 ⟨Nat.le_of_ble_eq_true rfl, Nat.le_of_ble_eq_true rfl, Nat.le_of_ble_eq_true rfl, Nat.le_of_ble_eq_true rfl⟩ (Nat.le_of_ble_eq_true rfl) (Nat.le_of_ble_eq_true rfl) ⟨hw, hv⟩
  · replace hv := hv.2 c1
    refine wa_iload_n X 1 rfl dX10_bidNumbered_4 rfl ?_
    refine wa_aload_n X 0 rfl dX10_bidNumbered_5 rfl ?_
    refine wa_getfw X hw (j := 1) (r := 1) hk_10 hc_10 i_10 (by decide) kw_328 rfl rfl (by decide) rfl dX10_bidNumbered_6 hs_1ne ?_
    refine wa_getfw X hw (j := 0) (r := 1) hk_1 hc_1 i_1 (by decide) kw_227 rfl rfl (by decide) rfl dX10_bidNumbered_9 hs_1ne ?_
    refine wa_lsize X hk_13 kw_599 dX10_bidNumbered_12 hs_1ne ⟨⟨Nat.le_of_ble_eq_true rfl, Nat.le_of_ble_eq_true rfl⟩, Nat.le_of_ble_eq_true rfl, Nat.le_of_ble_eq_true rfl⟩ (Nat.le_of_ble_eq_true rfl) ?_
    refine wa_icmp_lt X (tgt := 31) dX10_bidNumbered_17 (by decide) (fun c2 => ?_) (fun c2 => ?_)
    · replace hv := hv.1 c2
      refine wa_aload_n X 0 rfl dX10_bidNumbered_31 rfl ?_
      refine wa_getfw X hw (j := 1) (r := 1) hk_10 hc_10 i_10 (by decide) kw_328 rfl rfl (by decide) rfl dX10_bidNumbered_32 hs_1ne ?_
      refine wa_getfw X hw (j := 0) (r := 1) hk_1 hc_1 i_1 (by decide) kw_227 rfl rfl (by decide) rfl dX10_bidNumbered_35 hs_1ne ?_
      refine wa_iload_n X 1 rfl dX10_bidNumbered_38 rfl ?_
      obtain ⟨o3, hv⟩ := hv
      refine wa_lget X hk_13 kw_900 dX10_bidNumbered_39 hs_1ne ⟨⟨Nat.le_of_ble_eq_true rfl, Nat.le_of_ble_eq_true rfl⟩, Nat.le_of_ble_eq_true rfl, Nat.le_of_ble_eq_true rfl⟩ (Nat.le_of_ble_eq_true rfl) o3 ?_
      obtain ⟨o4, hv⟩ := hv
      refine wa_cast X hk_0 hc_0 kw_829 dX10_bidNumbered_44 o4 ?_
      exact wa_areturn X E dX10_bidNumbered_47 (Nat.le_of_ble_eq_true rfl) (Nat.le_of_ble_eq_true rfl) ⟨hw, _, rfl, hv⟩
    · replace hv := hv.2 c2
      exact wa_throwW X E N (names := ["java/lang/RuntimeException", "java/lang/Exception"]) (text := "no such bid") kx_fit_IndexOutOfBoundsException kx_names kw_356 kw_36 (by decide +kernel) kx_at_IndexOutOfBoundsException_181 kx_ok_IndexOutOfBoundsException_181 dX10_bidNumbered_20 dX10_bidNumbered_23 dX10_bidNumbered_24 dX10_bidNumbered_27 dX10_bidNumbered_30 ⟨Nat.le_of_ble_eq_true rfl, Nat.le_of_ble_eq_true rfl, Nat.le_of_ble_eq_true rfl, Nat.le_of_ble_eq_true rfl⟩ (Nat.le_of_ble_eq_true rfl) (Nat.le_of_ble_eq_true rfl) ⟨hw, hv⟩

def m_C_roundNumbered (a1 : Int32) (S : hs_S) (Q : Nat → hs_S → Prop) (Ex : String → hs_S → Prop) : Prop := hs_M 6 yX10_roundNumbered (.code yX10_roundNumbered cX10_roundNumbered 2 (some (FieldType.object "Cellmarket$Round"))) [.inr (.inr (10, 1)), .inl a1] S 1 6 (hs_qR 8 Q) (hs_qX Ex)
def vc_C_roundNumbered (a1 : Int32) (S : hs_S) (Q : Nat → hs_S → Prop) (Ex : String → hs_S → Prop) : Prop := ((a1 < 0 → (Ex "java/lang/IndexOutOfBoundsException" S)) ∧ (¬ a1 < 0 → ((a1 < (nI (hs_sz S 14)) → ((0 ≤ a1.toInt ∧ a1.toInt < (hs_sz S 14)) ∧ (((S.2.1 14 1 a1.toNatClampNeg) ≠ 0) ∧ (Q (S.2.1 14 1 a1.toNatClampNeg) S)))) ∧ (¬ a1 < (nI (hs_sz S 14)) → (Ex "java/lang/IndexOutOfBoundsException" S)))))
set_option maxRecDepth 100000 in
set_option maxHeartbeats 4000000 in
theorem ok_C_roundNumbered {a1 : Int32} {S : hs_S} {Q : Nat → hs_S → Prop} {Ex : String → hs_S → Prop} (hw : hs_Wi S) (hv : vc_C_roundNumbered a1 S Q Ex) : m_C_roundNumbered a1 S Q Ex := by
  unfold vc_C_roundNumbered at hv
  refine hs_body (own := RX10) rfl rfl (Nat.le_of_ble_eq_true rfl) (fun Z X E N J0 => ?_)
  show wa Z 0 0 S 0 [(0, .inr (.inr (10, 1))), (1, .inl a1)] []
  refine wa_iload_n X 1 rfl dX10_roundNumbered_0 rfl ?_
  refine wa_if_lt X (tgt := 20) dX10_roundNumbered_1 (by decide) (fun c1 => ?_) (fun c1 => ?_)
  · replace hv := hv.1 c1
    exact wa_throwW X E N (names := ["java/lang/RuntimeException", "java/lang/Exception"]) (text := "no such round") kx_fit_IndexOutOfBoundsException kx_names kw_356 kw_36 (by decide +kernel) kx_at_IndexOutOfBoundsException_181 kx_ok_IndexOutOfBoundsException_181 dX10_roundNumbered_20 dX10_roundNumbered_23 dX10_roundNumbered_24 dX10_roundNumbered_27 dX10_roundNumbered_30 ⟨Nat.le_of_ble_eq_true rfl, Nat.le_of_ble_eq_true rfl, Nat.le_of_ble_eq_true rfl, Nat.le_of_ble_eq_true rfl⟩ (Nat.le_of_ble_eq_true rfl) (Nat.le_of_ble_eq_true rfl) ⟨hw, hv⟩
  · replace hv := hv.2 c1
    refine wa_iload_n X 1 rfl dX10_roundNumbered_4 rfl ?_
    refine wa_aload_n X 0 rfl dX10_roundNumbered_5 rfl ?_
    refine wa_getfw X hw (j := 1) (r := 1) hk_10 hc_10 i_10 (by decide) kw_328 rfl rfl (by decide) rfl dX10_roundNumbered_6 hs_1ne ?_
    refine wa_getfw X hw (j := 2) (r := 1) hk_1 hc_1 i_1 (by decide) kw_233 rfl rfl (by decide) rfl dX10_roundNumbered_9 hs_1ne ?_
    refine wa_lsize X hk_14 kw_599 dX10_roundNumbered_12 hs_1ne ⟨⟨Nat.le_of_ble_eq_true rfl, Nat.le_of_ble_eq_true rfl⟩, Nat.le_of_ble_eq_true rfl, Nat.le_of_ble_eq_true rfl⟩ (Nat.le_of_ble_eq_true rfl) ?_
    refine wa_icmp_lt X (tgt := 31) dX10_roundNumbered_17 (by decide) (fun c2 => ?_) (fun c2 => ?_)
    · replace hv := hv.1 c2
      refine wa_aload_n X 0 rfl dX10_roundNumbered_31 rfl ?_
      refine wa_getfw X hw (j := 1) (r := 1) hk_10 hc_10 i_10 (by decide) kw_328 rfl rfl (by decide) rfl dX10_roundNumbered_32 hs_1ne ?_
      refine wa_getfw X hw (j := 2) (r := 1) hk_1 hc_1 i_1 (by decide) kw_233 rfl rfl (by decide) rfl dX10_roundNumbered_35 hs_1ne ?_
      refine wa_iload_n X 1 rfl dX10_roundNumbered_38 rfl ?_
      obtain ⟨o3, hv⟩ := hv
      refine wa_lget X hk_14 kw_900 dX10_roundNumbered_39 hs_1ne ⟨⟨Nat.le_of_ble_eq_true rfl, Nat.le_of_ble_eq_true rfl⟩, Nat.le_of_ble_eq_true rfl, Nat.le_of_ble_eq_true rfl⟩ (Nat.le_of_ble_eq_true rfl) o3 ?_
      obtain ⟨o4, hv⟩ := hv
      refine wa_cast X hk_8 hc_8 kw_993 dX10_roundNumbered_44 o4 ?_
      exact wa_areturn X E dX10_roundNumbered_47 (Nat.le_of_ble_eq_true rfl) (Nat.le_of_ble_eq_true rfl) ⟨hw, _, rfl, hv⟩
    · replace hv := hv.2 c2
      exact wa_throwW X E N (names := ["java/lang/RuntimeException", "java/lang/Exception"]) (text := "no such round") kx_fit_IndexOutOfBoundsException kx_names kw_356 kw_36 (by decide +kernel) kx_at_IndexOutOfBoundsException_181 kx_ok_IndexOutOfBoundsException_181 dX10_roundNumbered_20 dX10_roundNumbered_23 dX10_roundNumbered_24 dX10_roundNumbered_27 dX10_roundNumbered_30 ⟨Nat.le_of_ble_eq_true rfl, Nat.le_of_ble_eq_true rfl, Nat.le_of_ble_eq_true rfl, Nat.le_of_ble_eq_true rfl⟩ (Nat.le_of_ble_eq_true rfl) (Nat.le_of_ble_eq_true rfl) ⟨hw, hv⟩

