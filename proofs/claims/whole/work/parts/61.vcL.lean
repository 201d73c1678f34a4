def m_L_give (a2 : Int32) (a3 : Int32) (a4 : Int32) (a5 : Int32) (S : hs_S) (Q : Int32 → hs_S → Prop) : Prop := hs_M 9 yL_give (.codeWith yL_give cL_give 7 (some FieldType.int) [(0, 14, 17, 13), (0, 14, 21, 15)]) [.inr (.inr (10, 1)), .inl a2, .inl a3, .inl a4, .inl a5, .inr (.inr (100, 1))] S 5 30 (hs_qI Q) hs_nX
def vc_L_give (a2 : Int32) (a3 : Int32) (a4 : Int32) (a5 : Int32) (S : hs_S) (Q : Int32 → hs_S → Prop) : Prop := (hs_Wi S → m_C_give a2 a3 a4 a5 S (fun r2 S1 => (∀ S5 : hs_S, S5 = (hs_wL S1 100 1 (0 : Int32).toNatClampNeg r2.toInt64) → (Q (0 : Int32) S5))) (fun E4 S3 => (E4 = "java/lang/IndexOutOfBoundsException" ∧ (Q (1 : Int32) S3)) ∨ (E4 = "java/lang/IllegalStateException" ∧ (Q (2 : Int32) S3))))
set_option maxRecDepth 100000 in
set_option maxHeartbeats 4000000 in
theorem ok_L_give {a2 : Int32} {a3 : Int32} {a4 : Int32} {a5 : Int32} {S : hs_S} {Q : Int32 → hs_S → Prop} (hw : hs_Wi S) (hv : vc_L_give a2 a3 a4 a5 S Q) : m_L_give a2 a3 a4 a5 S Q := by
  unfold vc_L_give at hv
  refine hs_bodyH (own := RL) rfl rfl (Nat.le_of_ble_eq_true rfl) (fun Z X E hH => ?_)
  show wa Z 0 0 S 0 [(0, .inr (.inr (10, 1))), (1, .inl a2), (2, .inl a3), (3, .inl a4), (4, .inl a5), (5, .inr (.inr (100, 1)))] []
  refine wa_aload X 5 rfl dL_give_0 ?_
  refine wa_iconst X dL_give_2 kc0 ?_
  refine wa_aload_n X 0 rfl dL_give_3 rfl ?_
  refine wa_iload_n X 1 rfl dL_give_4 rfl ?_
  refine wa_iload_n X 2 rfl dL_give_5 rfl ?_
  refine wa_iload_n X 3 rfl dL_give_6 rfl ?_
  refine wa_iload X 4 rfl dL_give_7 ?_
  refine wa_callV X (As := [.inl a2, .inl a3, .inl a4, .inl a5]) (hv hw) hk_10 hc_10 rfl kw_400 kw_54 kw_397 kw_398 kw_399 nd_X10_give rfl rfl (Nat.le_of_ble_eq_true rfl) dL_give_9 hs_1ne ⟨⟨Nat.le_of_ble_eq_true rfl, Nat.le_of_ble_eq_true rfl⟩, Nat.le_of_ble_eq_true rfl, Nat.le_of_ble_eq_true rfl⟩ (fun v S1 h => ?_) (fun E4 S3 h => ?_)
  obtain ⟨hw, r2, rfl, hv⟩ := h
  refine wa_i2l X dL_give_12 ?_
  refine wa_last X hk_100 dL_give_13 hs_1ne (by decide) (hs_eqS fun S5 hS5 => ?_)
  replace hv := hv S5 hS5
  replace hw : hs_Wi S5 := hS5 ▸ hs_Wi_L hw
  refine wa_goto X (tgt := 25) dL_give_14 (by decide) ?_
  refine wa_iconst X dL_give_25 kc0 ?_
  exact wa_ireturn X E dL_give_26 (Nat.le_of_ble_eq_true rfl) (Nat.le_of_ble_eq_true rfl) (Or.inl rfl) ⟨hw, _, rfl, hv⟩
  obtain ⟨hw, h⟩ := h
  rcases h with ⟨rfl, hv⟩ | ⟨rfl, hv⟩
  · refine wx_catch X hH [] ⟨0, 14, 17, 13⟩ [⟨0, 14, 21, 15⟩] rfl (fun _ h => nomatch h) (by decide) (by decide) kw_395 kw_406 dL_give_17 (by decide) ?_
    refine wa_lv (lv' := []) [] rfl ?_
    refine wa_iconst X dL_give_19 kc1 ?_
    exact wa_ireturn X E dL_give_20 (Nat.le_of_ble_eq_true rfl) (Nat.le_of_ble_eq_true rfl) (Or.inl rfl) ⟨hw, _, rfl, hv⟩
  · refine wx_catch X hH [⟨0, 14, 17, 13⟩] ⟨0, 14, 21, 15⟩ [] rfl (List.forall_mem_cons.mpr ⟨⟨by decide, _, kw_395, by simp [hs_nc]⟩, fun _ h => nomatch h⟩) (by decide) (by decide) kw_396 kw_486 dL_give_21 (by decide) ?_
    refine wa_lv (lv' := []) [] rfl ?_
    refine wa_iconst X dL_give_23 kc2 ?_
    exact wa_ireturn X E dL_give_24 (Nat.le_of_ble_eq_true rfl) (Nat.le_of_ble_eq_true rfl) (Or.inl rfl) ⟨hw, _, rfl, hv⟩

def m_L_let (a2 : Int32) (a3 : Int32) (a4 : Int32) (a5 : Int32) (a6 : Int32) (a7 : Int32) (S : hs_S) (Q : Int32 → hs_S → Prop) : Prop := hs_M 9 yL_let (.codeWith yL_let cL_let 9 (some FieldType.int) [(0, 18, 21, 13), (0, 18, 25, 21)]) [.inr (.inr (10, 1)), .inl a2, .inl a3, .inl a4, .inl a5, .inl a6, .inl a7, .inr (.inr (100, 1))] S 7 42 (hs_qI Q) hs_nX
def vc_L_let (a2 : Int32) (a3 : Int32) (a4 : Int32) (a5 : Int32) (a6 : Int32) (a7 : Int32) (S : hs_S) (Q : Int32 → hs_S → Prop) : Prop := (hs_Wi S → m_C_let a2 a3 a4 a5 a6 a7 S (fun r2 S1 => (∀ S5 : hs_S, S5 = (hs_wL S1 100 1 (0 : Int32).toNatClampNeg r2.toInt64) → (Q (0 : Int32) S5))) (fun E4 S3 => (E4 = "java/lang/IndexOutOfBoundsException" ∧ (Q (1 : Int32) S3)) ∨ (E4 = "java/lang/IllegalArgumentException" ∧ (Q (2 : Int32) S3))))
set_option maxRecDepth 100000 in
set_option maxHeartbeats 4000000 in
theorem ok_L_let {a2 : Int32} {a3 : Int32} {a4 : Int32} {a5 : Int32} {a6 : Int32} {a7 : Int32} {S : hs_S} {Q : Int32 → hs_S → Prop} (hw : hs_Wi S) (hv : vc_L_let a2 a3 a4 a5 a6 a7 S Q) : m_L_let a2 a3 a4 a5 a6 a7 S Q := by
  unfold vc_L_let at hv
  refine hs_bodyH (own := RL) rfl rfl (Nat.le_of_ble_eq_true rfl) (fun Z X E hH => ?_)
  show wa Z 0 0 S 0 [(0, .inr (.inr (10, 1))), (1, .inl a2), (2, .inl a3), (3, .inl a4), (4, .inl a5), (5, .inl a6), (6, .inl a7), (7, .inr (.inr (100, 1)))] []
  refine wa_aload X 7 rfl dL_let_0 ?_
  refine wa_iconst X dL_let_2 kc0 ?_
  refine wa_aload_n X 0 rfl dL_let_3 rfl ?_
  refine wa_iload_n X 1 rfl dL_let_4 rfl ?_
  refine wa_iload_n X 2 rfl dL_let_5 rfl ?_
  refine wa_iload_n X 3 rfl dL_let_6 rfl ?_
  refine wa_iload X 4 rfl dL_let_7 ?_
  refine wa_iload X 5 rfl dL_let_9 ?_
  refine wa_iload X 6 rfl dL_let_11 ?_
  refine wa_callV X (As := [.inl a2, .inl a3, .inl a4, .inl a5, .inl a6, .inl a7]) (hv hw) hk_10 hc_10 rfl kw_511 kw_54 kw_508 kw_509 kw_510 nd_X10_let rfl rfl (Nat.le_of_ble_eq_true rfl) dL_let_13 hs_1ne ⟨⟨Nat.le_of_ble_eq_true rfl, Nat.le_of_ble_eq_true rfl⟩, Nat.le_of_ble_eq_true rfl, Nat.le_of_ble_eq_true rfl⟩ (fun v S1 h => ?_) (fun E4 S3 h => ?_)
  obtain ⟨hw, r2, rfl, hv⟩ := h
  refine wa_i2l X dL_let_16 ?_
  refine wa_last X hk_100 dL_let_17 hs_1ne (by decide) (hs_eqS fun S5 hS5 => ?_)
  replace hv := hv S5 hS5
  replace hw : hs_Wi S5 := hS5 ▸ hs_Wi_L hw
  refine wa_goto X (tgt := 29) dL_let_18 (by decide) ?_
  refine wa_iconst X dL_let_29 kc0 ?_
  exact wa_ireturn X E dL_let_30 (Nat.le_of_ble_eq_true rfl) (Nat.le_of_ble_eq_true rfl) (Or.inl rfl) ⟨hw, _, rfl, hv⟩
  obtain ⟨hw, h⟩ := h
  rcases h with ⟨rfl, hv⟩ | ⟨rfl, hv⟩
  · refine wx_catch X hH [] ⟨0, 18, 21, 13⟩ [⟨0, 18, 25, 21⟩] rfl (fun _ h => nomatch h) (by decide) (by decide) kw_395 kw_406 dL_let_21 (by decide) ?_
    refine wa_lv (lv' := []) [] rfl ?_
    refine wa_iconst X dL_let_23 kc1 ?_
    exact wa_ireturn X E dL_let_24 (Nat.le_of_ble_eq_true rfl) (Nat.le_of_ble_eq_true rfl) (Or.inl rfl) ⟨hw, _, rfl, hv⟩
  · refine wx_catch X hH [⟨0, 18, 21, 13⟩] ⟨0, 18, 25, 21⟩ [] rfl (List.forall_mem_cons.mpr ⟨⟨by decide, _, kw_395, by simp [hs_nc]⟩, fun _ h => nomatch h⟩) (by decide) (by decide) kw_507 kw_514 dL_let_25 (by decide) ?_
    refine wa_lv (lv' := []) [] rfl ?_
    refine wa_iconst X dL_let_27 kc2 ?_
    exact wa_ireturn X E dL_let_28 (Nat.le_of_ble_eq_true rfl) (Nat.le_of_ble_eq_true rfl) (Or.inl rfl) ⟨hw, _, rfl, hv⟩

def m_L_ownerOf (a2 : Int32) (a3 : Int32) (S : hs_S) (Q : Int32 → hs_S → Prop) : Prop := hs_M 9 yL_ownerOf (.codeWith yL_ownerOf cL_ownerOf 5 (some FieldType.int) [(0, 10, 13, 13)]) [.inr (.inr (10, 1)), .inl a2, .inl a3, .inr (.inr (100, 1))] S 2 12 (hs_qI Q) hs_nX
def vc_L_ownerOf (a2 : Int32) (a3 : Int32) (S : hs_S) (Q : Int32 → hs_S → Prop) : Prop := (hs_Wi S → m_C_ownerOf a2 a3 S (fun r2 S1 => (∀ S5 : hs_S, S5 = (hs_wL S1 100 1 (0 : Int32).toNatClampNeg r2.toInt64) → (Q (0 : Int32) S5))) (fun E4 S3 => (E4 = "java/lang/IndexOutOfBoundsException" ∧ (Q (1 : Int32) S3))))
set_option maxRecDepth 100000 in
set_option maxHeartbeats 4000000 in
theorem ok_L_ownerOf {a2 : Int32} {a3 : Int32} {S : hs_S} {Q : Int32 → hs_S → Prop} (hw : hs_Wi S) (hv : vc_L_ownerOf a2 a3 S Q) : m_L_ownerOf a2 a3 S Q := by
  unfold vc_L_ownerOf at hv
  refine hs_bodyH (own := RL) rfl rfl (Nat.le_of_ble_eq_true rfl) (fun Z X E hH => ?_)
  show wa Z 0 0 S 0 [(0, .inr (.inr (10, 1))), (1, .inl a2), (2, .inl a3), (3, .inr (.inr (100, 1)))] []
  refine wa_aload_n X 3 rfl dL_ownerOf_0 rfl ?_
  refine wa_iconst X dL_ownerOf_1 kc0 ?_
  refine wa_aload_n X 0 rfl dL_ownerOf_2 rfl ?_
  refine wa_iload_n X 1 rfl dL_ownerOf_3 rfl ?_
  refine wa_iload_n X 2 rfl dL_ownerOf_4 rfl ?_
  refine wa_callV X (As := [.inl a2, .inl a3]) (hv hw) hk_10 hc_10 rfl kw_539 kw_54 kw_536 kw_537 kw_538 nd_X10_ownerOf rfl rfl (Nat.le_of_ble_eq_true rfl) dL_ownerOf_5 hs_1ne ⟨⟨Nat.le_of_ble_eq_true rfl, Nat.le_of_ble_eq_true rfl⟩, Nat.le_of_ble_eq_true rfl, Nat.le_of_ble_eq_true rfl⟩ (fun v S1 h => ?_) (fun E4 S3 h => ?_)
  obtain ⟨hw, r2, rfl, hv⟩ := h
  refine wa_i2l X dL_ownerOf_8 ?_
  refine wa_last X hk_100 dL_ownerOf_9 hs_1ne (by decide) (hs_eqS fun S5 hS5 => ?_)
  replace hv := hv S5 hS5
  replace hw : hs_Wi S5 := hS5 ▸ hs_Wi_L hw
  refine wa_goto X (tgt := 17) dL_ownerOf_10 (by decide) ?_
  refine wa_iconst X dL_ownerOf_17 kc0 ?_
  exact wa_ireturn X E dL_ownerOf_18 (Nat.le_of_ble_eq_true rfl) (Nat.le_of_ble_eq_true rfl) (Or.inl rfl) ⟨hw, _, rfl, hv⟩
  obtain ⟨hw, h⟩ := h
  obtain ⟨rfl, hv⟩ := h
  · refine wx_catch X hH [] ⟨0, 10, 13, 13⟩ [] rfl (fun _ h => nomatch h) (by decide) (by decide) kw_395 kw_406 dL_ownerOf_13 (by decide) ?_
    refine wa_lv (lv' := []) [] rfl ?_
    refine wa_iconst X dL_ownerOf_15 kc1 ?_
    exact wa_ireturn X E dL_ownerOf_16 (Nat.le_of_ble_eq_true rfl) (Nat.le_of_ble_eq_true rfl) (Or.inl rfl) ⟨hw, _, rfl, hv⟩

def m_L_reads (a2 : Int32) (a3 : Int32) (a4 : Int32) (S : hs_S) (Q : Int32 → hs_S → Prop) : Prop := hs_M 9 yL_reads (.codeWith yL_reads cL_reads 6 (some FieldType.int) [(0, 19, 22, 13)]) [.inr (.inr (10, 1)), .inl a2, .inl a3, .inl a4, .inr (.inr (100, 1))] S 3 18 (hs_qI Q) hs_nX
def vc_L_reads (a2 : Int32) (a3 : Int32) (a4 : Int32) (S : hs_S) (Q : Int32 → hs_S → Prop) : Prop := (hs_Wi S → m_C_reads a2 a3 a4 S (fun r2 S1 => ((r2 = 0 → (∀ S6 : hs_S, S6 = (hs_wL S1 100 1 (0 : Int32).toNatClampNeg (0 : Int64)) → (Q (0 : Int32) S6))) ∧ (¬ r2 = 0 → (∀ S7 : hs_S, S7 = (hs_wL S1 100 1 (0 : Int32).toNatClampNeg (1 : Int64)) → (Q (0 : Int32) S7))))) (fun E4 S3 => (E4 = "java/lang/IndexOutOfBoundsException" ∧ (Q (1 : Int32) S3))))
set_option maxRecDepth 100000 in
set_option maxHeartbeats 4000000 in
theorem ok_L_reads {a2 : Int32} {a3 : Int32} {a4 : Int32} {S : hs_S} {Q : Int32 → hs_S → Prop} (hw : hs_Wi S) (hv : vc_L_reads a2 a3 a4 S Q) : m_L_reads a2 a3 a4 S Q := by
  unfold vc_L_reads at hv
  refine hs_bodyH (own := RL) rfl rfl (Nat.le_of_ble_eq_true rfl) (fun Z X E hH => ?_)
  show wa Z 0 0 S 0 [(0, .inr (.inr (10, 1))), (1, .inl a2), (2, .inl a3), (3, .inl a4), (4, .inr (.inr (100, 1)))] []
  refine wa_aload X 4 rfl dL_reads_0 ?_
  refine wa_iconst X dL_reads_2 kc0 ?_
  refine wa_aload_n X 0 rfl dL_reads_3 rfl ?_
  refine wa_iload_n X 1 rfl dL_reads_4 rfl ?_
  refine wa_iload_n X 2 rfl dL_reads_5 rfl ?_
  refine wa_iload_n X 3 rfl dL_reads_6 rfl ?_
  refine wa_callV X (As := [.inl a2, .inl a3, .inl a4]) (hv hw) hk_10 hc_10 rfl kw_546 kw_54 kw_543 kw_544 kw_545 nd_X10_reads rfl rfl (Nat.le_of_ble_eq_true rfl) dL_reads_7 hs_1ne ⟨⟨Nat.le_of_ble_eq_true rfl, Nat.le_of_ble_eq_true rfl⟩, Nat.le_of_ble_eq_true rfl, Nat.le_of_ble_eq_true rfl⟩ (fun v S1 h => ?_) (fun E4 S3 h => ?_)
  obtain ⟨hw, r2, rfl, hv⟩ := h
  refine wa_if_eq X (tgt := 17) dL_reads_10 (by decide) (fun c5 => ?_) (fun c5 => ?_)
  · replace hv := hv.1 c5
    refine wa_lconst X dL_reads_17 kl0 ?_
    refine wa_last X hk_100 dL_reads_18 hs_1ne (by decide) (hs_eqS fun S6 hS6 => ?_)
    replace hv := hv S6 hS6
    replace hw : hs_Wi S6 := hS6 ▸ hs_Wi_L hw
    refine wa_goto X (tgt := 26) dL_reads_19 (by decide) ?_
    refine wa_iconst X dL_reads_26 kc0 ?_
    exact wa_ireturn X E dL_reads_27 (Nat.le_of_ble_eq_true rfl) (Nat.le_of_ble_eq_true rfl) (Or.inl rfl) ⟨hw, _, rfl, hv⟩
  · replace hv := hv.2 c5
    refine wa_lconst X dL_reads_13 kl1 ?_
    refine wa_goto X (tgt := 18) dL_reads_14 (by decide) ?_
    refine wa_last X hk_100 dL_reads_18 hs_1ne (by decide) (hs_eqS fun S7 hS7 => ?_)
    replace hv := hv S7 hS7
    replace hw : hs_Wi S7 := hS7 ▸ hs_Wi_L hw
    refine wa_goto X (tgt := 26) dL_reads_19 (by decide) ?_
    refine wa_iconst X dL_reads_26 kc0 ?_
    exact wa_ireturn X E dL_reads_27 (Nat.le_of_ble_eq_true rfl) (Nat.le_of_ble_eq_true rfl) (Or.inl rfl) ⟨hw, _, rfl, hv⟩
  obtain ⟨hw, h⟩ := h
  obtain ⟨rfl, hv⟩ := h
  · refine wx_catch X hH [] ⟨0, 19, 22, 13⟩ [] rfl (fun _ h => nomatch h) (by decide) (by decide) kw_395 kw_406 dL_reads_22 (by decide) ?_
    refine wa_lv (lv' := []) [] rfl ?_
    refine wa_iconst X dL_reads_24 kc1 ?_
    exact wa_ireturn X E dL_reads_25 (Nat.le_of_ble_eq_true rfl) (Nat.le_of_ble_eq_true rfl) (Or.inl rfl) ⟨hw, _, rfl, hv⟩

def m_L_word (a2 : Int32) (a3 : Int32) (a4 : Int32) (S : hs_S) (Q : Int32 → hs_S → Prop) : Prop := hs_M 7 yL_word (.codeWith yL_word cL_word 6 (some FieldType.int) [(0, 12, 15, 21), (0, 12, 19, 15)]) [.inr (.inr (10, 1)), .inl a2, .inl a3, .inl a4, .inr (.inr (100, 1))] S 1 6 (hs_qI Q) hs_nX
def vc_L_word (a2 : Int32) (a3 : Int32) (a4 : Int32) (S : hs_S) (Q : Int32 → hs_S → Prop) : Prop := (hs_Wi S → m_C_word a2 a3 a4 S (fun r2 S1 => (∀ S5 : hs_S, S5 = (hs_wL S1 100 1 (0 : Int32).toNatClampNeg r2.toInt64) → (Q (0 : Int32) S5))) (fun E4 S3 => (E4 = "java/lang/IllegalArgumentException" ∧ (Q (1 : Int32) S3)) ∨ (E4 = "java/lang/IllegalStateException" ∧ (Q (2 : Int32) S3))))
set_option maxRecDepth 100000 in
set_option maxHeartbeats 4000000 in
theorem ok_L_word {a2 : Int32} {a3 : Int32} {a4 : Int32} {S : hs_S} {Q : Int32 → hs_S → Prop} (hw : hs_Wi S) (hv : vc_L_word a2 a3 a4 S Q) : m_L_word a2 a3 a4 S Q := by
  unfold vc_L_word at hv
  refine hs_bodyH (own := RL) rfl rfl (Nat.le_of_ble_eq_true rfl) (fun Z X E hH => ?_)
  show wa Z 0 0 S 0 [(0, .inr (.inr (10, 1))), (1, .inl a2), (2, .inl a3), (3, .inl a4), (4, .inr (.inr (100, 1)))] []
  refine wa_aload X 4 rfl dL_word_0 ?_
  refine wa_iconst X dL_word_2 kc0 ?_
  refine wa_aload_n X 0 rfl dL_word_3 rfl ?_
  refine wa_iload_n X 1 rfl dL_word_4 rfl ?_
  refine wa_iload_n X 2 rfl dL_word_5 rfl ?_
  refine wa_iload_n X 3 rfl dL_word_6 rfl ?_
  refine wa_callV X (As := [.inl a2, .inl a3, .inl a4]) (hv hw) hk_10 hc_10 rfl kw_557 kw_54 kw_554 kw_555 kw_556 nd_X10_word rfl rfl (Nat.le_of_ble_eq_true rfl) dL_word_7 hs_1ne ⟨⟨Nat.le_of_ble_eq_true rfl, Nat.le_of_ble_eq_true rfl⟩, Nat.le_of_ble_eq_true rfl, Nat.le_of_ble_eq_true rfl⟩ (fun v S1 h => ?_) (fun E4 S3 h => ?_)
  obtain ⟨hw, r2, rfl, hv⟩ := h
  refine wa_i2l X dL_word_10 ?_
  refine wa_last X hk_100 dL_word_11 hs_1ne (by decide) (hs_eqS fun S5 hS5 => ?_)
  replace hv := hv S5 hS5
  replace hw : hs_Wi S5 := hS5 ▸ hs_Wi_L hw
  refine wa_goto X (tgt := 23) dL_word_12 (by decide) ?_
  refine wa_iconst X dL_word_23 kc0 ?_
  exact wa_ireturn X E dL_word_24 (Nat.le_of_ble_eq_true rfl) (Nat.le_of_ble_eq_true rfl) (Or.inl rfl) ⟨hw, _, rfl, hv⟩
  obtain ⟨hw, h⟩ := h
  rcases h with ⟨rfl, hv⟩ | ⟨rfl, hv⟩
  · refine wx_catch X hH [] ⟨0, 12, 15, 21⟩ [⟨0, 12, 19, 15⟩] rfl (fun _ h => nomatch h) (by decide) (by decide) kw_507 kw_514 dL_word_15 (by decide) ?_
    refine wa_lv (lv' := []) [] rfl ?_
    refine wa_iconst X dL_word_17 kc1 ?_
    exact wa_ireturn X E dL_word_18 (Nat.le_of_ble_eq_true rfl) (Nat.le_of_ble_eq_true rfl) (Or.inl rfl) ⟨hw, _, rfl, hv⟩
  · refine wx_catch X hH [⟨0, 12, 15, 21⟩] ⟨0, 12, 19, 15⟩ [] rfl (List.forall_mem_cons.mpr ⟨⟨by decide, _, kw_507, by simp [hs_nc]⟩, fun _ h => nomatch h⟩) (by decide) (by decide) kw_396 kw_486 dL_word_19 (by decide) ?_
    refine wa_lv (lv' := []) [] rfl ?_
    refine wa_iconst X dL_word_21 kc2 ?_
    exact wa_ireturn X E dL_word_22 (Nat.le_of_ble_eq_true rfl) (Nat.le_of_ble_eq_true rfl) (Or.inl rfl) ⟨hw, _, rfl, hv⟩

def m_L_enter (a2 : Int32) (a3 : Int32) (a4 : Int32) (S : hs_S) (Q : Int32 → hs_S → Prop) : Prop := hs_M 11 yL_enter (.codeWith yL_enter cL_enter 6 (some FieldType.int) [(0, 12, 15, 13), (0, 12, 19, 15)]) [.inr (.inr (10, 1)), .inl a2, .inl a3, .inl a4, .inr (.inr (100, 1))] S 11 238 (hs_qI Q) hs_nX
def vc_L_enter (a2 : Int32) (a3 : Int32) (a4 : Int32) (S : hs_S) (Q : Int32 → hs_S → Prop) : Prop := (hs_Wi S → m_C_enter a2 a3 a4 S (fun r2 S1 => (∀ S5 : hs_S, S5 = (hs_wL S1 100 1 (0 : Int32).toNatClampNeg r2.toInt64) → (Q (0 : Int32) S5))) (fun E4 S3 => (E4 = "java/lang/IndexOutOfBoundsException" ∧ (Q (1 : Int32) S3)) ∨ (E4 = "java/lang/IllegalStateException" ∧ (Q (2 : Int32) S3))))
set_option maxRecDepth 100000 in
set_option maxHeartbeats 4000000 in
theorem ok_L_enter {a2 : Int32} {a3 : Int32} {a4 : Int32} {S : hs_S} {Q : Int32 → hs_S → Prop} (hw : hs_Wi S) (hv : vc_L_enter a2 a3 a4 S Q) : m_L_enter a2 a3 a4 S Q := by
  unfold vc_L_enter at hv
  refine hs_bodyH (own := RL) rfl rfl (Nat.le_of_ble_eq_true rfl) (fun Z X E hH => ?_)
  show wa Z 0 0 S 0 [(0, .inr (.inr (10, 1))), (1, .inl a2), (2, .inl a3), (3, .inl a4), (4, .inr (.inr (100, 1)))] []
  refine wa_aload X 4 rfl dL_enter_0 ?_
  refine wa_iconst X dL_enter_2 kc0 ?_
  refine wa_aload_n X 0 rfl dL_enter_3 rfl ?_
  refine wa_iload_n X 1 rfl dL_enter_4 rfl ?_
  refine wa_iload_n X 2 rfl dL_enter_5 rfl ?_
  refine wa_iload_n X 3 rfl dL_enter_6 rfl ?_
  refine wa_callV X (As := [.inl a2, .inl a3, .inl a4]) (hv hw) hk_10 hc_10 rfl kw_578 kw_54 kw_575 kw_576 kw_577 nd_X10_enter rfl rfl (Nat.le_of_ble_eq_true rfl) dL_enter_7 hs_1ne ⟨⟨Nat.le_of_ble_eq_true rfl, Nat.le_of_ble_eq_true rfl⟩, Nat.le_of_ble_eq_true rfl, Nat.le_of_ble_eq_true rfl⟩ (fun v S1 h => ?_) (fun E4 S3 h => ?_)
  obtain ⟨hw, r2, rfl, hv⟩ := h
  refine wa_i2l X dL_enter_10 ?_
  refine wa_last X hk_100 dL_enter_11 hs_1ne (by decide) (hs_eqS fun S5 hS5 => ?_)
  replace hv := hv S5 hS5
  replace hw : hs_Wi S5 := hS5 ▸ hs_Wi_L hw
  refine wa_goto X (tgt := 23) dL_enter_12 (by decide) ?_
  refine wa_iconst X dL_enter_23 kc0 ?_
  exact wa_ireturn X E dL_enter_24 (Nat.le_of_ble_eq_true rfl) (Nat.le_of_ble_eq_true rfl) (Or.inl rfl) ⟨hw, _, rfl, hv⟩
  obtain ⟨hw, h⟩ := h
  rcases h with ⟨rfl, hv⟩ | ⟨rfl, hv⟩
  · refine wx_catch X hH [] ⟨0, 12, 15, 13⟩ [⟨0, 12, 19, 15⟩] rfl (fun _ h => nomatch h) (by decide) (by decide) kw_395 kw_406 dL_enter_15 (by decide) ?_
    refine wa_lv (lv' := []) [] rfl ?_
    refine wa_iconst X dL_enter_17 kc1 ?_
    exact wa_ireturn X E dL_enter_18 (Nat.le_of_ble_eq_true rfl) (Nat.le_of_ble_eq_true rfl) (Or.inl rfl) ⟨hw, _, rfl, hv⟩
  · refine wx_catch X hH [⟨0, 12, 15, 13⟩] ⟨0, 12, 19, 15⟩ [] rfl (List.forall_mem_cons.mpr ⟨⟨by decide, _, kw_395, by simp [hs_nc]⟩, fun _ h => nomatch h⟩) (by decide) (by decide) kw_396 kw_486 dL_enter_19 (by decide) ?_
    refine wa_lv (lv' := []) [] rfl ?_
    refine wa_iconst X dL_enter_21 kc2 ?_
    exact wa_ireturn X E dL_enter_22 (Nat.le_of_ble_eq_true rfl) (Nat.le_of_ble_eq_true rfl) (Or.inl rfl) ⟨hw, _, rfl, hv⟩

def m_L_empty (a2 : Int32) (a3 : Int32) (a4 : Int32) (S : hs_S) (Q : Int32 → hs_S → Prop) : Prop := hs_M 11 yL_empty (.codeWith yL_empty cL_empty 6 (some FieldType.int) [(0, 12, 15, 13), (0, 12, 19, 15)]) [.inr (.inr (10, 1)), .inl a2, .inl a3, .inl a4, .inr (.inr (100, 1))] S 7 197 (hs_qI Q) hs_nX
def vc_L_empty (a2 : Int32) (a3 : Int32) (a4 : Int32) (S : hs_S) (Q : Int32 → hs_S → Prop) : Prop := (hs_Wi S → m_C_empty a2 a3 a4 S (fun r2 S1 => (∀ S5 : hs_S, S5 = (hs_wL S1 100 1 (0 : Int32).toNatClampNeg r2.toInt64) → (Q (0 : Int32) S5))) (fun E4 S3 => (E4 = "java/lang/IndexOutOfBoundsException" ∧ (Q (1 : Int32) S3)) ∨ (E4 = "java/lang/IllegalStateException" ∧ (Q (2 : Int32) S3))))
set_option maxRecDepth 100000 in
set_option maxHeartbeats 4000000 in
theorem ok_L_empty {a2 : Int32} {a3 : Int32} {a4 : Int32} {S : hs_S} {Q : Int32 → hs_S → Prop} (hw : hs_Wi S) (hv : vc_L_empty a2 a3 a4 S Q) : m_L_empty a2 a3 a4 S Q := by
  unfold vc_L_empty at hv
  refine hs_bodyH (own := RL) rfl rfl (Nat.le_of_ble_eq_true rfl) (fun Z X E hH => ?_)
  show wa Z 0 0 S 0 [(0, .inr (.inr (10, 1))), (1, .inl a2), (2, .inl a3), (3, .inl a4), (4, .inr (.inr (100, 1)))] []
  refine wa_aload X 4 rfl dL_empty_0 ?_
  refine wa_iconst X dL_empty_2 kc0 ?_
  refine wa_aload_n X 0 rfl dL_empty_3 rfl ?_
  refine wa_iload_n X 1 rfl dL_empty_4 rfl ?_
  refine wa_iload_n X 2 rfl dL_empty_5 rfl ?_
  refine wa_iload_n X 3 rfl dL_empty_6 rfl ?_
  refine wa_callV X (As := [.inl a2, .inl a3, .inl a4]) (hv hw) hk_10 hc_10 rfl kw_720 kw_54 kw_717 kw_718 kw_719 nd_X10_empty rfl rfl (Nat.le_of_ble_eq_true rfl) dL_empty_7 hs_1ne ⟨⟨Nat.le_of_ble_eq_true rfl, Nat.le_of_ble_eq_true rfl⟩, Nat.le_of_ble_eq_true rfl, Nat.le_of_ble_eq_true rfl⟩ (fun v S1 h => ?_) (fun E4 S3 h => ?_)
  obtain ⟨hw, r2, rfl, hv⟩ := h
  refine wa_i2l X dL_empty_10 ?_
  refine wa_last X hk_100 dL_empty_11 hs_1ne (by decide) (hs_eqS fun S5 hS5 => ?_)
  replace hv := hv S5 hS5
  replace hw : hs_Wi S5 := hS5 ▸ hs_Wi_L hw
  refine wa_goto X (tgt := 23) dL_empty_12 (by decide) ?_
  refine wa_iconst X dL_empty_23 kc0 ?_
  exact wa_ireturn X E dL_empty_24 (Nat.le_of_ble_eq_true rfl) (Nat.le_of_ble_eq_true rfl) (Or.inl rfl) ⟨hw, _, rfl, hv⟩
  obtain ⟨hw, h⟩ := h
  rcases h with ⟨rfl, hv⟩ | ⟨rfl, hv⟩
  · refine wx_catch X hH [] ⟨0, 12, 15, 13⟩ [⟨0, 12, 19, 15⟩] rfl (fun _ h => nomatch h) (by decide) (by decide) kw_395 kw_406 dL_empty_15 (by decide) ?_
    refine wa_lv (lv' := []) [] rfl ?_
    refine wa_iconst X dL_empty_17 kc1 ?_
    exact wa_ireturn X E dL_empty_18 (Nat.le_of_ble_eq_true rfl) (Nat.le_of_ble_eq_true rfl) (Or.inl rfl) ⟨hw, _, rfl, hv⟩
  · refine wx_catch X hH [⟨0, 12, 15, 13⟩] ⟨0, 12, 19, 15⟩ [] rfl (List.forall_mem_cons.mpr ⟨⟨by decide, _, kw_395, by simp [hs_nc]⟩, fun _ h => nomatch h⟩) (by decide) (by decide) kw_396 kw_486 dL_empty_19 (by decide) ?_
    refine wa_lv (lv' := []) [] rfl ?_
    refine wa_iconst X dL_empty_21 kc2 ?_
    exact wa_ireturn X E dL_empty_22 (Nat.le_of_ble_eq_true rfl) (Nat.le_of_ble_eq_true rfl) (Or.inl rfl) ⟨hw, _, rfl, hv⟩

def m_L_notice (a2 : Int32) (a3 : Int32) (S : hs_S) (Q : Int32 → hs_S → Prop) : Prop := hs_M 8 yL_notice (.codeWith yL_notice cL_notice 5 (some FieldType.int) [(0, 10, 13, 13), (0, 10, 17, 21)]) [.inr (.inr (10, 1)), .inl a2, .inl a3, .inr (.inr (100, 1))] S 2 12 (hs_qI Q) hs_nX
def vc_L_notice (a2 : Int32) (a3 : Int32) (S : hs_S) (Q : Int32 → hs_S → Prop) : Prop := (hs_Wi S → m_C_notice a2 a3 S (fun r2 S1 => (∀ S5 : hs_S, S5 = (hs_wL S1 100 1 (0 : Int32).toNatClampNeg r2.toInt64) → (Q (0 : Int32) S5))) (fun E4 S3 => (E4 = "java/lang/IndexOutOfBoundsException" ∧ (Q (1 : Int32) S3)) ∨ (E4 = "java/lang/IllegalArgumentException" ∧ (Q (2 : Int32) S3))))
set_option maxRecDepth 100000 in
set_option maxHeartbeats 4000000 in
theorem ok_L_notice {a2 : Int32} {a3 : Int32} {S : hs_S} {Q : Int32 → hs_S → Prop} (hw : hs_Wi S) (hv : vc_L_notice a2 a3 S Q) : m_L_notice a2 a3 S Q := by
  unfold vc_L_notice at hv
  refine hs_bodyH (own := RL) rfl rfl (Nat.le_of_ble_eq_true rfl) (fun Z X E hH => ?_)
  show wa Z 0 0 S 0 [(0, .inr (.inr (10, 1))), (1, .inl a2), (2, .inl a3), (3, .inr (.inr (100, 1)))] []
  refine wa_aload_n X 3 rfl dL_notice_0 rfl ?_
  refine wa_iconst X dL_notice_1 kc0 ?_
  refine wa_aload_n X 0 rfl dL_notice_2 rfl ?_
  refine wa_iload_n X 1 rfl dL_notice_3 rfl ?_
  refine wa_iload_n X 2 rfl dL_notice_4 rfl ?_
  refine wa_callV X (As := [.inl a2, .inl a3]) (hv hw) hk_10 hc_10 rfl kw_727 kw_54 kw_724 kw_725 kw_726 nd_X10_notice rfl rfl (Nat.le_of_ble_eq_true rfl) dL_notice_5 hs_1ne ⟨⟨Nat.le_of_ble_eq_true rfl, Nat.le_of_ble_eq_true rfl⟩, Nat.le_of_ble_eq_true rfl, Nat.le_of_ble_eq_true rfl⟩ (fun v S1 h => ?_) (fun E4 S3 h => ?_)
  obtain ⟨hw, r2, rfl, hv⟩ := h
  refine wa_i2l X dL_notice_8 ?_
  refine wa_last X hk_100 dL_notice_9 hs_1ne (by decide) (hs_eqS fun S5 hS5 => ?_)
  replace hv := hv S5 hS5
  replace hw : hs_Wi S5 := hS5 ▸ hs_Wi_L hw
  refine wa_goto X (tgt := 21) dL_notice_10 (by decide) ?_
  refine wa_iconst X dL_notice_21 kc0 ?_
  exact wa_ireturn X E dL_notice_22 (Nat.le_of_ble_eq_true rfl) (Nat.le_of_ble_eq_true rfl) (Or.inl rfl) ⟨hw, _, rfl, hv⟩
  obtain ⟨hw, h⟩ := h
  rcases h with ⟨rfl, hv⟩ | ⟨rfl, hv⟩
  · refine wx_catch X hH [] ⟨0, 10, 13, 13⟩ [⟨0, 10, 17, 21⟩] rfl (fun _ h => nomatch h) (by decide) (by decide) kw_395 kw_406 dL_notice_13 (by decide) ?_
    refine wa_lv (lv' := []) [] rfl ?_
    refine wa_iconst X dL_notice_15 kc1 ?_
    exact wa_ireturn X E dL_notice_16 (Nat.le_of_ble_eq_true rfl) (Nat.le_of_ble_eq_true rfl) (Or.inl rfl) ⟨hw, _, rfl, hv⟩
  · refine wx_catch X hH [⟨0, 10, 13, 13⟩] ⟨0, 10, 17, 21⟩ [] rfl (List.forall_mem_cons.mpr ⟨⟨by decide, _, kw_395, by simp [hs_nc]⟩, fun _ h => nomatch h⟩) (by decide) (by decide) kw_507 kw_514 dL_notice_17 (by decide) ?_
    refine wa_lv (lv' := []) [] rfl ?_
    refine wa_iconst X dL_notice_19 kc2 ?_
    exact wa_ireturn X E dL_notice_20 (Nat.le_of_ble_eq_true rfl) (Nat.le_of_ble_eq_true rfl) (Or.inl rfl) ⟨hw, _, rfl, hv⟩

def m_L_value (a2 : Int32) (a3 : Int32) (a4 : Int32) (S : hs_S) (Q : Int32 → hs_S → Prop) : Prop := hs_M 53 yL_value (.codeWith yL_value cL_value 6 (some FieldType.int) [(0, 12, 15, 13), (0, 12, 19, 15)]) [.inr (.inr (10, 1)), .inl a2, .inl a3, .inl a4, .inr (.inr (100, 1))] S 4 24 (hs_qI Q) hs_nX
def vc_L_value (a2 : Int32) (a3 : Int32) (a4 : Int32) (S : hs_S) (Q : Int32 → hs_S → Prop) : Prop := (hs_Wi S → m_C_value a2 a3 a4 S (fun r2 S1 => (∀ S5 : hs_S, S5 = (hs_wL S1 100 1 (0 : Int32).toNatClampNeg r2.toInt64) → (Q (0 : Int32) S5))) (fun E4 S3 => (E4 = "java/lang/IndexOutOfBoundsException" ∧ (Q (1 : Int32) S3)) ∨ (E4 = "java/lang/IllegalStateException" ∧ (Q (2 : Int32) S3))))
set_option maxRecDepth 100000 in
set_option maxHeartbeats 4000000 in
theorem ok_L_value {a2 : Int32} {a3 : Int32} {a4 : Int32} {S : hs_S} {Q : Int32 → hs_S → Prop} (hw : hs_Wi S) (hv : vc_L_value a2 a3 a4 S Q) : m_L_value a2 a3 a4 S Q := by
  unfold vc_L_value at hv
  refine hs_bodyH (own := RL) rfl rfl (Nat.le_of_ble_eq_true rfl) (fun Z X E hH => ?_)
  show wa Z 0 0 S 0 [(0, .inr (.inr (10, 1))), (1, .inl a2), (2, .inl a3), (3, .inl a4), (4, .inr (.inr (100, 1)))] []
  refine wa_aload X 4 rfl dL_value_0 ?_
  refine wa_iconst X dL_value_2 kc0 ?_
  refine wa_aload_n X 0 rfl dL_value_3 rfl ?_
  refine wa_iload_n X 1 rfl dL_value_4 rfl ?_
  refine wa_iload_n X 2 rfl dL_value_5 rfl ?_
  refine wa_iload_n X 3 rfl dL_value_6 rfl ?_
  refine wa_callV X (As := [.inl a2, .inl a3, .inl a4]) (hv hw) hk_10 hc_10 rfl kw_735 kw_54 kw_732 kw_733 kw_734 nd_X10_value rfl rfl (Nat.le_of_ble_eq_true rfl) dL_value_7 hs_1ne ⟨⟨Nat.le_of_ble_eq_true rfl, Nat.le_of_ble_eq_true rfl⟩, Nat.le_of_ble_eq_true rfl, Nat.le_of_ble_eq_true rfl⟩ (fun v S1 h => ?_) (fun E4 S3 h => ?_)
  obtain ⟨hw, r2, rfl, hv⟩ := h
  refine wa_i2l X dL_value_10 ?_
  refine wa_last X hk_100 dL_value_11 hs_1ne (by decide) (hs_eqS fun S5 hS5 => ?_)
  replace hv := hv S5 hS5
  replace hw : hs_Wi S5 := hS5 ▸ hs_Wi_L hw
  refine wa_goto X (tgt := 23) dL_value_12 (by decide) ?_
  refine wa_iconst X dL_value_23 kc0 ?_
  exact wa_ireturn X E dL_value_24 (Nat.le_of_ble_eq_true rfl) (Nat.le_of_ble_eq_true rfl) (Or.inl rfl) ⟨hw, _, rfl, hv⟩
  obtain ⟨hw, h⟩ := h
  rcases h with ⟨rfl, hv⟩ | ⟨rfl, hv⟩
  · refine wx_catch X hH [] ⟨0, 12, 15, 13⟩ [⟨0, 12, 19, 15⟩] rfl (fun _ h => nomatch h) (by decide) (by decide) kw_395 kw_406 dL_value_15 (by decide) ?_
    refine wa_lv (lv' := []) [] rfl ?_
    refine wa_iconst X dL_value_17 kc1 ?_
    exact wa_ireturn X E dL_value_18 (Nat.le_of_ble_eq_true rfl) (Nat.le_of_ble_eq_true rfl) (Or.inl rfl) ⟨hw, _, rfl, hv⟩
  · refine wx_catch X hH [⟨0, 12, 15, 13⟩] ⟨0, 12, 19, 15⟩ [] rfl (List.forall_mem_cons.mpr ⟨⟨by decide, _, kw_395, by simp [hs_nc]⟩, fun _ h => nomatch h⟩) (by decide) (by decide) kw_396 kw_486 dL_value_19 (by decide) ?_
    refine wa_lv (lv' := []) [] rfl ?_
    refine wa_iconst X dL_value_21 kc2 ?_
    exact wa_ireturn X E dL_value_22 (Nat.le_of_ble_eq_true rfl) (Nat.le_of_ble_eq_true rfl) (Or.inl rfl) ⟨hw, _, rfl, hv⟩

def m_L_fault (a2 : Int32) (a3 : Int32) (a4 : Int32) (S : hs_S) (Q : Int32 → hs_S → Prop) : Prop := hs_M 53 yL_fault (.codeWith yL_fault cL_fault 6 (some FieldType.int) [(0, 12, 15, 13), (0, 12, 19, 15)]) [.inr (.inr (10, 1)), .inl a2, .inl a3, .inl a4, .inr (.inr (100, 1))] S 4 24 (hs_qI Q) hs_nX
def vc_L_fault (a2 : Int32) (a3 : Int32) (a4 : Int32) (S : hs_S) (Q : Int32 → hs_S → Prop) : Prop := (hs_Wi S → m_C_fault a2 a3 a4 S (fun r2 S1 => (∀ S5 : hs_S, S5 = (hs_wL S1 100 1 (0 : Int32).toNatClampNeg r2.toInt64) → (Q (0 : Int32) S5))) (fun E4 S3 => (E4 = "java/lang/IndexOutOfBoundsException" ∧ (Q (1 : Int32) S3)) ∨ (E4 = "java/lang/IllegalStateException" ∧ (Q (2 : Int32) S3))))
set_option maxRecDepth 100000 in
set_option maxHeartbeats 4000000 in
theorem ok_L_fault {a2 : Int32} {a3 : Int32} {a4 : Int32} {S : hs_S} {Q : Int32 → hs_S → Prop} (hw : hs_Wi S) (hv : vc_L_fault a2 a3 a4 S Q) : m_L_fault a2 a3 a4 S Q := by
  unfold vc_L_fault at hv
  refine hs_bodyH (own := RL) rfl rfl (Nat.le_of_ble_eq_true rfl) (fun Z X E hH => ?_)
  show wa Z 0 0 S 0 [(0, .inr (.inr (10, 1))), (1, .inl a2), (2, .inl a3), (3, .inl a4), (4, .inr (.inr (100, 1)))] []
  refine wa_aload X 4 rfl dL_fault_0 ?_
  refine wa_iconst X dL_fault_2 kc0 ?_
  refine wa_aload_n X 0 rfl dL_fault_3 rfl ?_
  refine wa_iload_n X 1 rfl dL_fault_4 rfl ?_
  refine wa_iload_n X 2 rfl dL_fault_5 rfl ?_
  refine wa_iload_n X 3 rfl dL_fault_6 rfl ?_
  refine wa_callV X (As := [.inl a2, .inl a3, .inl a4]) (hv hw) hk_10 hc_10 rfl kw_813 kw_54 kw_810 kw_811 kw_812 nd_X10_fault rfl rfl (Nat.le_of_ble_eq_true rfl) dL_fault_7 hs_1ne ⟨⟨Nat.le_of_ble_eq_true rfl, Nat.le_of_ble_eq_true rfl⟩, Nat.le_of_ble_eq_true rfl, Nat.le_of_ble_eq_true rfl⟩ (fun v S1 h => ?_) (fun E4 S3 h => ?_)
  obtain ⟨hw, r2, rfl, hv⟩ := h
  refine wa_i2l X dL_fault_10 ?_
  refine wa_last X hk_100 dL_fault_11 hs_1ne (by decide) (hs_eqS fun S5 hS5 => ?_)
  replace hv := hv S5 hS5
  replace hw : hs_Wi S5 := hS5 ▸ hs_Wi_L hw
  refine wa_goto X (tgt := 23) dL_fault_12 (by decide) ?_
  refine wa_iconst X dL_fault_23 kc0 ?_
  exact wa_ireturn X E dL_fault_24 (Nat.le_of_ble_eq_true rfl) (Nat.le_of_ble_eq_true rfl) (Or.inl rfl) ⟨hw, _, rfl, hv⟩
  obtain ⟨hw, h⟩ := h
  rcases h with ⟨rfl, hv⟩ | ⟨rfl, hv⟩
  · refine wx_catch X hH [] ⟨0, 12, 15, 13⟩ [⟨0, 12, 19, 15⟩] rfl (fun _ h => nomatch h) (by decide) (by decide) kw_395 kw_406 dL_fault_15 (by decide) ?_
    refine wa_lv (lv' := []) [] rfl ?_
    refine wa_iconst X dL_fault_17 kc1 ?_
    exact wa_ireturn X E dL_fault_18 (Nat.le_of_ble_eq_true rfl) (Nat.le_of_ble_eq_true rfl) (Or.inl rfl) ⟨hw, _, rfl, hv⟩
  · refine wx_catch X hH [⟨0, 12, 15, 13⟩] ⟨0, 12, 19, 15⟩ [] rfl (List.forall_mem_cons.mpr ⟨⟨by decide, _, kw_395, by simp [hs_nc]⟩, fun _ h => nomatch h⟩) (by decide) (by decide) kw_396 kw_486 dL_fault_19 (by decide) ?_
    refine wa_lv (lv' := []) [] rfl ?_
    refine wa_iconst X dL_fault_21 kc2 ?_
    exact wa_ireturn X E dL_fault_22 (Nat.le_of_ble_eq_true rfl) (Nat.le_of_ble_eq_true rfl) (Or.inl rfl) ⟨hw, _, rfl, hv⟩

def m_L_edits (a2 : Int32) (a3 : Int32) (S : hs_S) (Q : Int32 → hs_S → Prop) : Prop := hs_M 9 yL_edits (.codeWith yL_edits cL_edits 5 (some FieldType.int) [(0, 10, 13, 13)]) [.inr (.inr (10, 1)), .inl a2, .inl a3, .inr (.inr (100, 1))] S 2 12 (hs_qI Q) hs_nX
def vc_L_edits (a2 : Int32) (a3 : Int32) (S : hs_S) (Q : Int32 → hs_S → Prop) : Prop := (hs_Wi S → m_C_edits a2 a3 S (fun r2 S1 => (∀ S5 : hs_S, S5 = (hs_wL S1 100 1 (0 : Int32).toNatClampNeg r2.toInt64) → (Q (0 : Int32) S5))) (fun E4 S3 => (E4 = "java/lang/IndexOutOfBoundsException" ∧ (Q (1 : Int32) S3))))
set_option maxRecDepth 100000 in
set_option maxHeartbeats 4000000 in
theorem ok_L_edits {a2 : Int32} {a3 : Int32} {S : hs_S} {Q : Int32 → hs_S → Prop} (hw : hs_Wi S) (hv : vc_L_edits a2 a3 S Q) : m_L_edits a2 a3 S Q := by
  unfold vc_L_edits at hv
  refine hs_bodyH (own := RL) rfl rfl (Nat.le_of_ble_eq_true rfl) (fun Z X E hH => ?_)
  show wa Z 0 0 S 0 [(0, .inr (.inr (10, 1))), (1, .inl a2), (2, .inl a3), (3, .inr (.inr (100, 1)))] []
  refine wa_aload_n X 3 rfl dL_edits_0 rfl ?_
  refine wa_iconst X dL_edits_1 kc0 ?_
  refine wa_aload_n X 0 rfl dL_edits_2 rfl ?_
  refine wa_iload_n X 1 rfl dL_edits_3 rfl ?_
  refine wa_iload_n X 2 rfl dL_edits_4 rfl ?_
  refine wa_callV X (As := [.inl a2, .inl a3]) (hv hw) hk_10 hc_10 rfl kw_824 kw_54 kw_821 kw_822 kw_823 nd_X10_edits rfl rfl (Nat.le_of_ble_eq_true rfl) dL_edits_5 hs_1ne ⟨⟨Nat.le_of_ble_eq_true rfl, Nat.le_of_ble_eq_true rfl⟩, Nat.le_of_ble_eq_true rfl, Nat.le_of_ble_eq_true rfl⟩ (fun v S1 h => ?_) (fun E4 S3 h => ?_)
  obtain ⟨hw, r2, rfl, hv⟩ := h
  refine wa_i2l X dL_edits_8 ?_
  refine wa_last X hk_100 dL_edits_9 hs_1ne (by decide) (hs_eqS fun S5 hS5 => ?_)
  replace hv := hv S5 hS5
  replace hw : hs_Wi S5 := hS5 ▸ hs_Wi_L hw
  refine wa_goto X (tgt := 17) dL_edits_10 (by decide) ?_
  refine wa_iconst X dL_edits_17 kc0 ?_
  exact wa_ireturn X E dL_edits_18 (Nat.le_of_ble_eq_true rfl) (Nat.le_of_ble_eq_true rfl) (Or.inl rfl) ⟨hw, _, rfl, hv⟩
  obtain ⟨hw, h⟩ := h
  obtain ⟨rfl, hv⟩ := h
  · refine wx_catch X hH [] ⟨0, 10, 13, 13⟩ [] rfl (fun _ h => nomatch h) (by decide) (by decide) kw_395 kw_406 dL_edits_13 (by decide) ?_
    refine wa_lv (lv' := []) [] rfl ?_
    refine wa_iconst X dL_edits_15 kc1 ?_
    exact wa_ireturn X E dL_edits_16 (Nat.le_of_ble_eq_true rfl) (Nat.le_of_ble_eq_true rfl) (Or.inl rfl) ⟨hw, _, rfl, hv⟩

def m_L_edit (a2 : Int32) (a3 : Int32) (a4 : Int32) (a5 : Int32) (S : hs_S) (Q : Int32 → hs_S → Prop) : Prop := hs_M 9 yL_edit (.codeWith yL_edit cL_edit 7 (some FieldType.int) [(0, 14, 17, 13), (0, 14, 21, 21)]) [.inr (.inr (10, 1)), .inl a2, .inl a3, .inl a4, .inl a5, .inr (.inr (100, 1))] S 3 18 (hs_qI Q) hs_nX
def vc_L_edit (a2 : Int32) (a3 : Int32) (a4 : Int32) (a5 : Int32) (S : hs_S) (Q : Int32 → hs_S → Prop) : Prop := (hs_Wi S → m_C_edit a2 a3 a4 a5 S (fun r2 S1 => (∀ S5 : hs_S, S5 = (hs_wL S1 100 1 (0 : Int32).toNatClampNeg r2.toInt64) → (Q (0 : Int32) S5))) (fun E4 S3 => (E4 = "java/lang/IndexOutOfBoundsException" ∧ (Q (1 : Int32) S3)) ∨ (E4 = "java/lang/IllegalArgumentException" ∧ (Q (2 : Int32) S3))))
set_option maxRecDepth 100000 in
set_option maxHeartbeats 4000000 in
theorem ok_L_edit {a2 : Int32} {a3 : Int32} {a4 : Int32} {a5 : Int32} {S : hs_S} {Q : Int32 → hs_S → Prop} (hw : hs_Wi S) (hv : vc_L_edit a2 a3 a4 a5 S Q) : m_L_edit a2 a3 a4 a5 S Q := by
  unfold vc_L_edit at hv
  refine hs_bodyH (own := RL) rfl rfl (Nat.le_of_ble_eq_true rfl) (fun Z X E hH => ?_)
  show wa Z 0 0 S 0 [(0, .inr (.inr (10, 1))), (1, .inl a2), (2, .inl a3), (3, .inl a4), (4, .inl a5), (5, .inr (.inr (100, 1)))] []
  refine wa_aload X 5 rfl dL_edit_0 ?_
  refine wa_iconst X dL_edit_2 kc0 ?_
  refine wa_aload_n X 0 rfl dL_edit_3 rfl ?_
  refine wa_iload_n X 1 rfl dL_edit_4 rfl ?_
  refine wa_iload_n X 2 rfl dL_edit_5 rfl ?_
  refine wa_iload_n X 3 rfl dL_edit_6 rfl ?_
  refine wa_iload X 4 rfl dL_edit_7 ?_
  refine wa_callV X (As := [.inl a2, .inl a3, .inl a4, .inl a5]) (hv hw) hk_10 hc_10 rfl kw_837 kw_54 kw_834 kw_835 kw_836 nd_X10_edit rfl rfl (Nat.le_of_ble_eq_true rfl) dL_edit_9 hs_1ne ⟨⟨Nat.le_of_ble_eq_true rfl, Nat.le_of_ble_eq_true rfl⟩, Nat.le_of_ble_eq_true rfl, Nat.le_of_ble_eq_true rfl⟩ (fun v S1 h => ?_) (fun E4 S3 h => ?_)
  obtain ⟨hw, r2, rfl, hv⟩ := h
  refine wa_i2l X dL_edit_12 ?_
  refine wa_last X hk_100 dL_edit_13 hs_1ne (by decide) (hs_eqS fun S5 hS5 => ?_)
  replace hv := hv S5 hS5
  replace hw : hs_Wi S5 := hS5 ▸ hs_Wi_L hw
  refine wa_goto X (tgt := 25) dL_edit_14 (by decide) ?_
  refine wa_iconst X dL_edit_25 kc0 ?_
  exact wa_ireturn X E dL_edit_26 (Nat.le_of_ble_eq_true rfl) (Nat.le_of_ble_eq_true rfl) (Or.inl rfl) ⟨hw, _, rfl, hv⟩
  obtain ⟨hw, h⟩ := h
  rcases h with ⟨rfl, hv⟩ | ⟨rfl, hv⟩
  · refine wx_catch X hH [] ⟨0, 14, 17, 13⟩ [⟨0, 14, 21, 21⟩] rfl (fun _ h => nomatch h) (by decide) (by decide) kw_395 kw_406 dL_edit_17 (by decide) ?_
    refine wa_lv (lv' := []) [] rfl ?_
    refine wa_iconst X dL_edit_19 kc1 ?_
    exact wa_ireturn X E dL_edit_20 (Nat.le_of_ble_eq_true rfl) (Nat.le_of_ble_eq_true rfl) (Or.inl rfl) ⟨hw, _, rfl, hv⟩
  · refine wx_catch X hH [⟨0, 14, 17, 13⟩] ⟨0, 14, 21, 21⟩ [] rfl (List.forall_mem_cons.mpr ⟨⟨by decide, _, kw_395, by simp [hs_nc]⟩, fun _ h => nomatch h⟩) (by decide) (by decide) kw_507 kw_514 dL_edit_21 (by decide) ?_
    refine wa_lv (lv' := []) [] rfl ?_
    refine wa_iconst X dL_edit_23 kc2 ?_
    exact wa_ireturn X E dL_edit_24 (Nat.le_of_ble_eq_true rfl) (Nat.le_of_ble_eq_true rfl) (Or.inl rfl) ⟨hw, _, rfl, hv⟩

def m_L_bid (a2 : Int32) (a3 : Int32) (a4 : Int32) (a5 : Int32) (a6 : Int32) (S : hs_S) (Q : Int32 → hs_S → Prop) : Prop := hs_M 10 yL_bid (.codeWith yL_bid cL_bid 8 (some FieldType.int) [(0, 16, 19, 13), (0, 16, 23, 21), (0, 16, 27, 15)]) [.inr (.inr (10, 1)), .inl a2, .inl a3, .inl a4, .inl a5, .inl a6, .inr (.inr (100, 1))] S 4 182 (hs_qI Q) hs_nX
def vc_L_bid (a2 : Int32) (a3 : Int32) (a4 : Int32) (a5 : Int32) (a6 : Int32) (S : hs_S) (Q : Int32 → hs_S → Prop) : Prop := (hs_Wi S → m_C_bid a2 a3 a4 a5 a6 S (fun r2 S1 => (∀ S5 : hs_S, S5 = (hs_wL S1 100 1 (0 : Int32).toNatClampNeg r2.toInt64) → (Q (0 : Int32) S5))) (fun E4 S3 => (E4 = "java/lang/IndexOutOfBoundsException" ∧ (Q (1 : Int32) S3)) ∨ (E4 = "java/lang/IllegalArgumentException" ∧ (Q (2 : Int32) S3)) ∨ (E4 = "java/lang/IllegalStateException" ∧ (Q (3 : Int32) S3))))
set_option maxRecDepth 100000 in
set_option maxHeartbeats 4000000 in
theorem ok_L_bid {a2 : Int32} {a3 : Int32} {a4 : Int32} {a5 : Int32} {a6 : Int32} {S : hs_S} {Q : Int32 → hs_S → Prop} (hw : hs_Wi S) (hv : vc_L_bid a2 a3 a4 a5 a6 S Q) : m_L_bid a2 a3 a4 a5 a6 S Q := by
  unfold vc_L_bid at hv
  refine hs_bodyH (own := RL) rfl rfl (Nat.le_of_ble_eq_true rfl) (fun Z X E hH => ?_)
  show wa Z 0 0 S 0 [(0, .inr (.inr (10, 1))), (1, .inl a2), (2, .inl a3), (3, .inl a4), (4, .inl a5), (5, .inl a6), (6, .inr (.inr (100, 1)))] []
  refine wa_aload X 6 rfl dL_bid_0 ?_
  refine wa_iconst X dL_bid_2 kc0 ?_
  refine wa_aload_n X 0 rfl dL_bid_3 rfl ?_
  refine wa_iload_n X 1 rfl dL_bid_4 rfl ?_
  refine wa_iload_n X 2 rfl dL_bid_5 rfl ?_
  refine wa_iload_n X 3 rfl dL_bid_6 rfl ?_
  refine wa_iload X 4 rfl dL_bid_7 ?_
  refine wa_iload X 5 rfl dL_bid_9 ?_
  refine wa_callV X (As := [.inl a2, .inl a3, .inl a4, .inl a5, .inl a6]) (hv hw) hk_10 hc_10 rfl kw_855 kw_54 kw_852 kw_853 kw_854 nd_X10_bid rfl rfl (Nat.le_of_ble_eq_true rfl) dL_bid_11 hs_1ne ⟨⟨Nat.le_of_ble_eq_true rfl, Nat.le_of_ble_eq_true rfl⟩, Nat.le_of_ble_eq_true rfl, Nat.le_of_ble_eq_true rfl⟩ (fun v S1 h => ?_) (fun E4 S3 h => ?_)
  obtain ⟨hw, r2, rfl, hv⟩ := h
  refine wa_i2l X dL_bid_14 ?_
  refine wa_last X hk_100 dL_bid_15 hs_1ne (by decide) (hs_eqS fun S5 hS5 => ?_)
  replace hv := hv S5 hS5
  replace hw : hs_Wi S5 := hS5 ▸ hs_Wi_L hw
  refine wa_goto X (tgt := 31) dL_bid_16 (by decide) ?_
  refine wa_iconst X dL_bid_31 kc0 ?_
  exact wa_ireturn X E dL_bid_32 (Nat.le_of_ble_eq_true rfl) (Nat.le_of_ble_eq_true rfl) (Or.inl rfl) ⟨hw, _, rfl, hv⟩
  obtain ⟨hw, h⟩ := h
  rcases h with ⟨rfl, hv⟩ | ⟨rfl, hv⟩ | ⟨rfl, hv⟩
  · refine wx_catch X hH [] ⟨0, 16, 19, 13⟩ [⟨0, 16, 23, 21⟩, ⟨0, 16, 27, 15⟩] rfl (fun _ h => nomatch h) (by decide) (by decide) kw_395 kw_406 dL_bid_19 (by decide) ?_
    refine wa_lv (lv' := []) [] rfl ?_
    refine wa_iconst X dL_bid_21 kc1 ?_
    exact wa_ireturn X E dL_bid_22 (Nat.le_of_ble_eq_true rfl) (Nat.le_of_ble_eq_true rfl) (Or.inl rfl) ⟨hw, _, rfl, hv⟩
  · refine wx_catch X hH [⟨0, 16, 19, 13⟩] ⟨0, 16, 23, 21⟩ [⟨0, 16, 27, 15⟩] rfl (List.forall_mem_cons.mpr ⟨⟨by decide, _, kw_395, by simp [hs_nc]⟩, fun _ h => nomatch h⟩) (by decide) (by decide) kw_507 kw_514 dL_bid_23 (by decide) ?_
    refine wa_lv (lv' := []) [] rfl ?_
    refine wa_iconst X dL_bid_25 kc2 ?_
    exact wa_ireturn X E dL_bid_26 (Nat.le_of_ble_eq_true rfl) (Nat.le_of_ble_eq_true rfl) (Or.inl rfl) ⟨hw, _, rfl, hv⟩
  · refine wx_catch X hH [⟨0, 16, 19, 13⟩, ⟨0, 16, 23, 21⟩] ⟨0, 16, 27, 15⟩ [] rfl (List.forall_mem_cons.mpr ⟨⟨by decide, _, kw_395, by simp [hs_nc]⟩, List.forall_mem_cons.mpr ⟨⟨by decide, _, kw_507, by simp [hs_nc]⟩, fun _ h => nomatch h⟩⟩) (by decide) (by decide) kw_396 kw_486 dL_bid_27 (by decide) ?_
    refine wa_lv (lv' := []) [] rfl ?_
    refine wa_iconst X dL_bid_29 kc3 ?_
    exact wa_ireturn X E dL_bid_30 (Nat.le_of_ble_eq_true rfl) (Nat.le_of_ble_eq_true rfl) (Or.inl rfl) ⟨hw, _, rfl, hv⟩

def m_L_withdraw (a2 : Int32) (a3 : Int32) (S : hs_S) (Q : Int32 → hs_S → Prop) : Prop := hs_M 8 yL_withdraw (.codeWith yL_withdraw cL_withdraw 5 (some FieldType.int) [(0, 10, 13, 13), (0, 10, 17, 15)]) [.inr (.inr (10, 1)), .inl a2, .inl a3, .inr (.inr (100, 1))] S 3 18 (hs_qI Q) hs_nX
def vc_L_withdraw (a2 : Int32) (a3 : Int32) (S : hs_S) (Q : Int32 → hs_S → Prop) : Prop := (hs_Wi S → m_C_withdraw a2 a3 S (fun r2 S1 => (∀ S5 : hs_S, S5 = (hs_wL S1 100 1 (0 : Int32).toNatClampNeg r2.toInt64) → (Q (0 : Int32) S5))) (fun E4 S3 => (E4 = "java/lang/IndexOutOfBoundsException" ∧ (Q (1 : Int32) S3)) ∨ (E4 = "java/lang/IllegalStateException" ∧ (Q (2 : Int32) S3))))
set_option maxRecDepth 100000 in
set_option maxHeartbeats 4000000 in
theorem ok_L_withdraw {a2 : Int32} {a3 : Int32} {S : hs_S} {Q : Int32 → hs_S → Prop} (hw : hs_Wi S) (hv : vc_L_withdraw a2 a3 S Q) : m_L_withdraw a2 a3 S Q := by
  unfold vc_L_withdraw at hv
  refine hs_bodyH (own := RL) rfl rfl (Nat.le_of_ble_eq_true rfl) (fun Z X E hH => ?_)
  show wa Z 0 0 S 0 [(0, .inr (.inr (10, 1))), (1, .inl a2), (2, .inl a3), (3, .inr (.inr (100, 1)))] []
  refine wa_aload_n X 3 rfl dL_withdraw_0 rfl ?_
  refine wa_iconst X dL_withdraw_1 kc0 ?_
  refine wa_aload_n X 0 rfl dL_withdraw_2 rfl ?_
  refine wa_iload_n X 1 rfl dL_withdraw_3 rfl ?_
  refine wa_iload_n X 2 rfl dL_withdraw_4 rfl ?_
  refine wa_callV X (As := [.inl a2, .inl a3]) (hv hw) hk_10 hc_10 rfl kw_971 kw_54 kw_968 kw_969 kw_970 nd_X10_withdraw rfl rfl (Nat.le_of_ble_eq_true rfl) dL_withdraw_5 hs_1ne ⟨⟨Nat.le_of_ble_eq_true rfl, Nat.le_of_ble_eq_true rfl⟩, Nat.le_of_ble_eq_true rfl, Nat.le_of_ble_eq_true rfl⟩ (fun v S1 h => ?_) (fun E4 S3 h => ?_)
  obtain ⟨hw, r2, rfl, hv⟩ := h
  refine wa_i2l X dL_withdraw_8 ?_
  refine wa_last X hk_100 dL_withdraw_9 hs_1ne (by decide) (hs_eqS fun S5 hS5 => ?_)
  replace hv := hv S5 hS5
  replace hw : hs_Wi S5 := hS5 ▸ hs_Wi_L hw
  refine wa_goto X (tgt := 21) dL_withdraw_10 (by decide) ?_
  refine wa_iconst X dL_withdraw_21 kc0 ?_
  exact wa_ireturn X E dL_withdraw_22 (Nat.le_of_ble_eq_true rfl) (Nat.le_of_ble_eq_true rfl) (Or.inl rfl) ⟨hw, _, rfl, hv⟩
  obtain ⟨hw, h⟩ := h
  rcases h with ⟨rfl, hv⟩ | ⟨rfl, hv⟩
  · refine wx_catch X hH [] ⟨0, 10, 13, 13⟩ [⟨0, 10, 17, 15⟩] rfl (fun _ h => nomatch h) (by decide) (by decide) kw_395 kw_406 dL_withdraw_13 (by decide) ?_
    refine wa_lv (lv' := []) [] rfl ?_
    refine wa_iconst X dL_withdraw_15 kc1 ?_
    exact wa_ireturn X E dL_withdraw_16 (Nat.le_of_ble_eq_true rfl) (Nat.le_of_ble_eq_true rfl) (Or.inl rfl) ⟨hw, _, rfl, hv⟩
  · refine wx_catch X hH [⟨0, 10, 13, 13⟩] ⟨0, 10, 17, 15⟩ [] rfl (List.forall_mem_cons.mpr ⟨⟨by decide, _, kw_395, by simp [hs_nc]⟩, fun _ h => nomatch h⟩) (by decide) (by decide) kw_396 kw_486 dL_withdraw_17 (by decide) ?_
    refine wa_lv (lv' := []) [] rfl ?_
    refine wa_iconst X dL_withdraw_19 kc2 ?_
    exact wa_ireturn X E dL_withdraw_20 (Nat.le_of_ble_eq_true rfl) (Nat.le_of_ble_eq_true rfl) (Or.inl rfl) ⟨hw, _, rfl, hv⟩

def m_L_share (a2 : Int32) (a3 : Int32) (S : hs_S) (Q : Int32 → hs_S → Prop) : Prop := hs_M 8 yL_share (.codeWith yL_share cL_share 5 (some FieldType.int) [(0, 17, 20, 13)]) [.inr (.inr (10, 1)), .inl a2, .inl a3, .inr (.inr (100, 1))] S 1 6 (hs_qI Q) hs_nX
def vc_L_share (a2 : Int32) (a3 : Int32) (S : hs_S) (Q : Int32 → hs_S → Prop) : Prop := (hs_Wi S → m_C_share a2 a3 S (fun r2 S1 => ((r2 = 0 → (∀ S6 : hs_S, S6 = (hs_wL S1 100 1 (0 : Int32).toNatClampNeg (0 : Int64)) → (Q (0 : Int32) S6))) ∧ (¬ r2 = 0 → (∀ S7 : hs_S, S7 = (hs_wL S1 100 1 (0 : Int32).toNatClampNeg (1 : Int64)) → (Q (0 : Int32) S7))))) (fun E4 S3 => (E4 = "java/lang/IndexOutOfBoundsException" ∧ (Q (1 : Int32) S3))))
set_option maxRecDepth 100000 in
set_option maxHeartbeats 4000000 in
theorem ok_L_share {a2 : Int32} {a3 : Int32} {S : hs_S} {Q : Int32 → hs_S → Prop} (hw : hs_Wi S) (hv : vc_L_share a2 a3 S Q) : m_L_share a2 a3 S Q := by
  unfold vc_L_share at hv
  refine hs_bodyH (own := RL) rfl rfl (Nat.le_of_ble_eq_true rfl) (fun Z X E hH => ?_)
  show wa Z 0 0 S 0 [(0, .inr (.inr (10, 1))), (1, .inl a2), (2, .inl a3), (3, .inr (.inr (100, 1)))] []
  refine wa_aload_n X 3 rfl dL_share_0 rfl ?_
  refine wa_iconst X dL_share_1 kc0 ?_
  refine wa_aload_n X 0 rfl dL_share_2 rfl ?_
  refine wa_iload_n X 1 rfl dL_share_3 rfl ?_
  refine wa_iload_n X 2 rfl dL_share_4 rfl ?_
  refine wa_callV X (As := [.inl a2, .inl a3]) (hv hw) hk_10 hc_10 rfl kw_991 kw_54 kw_988 kw_989 kw_990 nd_X10_share rfl rfl (Nat.le_of_ble_eq_true rfl) dL_share_5 hs_1ne ⟨⟨Nat.le_of_ble_eq_true rfl, Nat.le_of_ble_eq_true rfl⟩, Nat.le_of_ble_eq_true rfl, Nat.le_of_ble_eq_true rfl⟩ (fun v S1 h => ?_) (fun E4 S3 h => ?_)
  obtain ⟨hw, r2, rfl, hv⟩ := h
  refine wa_if_eq X (tgt := 15) dL_share_8 (by decide) (fun c5 => ?_) (fun c5 => ?_)
  · replace hv := hv.1 c5
    refine wa_lconst X dL_share_15 kl0 ?_
    refine wa_last X hk_100 dL_share_16 hs_1ne (by decide) (hs_eqS fun S6 hS6 => ?_)
    replace hv := hv S6 hS6
    replace hw : hs_Wi S6 := hS6 ▸ hs_Wi_L hw
    refine wa_goto X (tgt := 24) dL_share_17 (by decide) ?_
    refine wa_iconst X dL_share_24 kc0 ?_
    exact wa_ireturn X E dL_share_25 (Nat.le_of_ble_eq_true rfl) (Nat.le_of_ble_eq_true rfl) (Or.inl rfl) ⟨hw, _, rfl, hv⟩
  · replace hv := hv.2 c5
    refine wa_lconst X dL_share_11 kl1 ?_
    refine wa_goto X (tgt := 16) dL_share_12 (by decide) ?_
    refine wa_last X hk_100 dL_share_16 hs_1ne (by decide) (hs_eqS fun S7 hS7 => ?_)
    replace hv := hv S7 hS7
    replace hw : hs_Wi S7 := hS7 ▸ hs_Wi_L hw
    refine wa_goto X (tgt := 24) dL_share_17 (by decide) ?_
    refine wa_iconst X dL_share_24 kc0 ?_
    exact wa_ireturn X E dL_share_25 (Nat.le_of_ble_eq_true rfl) (Nat.le_of_ble_eq_true rfl) (Or.inl rfl) ⟨hw, _, rfl, hv⟩
  obtain ⟨hw, h⟩ := h
  obtain ⟨rfl, hv⟩ := h
  · refine wx_catch X hH [] ⟨0, 17, 20, 13⟩ [] rfl (fun _ h => nomatch h) (by decide) (by decide) kw_395 kw_406 dL_share_20 (by decide) ?_
    refine wa_lv (lv' := []) [] rfl ?_
    refine wa_iconst X dL_share_22 kc1 ?_
    exact wa_ireturn X E dL_share_23 (Nat.le_of_ble_eq_true rfl) (Nat.le_of_ble_eq_true rfl) (Or.inl rfl) ⟨hw, _, rfl, hv⟩

def m_L_bell (a2 : Int32) (S : hs_S) (Q : Int32 → hs_S → Prop) : Prop := hs_M 55 yL_bell (.codeWith yL_bell cL_bell 4 (some FieldType.int) [(0, 9, 12, 13), (0, 9, 15, 15)]) [.inr (.inr (10, 1)), .inl a2, .inr (.inr (100, 1))] S 6 225 (hs_qI Q) hs_nX
def vc_L_bell (a2 : Int32) (S : hs_S) (Q : Int32 → hs_S → Prop) : Prop := (hs_Wi S → m_C_bell a2 S (fun r2 S1 => (∀ S5 : hs_S, S5 = (hs_wL S1 100 1 (0 : Int32).toNatClampNeg r2.toInt64) → (Q (0 : Int32) S5))) (fun E4 S3 => (E4 = "java/lang/IndexOutOfBoundsException" ∧ (Q (1 : Int32) S3)) ∨ (E4 = "java/lang/IllegalStateException" ∧ (Q (2 : Int32) S3))))
set_option maxRecDepth 100000 in
set_option maxHeartbeats 4000000 in
theorem ok_L_bell {a2 : Int32} {S : hs_S} {Q : Int32 → hs_S → Prop} (hw : hs_Wi S) (hv : vc_L_bell a2 S Q) : m_L_bell a2 S Q := by
  unfold vc_L_bell at hv
  refine hs_bodyH (own := RL) rfl rfl (Nat.le_of_ble_eq_true rfl) (fun Z X E hH => ?_)
  show wa Z 0 0 S 0 [(0, .inr (.inr (10, 1))), (1, .inl a2), (2, .inr (.inr (100, 1)))] []
  refine wa_aload_n X 2 rfl dL_bell_0 rfl ?_
  refine wa_iconst X dL_bell_1 kc0 ?_
  refine wa_aload_n X 0 rfl dL_bell_2 rfl ?_
  refine wa_iload_n X 1 rfl dL_bell_3 rfl ?_
  refine wa_callV X (As := [.inl a2]) (hv hw) hk_10 hc_10 rfl kw_998 kw_54 kw_995 kw_996 kw_997 nd_X10_bell rfl rfl (Nat.le_of_ble_eq_true rfl) dL_bell_4 hs_1ne ⟨⟨Nat.le_of_ble_eq_true rfl, Nat.le_of_ble_eq_true rfl⟩, Nat.le_of_ble_eq_true rfl, Nat.le_of_ble_eq_true rfl⟩ (fun v S1 h => ?_) (fun E4 S3 h => ?_)
  obtain ⟨hw, r2, rfl, hv⟩ := h
  refine wa_i2l X dL_bell_7 ?_
  refine wa_last X hk_100 dL_bell_8 hs_1ne (by decide) (hs_eqS fun S5 hS5 => ?_)
  replace hv := hv S5 hS5
  replace hw : hs_Wi S5 := hS5 ▸ hs_Wi_L hw
  refine wa_goto X (tgt := 18) dL_bell_9 (by decide) ?_
  refine wa_iconst X dL_bell_18 kc0 ?_
  exact wa_ireturn X E dL_bell_19 (Nat.le_of_ble_eq_true rfl) (Nat.le_of_ble_eq_true rfl) (Or.inl rfl) ⟨hw, _, rfl, hv⟩
  obtain ⟨hw, h⟩ := h
  rcases h with ⟨rfl, hv⟩ | ⟨rfl, hv⟩
  · refine wx_catchN X hH [] ⟨0, 9, 12, 13⟩ [⟨0, 9, 15, 15⟩] rfl (fun _ h => nomatch h) (by decide) (by decide) kw_395 kw_406 dL_bell_12 rfl (by decide) ?_
    refine wa_lv (lv' := []) [] rfl ?_
    refine wa_iconst X dL_bell_13 kc1 ?_
    exact wa_ireturn X E dL_bell_14 (Nat.le_of_ble_eq_true rfl) (Nat.le_of_ble_eq_true rfl) (Or.inl rfl) ⟨hw, _, rfl, hv⟩
  · refine wx_catchN X hH [⟨0, 9, 12, 13⟩] ⟨0, 9, 15, 15⟩ [] rfl (List.forall_mem_cons.mpr ⟨⟨by decide, _, kw_395, by simp [hs_nc]⟩, fun _ h => nomatch h⟩) (by decide) (by decide) kw_396 kw_486 dL_bell_15 rfl (by decide) ?_
    refine wa_lv (lv' := []) [] rfl ?_
    refine wa_iconst X dL_bell_16 kc2 ?_
    exact wa_ireturn X E dL_bell_17 (Nat.le_of_ble_eq_true rfl) (Nat.le_of_ble_eq_true rfl) (Or.inl rfl) ⟨hw, _, rfl, hv⟩

def m_L_isFrozen (a2 : Int32) (S : hs_S) (Q : Int32 → hs_S → Prop) : Prop := hs_M 8 yL_isFrozen (.codeWith yL_isFrozen cL_isFrozen 4 (some FieldType.int) [(0, 16, 19, 13)]) [.inr (.inr (10, 1)), .inl a2, .inr (.inr (100, 1))] S 1 6 (hs_qI Q) hs_nX
def vc_L_isFrozen (a2 : Int32) (S : hs_S) (Q : Int32 → hs_S → Prop) : Prop := (hs_Wi S → m_C_isFrozen a2 S (fun r2 S1 => ((r2 = 0 → (∀ S6 : hs_S, S6 = (hs_wL S1 100 1 (0 : Int32).toNatClampNeg (0 : Int64)) → (Q (0 : Int32) S6))) ∧ (¬ r2 = 0 → (∀ S7 : hs_S, S7 = (hs_wL S1 100 1 (0 : Int32).toNatClampNeg (1 : Int64)) → (Q (0 : Int32) S7))))) (fun E4 S3 => (E4 = "java/lang/IndexOutOfBoundsException" ∧ (Q (1 : Int32) S3))))
set_option maxRecDepth 100000 in
set_option maxHeartbeats 4000000 in
theorem ok_L_isFrozen {a2 : Int32} {S : hs_S} {Q : Int32 → hs_S → Prop} (hw : hs_Wi S) (hv : vc_L_isFrozen a2 S Q) : m_L_isFrozen a2 S Q := by
  unfold vc_L_isFrozen at hv
  refine hs_bodyH (own := RL) rfl rfl (Nat.le_of_ble_eq_true rfl) (fun Z X E hH => ?_)
  show wa Z 0 0 S 0 [(0, .inr (.inr (10, 1))), (1, .inl a2), (2, .inr (.inr (100, 1)))] []
  refine wa_aload_n X 2 rfl dL_isFrozen_0 rfl ?_
  refine wa_iconst X dL_isFrozen_1 kc0 ?_
  refine wa_aload_n X 0 rfl dL_isFrozen_2 rfl ?_
  refine wa_iload_n X 1 rfl dL_isFrozen_3 rfl ?_
  refine wa_callV X (As := [.inl a2]) (hv hw) hk_10 hc_10 rfl kw_1070 kw_54 kw_1067 kw_1068 kw_1069 nd_X10_isFrozen rfl rfl (Nat.le_of_ble_eq_true rfl) dL_isFrozen_4 hs_1ne ⟨⟨Nat.le_of_ble_eq_true rfl, Nat.le_of_ble_eq_true rfl⟩, Nat.le_of_ble_eq_true rfl, Nat.le_of_ble_eq_true rfl⟩ (fun v S1 h => ?_) (fun E4 S3 h => ?_)
  obtain ⟨hw, r2, rfl, hv⟩ := h
  refine wa_if_eq X (tgt := 14) dL_isFrozen_7 (by decide) (fun c5 => ?_) (fun c5 => ?_)
  · replace hv := hv.1 c5
    refine wa_lconst X dL_isFrozen_14 kl0 ?_
    refine wa_last X hk_100 dL_isFrozen_15 hs_1ne (by decide) (hs_eqS fun S6 hS6 => ?_)
    replace hv := hv S6 hS6
    replace hw : hs_Wi S6 := hS6 ▸ hs_Wi_L hw
    refine wa_goto X (tgt := 22) dL_isFrozen_16 (by decide) ?_
    refine wa_iconst X dL_isFrozen_22 kc0 ?_
    exact wa_ireturn X E dL_isFrozen_23 (Nat.le_of_ble_eq_true rfl) (Nat.le_of_ble_eq_true rfl) (Or.inl rfl) ⟨hw, _, rfl, hv⟩
  · replace hv := hv.2 c5
    refine wa_lconst X dL_isFrozen_10 kl1 ?_
    refine wa_goto X (tgt := 15) dL_isFrozen_11 (by decide) ?_
    refine wa_last X hk_100 dL_isFrozen_15 hs_1ne (by decide) (hs_eqS fun S7 hS7 => ?_)
    replace hv := hv S7 hS7
    replace hw : hs_Wi S7 := hS7 ▸ hs_Wi_L hw
    refine wa_goto X (tgt := 22) dL_isFrozen_16 (by decide) ?_
    refine wa_iconst X dL_isFrozen_22 kc0 ?_
    exact wa_ireturn X E dL_isFrozen_23 (Nat.le_of_ble_eq_true rfl) (Nat.le_of_ble_eq_true rfl) (Or.inl rfl) ⟨hw, _, rfl, hv⟩
  obtain ⟨hw, h⟩ := h
  obtain ⟨rfl, hv⟩ := h
  · refine wx_catchN X hH [] ⟨0, 16, 19, 13⟩ [] rfl (fun _ h => nomatch h) (by decide) (by decide) kw_395 kw_406 dL_isFrozen_19 rfl (by decide) ?_
    refine wa_lv (lv' := []) [] rfl ?_
    refine wa_iconst X dL_isFrozen_20 kc1 ?_
    exact wa_ireturn X E dL_isFrozen_21 (Nat.le_of_ble_eq_true rfl) (Nat.le_of_ble_eq_true rfl) (Or.inl rfl) ⟨hw, _, rfl, hv⟩

def m_L_round (a2 : Int32) (a3 : Int32) (S : hs_S) (Q : Int32 → hs_S → Prop) : Prop := hs_M 8 yL_round (.codeWith yL_round cL_round 5 (some FieldType.int) [(0, 10, 13, 13), (0, 10, 17, 21)]) [.inr (.inr (10, 1)), .inl a2, .inl a3, .inr (.inr (100, 1))] S 2 12 (hs_qI Q) hs_nX
def vc_L_round (a2 : Int32) (a3 : Int32) (S : hs_S) (Q : Int32 → hs_S → Prop) : Prop := (hs_Wi S → m_C_round a2 a3 S (fun r2 S1 => (∀ S5 : hs_S, S5 = (hs_wL S1 100 1 (0 : Int32).toNatClampNeg r2.toInt64) → (Q (0 : Int32) S5))) (fun E4 S3 => (E4 = "java/lang/IndexOutOfBoundsException" ∧ (Q (1 : Int32) S3)) ∨ (E4 = "java/lang/IllegalArgumentException" ∧ (Q (2 : Int32) S3))))
set_option maxRecDepth 100000 in
set_option maxHeartbeats 4000000 in
theorem ok_L_round {a2 : Int32} {a3 : Int32} {S : hs_S} {Q : Int32 → hs_S → Prop} (hw : hs_Wi S) (hv : vc_L_round a2 a3 S Q) : m_L_round a2 a3 S Q := by
  unfold vc_L_round at hv
  refine hs_bodyH (own := RL) rfl rfl (Nat.le_of_ble_eq_true rfl) (fun Z X E hH => ?_)
  show wa Z 0 0 S 0 [(0, .inr (.inr (10, 1))), (1, .inl a2), (2, .inl a3), (3, .inr (.inr (100, 1)))] []
  refine wa_aload_n X 3 rfl dL_round_0 rfl ?_
  refine wa_iconst X dL_round_1 kc0 ?_
  refine wa_aload_n X 0 rfl dL_round_2 rfl ?_
  refine wa_iload_n X 1 rfl dL_round_3 rfl ?_
  refine wa_iload_n X 2 rfl dL_round_4 rfl ?_
  refine wa_callV X (As := [.inl a2, .inl a3]) (hv hw) hk_10 hc_10 rfl kw_1077 kw_54 kw_1074 kw_1075 kw_1076 nd_X10_round rfl rfl (Nat.le_of_ble_eq_true rfl) dL_round_5 hs_1ne ⟨⟨Nat.le_of_ble_eq_true rfl, Nat.le_of_ble_eq_true rfl⟩, Nat.le_of_ble_eq_true rfl, Nat.le_of_ble_eq_true rfl⟩ (fun v S1 h => ?_) (fun E4 S3 h => ?_)
  obtain ⟨hw, r2, rfl, hv⟩ := h
  refine wa_i2l X dL_round_8 ?_
  refine wa_last X hk_100 dL_round_9 hs_1ne (by decide) (hs_eqS fun S5 hS5 => ?_)
  replace hv := hv S5 hS5
  replace hw : hs_Wi S5 := hS5 ▸ hs_Wi_L hw
  refine wa_goto X (tgt := 21) dL_round_10 (by decide) ?_
  refine wa_iconst X dL_round_21 kc0 ?_
  exact wa_ireturn X E dL_round_22 (Nat.le_of_ble_eq_true rfl) (Nat.le_of_ble_eq_true rfl) (Or.inl rfl) ⟨hw, _, rfl, hv⟩
  obtain ⟨hw, h⟩ := h
  rcases h with ⟨rfl, hv⟩ | ⟨rfl, hv⟩
  · refine wx_catch X hH [] ⟨0, 10, 13, 13⟩ [⟨0, 10, 17, 21⟩] rfl (fun _ h => nomatch h) (by decide) (by decide) kw_395 kw_406 dL_round_13 (by decide) ?_
    refine wa_lv (lv' := []) [] rfl ?_
    refine wa_iconst X dL_round_15 kc1 ?_
    exact wa_ireturn X E dL_round_16 (Nat.le_of_ble_eq_true rfl) (Nat.le_of_ble_eq_true rfl) (Or.inl rfl) ⟨hw, _, rfl, hv⟩
  · refine wx_catch X hH [⟨0, 10, 13, 13⟩] ⟨0, 10, 17, 21⟩ [] rfl (List.forall_mem_cons.mpr ⟨⟨by decide, _, kw_395, by simp [hs_nc]⟩, fun _ h => nomatch h⟩) (by decide) (by decide) kw_507 kw_514 dL_round_17 (by decide) ?_
    refine wa_lv (lv' := []) [] rfl ?_
    refine wa_iconst X dL_round_19 kc2 ?_
    exact wa_ireturn X E dL_round_20 (Nat.le_of_ble_eq_true rfl) (Nat.le_of_ble_eq_true rfl) (Or.inl rfl) ⟨hw, _, rfl, hv⟩

def m_L_priceAnew (a2 : Int32) (S : hs_S) (Q : Int32 → hs_S → Prop) : Prop := hs_M 55 yL_priceAnew (.codeWith yL_priceAnew cL_priceAnew 4 (some FieldType.int) [(0, 9, 12, 13)]) [.inr (.inr (10, 1)), .inl a2, .inr (.inr (100, 1))] S 1 6 (hs_qI Q) hs_nX
def vc_L_priceAnew (a2 : Int32) (S : hs_S) (Q : Int32 → hs_S → Prop) : Prop := (hs_Wi S → m_C_priceAnew a2 S (fun r2 S1 => (∀ S5 : hs_S, S5 = (hs_wL S1 100 1 (0 : Int32).toNatClampNeg r2.toInt64) → (Q (0 : Int32) S5))) (fun E4 S3 => (E4 = "java/lang/IndexOutOfBoundsException" ∧ (Q (1 : Int32) S3))))
set_option maxRecDepth 100000 in
set_option maxHeartbeats 4000000 in
theorem ok_L_priceAnew {a2 : Int32} {S : hs_S} {Q : Int32 → hs_S → Prop} (hw : hs_Wi S) (hv : vc_L_priceAnew a2 S Q) : m_L_priceAnew a2 S Q := by
  unfold vc_L_priceAnew at hv
  refine hs_bodyH (own := RL) rfl rfl (Nat.le_of_ble_eq_true rfl) (fun Z X E hH => ?_)
  show wa Z 0 0 S 0 [(0, .inr (.inr (10, 1))), (1, .inl a2), (2, .inr (.inr (100, 1)))] []
  refine wa_aload_n X 2 rfl dL_priceAnew_0 rfl ?_
  refine wa_iconst X dL_priceAnew_1 kc0 ?_
  refine wa_aload_n X 0 rfl dL_priceAnew_2 rfl ?_
  refine wa_iload_n X 1 rfl dL_priceAnew_3 rfl ?_
  refine wa_callV X (As := [.inl a2]) (hv hw) hk_10 hc_10 rfl kw_1094 kw_54 kw_1091 kw_1092 kw_1093 nd_X10_priceAnew rfl rfl (Nat.le_of_ble_eq_true rfl) dL_priceAnew_4 hs_1ne ⟨⟨Nat.le_of_ble_eq_true rfl, Nat.le_of_ble_eq_true rfl⟩, Nat.le_of_ble_eq_true rfl, Nat.le_of_ble_eq_true rfl⟩ (fun v S1 h => ?_) (fun E4 S3 h => ?_)
  obtain ⟨hw, r2, rfl, hv⟩ := h
  refine wa_i2l X dL_priceAnew_7 ?_
  refine wa_last X hk_100 dL_priceAnew_8 hs_1ne (by decide) (hs_eqS fun S5 hS5 => ?_)
  replace hv := hv S5 hS5
  replace hw : hs_Wi S5 := hS5 ▸ hs_Wi_L hw
  refine wa_goto X (tgt := 15) dL_priceAnew_9 (by decide) ?_
  refine wa_iconst X dL_priceAnew_15 kc0 ?_
  exact wa_ireturn X E dL_priceAnew_16 (Nat.le_of_ble_eq_true rfl) (Nat.le_of_ble_eq_true rfl) (Or.inl rfl) ⟨hw, _, rfl, hv⟩
  obtain ⟨hw, h⟩ := h
  obtain ⟨rfl, hv⟩ := h
  · refine wx_catchN X hH [] ⟨0, 9, 12, 13⟩ [] rfl (fun _ h => nomatch h) (by decide) (by decide) kw_395 kw_406 dL_priceAnew_12 rfl (by decide) ?_
    refine wa_lv (lv' := []) [] rfl ?_
    refine wa_iconst X dL_priceAnew_13 kc1 ?_
    exact wa_ireturn X E dL_priceAnew_14 (Nat.le_of_ble_eq_true rfl) (Nat.le_of_ble_eq_true rfl) (Or.inl rfl) ⟨hw, _, rfl, hv⟩

def m_L_got (a2 : Int32) (S : hs_S) (Q : Int32 → hs_S → Prop) : Prop := hs_M 8 yL_got (.codeWith yL_got cL_got 4 (some FieldType.int) [(0, 9, 12, 13)]) [.inr (.inr (10, 1)), .inl a2, .inr (.inr (100, 1))] S 1 6 (hs_qI Q) hs_nX
def vc_L_got (a2 : Int32) (S : hs_S) (Q : Int32 → hs_S → Prop) : Prop := (hs_Wi S → m_C_got a2 S (fun r2 S1 => (∀ S5 : hs_S, S5 = (hs_wL S1 100 1 (0 : Int32).toNatClampNeg r2.toInt64) → (Q (0 : Int32) S5))) (fun E4 S3 => (E4 = "java/lang/IndexOutOfBoundsException" ∧ (Q (1 : Int32) S3))))
set_option maxRecDepth 100000 in
set_option maxHeartbeats 4000000 in
theorem ok_L_got {a2 : Int32} {S : hs_S} {Q : Int32 → hs_S → Prop} (hw : hs_Wi S) (hv : vc_L_got a2 S Q) : m_L_got a2 S Q := by
  unfold vc_L_got at hv
  refine hs_bodyH (own := RL) rfl rfl (Nat.le_of_ble_eq_true rfl) (fun Z X E hH => ?_)
  show wa Z 0 0 S 0 [(0, .inr (.inr (10, 1))), (1, .inl a2), (2, .inr (.inr (100, 1)))] []
  refine wa_aload_n X 2 rfl dL_got_0 rfl ?_
  refine wa_iconst X dL_got_1 kc0 ?_
  refine wa_aload_n X 0 rfl dL_got_2 rfl ?_
  refine wa_iload_n X 1 rfl dL_got_3 rfl ?_
  refine wa_callV X (As := [.inl a2]) (hv hw) hk_10 hc_10 rfl kw_1101 kw_54 kw_1098 kw_1099 kw_1100 nd_X10_got rfl rfl (Nat.le_of_ble_eq_true rfl) dL_got_4 hs_1ne ⟨⟨Nat.le_of_ble_eq_true rfl, Nat.le_of_ble_eq_true rfl⟩, Nat.le_of_ble_eq_true rfl, Nat.le_of_ble_eq_true rfl⟩ (fun v S1 h => ?_) (fun E4 S3 h => ?_)
  obtain ⟨hw, r2, rfl, hv⟩ := h
  refine wa_i2l X dL_got_7 ?_
  refine wa_last X hk_100 dL_got_8 hs_1ne (by decide) (hs_eqS fun S5 hS5 => ?_)
  replace hv := hv S5 hS5
  replace hw : hs_Wi S5 := hS5 ▸ hs_Wi_L hw
  refine wa_goto X (tgt := 15) dL_got_9 (by decide) ?_
  refine wa_iconst X dL_got_15 kc0 ?_
  exact wa_ireturn X E dL_got_16 (Nat.le_of_ble_eq_true rfl) (Nat.le_of_ble_eq_true rfl) (Or.inl rfl) ⟨hw, _, rfl, hv⟩
  obtain ⟨hw, h⟩ := h
  obtain ⟨rfl, hv⟩ := h
  · refine wx_catchN X hH [] ⟨0, 9, 12, 13⟩ [] rfl (fun _ h => nomatch h) (by decide) (by decide) kw_395 kw_406 dL_got_12 rfl (by decide) ?_
    refine wa_lv (lv' := []) [] rfl ?_
    refine wa_iconst X dL_got_13 kc1 ?_
    exact wa_ireturn X E dL_got_14 (Nat.le_of_ble_eq_true rfl) (Nat.le_of_ble_eq_true rfl) (Or.inl rfl) ⟨hw, _, rfl, hv⟩

def m_L_due (a2 : Int32) (a3 : Int32) (S : hs_S) (Q : Int32 → hs_S → Prop) : Prop := hs_M 8 yL_due (.codeWith yL_due cL_due 5 (some FieldType.int) [(0, 10, 13, 13)]) [.inr (.inr (10, 1)), .inl a2, .inl a3, .inr (.inr (100, 1))] S 2 12 (hs_qI Q) hs_nX
def vc_L_due (a2 : Int32) (a3 : Int32) (S : hs_S) (Q : Int32 → hs_S → Prop) : Prop := (hs_Wi S → m_C_due a2 a3 S (fun r2 S1 => (∀ S5 : hs_S, S5 = (hs_wL S1 100 1 (0 : Int32).toNatClampNeg r2.toInt64) → (Q (0 : Int32) S5))) (fun E4 S3 => (E4 = "java/lang/IndexOutOfBoundsException" ∧ (Q (1 : Int32) S3))))
set_option maxRecDepth 100000 in
set_option maxHeartbeats 4000000 in
theorem ok_L_due {a2 : Int32} {a3 : Int32} {S : hs_S} {Q : Int32 → hs_S → Prop} (hw : hs_Wi S) (hv : vc_L_due a2 a3 S Q) : m_L_due a2 a3 S Q := by
  unfold vc_L_due at hv
  refine hs_bodyH (own := RL) rfl rfl (Nat.le_of_ble_eq_true rfl) (fun Z X E hH => ?_)
  show wa Z 0 0 S 0 [(0, .inr (.inr (10, 1))), (1, .inl a2), (2, .inl a3), (3, .inr (.inr (100, 1)))] []
  refine wa_aload_n X 3 rfl dL_due_0 rfl ?_
  refine wa_iconst X dL_due_1 kc0 ?_
  refine wa_aload_n X 0 rfl dL_due_2 rfl ?_
  refine wa_iload_n X 1 rfl dL_due_3 rfl ?_
  refine wa_iload_n X 2 rfl dL_due_4 rfl ?_
  refine wa_callV X (As := [.inl a2, .inl a3]) (hv hw) hk_10 hc_10 rfl kw_1108 kw_54 kw_1105 kw_1106 kw_1107 nd_X10_due rfl rfl (Nat.le_of_ble_eq_true rfl) dL_due_5 hs_1ne ⟨⟨Nat.le_of_ble_eq_true rfl, Nat.le_of_ble_eq_true rfl⟩, Nat.le_of_ble_eq_true rfl, Nat.le_of_ble_eq_true rfl⟩ (fun v S1 h => ?_) (fun E4 S3 h => ?_)
  obtain ⟨hw, r2, rfl, hv⟩ := h
  refine wa_i2l X dL_due_8 ?_
  refine wa_last X hk_100 dL_due_9 hs_1ne (by decide) (hs_eqS fun S5 hS5 => ?_)
  replace hv := hv S5 hS5
  replace hw : hs_Wi S5 := hS5 ▸ hs_Wi_L hw
  refine wa_goto X (tgt := 17) dL_due_10 (by decide) ?_
  refine wa_iconst X dL_due_17 kc0 ?_
  exact wa_ireturn X E dL_due_18 (Nat.le_of_ble_eq_true rfl) (Nat.le_of_ble_eq_true rfl) (Or.inl rfl) ⟨hw, _, rfl, hv⟩
  obtain ⟨hw, h⟩ := h
  obtain ⟨rfl, hv⟩ := h
  · refine wx_catch X hH [] ⟨0, 10, 13, 13⟩ [] rfl (fun _ h => nomatch h) (by decide) (by decide) kw_395 kw_406 dL_due_13 (by decide) ?_
    refine wa_lv (lv' := []) [] rfl ?_
    refine wa_iconst X dL_due_15 kc1 ?_
    exact wa_ireturn X E dL_due_16 (Nat.le_of_ble_eq_true rfl) (Nat.le_of_ble_eq_true rfl) (Or.inl rfl) ⟨hw, _, rfl, hv⟩

def m_L_settle (a2 : Int32) (S : hs_S) (Q : Int32 → hs_S → Prop) : Prop := hs_M 9 yL_settle (.codeWith yL_settle cL_settle 4 (some FieldType.int) [(0, 9, 12, 13)]) [.inr (.inr (10, 1)), .inl a2, .inr (.inr (100, 1))] S 1 6 (hs_qI Q) hs_nX
def vc_L_settle (a2 : Int32) (S : hs_S) (Q : Int32 → hs_S → Prop) : Prop := (hs_Wi S → m_C_settle a2 S (fun r2 S1 => (∀ S5 : hs_S, S5 = (hs_wL S1 100 1 (0 : Int32).toNatClampNeg r2.toInt64) → (Q (0 : Int32) S5))) (fun E4 S3 => (E4 = "java/lang/IndexOutOfBoundsException" ∧ (Q (1 : Int32) S3))))
set_option maxRecDepth 100000 in
set_option maxHeartbeats 4000000 in
theorem ok_L_settle {a2 : Int32} {S : hs_S} {Q : Int32 → hs_S → Prop} (hw : hs_Wi S) (hv : vc_L_settle a2 S Q) : m_L_settle a2 S Q := by
  unfold vc_L_settle at hv
  refine hs_bodyH (own := RL) rfl rfl (Nat.le_of_ble_eq_true rfl) (fun Z X E hH => ?_)
  show wa Z 0 0 S 0 [(0, .inr (.inr (10, 1))), (1, .inl a2), (2, .inr (.inr (100, 1)))] []
  refine wa_aload_n X 2 rfl dL_settle_0 rfl ?_
  refine wa_iconst X dL_settle_1 kc0 ?_
  refine wa_aload_n X 0 rfl dL_settle_2 rfl ?_
  refine wa_iload_n X 1 rfl dL_settle_3 rfl ?_
  refine wa_callV X (As := [.inl a2]) (hv hw) hk_10 hc_10 rfl kw_1116 kw_54 kw_1113 kw_1114 kw_1115 nd_X10_settle rfl rfl (Nat.le_of_ble_eq_true rfl) dL_settle_4 hs_1ne ⟨⟨Nat.le_of_ble_eq_true rfl, Nat.le_of_ble_eq_true rfl⟩, Nat.le_of_ble_eq_true rfl, Nat.le_of_ble_eq_true rfl⟩ (fun v S1 h => ?_) (fun E4 S3 h => ?_)
  obtain ⟨hw, r2, rfl, hv⟩ := h
  refine wa_i2l X dL_settle_7 ?_
  refine wa_last X hk_100 dL_settle_8 hs_1ne (by decide) (hs_eqS fun S5 hS5 => ?_)
  replace hv := hv S5 hS5
  replace hw : hs_Wi S5 := hS5 ▸ hs_Wi_L hw
  refine wa_goto X (tgt := 15) dL_settle_9 (by decide) ?_
  refine wa_iconst X dL_settle_15 kc0 ?_
  exact wa_ireturn X E dL_settle_16 (Nat.le_of_ble_eq_true rfl) (Nat.le_of_ble_eq_true rfl) (Or.inl rfl) ⟨hw, _, rfl, hv⟩
  obtain ⟨hw, h⟩ := h
  obtain ⟨rfl, hv⟩ := h
  · refine wx_catchN X hH [] ⟨0, 9, 12, 13⟩ [] rfl (fun _ h => nomatch h) (by decide) (by decide) kw_395 kw_406 dL_settle_12 rfl (by decide) ?_
    refine wa_lv (lv' := []) [] rfl ?_
    refine wa_iconst X dL_settle_13 kc1 ?_
    exact wa_ireturn X E dL_settle_14 (Nat.le_of_ble_eq_true rfl) (Nat.le_of_ble_eq_true rfl) (Or.inl rfl) ⟨hw, _, rfl, hv⟩

def m_L_cash (a2 : Int32) (S : hs_S) (Q : Int32 → hs_S → Prop) : Prop := hs_M 8 yL_cash (.codeWith yL_cash cL_cash 4 (some FieldType.int) [(0, 9, 12, 13)]) [.inr (.inr (10, 1)), .inl a2, .inr (.inr (100, 1))] S 1 6 (hs_qI Q) hs_nX
def vc_L_cash (a2 : Int32) (S : hs_S) (Q : Int32 → hs_S → Prop) : Prop := (hs_Wi S → m_C_cash a2 S (fun r2 S1 => (∀ S5 : hs_S, S5 = (hs_wL S1 100 1 (0 : Int32).toNatClampNeg r2.toInt64) → (Q (0 : Int32) S5))) (fun E4 S3 => (E4 = "java/lang/IndexOutOfBoundsException" ∧ (Q (1 : Int32) S3))))
set_option maxRecDepth 100000 in
set_option maxHeartbeats 4000000 in
theorem ok_L_cash {a2 : Int32} {S : hs_S} {Q : Int32 → hs_S → Prop} (hw : hs_Wi S) (hv : vc_L_cash a2 S Q) : m_L_cash a2 S Q := by
  unfold vc_L_cash at hv
  refine hs_bodyH (own := RL) rfl rfl (Nat.le_of_ble_eq_true rfl) (fun Z X E hH => ?_)
  show wa Z 0 0 S 0 [(0, .inr (.inr (10, 1))), (1, .inl a2), (2, .inr (.inr (100, 1)))] []
  refine wa_aload_n X 2 rfl dL_cash_0 rfl ?_
  refine wa_iconst X dL_cash_1 kc0 ?_
  refine wa_aload_n X 0 rfl dL_cash_2 rfl ?_
  refine wa_iload_n X 1 rfl dL_cash_3 rfl ?_
  refine wa_callV X (As := [.inl a2]) (hv hw) hk_10 hc_10 rfl kw_1137 kw_54 kw_1134 kw_1135 kw_1136 nd_X10_cash rfl rfl (Nat.le_of_ble_eq_true rfl) dL_cash_4 hs_1ne ⟨⟨Nat.le_of_ble_eq_true rfl, Nat.le_of_ble_eq_true rfl⟩, Nat.le_of_ble_eq_true rfl, Nat.le_of_ble_eq_true rfl⟩ (fun v S1 h => ?_) (fun E4 S3 h => ?_)
  obtain ⟨hw, r2, rfl, hv⟩ := h
  refine wa_i2l X dL_cash_7 ?_
  refine wa_last X hk_100 dL_cash_8 hs_1ne (by decide) (hs_eqS fun S5 hS5 => ?_)
  replace hv := hv S5 hS5
  replace hw : hs_Wi S5 := hS5 ▸ hs_Wi_L hw
  refine wa_goto X (tgt := 15) dL_cash_9 (by decide) ?_
  refine wa_iconst X dL_cash_15 kc0 ?_
  exact wa_ireturn X E dL_cash_16 (Nat.le_of_ble_eq_true rfl) (Nat.le_of_ble_eq_true rfl) (Or.inl rfl) ⟨hw, _, rfl, hv⟩
  obtain ⟨hw, h⟩ := h
  obtain ⟨rfl, hv⟩ := h
  · refine wx_catchN X hH [] ⟨0, 9, 12, 13⟩ [] rfl (fun _ h => nomatch h) (by decide) (by decide) kw_395 kw_406 dL_cash_12 rfl (by decide) ?_
    refine wa_lv (lv' := []) [] rfl ?_
    refine wa_iconst X dL_cash_13 kc1 ?_
    exact wa_ireturn X E dL_cash_14 (Nat.le_of_ble_eq_true rfl) (Nat.le_of_ble_eq_true rfl) (Or.inl rfl) ⟨hw, _, rfl, hv⟩

def m_L_limit (a2 : Int32) (a3 : Int32) (S : hs_S) (Q : Int32 → hs_S → Prop) : Prop := hs_M 8 yL_limit (.codeWith yL_limit cL_limit 5 (some FieldType.int) [(0, 10, 13, 13), (0, 10, 17, 21)]) [.inr (.inr (10, 1)), .inl a2, .inl a3, .inr (.inr (100, 1))] S 2 12 (hs_qI Q) hs_nX
def vc_L_limit (a2 : Int32) (a3 : Int32) (S : hs_S) (Q : Int32 → hs_S → Prop) : Prop := (hs_Wi S → m_C_limit a2 a3 S (fun r2 S1 => (∀ S5 : hs_S, S5 = (hs_wL S1 100 1 (0 : Int32).toNatClampNeg r2.toInt64) → (Q (0 : Int32) S5))) (fun E4 S3 => (E4 = "java/lang/IndexOutOfBoundsException" ∧ (Q (1 : Int32) S3)) ∨ (E4 = "java/lang/IllegalArgumentException" ∧ (Q (2 : Int32) S3))))
set_option maxRecDepth 100000 in
set_option maxHeartbeats 4000000 in
theorem ok_L_limit {a2 : Int32} {a3 : Int32} {S : hs_S} {Q : Int32 → hs_S → Prop} (hw : hs_Wi S) (hv : vc_L_limit a2 a3 S Q) : m_L_limit a2 a3 S Q := by
  unfold vc_L_limit at hv
  refine hs_bodyH (own := RL) rfl rfl (Nat.le_of_ble_eq_true rfl) (fun Z X E hH => ?_)
  show wa Z 0 0 S 0 [(0, .inr (.inr (10, 1))), (1, .inl a2), (2, .inl a3), (3, .inr (.inr (100, 1)))] []
  refine wa_aload_n X 3 rfl dL_limit_0 rfl ?_
  refine wa_iconst X dL_limit_1 kc0 ?_
  refine wa_aload_n X 0 rfl dL_limit_2 rfl ?_
  refine wa_iload_n X 1 rfl dL_limit_3 rfl ?_
  refine wa_iload_n X 2 rfl dL_limit_4 rfl ?_
  refine wa_callV X (As := [.inl a2, .inl a3]) (hv hw) hk_10 hc_10 rfl kw_1144 kw_54 kw_1141 kw_1142 kw_1143 nd_X10_limit rfl rfl (Nat.le_of_ble_eq_true rfl) dL_limit_5 hs_1ne ⟨⟨Nat.le_of_ble_eq_true rfl, Nat.le_of_ble_eq_true rfl⟩, Nat.le_of_ble_eq_true rfl, Nat.le_of_ble_eq_true rfl⟩ (fun v S1 h => ?_) (fun E4 S3 h => ?_)
  obtain ⟨hw, r2, rfl, hv⟩ := h
  refine wa_i2l X dL_limit_8 ?_
  refine wa_last X hk_100 dL_limit_9 hs_1ne (by decide) (hs_eqS fun S5 hS5 => ?_)
  replace hv := hv S5 hS5
  replace hw : hs_Wi S5 := hS5 ▸ hs_Wi_L hw
  refine wa_goto X (tgt := 21) dL_limit_10 (by decide) ?_
  refine wa_iconst X dL_limit_21 kc0 ?_
  exact wa_ireturn X E dL_limit_22 (Nat.le_of_ble_eq_true rfl) (Nat.le_of_ble_eq_true rfl) (Or.inl rfl) ⟨hw, _, rfl, hv⟩
  obtain ⟨hw, h⟩ := h
  rcases h with ⟨rfl, hv⟩ | ⟨rfl, hv⟩
  · refine wx_catch X hH [] ⟨0, 10, 13, 13⟩ [⟨0, 10, 17, 21⟩] rfl (fun _ h => nomatch h) (by decide) (by decide) kw_395 kw_406 dL_limit_13 (by decide) ?_
    refine wa_lv (lv' := []) [] rfl ?_
    refine wa_iconst X dL_limit_15 kc1 ?_
    exact wa_ireturn X E dL_limit_16 (Nat.le_of_ble_eq_true rfl) (Nat.le_of_ble_eq_true rfl) (Or.inl rfl) ⟨hw, _, rfl, hv⟩
  · refine wx_catch X hH [⟨0, 10, 13, 13⟩] ⟨0, 10, 17, 21⟩ [] rfl (List.forall_mem_cons.mpr ⟨⟨by decide, _, kw_395, by simp [hs_nc]⟩, fun _ h => nomatch h⟩) (by decide) (by decide) kw_507 kw_514 dL_limit_17 (by decide) ?_
    refine wa_lv (lv' := []) [] rfl ?_
    refine wa_iconst X dL_limit_19 kc2 ?_
    exact wa_ireturn X E dL_limit_20 (Nat.le_of_ble_eq_true rfl) (Nat.le_of_ble_eq_true rfl) (Or.inl rfl) ⟨hw, _, rfl, hv⟩

def m_L_exposure (a2 : Int32) (S : hs_S) (Q : Int32 → hs_S → Prop) : Prop := hs_M 9 yL_exposure (.codeWith yL_exposure cL_exposure 4 (some FieldType.int) [(0, 9, 12, 13)]) [.inr (.inr (10, 1)), .inl a2, .inr (.inr (100, 1))] S 1 6 (hs_qI Q) hs_nX
def vc_L_exposure (a2 : Int32) (S : hs_S) (Q : Int32 → hs_S → Prop) : Prop := (hs_Wi S → m_C_exposure a2 S (fun r2 S1 => (∀ S5 : hs_S, S5 = (hs_wL S1 100 1 (0 : Int32).toNatClampNeg r2.toInt64) → (Q (0 : Int32) S5))) (fun E4 S3 => (E4 = "java/lang/IndexOutOfBoundsException" ∧ (Q (1 : Int32) S3))))
set_option maxRecDepth 100000 in
set_option maxHeartbeats 4000000 in
theorem ok_L_exposure {a2 : Int32} {S : hs_S} {Q : Int32 → hs_S → Prop} (hw : hs_Wi S) (hv : vc_L_exposure a2 S Q) : m_L_exposure a2 S Q := by
  unfold vc_L_exposure at hv
  refine hs_bodyH (own := RL) rfl rfl (Nat.le_of_ble_eq_true rfl) (fun Z X E hH => ?_)
  show wa Z 0 0 S 0 [(0, .inr (.inr (10, 1))), (1, .inl a2), (2, .inr (.inr (100, 1)))] []
  refine wa_aload_n X 2 rfl dL_exposure_0 rfl ?_
  refine wa_iconst X dL_exposure_1 kc0 ?_
  refine wa_aload_n X 0 rfl dL_exposure_2 rfl ?_
  refine wa_iload_n X 1 rfl dL_exposure_3 rfl ?_
  refine wa_callV X (As := [.inl a2]) (hv hw) hk_10 hc_10 rfl kw_1152 kw_54 kw_1149 kw_1150 kw_1151 nd_X10_exposure rfl rfl (Nat.le_of_ble_eq_true rfl) dL_exposure_4 hs_1ne ⟨⟨Nat.le_of_ble_eq_true rfl, Nat.le_of_ble_eq_true rfl⟩, Nat.le_of_ble_eq_true rfl, Nat.le_of_ble_eq_true rfl⟩ (fun v S1 h => ?_) (fun E4 S3 h => ?_)
  obtain ⟨hw, r2, rfl, hv⟩ := h
  refine wa_i2l X dL_exposure_7 ?_
  refine wa_last X hk_100 dL_exposure_8 hs_1ne (by decide) (hs_eqS fun S5 hS5 => ?_)
  replace hv := hv S5 hS5
  replace hw : hs_Wi S5 := hS5 ▸ hs_Wi_L hw
  refine wa_goto X (tgt := 15) dL_exposure_9 (by decide) ?_
  refine wa_iconst X dL_exposure_15 kc0 ?_
  exact wa_ireturn X E dL_exposure_16 (Nat.le_of_ble_eq_true rfl) (Nat.le_of_ble_eq_true rfl) (Or.inl rfl) ⟨hw, _, rfl, hv⟩
  obtain ⟨hw, h⟩ := h
  obtain ⟨rfl, hv⟩ := h
  · refine wx_catchN X hH [] ⟨0, 9, 12, 13⟩ [] rfl (fun _ h => nomatch h) (by decide) (by decide) kw_395 kw_406 dL_exposure_12 rfl (by decide) ?_
    refine wa_lv (lv' := []) [] rfl ?_
    refine wa_iconst X dL_exposure_13 kc1 ?_
    exact wa_ireturn X E dL_exposure_14 (Nat.le_of_ble_eq_true rfl) (Nat.le_of_ble_eq_true rfl) (Or.inl rfl) ⟨hw, _, rfl, hv⟩

def m_L_strikeBid (a2 : Int32) (S : hs_S) (Q : Int32 → hs_S → Prop) : Prop := hs_M 56 yL_strikeBid (.codeWith yL_strikeBid cL_strikeBid 4 (some FieldType.int) [(0, 9, 12, 13), (0, 9, 15, 15)]) [.inr (.inr (10, 1)), .inl a2, .inr (.inr (100, 1))] S 2 12 (hs_qI Q) hs_nX
def vc_L_strikeBid (a2 : Int32) (S : hs_S) (Q : Int32 → hs_S → Prop) : Prop := (hs_Wi S → m_C_strikeBid a2 S (fun r2 S1 => (∀ S5 : hs_S, S5 = (hs_wL S1 100 1 (0 : Int32).toNatClampNeg r2.toInt64) → (Q (0 : Int32) S5))) (fun E4 S3 => (E4 = "java/lang/IndexOutOfBoundsException" ∧ (Q (1 : Int32) S3)) ∨ (E4 = "java/lang/IllegalStateException" ∧ (Q (2 : Int32) S3))))
set_option maxRecDepth 100000 in
set_option maxHeartbeats 4000000 in
theorem ok_L_strikeBid {a2 : Int32} {S : hs_S} {Q : Int32 → hs_S → Prop} (hw : hs_Wi S) (hv : vc_L_strikeBid a2 S Q) : m_L_strikeBid a2 S Q := by
  unfold vc_L_strikeBid at hv
  refine hs_bodyH (own := RL) rfl rfl (Nat.le_of_ble_eq_true rfl) (fun Z X E hH => ?_)
  show wa Z 0 0 S 0 [(0, .inr (.inr (10, 1))), (1, .inl a2), (2, .inr (.inr (100, 1)))] []
  refine wa_aload_n X 2 rfl dL_strikeBid_0 rfl ?_
  refine wa_iconst X dL_strikeBid_1 kc0 ?_
  refine wa_aload_n X 0 rfl dL_strikeBid_2 rfl ?_
  refine wa_iload_n X 1 rfl dL_strikeBid_3 rfl ?_
  refine wa_callV X (As := [.inl a2]) (hv hw) hk_10 hc_10 rfl kw_1159 kw_54 kw_1156 kw_1157 kw_1158 nd_X10_strikeBid rfl rfl (Nat.le_of_ble_eq_true rfl) dL_strikeBid_4 hs_1ne ⟨⟨Nat.le_of_ble_eq_true rfl, Nat.le_of_ble_eq_true rfl⟩, Nat.le_of_ble_eq_true rfl, Nat.le_of_ble_eq_true rfl⟩ (fun v S1 h => ?_) (fun E4 S3 h => ?_)
  obtain ⟨hw, r2, rfl, hv⟩ := h
  refine wa_i2l X dL_strikeBid_7 ?_
  refine wa_last X hk_100 dL_strikeBid_8 hs_1ne (by decide) (hs_eqS fun S5 hS5 => ?_)
  replace hv := hv S5 hS5
  replace hw : hs_Wi S5 := hS5 ▸ hs_Wi_L hw
  refine wa_goto X (tgt := 18) dL_strikeBid_9 (by decide) ?_
  refine wa_iconst X dL_strikeBid_18 kc0 ?_
  exact wa_ireturn X E dL_strikeBid_19 (Nat.le_of_ble_eq_true rfl) (Nat.le_of_ble_eq_true rfl) (Or.inl rfl) ⟨hw, _, rfl, hv⟩
  obtain ⟨hw, h⟩ := h
  rcases h with ⟨rfl, hv⟩ | ⟨rfl, hv⟩
  · refine wx_catchN X hH [] ⟨0, 9, 12, 13⟩ [⟨0, 9, 15, 15⟩] rfl (fun _ h => nomatch h) (by decide) (by decide) kw_395 kw_406 dL_strikeBid_12 rfl (by decide) ?_
    refine wa_lv (lv' := []) [] rfl ?_
    refine wa_iconst X dL_strikeBid_13 kc1 ?_
    exact wa_ireturn X E dL_strikeBid_14 (Nat.le_of_ble_eq_true rfl) (Nat.le_of_ble_eq_true rfl) (Or.inl rfl) ⟨hw, _, rfl, hv⟩
  · refine wx_catchN X hH [⟨0, 9, 12, 13⟩] ⟨0, 9, 15, 15⟩ [] rfl (List.forall_mem_cons.mpr ⟨⟨by decide, _, kw_395, by simp [hs_nc]⟩, fun _ h => nomatch h⟩) (by decide) (by decide) kw_396 kw_486 dL_strikeBid_15 rfl (by decide) ?_
    refine wa_lv (lv' := []) [] rfl ?_
    refine wa_iconst X dL_strikeBid_16 kc2 ?_
    exact wa_ireturn X E dL_strikeBid_17 (Nat.le_of_ble_eq_true rfl) (Nat.le_of_ble_eq_true rfl) (Or.inl rfl) ⟨hw, _, rfl, hv⟩

def m_L_strikeEdit (a2 : Int32) (S : hs_S) (Q : Int32 → hs_S → Prop) : Prop := hs_M 56 yL_strikeEdit (.codeWith yL_strikeEdit cL_strikeEdit 4 (some FieldType.int) [(0, 9, 12, 13), (0, 9, 15, 15)]) [.inr (.inr (10, 1)), .inl a2, .inr (.inr (100, 1))] S 1 6 (hs_qI Q) hs_nX
def vc_L_strikeEdit (a2 : Int32) (S : hs_S) (Q : Int32 → hs_S → Prop) : Prop := (hs_Wi S → m_C_strikeEdit a2 S (fun r2 S1 => (∀ S5 : hs_S, S5 = (hs_wL S1 100 1 (0 : Int32).toNatClampNeg r2.toInt64) → (Q (0 : Int32) S5))) (fun E4 S3 => (E4 = "java/lang/IndexOutOfBoundsException" ∧ (Q (1 : Int32) S3)) ∨ (E4 = "java/lang/IllegalStateException" ∧ (Q (2 : Int32) S3))))
set_option maxRecDepth 100000 in
set_option maxHeartbeats 4000000 in
theorem ok_L_strikeEdit {a2 : Int32} {S : hs_S} {Q : Int32 → hs_S → Prop} (hw : hs_Wi S) (hv : vc_L_strikeEdit a2 S Q) : m_L_strikeEdit a2 S Q := by
  unfold vc_L_strikeEdit at hv
  refine hs_bodyH (own := RL) rfl rfl (Nat.le_of_ble_eq_true rfl) (fun Z X E hH => ?_)
  show wa Z 0 0 S 0 [(0, .inr (.inr (10, 1))), (1, .inl a2), (2, .inr (.inr (100, 1)))] []
  refine wa_aload_n X 2 rfl dL_strikeEdit_0 rfl ?_
  refine wa_iconst X dL_strikeEdit_1 kc0 ?_
  refine wa_aload_n X 0 rfl dL_strikeEdit_2 rfl ?_
  refine wa_iload_n X 1 rfl dL_strikeEdit_3 rfl ?_
  refine wa_callV X (As := [.inl a2]) (hv hw) hk_10 hc_10 rfl kw_1174 kw_54 kw_1171 kw_1172 kw_1173 nd_X10_strikeEdit rfl rfl (Nat.le_of_ble_eq_true rfl) dL_strikeEdit_4 hs_1ne ⟨⟨Nat.le_of_ble_eq_true rfl, Nat.le_of_ble_eq_true rfl⟩, Nat.le_of_ble_eq_true rfl, Nat.le_of_ble_eq_true rfl⟩ (fun v S1 h => ?_) (fun E4 S3 h => ?_)
  obtain ⟨hw, r2, rfl, hv⟩ := h
  refine wa_i2l X dL_strikeEdit_7 ?_
  refine wa_last X hk_100 dL_strikeEdit_8 hs_1ne (by decide) (hs_eqS fun S5 hS5 => ?_)
  replace hv := hv S5 hS5
  replace hw : hs_Wi S5 := hS5 ▸ hs_Wi_L hw
  refine wa_goto X (tgt := 18) dL_strikeEdit_9 (by decide) ?_
  refine wa_iconst X dL_strikeEdit_18 kc0 ?_
  exact wa_ireturn X E dL_strikeEdit_19 (Nat.le_of_ble_eq_true rfl) (Nat.le_of_ble_eq_true rfl) (Or.inl rfl) ⟨hw, _, rfl, hv⟩
  obtain ⟨hw, h⟩ := h
  rcases h with ⟨rfl, hv⟩ | ⟨rfl, hv⟩
  · refine wx_catchN X hH [] ⟨0, 9, 12, 13⟩ [⟨0, 9, 15, 15⟩] rfl (fun _ h => nomatch h) (by decide) (by decide) kw_395 kw_406 dL_strikeEdit_12 rfl (by decide) ?_
    refine wa_lv (lv' := []) [] rfl ?_
    refine wa_iconst X dL_strikeEdit_13 kc1 ?_
    exact wa_ireturn X E dL_strikeEdit_14 (Nat.le_of_ble_eq_true rfl) (Nat.le_of_ble_eq_true rfl) (Or.inl rfl) ⟨hw, _, rfl, hv⟩
  · refine wx_catchN X hH [⟨0, 9, 12, 13⟩] ⟨0, 9, 15, 15⟩ [] rfl (List.forall_mem_cons.mpr ⟨⟨by decide, _, kw_395, by simp [hs_nc]⟩, fun _ h => nomatch h⟩) (by decide) (by decide) kw_396 kw_486 dL_strikeEdit_15 rfl (by decide) ?_
    refine wa_lv (lv' := []) [] rfl ?_
    refine wa_iconst X dL_strikeEdit_16 kc2 ?_
    exact wa_ireturn X E dL_strikeEdit_17 (Nat.le_of_ble_eq_true rfl) (Nat.le_of_ble_eq_true rfl) (Or.inl rfl) ⟨hw, _, rfl, hv⟩

