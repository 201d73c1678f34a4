def m_Sht_init (S : hs_S) (Q : hs_S → Prop) : Prop := hs_M 6 yX9_init (.code yX9_init cX9_init 1 none) [.inr (.inr (9, 1))] S 13 139 (hs_rV Q) hs_nX
def vc_Sht_init (S : hs_S) (Q : hs_S → Prop) : Prop := (∀ S1 : hs_S, S1 = (hs_nw S 7) → ((m_Rts_init (S.2.2.2 7 + 1) S1 (fun S2 => (∀ S4 : hs_S, S4 = (hs_wR S2 9 1 0 (S.2.2.2 7 + 1)) → ((S4.2.2.2 12 = 0 ∧ S4.2.1 12 2 0 = 0) ∧ (∀ S6 : hs_S, S6 = (hs_nw S4 12) → (∀ S7 : hs_S, S7 = (hs_wR S6 9 1 1 1) → (∀ S8 : hs_S, S8 = (hs_nw S7 25) → (∀ S9 : hs_S, S9 = (hs_wR S8 9 1 2 (S7.2.2.2 25 + 1)) → (∀ S10 : hs_S, S10 = (hs_nw S9 5) → ((m_Fml_init (S9.2.2.2 5 + 1) S10 (fun S11 => (∀ S13 : hs_S, S13 = (hs_wR S11 9 1 3 (S9.2.2.2 5 + 1)) → (∀ S14 : hs_S, S14 = (hs_nw S13 5) → ((m_Fml_init (S13.2.2.2 5 + 1) S14 (fun S15 => (∀ S17 : hs_S, S17 = (hs_wR S15 9 1 4 (S13.2.2.2 5 + 1)) → (Q S17)))))))))))))))))))))
set_option maxRecDepth 100000 in
set_option maxHeartbeats 4000000 in
theorem ok_Sht_init {S : hs_S} {Q : hs_S → Prop} (hv : vc_Sht_init S Q) : m_Sht_init S Q := by
  unfold vc_Sht_init at hv
  refine hs_body (own := RX9) rfl rfl (Nat.le_of_ble_eq_true rfl) (fun Z X E N J0 => ?_)
  show wa Z 0 0 S 0 [(0, .inr (.inr (9, 1)))] []
  have J : hs_I Z := J0
  refine wa_aload_n X 0 rfl dX9_init_0 rfl ?_
  refine wa_objInit X kw_94 kw_87 kw_88 dX9_init_1 hs_1ne ⟨Nat.le_of_ble_eq_true rfl, Nat.le_of_ble_eq_true rfl⟩ ?_
  refine wa_aload_n X 0 rfl dX9_init_4 rfl ?_
  refine wa_new X (t := 7) hk_7 hc_7 i_7 tyX7 tyX7_ok dv_7 kw_95 kw_96 kw_56 dX9_init_5 ⟨Nat.le_of_ble_eq_true rfl, Nat.le_of_ble_eq_true rfl⟩ (hs_eqS fun S1 hS1 => ?_)
  replace hv := hv S1 hS1
  refine wa_dup X dX9_init_8 rfl ?_
  refine wa_callI X (As := []) (hv) kw_99 kw_56 kw_97 kw_98 rfl nd_X7_init rfl rfl (Nat.le_of_ble_eq_true rfl) dX9_init_9 (hs_sne _) ⟨⟨Nat.le_of_ble_eq_true rfl, Nat.le_of_ble_eq_true rfl⟩, Nat.le_of_ble_eq_true rfl, Nat.le_of_ble_eq_true rfl⟩ (fun v S2 h => ?_) (fun _ _ h => h.elim)
  obtain ⟨rfl, hv⟩ := h
  refine wa_putFR X J (j := 0) hk_9 hc_9 i_9 tyX9 tyX9_ok nmX9 (by decide) kw_166 rfl rfl rfl dX9_init_12 hs_1ne ⟨rfl, Or.inl ⟨_, rfl⟩⟩ (hs_eqS fun S4 hS4 => ?_)
  replace hv := hv S4 hS4
  refine wa_aload_n X 0 rfl dX9_init_15 rfl ?_
  obtain ⟨o5, hv⟩ := hv
  refine wa_lnew X hk_12 kw_112 kw_114 dX9_init_16 dX9_init_19 dX9_init_20 ⟨Nat.le_of_ble_eq_true rfl, Nat.le_of_ble_eq_true rfl⟩ (Nat.le_of_ble_eq_true rfl) ⟨Nat.le_of_ble_eq_true rfl, Nat.le_of_ble_eq_true rfl⟩ o5 (hs_eqS fun S6 hS6 => ?_)
  replace hv := hv S6 hS6
  refine wa_putFR X J (j := 1) hk_9 hc_9 i_9 tyX9 tyX9_ok nmX9 (by decide) kw_169 rfl rfl rfl dX9_init_23 hs_1ne ⟨rfl, Or.inl ⟨_, rfl⟩⟩ (hs_eqS fun S7 hS7 => ?_)
  replace hv := hv S7 hS7
  refine wa_aload_n X 0 rfl dX9_init_26 rfl ?_
  refine wa_iconst X dX9_init_27 kc4 ?_
  refine wa_newi X hk_25 kw_111 (by decide) (by decide) (Nat.le_of_ble_eq_true rfl) dX9_init_28 ⟨Nat.le_of_ble_eq_true rfl, Nat.le_of_ble_eq_true rfl⟩ (hs_eqS fun S8 hS8 => ?_)
  replace hv := hv S8 hS8
  refine wa_putFR X J (j := 2) hk_9 hc_9 i_9 tyX9 tyX9_ok nmX9 (by decide) kw_172 rfl rfl rfl dX9_init_30 hs_1ne ⟨rfl, Or.inr ⟨_, rfl⟩⟩ (hs_eqS fun S9 hS9 => ?_)
  replace hv := hv S9 hS9
  refine wa_aload_n X 0 rfl dX9_init_33 rfl ?_
  refine wa_new X (t := 5) hk_5 hc_5 i_5 tyX5 tyX5_ok dv_5 kw_138 kw_139 kw_60 dX9_init_34 ⟨Nat.le_of_ble_eq_true rfl, Nat.le_of_ble_eq_true rfl⟩ (hs_eqS fun S10 hS10 => ?_)
  replace hv := hv S10 hS10
  refine wa_dup X dX9_init_37 rfl ?_
  refine wa_callIN X (As := []) (hv) kw_142 kw_60 kw_140 kw_141 rfl nd_X5_init rfl rfl (Nat.le_of_ble_eq_true rfl) dX9_init_38 (hs_sne _) ⟨⟨Nat.le_of_ble_eq_true rfl, Nat.le_of_ble_eq_true rfl⟩, Nat.le_of_ble_eq_true rfl, Nat.le_of_ble_eq_true rfl⟩ (fun v S11 h => ?_) (fun _ _ h => h.elim)
  obtain ⟨rfl, hv⟩ := h
  refine wa_putFR X J (j := 3) hk_9 hc_9 i_9 tyX9 tyX9_ok nmX9 (by decide) kw_174 rfl rfl rfl dX9_init_41 hs_1ne ⟨rfl, Or.inl ⟨_, rfl⟩⟩ (hs_eqS fun S13 hS13 => ?_)
  replace hv := hv S13 hS13
  refine wa_aload_n X 0 rfl dX9_init_44 rfl ?_
  refine wa_new X (t := 5) hk_5 hc_5 i_5 tyX5 tyX5_ok dv_5 kw_138 kw_139 kw_60 dX9_init_45 ⟨Nat.le_of_ble_eq_true rfl, Nat.le_of_ble_eq_true rfl⟩ (hs_eqS fun S14 hS14 => ?_)
  replace hv := hv S14 hS14
  refine wa_dup X dX9_init_48 rfl ?_
  refine wa_callIN X (As := []) (hv) kw_142 kw_60 kw_140 kw_141 rfl nd_X5_init rfl rfl (Nat.le_of_ble_eq_true rfl) dX9_init_49 (hs_sne _) ⟨⟨Nat.le_of_ble_eq_true rfl, Nat.le_of_ble_eq_true rfl⟩, Nat.le_of_ble_eq_true rfl, Nat.le_of_ble_eq_true rfl⟩ (fun v S15 h => ?_) (fun _ _ h => h.elim)
  obtain ⟨rfl, hv⟩ := h
  refine wa_putR X (j := 4) hk_9 hc_9 i_9 tyX9 tyX9_ok nmX9 (by decide) kw_177 rfl rfl dX9_init_52 hs_1ne ⟨rfl, Or.inl ⟨_, rfl⟩⟩ (hs_eqS fun S17 hS17 => ?_)
  replace hv := hv S17 hS17
  exact wa_return X E dX9_init_55 (Nat.le_of_ble_eq_true rfl) (Nat.le_of_ble_eq_true rfl) ⟨rfl, hv⟩

def m_Book_init (S : hs_S) (Q : hs_S → Prop) : Prop := hs_M 6 yX1_init (.code yX1_init cX1_init 2 none) [.inr (.inr (1, 1))] S 20 250 (hs_rV Q) hs_nX
def vc_Book_init (S : hs_S) (Q : hs_S → Prop) : Prop := ((S.2.2.2 13 = 0 ∧ S.2.1 13 2 0 = 0) ∧ (∀ S2 : hs_S, S2 = (hs_nw S 13) → (∀ S3 : hs_S, S3 = (hs_wR S2 1 1 0 1) → (∀ S4 : hs_S, S4 = (hs_nw S3 26) → (∀ S5 : hs_S, S5 = (hs_wR S4 1 1 1 (S3.2.2.2 26 + 1)) → ((S5.2.2.2 14 = 0 ∧ S5.2.1 14 2 0 = 0) ∧ (∀ S7 : hs_S, S7 = (hs_nw S5 14) → (∀ S8 : hs_S, S8 = (hs_wR S7 1 1 2 1) → (∀ S9 : hs_S, S9 = (hs_nw S8 27) → (∀ S10 : hs_S, S10 = (hs_wR S9 1 1 3 (S8.2.2.2 27 + 1)) → (((S10.2.1 1 1 1) = 1) ∧ (∀ S13 : hs_S, S13 = (hs_nw S10 8) → ((m_Rnd_init (S10.2.2.2 8 + 1) (0 : Int32) S13 (fun S14 => (∀ S16 : hs_S, S16 = (hs_wR S14 26 1 (0 : Int32).toNatClampNeg (S10.2.2.2 8 + 1)) → (((S16.2.1 1 1 1) = 1) ∧ (∀ S19 : hs_S, S19 = (hs_nw S16 8) → ((m_Rnd_init (S16.2.2.2 8 + 1) (1 : Int32) S19 (fun S20 => (∀ S22 : hs_S, S22 = (hs_wR S20 26 1 (1 : Int32).toNatClampNeg (S16.2.2.2 8 + 1)) → (((S22.2.1 1 1 1) = 1) ∧ (∀ S25 : hs_S, S25 = (hs_nw S22 8) → ((m_Rnd_init (S22.2.2.2 8 + 1) (2 : Int32) S25 (fun S26 => (∀ S28 : hs_S, S28 = (hs_wR S26 26 1 (2 : Int32).toNatClampNeg (S22.2.2.2 8 + 1)) → (((S28.2.1 1 1 1) = 1) ∧ (∀ S31 : hs_S, S31 = (hs_nw S28 8) → ((m_Rnd_init (S28.2.2.2 8 + 1) (3 : Int32) S31 (fun S32 => (∀ S34 : hs_S, S34 = (hs_wR S32 26 1 (3 : Int32).toNatClampNeg (S28.2.2.2 8 + 1)) → (Q S34)))))))))))))))))))))))))))))))))))
set_option maxRecDepth 100000 in
set_option maxHeartbeats 4000000 in
theorem ok_Book_init {S : hs_S} {Q : hs_S → Prop} (hv : vc_Book_init S Q) : m_Book_init S Q := by
  unfold vc_Book_init at hv
  refine hs_body (own := RX1) rfl rfl (Nat.le_of_ble_eq_true rfl) (fun Z X E N J0 => ?_)
  show wa Z 0 0 S 0 [(0, .inr (.inr (1, 1)))] []
  have J : hs_I Z := J0
  refine wa_aload_n X 0 rfl dX1_init_0 rfl ?_
  refine wa_objInit X kw_195 kw_87 kw_88 dX1_init_1 hs_1ne ⟨Nat.le_of_ble_eq_true rfl, Nat.le_of_ble_eq_true rfl⟩ ?_
  refine wa_aload_n X 0 rfl dX1_init_4 rfl ?_
  obtain ⟨o1, hv⟩ := hv
  refine wa_lnew X hk_13 kw_196 kw_197 dX1_init_5 dX1_init_8 dX1_init_9 ⟨Nat.le_of_ble_eq_true rfl, Nat.le_of_ble_eq_true rfl⟩ (Nat.le_of_ble_eq_true rfl) ⟨Nat.le_of_ble_eq_true rfl, Nat.le_of_ble_eq_true rfl⟩ o1 (hs_eqS fun S2 hS2 => ?_)
  replace hv := hv S2 hS2
  refine wa_putFR X J (j := 0) hk_1 hc_1 i_1 tyX1 tyX1_ok nmX1 (by decide) kw_258 rfl rfl rfl dX1_init_12 hs_1ne ⟨rfl, Or.inl ⟨_, rfl⟩⟩ (hs_eqS fun S3 hS3 => ?_)
  replace hv := hv S3 hS3
  refine wa_aload_n X 0 rfl dX1_init_15 rfl ?_
  refine wa_iconst X dX1_init_16 kc4 ?_
  refine wa_newq X hk_26 (fun _ => rfl) (Or.inl rfl) kw_198 (by decide) (by decide) (Nat.le_of_ble_eq_true rfl) dX1_init_17 ⟨Nat.le_of_ble_eq_true rfl, Nat.le_of_ble_eq_true rfl⟩ (hs_eqS fun S4 hS4 => ?_)
  replace hv := hv S4 hS4
  refine wa_putFR X J (j := 1) hk_1 hc_1 i_1 tyX1 tyX1_ok nmX1 (by decide) kw_262 rfl rfl rfl dX1_init_20 hs_1ne ⟨rfl, Or.inr ⟨_, rfl⟩⟩ (hs_eqS fun S5 hS5 => ?_)
  replace hv := hv S5 hS5
  refine wa_aload_n X 0 rfl dX1_init_23 rfl ?_
  obtain ⟨o6, hv⟩ := hv
  refine wa_lnew X hk_14 kw_196 kw_197 dX1_init_24 dX1_init_27 dX1_init_28 ⟨Nat.le_of_ble_eq_true rfl, Nat.le_of_ble_eq_true rfl⟩ (Nat.le_of_ble_eq_true rfl) ⟨Nat.le_of_ble_eq_true rfl, Nat.le_of_ble_eq_true rfl⟩ o6 (hs_eqS fun S7 hS7 => ?_)
  replace hv := hv S7 hS7
  refine wa_putFR X J (j := 2) hk_1 hc_1 i_1 tyX1 tyX1_ok nmX1 (by decide) kw_264 rfl rfl rfl dX1_init_31 hs_1ne ⟨rfl, Or.inl ⟨_, rfl⟩⟩ (hs_eqS fun S8 hS8 => ?_)
  replace hv := hv S8 hS8
  refine wa_aload_n X 0 rfl dX1_init_34 rfl ?_
  refine wa_iconst X dX1_init_35 kc4 ?_
  refine wa_newz X hk_27 kw_257 (by decide) (by decide) (Nat.le_of_ble_eq_true rfl) dX1_init_36 ⟨Nat.le_of_ble_eq_true rfl, Nat.le_of_ble_eq_true rfl⟩ (hs_eqS fun S9 hS9 => ?_)
  replace hv := hv S9 hS9
  refine wa_putFR X J (j := 3) hk_1 hc_1 i_1 tyX1 tyX1_ok nmX1 (by decide) kw_268 rfl rfl rfl dX1_init_38 hs_1ne ⟨rfl, Or.inr ⟨_, rfl⟩⟩ (hs_eqS fun S10 hS10 => ?_)
  replace hv := hv S10 hS10
  refine wa_iconst X dX1_init_41 kc0 ?_
  refine wa_istore_n X (lv' := [(1, .inl (0 : Int32)), (0, .inr (.inr (1, 1)))]) dX1_init_42 rfl (by decide) rfl ?_
  refine wa_iload_n X 0 rfl dX1_init_43 rfl ?_
  refine wa_iconst X dX1_init_44 kc4 ?_
  refine wa_icmp_ge X (tgt := 68) dX1_init_45 (by decide) (fun c => absurd c (by decide)) (fun _ => ?_)
  refine wa_aload_n X 1 rfl dX1_init_48 rfl ?_
  refine wa_getR X (j := 1) hk_1 hc_1 i_1 (by decide) kw_262 rfl dX1_init_49 hs_1ne ?_
  obtain ⟨o12, hv⟩ := hv
  refine hs_stR o12 ?_
  refine wa_iload_n X 0 rfl dX1_init_52 rfl ?_
  refine wa_new X (t := 8) hk_8 hc_8 i_8 tyX8 tyX8_ok dv_8 kw_198 kw_200 kw_62 dX1_init_53 ⟨Nat.le_of_ble_eq_true rfl, Nat.le_of_ble_eq_true rfl⟩ (hs_eqS fun S13 hS13 => ?_)
  replace hv := hv S13 hS13
  refine wa_dup X dX1_init_56 rfl ?_
  refine wa_iload_n X 0 rfl dX1_init_57 rfl ?_
  refine wa_callI X (As := [.inl (0 : Int32)]) (hv) kw_203 kw_62 kw_201 kw_202 rfl nd_X8_init rfl rfl (Nat.le_of_ble_eq_true rfl) dX1_init_58 (hs_sne _) ⟨⟨Nat.le_of_ble_eq_true rfl, Nat.le_of_ble_eq_true rfl⟩, Nat.le_of_ble_eq_true rfl, Nat.le_of_ble_eq_true rfl⟩ (fun v S14 h => ?_) (fun _ _ h => h.elim)
  obtain ⟨rfl, hv⟩ := h
  refine wa_aast X hk_26 hk_8 hc_8 (fun _ => rfl) dX1_init_61 hs_1ne (by decide) (hs_sne _) (hs_eqS fun S16 hS16 => ?_)
  replace hv := hv S16 hS16
  refine wa_iinc X (v := (1 : Int32)) (lv' := [(1, .inl (1 : Int32)), (0, .inr (.inr (1, 1)))]) 0 rfl dX1_init_62 (by decide) (by decide) rfl ?_
  refine wa_goto X (tgt := 43) dX1_init_65 (by decide) ?_
  refine wa_iload_n X 0 rfl dX1_init_43 rfl ?_
  refine wa_iconst X dX1_init_44 kc4 ?_
  refine wa_icmp_ge X (tgt := 68) dX1_init_45 (by decide) (fun c => absurd c (by decide)) (fun _ => ?_)
  refine wa_aload_n X 1 rfl dX1_init_48 rfl ?_
  refine wa_getR X (j := 1) hk_1 hc_1 i_1 (by decide) kw_262 rfl dX1_init_49 hs_1ne ?_
  obtain ⟨o18, hv⟩ := hv
  refine hs_stR o18 ?_
  refine wa_iload_n X 0 rfl dX1_init_52 rfl ?_
  refine wa_new X (t := 8) hk_8 hc_8 i_8 tyX8 tyX8_ok dv_8 kw_198 kw_200 kw_62 dX1_init_53 ⟨Nat.le_of_ble_eq_true rfl, Nat.le_of_ble_eq_true rfl⟩ (hs_eqS fun S19 hS19 => ?_)
  replace hv := hv S19 hS19
  refine wa_dup X dX1_init_56 rfl ?_
  refine wa_iload_n X 0 rfl dX1_init_57 rfl ?_
  refine wa_callI X (As := [.inl (1 : Int32)]) (hv) kw_203 kw_62 kw_201 kw_202 rfl nd_X8_init rfl rfl (Nat.le_of_ble_eq_true rfl) dX1_init_58 (hs_sne _) ⟨⟨Nat.le_of_ble_eq_true rfl, Nat.le_of_ble_eq_true rfl⟩, Nat.le_of_ble_eq_true rfl, Nat.le_of_ble_eq_true rfl⟩ (fun v S20 h => ?_) (fun _ _ h => h.elim)
  obtain ⟨rfl, hv⟩ := h
  refine wa_aast X hk_26 hk_8 hc_8 (fun _ => rfl) dX1_init_61 hs_1ne (by decide) (hs_sne _) (hs_eqS fun S22 hS22 => ?_)
  replace hv := hv S22 hS22
  refine wa_iinc X (v := (2 : Int32)) (lv' := [(1, .inl (2 : Int32)), (0, .inr (.inr (1, 1)))]) 0 rfl dX1_init_62 (by decide) (by decide) rfl ?_
  refine wa_goto X (tgt := 43) dX1_init_65 (by decide) ?_
  refine wa_iload_n X 0 rfl dX1_init_43 rfl ?_
  refine wa_iconst X dX1_init_44 kc4 ?_
  refine wa_icmp_ge X (tgt := 68) dX1_init_45 (by decide) (fun c => absurd c (by decide)) (fun _ => ?_)
  refine wa_aload_n X 1 rfl dX1_init_48 rfl ?_
  refine wa_getR X (j := 1) hk_1 hc_1 i_1 (by decide) kw_262 rfl dX1_init_49 hs_1ne ?_
  obtain ⟨o24, hv⟩ := hv
  refine hs_stR o24 ?_
  refine wa_iload_n X 0 rfl dX1_init_52 rfl ?_
  refine wa_new X (t := 8) hk_8 hc_8 i_8 tyX8 tyX8_ok dv_8 kw_198 kw_200 kw_62 dX1_init_53 ⟨Nat.le_of_ble_eq_true rfl, Nat.le_of_ble_eq_true rfl⟩ (hs_eqS fun S25 hS25 => ?_)
  replace hv := hv S25 hS25
  refine wa_dup X dX1_init_56 rfl ?_
  refine wa_iload_n X 0 rfl dX1_init_57 rfl ?_
  refine wa_callI X (As := [.inl (2 : Int32)]) (hv) kw_203 kw_62 kw_201 kw_202 rfl nd_X8_init rfl rfl (Nat.le_of_ble_eq_true rfl) dX1_init_58 (hs_sne _) ⟨⟨Nat.le_of_ble_eq_true rfl, Nat.le_of_ble_eq_true rfl⟩, Nat.le_of_ble_eq_true rfl, Nat.le_of_ble_eq_true rfl⟩ (fun v S26 h => ?_) (fun _ _ h => h.elim)
  obtain ⟨rfl, hv⟩ := h
  refine wa_aast X hk_26 hk_8 hc_8 (fun _ => rfl) dX1_init_61 hs_1ne (by decide) (hs_sne _) (hs_eqS fun S28 hS28 => ?_)
  replace hv := hv S28 hS28
  refine wa_iinc X (v := (3 : Int32)) (lv' := [(1, .inl (3 : Int32)), (0, .inr (.inr (1, 1)))]) 0 rfl dX1_init_62 (by decide) (by decide) rfl ?_
  refine wa_goto X (tgt := 43) dX1_init_65 (by decide) ?_
  refine wa_iload_n X 0 rfl dX1_init_43 rfl ?_
  refine wa_iconst X dX1_init_44 kc4 ?_
  refine wa_icmp_ge X (tgt := 68) dX1_init_45 (by decide) (fun c => absurd c (by decide)) (fun _ => ?_)
  refine wa_aload_n X 1 rfl dX1_init_48 rfl ?_
  refine wa_getR X (j := 1) hk_1 hc_1 i_1 (by decide) kw_262 rfl dX1_init_49 hs_1ne ?_
  obtain ⟨o30, hv⟩ := hv
  refine hs_stR o30 ?_
  refine wa_iload_n X 0 rfl dX1_init_52 rfl ?_
  refine wa_new X (t := 8) hk_8 hc_8 i_8 tyX8 tyX8_ok dv_8 kw_198 kw_200 kw_62 dX1_init_53 ⟨Nat.le_of_ble_eq_true rfl, Nat.le_of_ble_eq_true rfl⟩ (hs_eqS fun S31 hS31 => ?_)
  replace hv := hv S31 hS31
  refine wa_dup X dX1_init_56 rfl ?_
  refine wa_iload_n X 0 rfl dX1_init_57 rfl ?_
  refine wa_callI X (As := [.inl (3 : Int32)]) (hv) kw_203 kw_62 kw_201 kw_202 rfl nd_X8_init rfl rfl (Nat.le_of_ble_eq_true rfl) dX1_init_58 (hs_sne _) ⟨⟨Nat.le_of_ble_eq_true rfl, Nat.le_of_ble_eq_true rfl⟩, Nat.le_of_ble_eq_true rfl, Nat.le_of_ble_eq_true rfl⟩ (fun v S32 h => ?_) (fun _ _ h => h.elim)
  obtain ⟨rfl, hv⟩ := h
  refine wa_aast X hk_26 hk_8 hc_8 (fun _ => rfl) dX1_init_61 hs_1ne (by decide) (hs_sne _) (hs_eqS fun S34 hS34 => ?_)
  replace hv := hv S34 hS34
  refine wa_iinc X (v := (4 : Int32)) (lv' := [(1, .inl (4 : Int32)), (0, .inr (.inr (1, 1)))]) 0 rfl dX1_init_62 (by decide) (by decide) rfl ?_
  refine wa_goto X (tgt := 43) dX1_init_65 (by decide) ?_
  refine wa_iload_n X 0 rfl dX1_init_43 rfl ?_
  refine wa_iconst X dX1_init_44 kc4 ?_
  refine wa_icmp_ge X (tgt := 68) dX1_init_45 (by decide) (fun _ => ?_) (fun c => absurd c (by decide))
  exact wa_return X E dX1_init_68 (Nat.le_of_ble_eq_true rfl) (Nat.le_of_ble_eq_true rfl) ⟨rfl, hv⟩

def m_Fnd_init (S : hs_S) (Q : hs_S → Prop) : Prop := hs_M 2 yX4_init (.code yX4_init cX4_init 4 none) [.inr (.inr (4, 1)), .inr (.inr (9, 1)), .inr (.inr (1, 1))] S 14 427 (hs_rV Q) hs_nX
def vc_Fnd_init (S : hs_S) (Q : hs_S → Prop) : Prop := (∀ S1 : hs_S, S1 = (hs_nw S 28) → (∀ S2 : hs_S, S2 = (hs_wR S1 4 1 3 (S.2.2.2 28 + 1)) → (∀ S3 : hs_S, S3 = (hs_nw S2 29) → (∀ S4 : hs_S, S4 = (hs_wR S3 4 1 4 (S2.2.2.2 29 + 1)) → (∀ S5 : hs_S, S5 = (hs_nw S4 30) → (∀ S6 : hs_S, S6 = (hs_wR S5 4 1 5 (S4.2.2.2 30 + 1)) → (∀ S7 : hs_S, S7 = (hs_nw S6 31) → (∀ S8 : hs_S, S8 = (hs_wR S7 4 1 6 (S6.2.2.2 31 + 1)) → (((S8.2.2.2 32 = 0 ∧ S8.2.2.2 33 = 0)) ∧ (∀ S10 : hs_S, S10 = (hs_nm S8) → (∀ S11 : hs_S, S11 = (hs_wR S10 4 1 7 1) → (∀ S12 : hs_S, S12 = (hs_nw S11 34) → (∀ S13 : hs_S, S13 = (hs_wR S12 4 1 8 (S11.2.2.2 34 + 1)) → (∀ S14 : hs_S, S14 = (hs_wI S13 4 1 9 (0 : Int32)) → (∀ S15 : hs_S, S15 = (hs_wR S14 4 1 0 1) → (∀ S16 : hs_S, S16 = (hs_wR S15 4 1 1 1) → (((S16.2.1 9 1 0) = 1) ∧ (∀ S18 : hs_S, S18 = (hs_wR S16 4 1 2 1) → (∃ I20 : Nat → Int32 → hs_S → Prop, (∃ n25, I20 n25 (0 : Int32) S18) ∧ (∀ N21 : Nat, ∀ x19 : Int32, ∀ S22 : hs_S, I20 N21 x19 S22 → (((24 : Int32) ≤ x19 → (Q S22)) ∧ (¬ (24 : Int32) ≤ x19 → (((S22.2.1 4 1 3) = 1) ∧ (((S22.2.1 9 1 3) = 1) ∧ ((0 ≤ x19.toInt ∧ x19.toInt < 24) ∧ (∀ S33 : hs_S, S33 = (hs_wR S22 28 1 x19.toNatClampNeg 1) → (∃ q34, q34 < N21 ∧ I20 q34 (x19 + 1) S33)))))))))))))))))))))))))))
set_option maxRecDepth 100000 in
set_option maxHeartbeats 4000000 in
theorem ok_Fnd_init {S : hs_S} {Q : hs_S → Prop} (hv : vc_Fnd_init S Q) : m_Fnd_init S Q := by
  unfold vc_Fnd_init at hv
  refine hs_body (own := RX4) rfl rfl (Nat.le_of_ble_eq_true rfl) (fun Z X E N J0 => ?_)
  show wa Z 0 0 S 0 [(0, .inr (.inr (4, 1))), (1, .inr (.inr (9, 1))), (2, .inr (.inr (1, 1)))] []
  have J : hs_I Z := J0
  refine wa_aload_n X 0 rfl dX4_init_0 rfl ?_
  refine wa_objInit X kw_284 kw_87 kw_88 dX4_init_1 hs_1ne ⟨Nat.le_of_ble_eq_true rfl, Nat.le_of_ble_eq_true rfl⟩ ?_
  refine wa_aload_n X 0 rfl dX4_init_4 rfl ?_
  refine wa_bipush X dX4_init_5 kb24 ?_
  refine wa_newq X hk_28 (fun _ => rfl) (Or.inr rfl) kw_285 (by decide) (by decide) (Nat.le_of_ble_eq_true rfl) dX4_init_7 ⟨Nat.le_of_ble_eq_true rfl, Nat.le_of_ble_eq_true rfl⟩ (hs_eqS fun S1 hS1 => ?_)
  replace hv := hv S1 hS1
  refine wa_putFR X J (j := 3) hk_4 hc_4 i_4 tyX4 tyX4_ok nmX4 (by decide) kw_292 rfl rfl rfl dX4_init_10 hs_1ne ⟨rfl, Or.inr ⟨_, rfl⟩⟩ (hs_eqS fun S2 hS2 => ?_)
  replace hv := hv S2 hS2
  refine wa_aload_n X 0 rfl dX4_init_13 rfl ?_
  refine wa_bipush X dX4_init_14 kb24 ?_
  refine wa_newi X hk_29 kw_111 (by decide) (by decide) (Nat.le_of_ble_eq_true rfl) dX4_init_16 ⟨Nat.le_of_ble_eq_true rfl, Nat.le_of_ble_eq_true rfl⟩ (hs_eqS fun S3 hS3 => ?_)
  replace hv := hv S3 hS3
  refine wa_putFR X J (j := 4) hk_4 hc_4 i_4 tyX4 tyX4_ok nmX4 (by decide) kw_293 rfl rfl rfl dX4_init_18 hs_1ne ⟨rfl, Or.inr ⟨_, rfl⟩⟩ (hs_eqS fun S4 hS4 => ?_)
  replace hv := hv S4 hS4
  refine wa_aload_n X 0 rfl dX4_init_21 rfl ?_
  refine wa_bipush X dX4_init_22 kb24 ?_
  refine wa_newi X hk_30 kw_111 (by decide) (by decide) (Nat.le_of_ble_eq_true rfl) dX4_init_24 ⟨Nat.le_of_ble_eq_true rfl, Nat.le_of_ble_eq_true rfl⟩ (hs_eqS fun S5 hS5 => ?_)
  replace hv := hv S5 hS5
  refine wa_putFR X J (j := 5) hk_4 hc_4 i_4 tyX4 tyX4_ok nmX4 (by decide) kw_294 rfl rfl rfl dX4_init_26 hs_1ne ⟨rfl, Or.inr ⟨_, rfl⟩⟩ (hs_eqS fun S6 hS6 => ?_)
  replace hv := hv S6 hS6
  refine wa_aload_n X 0 rfl dX4_init_29 rfl ?_
  refine wa_bipush X dX4_init_30 kb24 ?_
  refine wa_newi X hk_31 kw_111 (by decide) (by decide) (Nat.le_of_ble_eq_true rfl) dX4_init_32 ⟨Nat.le_of_ble_eq_true rfl, Nat.le_of_ble_eq_true rfl⟩ (hs_eqS fun S7 hS7 => ?_)
  replace hv := hv S7 hS7
  refine wa_putFR X J (j := 6) hk_4 hc_4 i_4 tyX4 tyX4_ok nmX4 (by decide) kw_295 rfl rfl rfl dX4_init_34 hs_1ne ⟨rfl, Or.inr ⟨_, rfl⟩⟩ (hs_eqS fun S8 hS8 => ?_)
  replace hv := hv S8 hS8
  refine wa_aload_n X 0 rfl dX4_init_37 rfl ?_
  refine wa_bipush X dX4_init_38 kb8 ?_
  refine wa_iconst X dX4_init_40 kc4 ?_
  obtain ⟨o9, hv⟩ := hv
  refine wa_mna X kw_287 kw_111 dX4_init_41 ⟨Nat.le_of_ble_eq_true rfl, Nat.le_of_ble_eq_true rfl⟩ o9 (hs_eqS fun S10 hS10 => ?_)
  replace hv := hv S10 hS10
  refine wa_putFR X J (j := 7) hk_4 hc_4 i_4 tyX4 tyX4_ok nmX4 (by decide) kw_296 rfl rfl rfl dX4_init_45 hs_1ne ⟨rfl, Or.inr ⟨_, rfl⟩⟩ (hs_eqS fun S11 hS11 => ?_)
  replace hv := hv S11 hS11
  refine wa_aload_n X 0 rfl dX4_init_48 rfl ?_
  refine wa_sipush X dX4_init_49 ks291 ?_
  refine wa_newi X hk_34 kw_111 (by decide) (by decide) (Nat.le_of_ble_eq_true rfl) dX4_init_52 ⟨Nat.le_of_ble_eq_true rfl, Nat.le_of_ble_eq_true rfl⟩ (hs_eqS fun S12 hS12 => ?_)
  replace hv := hv S12 hS12
  refine wa_putFR X J (j := 8) hk_4 hc_4 i_4 tyX4 tyX4_ok nmX4 (by decide) kw_297 rfl rfl rfl dX4_init_54 hs_1ne ⟨rfl, Or.inr ⟨_, rfl⟩⟩ (hs_eqS fun S13 hS13 => ?_)
  replace hv := hv S13 hS13
  refine wa_aload_n X 0 rfl dX4_init_57 rfl ?_
  refine wa_iconst X dX4_init_58 kc0 ?_
  refine wa_putI X (j := 9) hk_4 hc_4 i_4 tyX4 tyX4_ok nmX4 (by decide) kw_298 rfl rfl dX4_init_59 hs_1ne ⟨rfl, Or.inl rfl⟩ (hs_eqS fun S14 hS14 => ?_)
  replace hv := hv S14 hS14
  refine wa_aload_n X 0 rfl dX4_init_62 rfl ?_
  refine wa_aload_n X 1 rfl dX4_init_63 rfl ?_
  refine wa_putFR X J (j := 0) hk_4 hc_4 i_4 tyX4 tyX4_ok nmX4 (by decide) kw_289 rfl rfl rfl dX4_init_64 hs_1ne ⟨rfl, Or.inl ⟨_, rfl⟩⟩ (hs_eqS fun S15 hS15 => ?_)
  replace hv := hv S15 hS15
  refine wa_aload_n X 0 rfl dX4_init_67 rfl ?_
  refine wa_aload_n X 2 rfl dX4_init_68 rfl ?_
  refine wa_putFR X J (j := 1) hk_4 hc_4 i_4 tyX4 tyX4_ok nmX4 (by decide) kw_290 rfl rfl rfl dX4_init_69 hs_1ne ⟨rfl, Or.inl ⟨_, rfl⟩⟩ (hs_eqS fun S16 hS16 => ?_)
  replace hv := hv S16 hS16
  refine wa_aload_n X 0 rfl dX4_init_72 rfl ?_
  refine wa_aload_n X 1 rfl dX4_init_73 rfl ?_
  refine wa_getR X (j := 0) hk_9 hc_9 i_9 (by decide) kw_167 rfl dX4_init_74 hs_1ne ?_
  obtain ⟨o17, hv⟩ := hv
  refine hs_stR o17 ?_
  refine wa_putR X (j := 2) hk_4 hc_4 i_4 tyX4 tyX4_ok nmX4 (by decide) kw_291 rfl rfl dX4_init_77 hs_1ne ⟨rfl, Or.inl ⟨_, rfl⟩⟩ (hs_eqS fun S18 hS18 => ?_)
  replace hv := hv S18 hS18
  refine wa_iconst X dX4_init_80 kc0 ?_
  refine wa_istore_n X (lv' := [(3, .inl (0 : Int32)), (0, .inr (.inr (4, 1))), (1, .inr (.inr (9, 1))), (2, .inr (.inr (1, 1)))]) dX4_init_81 rfl (by decide) rfl ?_
  obtain ⟨I20, ⟨n25, i23⟩, b24⟩ := hv
  refine wa_lv (lv' := [(0, .inr (.inr (4, 1))), (1, .inr (.inr (9, 1))), (3, .inl (0 : Int32))]) [1, 2, 0] rfl ?_
  suffices L26 : ∀ N21 : Nat, ∀ x19 : Int32, ∀ S22 : hs_S, I20 N21 x19 S22 → wa Z 14 427 S22 82 [(0, .inr (.inr (4, 1))), (1, .inr (.inr (9, 1))), (3, .inl x19)] [] from L26 _ _ _ i23
  clear i23
  intro N21
  induction N21 using Nat.strongRecOn with
  | _ N21 h27 =>
    intro x19 S22 j28
    have hv := b24 N21 x19 S22 j28
    refine wa_iload_n X 2 rfl dX4_init_82 rfl ?_
    refine wa_bipush X dX4_init_83 kb24 ?_
    refine wa_icmp_ge X (tgt := 104) dX4_init_85 (by decide) (fun c29 => ?_) (fun c29 => ?_)
    · replace hv := hv.1 c29
      exact wa_return X E dX4_init_104 (Nat.le_of_ble_eq_true rfl) (Nat.le_of_ble_eq_true rfl) ⟨rfl, hv⟩
    · replace hv := hv.2 c29
      refine wa_aload_n X 0 rfl dX4_init_88 rfl ?_
      refine wa_getR X (j := 3) hk_4 hc_4 i_4 (by decide) kw_292 rfl dX4_init_89 hs_1ne ?_
      obtain ⟨o30, hv⟩ := hv
      refine hs_stR o30 ?_
      refine wa_iload_n X 2 rfl dX4_init_92 rfl ?_
      refine wa_aload_n X 1 rfl dX4_init_93 rfl ?_
      refine wa_getR X (j := 3) hk_9 hc_9 i_9 (by decide) kw_175 rfl dX4_init_94 hs_1ne ?_
      obtain ⟨o31, hv⟩ := hv
      refine hs_stR o31 ?_
      obtain ⟨o32, hv⟩ := hv
      refine wa_aast X hk_28 hk_5 hc_5 (fun _ => rfl) dX4_init_97 hs_1ne o32 hs_1ne (hs_eqS fun S33 hS33 => ?_)
      replace hv := hv S33 hS33
      refine wa_iinc X (v := (x19 + 1)) (lv' := [(3, .inl (x19 + 1)), (0, .inr (.inr (4, 1))), (1, .inr (.inr (9, 1)))]) 2 rfl dX4_init_98 rfl (by decide) rfl ?_
      refine wa_goto X (tgt := 82) dX4_init_101 (by decide) ?_
      obtain ⟨q34, p35, hv⟩ := hv
      refine wa_lv (lv' := [(0, .inr (.inr (4, 1))), (1, .inr (.inr (9, 1))), (3, .inl (x19 + 1))]) [1, 2, 0] rfl ?_
      exact h27 q34 p35 _ _ hv

def m_Clr_init (S : hs_S) (Q : hs_S → Prop) : Prop := hs_M 2 yX2_init (.code yX2_init cX2_init 3 none) [.inr (.inr (2, 1)), .inr (.inr (1, 1)), .inr (.inr (4, 1))] S 0 0 (hs_rV Q) hs_nX
def vc_Clr_init (S : hs_S) (Q : hs_S → Prop) : Prop := (∀ S1 : hs_S, S1 = (hs_wR S 2 1 0 1) → (∀ S2 : hs_S, S2 = (hs_wR S1 2 1 1 1) → (Q S2)))
set_option maxRecDepth 100000 in
set_option maxHeartbeats 4000000 in
theorem ok_Clr_init {S : hs_S} {Q : hs_S → Prop} (hv : vc_Clr_init S Q) : m_Clr_init S Q := by
  unfold vc_Clr_init at hv
  refine hs_body (own := RX2) rfl rfl (Nat.le_of_ble_eq_true rfl) (fun Z X E N J0 => ?_)
  show wa Z 0 0 S 0 [(0, .inr (.inr (2, 1))), (1, .inr (.inr (1, 1))), (2, .inr (.inr (4, 1)))] []
  have J : hs_I Z := J0
  refine wa_aload_n X 0 rfl dX2_init_0 rfl ?_
  refine wa_objInit X kw_325 kw_87 kw_88 dX2_init_1 hs_1ne ⟨Nat.le_of_ble_eq_true rfl, Nat.le_of_ble_eq_true rfl⟩ ?_
  refine wa_aload_n X 0 rfl dX2_init_4 rfl ?_
  refine wa_aload_n X 1 rfl dX2_init_5 rfl ?_
  refine wa_putFR X J (j := 0) hk_2 hc_2 i_2 tyX2 tyX2_ok nmX2 (by decide) kw_326 rfl rfl rfl dX2_init_6 hs_1ne ⟨rfl, Or.inl ⟨_, rfl⟩⟩ (hs_eqS fun S1 hS1 => ?_)
  replace hv := hv S1 hS1
  refine wa_aload_n X 0 rfl dX2_init_9 rfl ?_
  refine wa_aload_n X 2 rfl dX2_init_10 rfl ?_
  refine wa_putFR X J (j := 1) hk_2 hc_2 i_2 tyX2 tyX2_ok nmX2 (by decide) kw_327 rfl rfl rfl dX2_init_11 hs_1ne ⟨rfl, Or.inl ⟨_, rfl⟩⟩ (hs_eqS fun S2 hS2 => ?_)
  replace hv := hv S2 hS2
  exact wa_return X E dX2_init_14 (Nat.le_of_ble_eq_true rfl) (Nat.le_of_ble_eq_true rfl) ⟨rfl, hv⟩

def m_Ldg_init (S : hs_S) (Q : hs_S → Prop) : Prop := hs_M 2 yX6_init (.code yX6_init cX6_init 3 none) [.inr (.inr (6, 1)), .inr (.inr (1, 1))] S 5 48 (hs_rV Q) hs_nX
def vc_Ldg_init (S : hs_S) (Q : hs_S → Prop) : Prop := (∀ S1 : hs_S, S1 = (hs_nw S 35) → (∀ S2 : hs_S, S2 = (hs_wR S1 6 1 1 (S.2.2.2 35 + 1)) → (∀ S3 : hs_S, S3 = (hs_nw S2 36) → (∀ S4 : hs_S, S4 = (hs_wR S3 6 1 2 (S2.2.2.2 36 + 1)) → (∀ S5 : hs_S, S5 = (hs_nw S4 37) → (∀ S6 : hs_S, S6 = (hs_wR S5 6 1 3 (S4.2.2.2 37 + 1)) → (∀ S7 : hs_S, S7 = (hs_nw S6 38) → (∀ S8 : hs_S, S8 = (hs_wR S7 6 1 4 (S6.2.2.2 38 + 1)) → (∀ S9 : hs_S, S9 = (hs_nw S8 39) → (∀ S10 : hs_S, S10 = (hs_wR S9 6 1 5 (S8.2.2.2 39 + 1)) → (∀ S11 : hs_S, S11 = (hs_wR S10 6 1 0 1) → (∃ I13 : Nat → Int32 → hs_S → Prop, (∃ n18, I13 n18 (0 : Int32) S11) ∧ (∀ N14 : Nat, ∀ x12 : Int32, ∀ S15 : hs_S, I13 N14 x12 S15 → (((6 : Int32) ≤ x12 → (Q S15)) ∧ (¬ (6 : Int32) ≤ x12 → (((S15.2.1 6 1 3) = 1) ∧ ((0 ≤ x12.toInt ∧ x12.toInt < 6) ∧ (∀ S25 : hs_S, S25 = (hs_wI S15 37 1 x12.toNatClampNeg (100000 : Int32)) → (∃ q26, q26 < N14 ∧ I13 q26 (x12 + 1) S25)))))))))))))))))))
set_option maxRecDepth 100000 in
set_option maxHeartbeats 4000000 in
theorem ok_Ldg_init {S : hs_S} {Q : hs_S → Prop} (hv : vc_Ldg_init S Q) : m_Ldg_init S Q := by
  unfold vc_Ldg_init at hv
  refine hs_body (own := RX6) rfl rfl (Nat.le_of_ble_eq_true rfl) (fun Z X E N J0 => ?_)
  show wa Z 0 0 S 0 [(0, .inr (.inr (6, 1))), (1, .inr (.inr (1, 1)))] []
  have J : hs_I Z := J0
  refine wa_aload_n X 0 rfl dX6_init_0 rfl ?_
  refine wa_objInit X kw_338 kw_87 kw_88 dX6_init_1 hs_1ne ⟨Nat.le_of_ble_eq_true rfl, Nat.le_of_ble_eq_true rfl⟩ ?_
  refine wa_aload_n X 0 rfl dX6_init_4 rfl ?_
  refine wa_bipush X dX6_init_5 kb24 ?_
  refine wa_newi X hk_35 kw_111 (by decide) (by decide) (Nat.le_of_ble_eq_true rfl) dX6_init_7 ⟨Nat.le_of_ble_eq_true rfl, Nat.le_of_ble_eq_true rfl⟩ (hs_eqS fun S1 hS1 => ?_)
  replace hv := hv S1 hS1
  refine wa_putFR X J (j := 1) hk_6 hc_6 i_6 tyX6 tyX6_ok nmX6 (by decide) kw_341 rfl rfl rfl dX6_init_9 hs_1ne ⟨rfl, Or.inr ⟨_, rfl⟩⟩ (hs_eqS fun S2 hS2 => ?_)
  replace hv := hv S2 hS2
  refine wa_aload_n X 0 rfl dX6_init_12 rfl ?_
  refine wa_bipush X dX6_init_13 kb6 ?_
  refine wa_newi X hk_36 kw_111 (by decide) (by decide) (Nat.le_of_ble_eq_true rfl) dX6_init_15 ⟨Nat.le_of_ble_eq_true rfl, Nat.le_of_ble_eq_true rfl⟩ (hs_eqS fun S3 hS3 => ?_)
  replace hv := hv S3 hS3
  refine wa_putFR X J (j := 2) hk_6 hc_6 i_6 tyX6 tyX6_ok nmX6 (by decide) kw_342 rfl rfl rfl dX6_init_17 hs_1ne ⟨rfl, Or.inr ⟨_, rfl⟩⟩ (hs_eqS fun S4 hS4 => ?_)
  replace hv := hv S4 hS4
  refine wa_aload_n X 0 rfl dX6_init_20 rfl ?_
  refine wa_bipush X dX6_init_21 kb6 ?_
  refine wa_newi X hk_37 kw_111 (by decide) (by decide) (Nat.le_of_ble_eq_true rfl) dX6_init_23 ⟨Nat.le_of_ble_eq_true rfl, Nat.le_of_ble_eq_true rfl⟩ (hs_eqS fun S5 hS5 => ?_)
  replace hv := hv S5 hS5
  refine wa_putFR X J (j := 3) hk_6 hc_6 i_6 tyX6 tyX6_ok nmX6 (by decide) kw_344 rfl rfl rfl dX6_init_25 hs_1ne ⟨rfl, Or.inr ⟨_, rfl⟩⟩ (hs_eqS fun S6 hS6 => ?_)
  replace hv := hv S6 hS6
  refine wa_aload_n X 0 rfl dX6_init_28 rfl ?_
  refine wa_bipush X dX6_init_29 kb6 ?_
  refine wa_newi X hk_38 kw_111 (by decide) (by decide) (Nat.le_of_ble_eq_true rfl) dX6_init_31 ⟨Nat.le_of_ble_eq_true rfl, Nat.le_of_ble_eq_true rfl⟩ (hs_eqS fun S7 hS7 => ?_)
  replace hv := hv S7 hS7
  refine wa_putFR X J (j := 4) hk_6 hc_6 i_6 tyX6 tyX6_ok nmX6 (by decide) kw_346 rfl rfl rfl dX6_init_33 hs_1ne ⟨rfl, Or.inr ⟨_, rfl⟩⟩ (hs_eqS fun S8 hS8 => ?_)
  replace hv := hv S8 hS8
  refine wa_aload_n X 0 rfl dX6_init_36 rfl ?_
  refine wa_bipush X dX6_init_37 kb6 ?_
  refine wa_newi X hk_39 kw_111 (by decide) (by decide) (Nat.le_of_ble_eq_true rfl) dX6_init_39 ⟨Nat.le_of_ble_eq_true rfl, Nat.le_of_ble_eq_true rfl⟩ (hs_eqS fun S9 hS9 => ?_)
  replace hv := hv S9 hS9
  refine wa_putFR X J (j := 5) hk_6 hc_6 i_6 tyX6 tyX6_ok nmX6 (by decide) kw_347 rfl rfl rfl dX6_init_41 hs_1ne ⟨rfl, Or.inr ⟨_, rfl⟩⟩ (hs_eqS fun S10 hS10 => ?_)
  replace hv := hv S10 hS10
  refine wa_aload_n X 0 rfl dX6_init_44 rfl ?_
  refine wa_aload_n X 1 rfl dX6_init_45 rfl ?_
  refine wa_putFR X J (j := 0) hk_6 hc_6 i_6 tyX6 tyX6_ok nmX6 (by decide) kw_340 rfl rfl rfl dX6_init_46 hs_1ne ⟨rfl, Or.inl ⟨_, rfl⟩⟩ (hs_eqS fun S11 hS11 => ?_)
  replace hv := hv S11 hS11
  refine wa_iconst X dX6_init_49 kc0 ?_
  refine wa_istore_n X (lv' := [(2, .inl (0 : Int32)), (0, .inr (.inr (6, 1))), (1, .inr (.inr (1, 1)))]) dX6_init_50 rfl (by decide) rfl ?_
  obtain ⟨I13, ⟨n18, i16⟩, b17⟩ := hv
  refine wa_lv (lv' := [(0, .inr (.inr (6, 1))), (2, .inl (0 : Int32))]) [1, 0] rfl ?_
  suffices L19 : ∀ N14 : Nat, ∀ x12 : Int32, ∀ S15 : hs_S, I13 N14 x12 S15 → wa Z 5 48 S15 51 [(0, .inr (.inr (6, 1))), (2, .inl x12)] [] from L19 _ _ _ i16
  clear i16
  intro N14
  induction N14 using Nat.strongRecOn with
  | _ N14 h20 =>
    intro x12 S15 j21
    have hv := b17 N14 x12 S15 j21
    refine wa_iload_n X 1 rfl dX6_init_51 rfl ?_
    refine wa_bipush X dX6_init_52 kb6 ?_
    refine wa_icmp_ge X (tgt := 71) dX6_init_54 (by decide) (fun c22 => ?_) (fun c22 => ?_)
    · replace hv := hv.1 c22
      exact wa_return X E dX6_init_71 (Nat.le_of_ble_eq_true rfl) (Nat.le_of_ble_eq_true rfl) ⟨rfl, hv⟩
    · replace hv := hv.2 c22
      refine wa_aload_n X 0 rfl dX6_init_57 rfl ?_
      refine wa_getR X (j := 3) hk_6 hc_6 i_6 (by decide) kw_344 rfl dX6_init_58 hs_1ne ?_
      obtain ⟨o23, hv⟩ := hv
      refine hs_stR o23 ?_
      refine wa_iload_n X 1 rfl dX6_init_61 rfl ?_
      refine wa_ldc X kw_339 dX6_init_62 ?_
      obtain ⟨o24, hv⟩ := hv
      refine wa_iast X hk_37 dX6_init_64 hs_1ne o24 (hs_eqS fun S25 hS25 => ?_)
      replace hv := hv S25 hS25
      refine wa_iinc X (v := (x12 + 1)) (lv' := [(2, .inl (x12 + 1)), (0, .inr (.inr (6, 1)))]) 1 rfl dX6_init_65 rfl (by decide) rfl ?_
      refine wa_goto X (tgt := 51) dX6_init_68 (by decide) ?_
      obtain ⟨q26, p27, hv⟩ := hv
      refine wa_lv (lv' := [(0, .inr (.inr (6, 1))), (2, .inl (x12 + 1))]) [1, 0] rfl ?_
      exact h20 q26 p27 _ _ hv

def m_C_init (S : hs_S) (Q : hs_S → Prop) : Prop := hs_M 7 yX10_init (.code yX10_init cX10_init 1 none) [.inr (.inr (10, 1))] S 57 891 (hs_rV Q) hs_nX
def vc_C_init (S : hs_S) (Q : hs_S → Prop) : Prop := ((S.2.2.2 9 = 0) ∧ (∀ S2 : hs_S, S2 = (hs_nw S 9) → ((m_Sht_init S2 (fun S3 => (∀ S5 : hs_S, S5 = (hs_wR S3 10 1 0 1) → ((S5.2.2.2 1 = 0) ∧ (∀ S7 : hs_S, S7 = (hs_nw S5 1) → ((m_Book_init S7 (fun S8 => (∀ S10 : hs_S, S10 = (hs_wR S8 10 1 1 1) → ((S10.2.2.2 4 = 0) ∧ (∀ S12 : hs_S, S12 = (hs_nw S10 4) → (((S12.2.1 10 1 0) = 1) ∧ (((S12.2.1 10 1 1) = 1) ∧ ((m_Fnd_init S12 (fun S15 => (∀ S17 : hs_S, S17 = (hs_wR S15 10 1 2 1) → ((S17.2.2.2 2 = 0) ∧ (∀ S19 : hs_S, S19 = (hs_nw S17 2) → (((S19.2.1 10 1 1) = 1) ∧ (((S19.2.1 10 1 2) = 1) ∧ ((m_Clr_init S19 (fun S22 => (∀ S24 : hs_S, S24 = (hs_wR S22 10 1 3 1) → ((S24.2.2.2 6 = 0) ∧ (∀ S26 : hs_S, S26 = (hs_nw S24 6) → (((S26.2.1 10 1 1) = 1) ∧ ((m_Ldg_init S26 (fun S28 => (∀ S30 : hs_S, S30 = (hs_wR S28 10 1 4 1) → (∀ S31 : hs_S, S31 = (hs_wI S30 10 1 5 (0 : Int32)) → (Q S31)))))))))))))))))))))))))))))))))))))
set_option maxRecDepth 100000 in
set_option maxHeartbeats 4000000 in
theorem ok_C_init {S : hs_S} {Q : hs_S → Prop} (hv : vc_C_init S Q) : m_C_init S Q := by
  unfold vc_C_init at hv
  refine hs_body (own := RX10) rfl rfl (Nat.le_of_ble_eq_true rfl) (fun Z X E N J0 => ?_)
  show wa Z 0 0 S 0 [(0, .inr (.inr (10, 1)))] []
  have J : hs_I Z := J0
  refine wa_aload_n X 0 rfl dX10_init_0 rfl ?_
  refine wa_objInit X kw_86 kw_87 kw_88 dX10_init_1 hs_1ne ⟨Nat.le_of_ble_eq_true rfl, Nat.le_of_ble_eq_true rfl⟩ ?_
  refine wa_aload_n X 0 rfl dX10_init_4 rfl ?_
  obtain ⟨o1, hv⟩ := hv
  refine wa_new1 X (t := 9) hk_9 hc_9 i_9 tyX9 tyX9_ok dv_9 kw_89 kw_90 kw_55 dX10_init_5 ⟨Nat.le_of_ble_eq_true rfl, Nat.le_of_ble_eq_true rfl⟩ o1 (hs_eqS fun S2 hS2 => ?_)
  replace hv := hv S2 hS2
  refine wa_dup X dX10_init_8 rfl ?_
  refine wa_callIN X (As := []) (hv) kw_93 kw_55 kw_91 kw_92 rfl nd_X9_init rfl rfl (Nat.le_of_ble_eq_true rfl) dX10_init_9 hs_1ne ⟨⟨Nat.le_of_ble_eq_true rfl, Nat.le_of_ble_eq_true rfl⟩, Nat.le_of_ble_eq_true rfl, Nat.le_of_ble_eq_true rfl⟩ (fun v S3 h => ?_) (fun _ _ h => h.elim)
  obtain ⟨rfl, hv⟩ := h
  refine wa_putFR X J (j := 0) hk_10 hc_10 i_10 tyX10 tyX10_ok nmX10 (by decide) kw_361 rfl rfl rfl dX10_init_12 hs_1ne ⟨rfl, Or.inl ⟨_, rfl⟩⟩ (hs_eqS fun S5 hS5 => ?_)
  replace hv := hv S5 hS5
  refine wa_aload_n X 0 rfl dX10_init_15 rfl ?_
  obtain ⟨o6, hv⟩ := hv
  refine wa_new1 X (t := 1) hk_1 hc_1 i_1 tyX1 tyX1_ok dv_1 kw_190 kw_191 kw_61 dX10_init_16 ⟨Nat.le_of_ble_eq_true rfl, Nat.le_of_ble_eq_true rfl⟩ o6 (hs_eqS fun S7 hS7 => ?_)
  replace hv := hv S7 hS7
  refine wa_dup X dX10_init_19 rfl ?_
  refine wa_callI X (As := []) (hv) kw_194 kw_61 kw_192 kw_193 rfl nd_X1_init rfl rfl (Nat.le_of_ble_eq_true rfl) dX10_init_20 hs_1ne ⟨⟨Nat.le_of_ble_eq_true rfl, Nat.le_of_ble_eq_true rfl⟩, Nat.le_of_ble_eq_true rfl, Nat.le_of_ble_eq_true rfl⟩ (fun v S8 h => ?_) (fun _ _ h => h.elim)
  obtain ⟨rfl, hv⟩ := h
  refine wa_putFR X J (j := 1) hk_10 hc_10 i_10 tyX10 tyX10_ok nmX10 (by decide) kw_362 rfl rfl rfl dX10_init_23 hs_1ne ⟨rfl, Or.inl ⟨_, rfl⟩⟩ (hs_eqS fun S10 hS10 => ?_)
  replace hv := hv S10 hS10
  refine wa_aload_n X 0 rfl dX10_init_26 rfl ?_
  obtain ⟨o11, hv⟩ := hv
  refine wa_new1 X (t := 4) hk_4 hc_4 i_4 tyX4 tyX4_ok dv_4 kw_279 kw_280 kw_63 dX10_init_27 ⟨Nat.le_of_ble_eq_true rfl, Nat.le_of_ble_eq_true rfl⟩ o11 (hs_eqS fun S12 hS12 => ?_)
  replace hv := hv S12 hS12
  refine wa_dup X dX10_init_30 rfl ?_
  refine wa_aload_n X 0 rfl dX10_init_31 rfl ?_
  refine wa_getR X (j := 0) hk_10 hc_10 i_10 (by decide) kw_361 rfl dX10_init_32 hs_1ne ?_
  obtain ⟨o13, hv⟩ := hv
  refine hs_stR o13 ?_
  refine wa_aload_n X 0 rfl dX10_init_35 rfl ?_
  refine wa_getR X (j := 1) hk_10 hc_10 i_10 (by decide) kw_362 rfl dX10_init_36 hs_1ne ?_
  obtain ⟨o14, hv⟩ := hv
  refine hs_stR o14 ?_
  refine wa_callI X (As := [.inr (.inr (9, 1)), .inr (.inr (1, 1))]) (hv) kw_283 kw_63 kw_281 kw_282 rfl nd_X4_init rfl rfl (Nat.le_of_ble_eq_true rfl) dX10_init_39 hs_1ne ⟨⟨Nat.le_of_ble_eq_true rfl, Nat.le_of_ble_eq_true rfl⟩, Nat.le_of_ble_eq_true rfl, Nat.le_of_ble_eq_true rfl⟩ (fun v S15 h => ?_) (fun _ _ h => h.elim)
  obtain ⟨rfl, hv⟩ := h
  refine wa_putFR X J (j := 2) hk_10 hc_10 i_10 tyX10 tyX10_ok nmX10 (by decide) kw_363 rfl rfl rfl dX10_init_42 hs_1ne ⟨rfl, Or.inl ⟨_, rfl⟩⟩ (hs_eqS fun S17 hS17 => ?_)
  replace hv := hv S17 hS17
  refine wa_aload_n X 0 rfl dX10_init_45 rfl ?_
  obtain ⟨o18, hv⟩ := hv
  refine wa_new1 X (t := 2) hk_2 hc_2 i_2 tyX2 tyX2_ok dv_2 kw_320 kw_321 kw_64 dX10_init_46 ⟨Nat.le_of_ble_eq_true rfl, Nat.le_of_ble_eq_true rfl⟩ o18 (hs_eqS fun S19 hS19 => ?_)
  replace hv := hv S19 hS19
  refine wa_dup X dX10_init_49 rfl ?_
  refine wa_aload_n X 0 rfl dX10_init_50 rfl ?_
  refine wa_getR X (j := 1) hk_10 hc_10 i_10 (by decide) kw_362 rfl dX10_init_51 hs_1ne ?_
  obtain ⟨o20, hv⟩ := hv
  refine hs_stR o20 ?_
  refine wa_aload_n X 0 rfl dX10_init_54 rfl ?_
  refine wa_getR X (j := 2) hk_10 hc_10 i_10 (by decide) kw_363 rfl dX10_init_55 hs_1ne ?_
  obtain ⟨o21, hv⟩ := hv
  refine hs_stR o21 ?_
  refine wa_callI X (As := [.inr (.inr (1, 1)), .inr (.inr (4, 1))]) (hv) kw_324 kw_64 kw_322 kw_323 rfl nd_X2_init rfl rfl (Nat.le_of_ble_eq_true rfl) dX10_init_58 hs_1ne ⟨⟨Nat.le_of_ble_eq_true rfl, Nat.le_of_ble_eq_true rfl⟩, Nat.le_of_ble_eq_true rfl, Nat.le_of_ble_eq_true rfl⟩ (fun v S22 h => ?_) (fun _ _ h => h.elim)
  obtain ⟨rfl, hv⟩ := h
  refine wa_putFR X J (j := 3) hk_10 hc_10 i_10 tyX10 tyX10_ok nmX10 (by decide) kw_364 rfl rfl rfl dX10_init_61 hs_1ne ⟨rfl, Or.inl ⟨_, rfl⟩⟩ (hs_eqS fun S24 hS24 => ?_)
  replace hv := hv S24 hS24
  refine wa_aload_n X 0 rfl dX10_init_64 rfl ?_
  obtain ⟨o25, hv⟩ := hv
  refine wa_new1 X (t := 6) hk_6 hc_6 i_6 tyX6 tyX6_ok dv_6 kw_333 kw_334 kw_65 dX10_init_65 ⟨Nat.le_of_ble_eq_true rfl, Nat.le_of_ble_eq_true rfl⟩ o25 (hs_eqS fun S26 hS26 => ?_)
  replace hv := hv S26 hS26
  refine wa_dup X dX10_init_68 rfl ?_
  refine wa_aload_n X 0 rfl dX10_init_69 rfl ?_
  refine wa_getR X (j := 1) hk_10 hc_10 i_10 (by decide) kw_362 rfl dX10_init_70 hs_1ne ?_
  obtain ⟨o27, hv⟩ := hv
  refine hs_stR o27 ?_
  refine wa_callI X (As := [.inr (.inr (1, 1))]) (hv) kw_337 kw_65 kw_335 kw_336 rfl nd_X6_init rfl rfl (Nat.le_of_ble_eq_true rfl) dX10_init_73 hs_1ne ⟨⟨Nat.le_of_ble_eq_true rfl, Nat.le_of_ble_eq_true rfl⟩, Nat.le_of_ble_eq_true rfl, Nat.le_of_ble_eq_true rfl⟩ (fun v S28 h => ?_) (fun _ _ h => h.elim)
  obtain ⟨rfl, hv⟩ := h
  refine wa_putFR X J (j := 4) hk_10 hc_10 i_10 tyX10 tyX10_ok nmX10 (by decide) kw_365 rfl rfl rfl dX10_init_76 hs_1ne ⟨rfl, Or.inl ⟨_, rfl⟩⟩ (hs_eqS fun S30 hS30 => ?_)
  replace hv := hv S30 hS30
  refine wa_aload_n X 0 rfl dX10_init_79 rfl ?_
  refine wa_iconst X dX10_init_80 kc0 ?_
  refine wa_putI X (j := 5) hk_10 hc_10 i_10 tyX10 tyX10_ok nmX10 (by decide) kw_366 rfl rfl dX10_init_81 hs_1ne ⟨rfl, Or.inl rfl⟩ (hs_eqS fun S31 hS31 => ?_)
  replace hv := hv S31 hS31
  exact wa_return X E dX10_init_84 (Nat.le_of_ble_eq_true rfl) (Nat.le_of_ble_eq_true rfl) ⟨rfl, hv⟩

def m_M_init (S : hs_S) (Q : hs_S → Prop) : Prop := hs_M 2 yX11_init (.code yX11_init cX11_init 2 none) [.inr (.inr (11, 1))] S 49 12686 (hs_rV Q) hs_nX
def vc_M_init (S : hs_S) (Q : hs_S → Prop) : Prop := (∀ S1 : hs_S, S1 = (hs_nw S 42) → (∀ S2 : hs_S, S2 = (hs_wR S1 11 1 2 (S.2.2.2 42 + 1)) → (∀ S3 : hs_S, S3 = (hs_nw S2 43) → (∀ S4 : hs_S, S4 = (hs_wR S3 11 1 3 (S2.2.2.2 43 + 1)) → (∀ S5 : hs_S, S5 = (hs_nw S4 44) → (∀ S6 : hs_S, S6 = (hs_wR S5 11 1 4 (S4.2.2.2 44 + 1)) → (∀ S7 : hs_S, S7 = (hs_nw S6 46) → (∀ S8 : hs_S, S8 = (hs_wR S7 11 1 6 (S6.2.2.2 46 + 1)) → (∀ S9 : hs_S, S9 = (hs_nw S8 47) → (∀ S10 : hs_S, S10 = (hs_wR S9 11 1 7 (S8.2.2.2 47 + 1)) → (∀ S11 : hs_S, S11 = (hs_nw S10 48) → (∀ S12 : hs_S, S12 = (hs_wR S11 11 1 8 (S10.2.2.2 48 + 1)) → (∀ S13 : hs_S, S13 = (hs_nw S12 49) → (∀ S14 : hs_S, S14 = (hs_wR S13 11 1 9 (S12.2.2.2 49 + 1)) → (∀ S15 : hs_S, S15 = (hs_nw S14 51) → (∀ S16 : hs_S, S16 = (hs_wR S15 11 1 11 (S14.2.2.2 51 + 1)) → (∀ S17 : hs_S, S17 = (hs_nw S16 53) → (∀ S18 : hs_S, S18 = (hs_wR S17 11 1 13 (S16.2.2.2 53 + 1)) → (∀ S19 : hs_S, S19 = (hs_nw S18 54) → (∀ S20 : hs_S, S20 = (hs_wR S19 11 1 14 (S18.2.2.2 54 + 1)) → (∀ S21 : hs_S, S21 = (hs_nw S20 55) → (∀ S22 : hs_S, S22 = (hs_wR S21 11 1 15 (S20.2.2.2 55 + 1)) → (∀ S23 : hs_S, S23 = (hs_nw S22 56) → (∀ S24 : hs_S, S24 = (hs_wR S23 11 1 16 (S22.2.2.2 56 + 1)) → (∀ S25 : hs_S, S25 = (hs_nw S24 57) → (∀ S26 : hs_S, S26 = (hs_wR S25 11 1 17 (S24.2.2.2 57 + 1)) → (∀ S27 : hs_S, S27 = (hs_nw S26 58) → (∀ S28 : hs_S, S28 = (hs_wR S27 11 1 18 (S26.2.2.2 58 + 1)) → (∀ S29 : hs_S, S29 = (hs_nw S28 59) → (∀ S30 : hs_S, S30 = (hs_wR S29 11 1 19 (S28.2.2.2 59 + 1)) → (∀ S31 : hs_S, S31 = (hs_nw S30 60) → (∀ S32 : hs_S, S32 = (hs_wR S31 11 1 20 (S30.2.2.2 60 + 1)) → (∀ S33 : hs_S, S33 = (hs_nw S32 61) → (∀ S34 : hs_S, S34 = (hs_wR S33 11 1 21 (S32.2.2.2 61 + 1)) → (∀ S35 : hs_S, S35 = (hs_nw S34 62) → (∀ S36 : hs_S, S36 = (hs_wR S35 11 1 22 (S34.2.2.2 62 + 1)) → (∀ S37 : hs_S, S37 = (hs_nw S36 63) → (∀ S38 : hs_S, S38 = (hs_wR S37 11 1 23 (S36.2.2.2 63 + 1)) → (∀ S39 : hs_S, S39 = (hs_nw S38 65) → (∀ S40 : hs_S, S40 = (hs_wR S39 11 1 25 (S38.2.2.2 65 + 1)) → (∀ S41 : hs_S, S41 = (hs_nw S40 66) → (∀ S42 : hs_S, S42 = (hs_wR S41 11 1 26 (S40.2.2.2 66 + 1)) → (∀ S43 : hs_S, S43 = (hs_nw S42 67) → (∀ S44 : hs_S, S44 = (hs_wR S43 11 1 27 (S42.2.2.2 67 + 1)) → (∀ S45 : hs_S, S45 = (hs_nw S44 68) → (∀ S46 : hs_S, S46 = (hs_wR S45 11 1 28 (S44.2.2.2 68 + 1)) → (∀ S47 : hs_S, S47 = (hs_nw S46 69) → (∀ S48 : hs_S, S48 = (hs_wR S47 11 1 29 (S46.2.2.2 69 + 1)) → (∀ S49 : hs_S, S49 = (hs_nw S48 70) → (∀ S50 : hs_S, S50 = (hs_wR S49 11 1 30 (S48.2.2.2 70 + 1)) → (∀ S51 : hs_S, S51 = (hs_nw S50 71) → (∀ S52 : hs_S, S52 = (hs_wR S51 11 1 31 (S50.2.2.2 71 + 1)) → (∀ S53 : hs_S, S53 = (hs_nw S52 72) → (∀ S54 : hs_S, S54 = (hs_wR S53 11 1 32 (S52.2.2.2 72 + 1)) → (∀ S55 : hs_S, S55 = (hs_nw S54 73) → (∀ S56 : hs_S, S56 = (hs_wR S55 11 1 33 (S54.2.2.2 73 + 1)) → (∀ S57 : hs_S, S57 = (hs_nw S56 74) → (∀ S58 : hs_S, S58 = (hs_wR S57 11 1 34 (S56.2.2.2 74 + 1)) → (∀ S59 : hs_S, S59 = (hs_nw S58 75) → (∀ S60 : hs_S, S60 = (hs_wR S59 11 1 35 (S58.2.2.2 75 + 1)) → (∀ S61 : hs_S, S61 = (hs_nw S60 77) → (∀ S62 : hs_S, S62 = (hs_wR S61 11 1 37 (S60.2.2.2 77 + 1)) → (∀ S63 : hs_S, S63 = (hs_nw S62 78) → (∀ S64 : hs_S, S64 = (hs_wR S63 11 1 38 (S62.2.2.2 78 + 1)) → (∀ S65 : hs_S, S65 = (hs_nw S64 79) → (∀ S66 : hs_S, S66 = (hs_wR S65 11 1 39 (S64.2.2.2 79 + 1)) → (∀ S67 : hs_S, S67 = (hs_nw S66 80) → (∀ S68 : hs_S, S68 = (hs_wR S67 11 1 40 (S66.2.2.2 80 + 1)) → (∀ S69 : hs_S, S69 = (hs_nw S68 81) → (∀ S70 : hs_S, S70 = (hs_wR S69 11 1 41 (S68.2.2.2 81 + 1)) → (∀ S71 : hs_S, S71 = (hs_nw S70 82) → (∀ S72 : hs_S, S72 = (hs_wR S71 11 1 42 (S70.2.2.2 82 + 1)) → (∀ S73 : hs_S, S73 = (hs_nw S72 83) → (∀ S74 : hs_S, S74 = (hs_wR S73 11 1 43 (S72.2.2.2 83 + 1)) → (∀ S75 : hs_S, S75 = (hs_nw S74 84) → (∀ S76 : hs_S, S76 = (hs_wR S75 11 1 44 (S74.2.2.2 84 + 1)) → (∀ S77 : hs_S, S77 = (hs_nw S76 85) → (∀ S78 : hs_S, S78 = (hs_wR S77 11 1 45 (S76.2.2.2 85 + 1)) → (∀ S79 : hs_S, S79 = (hs_nw S78 86) → (∀ S80 : hs_S, S80 = (hs_wR S79 11 1 46 (S78.2.2.2 86 + 1)) → (∀ S81 : hs_S, S81 = (hs_nw S80 87) → (∀ S82 : hs_S, S82 = (hs_wR S81 11 1 47 (S80.2.2.2 87 + 1)) → (∀ S83 : hs_S, S83 = (hs_nw S82 88) → (∀ S84 : hs_S, S84 = (hs_wR S83 11 1 48 (S82.2.2.2 88 + 1)) → (∀ S85 : hs_S, S85 = (hs_nw S84 89) → (∀ S86 : hs_S, S86 = (hs_wR S85 11 1 49 (S84.2.2.2 89 + 1)) → (∀ S87 : hs_S, S87 = (hs_nw S86 90) → (∀ S88 : hs_S, S88 = (hs_wR S87 11 1 50 (S86.2.2.2 90 + 1)) → (∀ S89 : hs_S, S89 = (hs_nw S88 91) → (∀ S90 : hs_S, S90 = (hs_wR S89 11 1 51 (S88.2.2.2 91 + 1)) → (∀ S91 : hs_S, S91 = (hs_nw S90 92) → (∀ S92 : hs_S, S92 = (hs_wR S91 11 1 52 (S90.2.2.2 92 + 1)) → (∀ S93 : hs_S, S93 = (hs_nw S92 94) → (∀ S94 : hs_S, S94 = (hs_wR S93 11 1 54 (S92.2.2.2 94 + 1)) → (∀ S95 : hs_S, S95 = (hs_nw S94 96) → (∀ S96 : hs_S, S96 = (hs_wR S95 11 1 56 (S94.2.2.2 96 + 1)) → (∀ S97 : hs_S, S97 = (hs_nw S96 97) → (∀ S98 : hs_S, S98 = (hs_wR S97 11 1 57 (S96.2.2.2 97 + 1)) → (∃ I100 : Nat → Int32 → hs_S → Prop, (∃ n105, I100 n105 (0 : Int32) S98) ∧ (∀ N101 : Nat, ∀ x99 : Int32, ∀ S102 : hs_S, I100 N101 x99 S102 → (((4 : Int32) ≤ x99 → (∃ I111 : Nat → Int32 → hs_S → Prop, (∃ n116, I111 n116 (0 : Int32) S102) ∧ (∀ N112 : Nat, ∀ x110 : Int32, ∀ S113 : hs_S, I111 N112 x110 S113 → (((6 : Int32) ≤ x110 → (Q S113)) ∧ (¬ (6 : Int32) ≤ x110 → (((S113.2.1 11 1 48) = 1) ∧ ((0 ≤ x110.toInt ∧ x110.toInt < 6) ∧ (∀ S123 : hs_S, S123 = (hs_wI S113 88 1 x110.toNatClampNeg (100000 : Int32)) → (∃ q124, q124 < N112 ∧ I111 q124 (x110 + 1) S123))))))))) ∧ (¬ (4 : Int32) ≤ x99 → (((S102.2.1 11 1 22) = 1) ∧ ((0 ≤ x99.toInt ∧ x99.toInt < 4) ∧ (∀ S128 : hs_S, S128 = (hs_wI S102 62 1 x99.toNatClampNeg (-1 : Int32)) → (∃ q129, q129 < N101 ∧ I100 q129 (x99 + 1) S128))))))))))))))))))))))))))))))))))))))))))))))))))))))))))))))))))))))))))))))))))))))))))))))))))))))))))
set_option maxRecDepth 100000 in
set_option maxHeartbeats 4000000 in
theorem ok_M_init {S : hs_S} {Q : hs_S → Prop} (hv : vc_M_init S Q) : m_M_init S Q := by
  unfold vc_M_init at hv
  refine hs_body (own := RX11) rfl rfl (Nat.le_of_ble_eq_true rfl) (fun Z X E N J0 => ?_)
  show wa Z 0 0 S 0 [(0, .inr (.inr (11, 1)))] []
  have J : hs_I Z := J0
  refine wa_aload_n X 0 rfl dX11_init_0 rfl ?_
  refine wa_objInit X kw_1182 kw_87 kw_88 dX11_init_1 hs_1ne ⟨Nat.le_of_ble_eq_true rfl, Nat.le_of_ble_eq_true rfl⟩ ?_
  refine wa_aload_n X 0 rfl dX11_init_4 rfl ?_
  refine wa_sipush X dX11_init_5 ks1200 ?_
  refine wa_newi X hk_42 kw_111 (by decide) (by decide) (Nat.le_of_ble_eq_true rfl) dX11_init_8 ⟨Nat.le_of_ble_eq_true rfl, Nat.le_of_ble_eq_true rfl⟩ (hs_eqS fun S1 hS1 => ?_)
  replace hv := hv S1 hS1
  refine wa_putFR X J (j := 2) hk_11 hc_11 i_11 tyX11 tyX11_ok nmX11 (by decide) kw_1186 rfl rfl rfl dX11_init_10 hs_1ne ⟨rfl, Or.inr ⟨_, rfl⟩⟩ (hs_eqS fun S2 hS2 => ?_)
  replace hv := hv S2 hS2
  refine wa_aload_n X 0 rfl dX11_init_13 rfl ?_
  refine wa_sipush X dX11_init_14 ks1200 ?_
  refine wa_newi X hk_43 kw_111 (by decide) (by decide) (Nat.le_of_ble_eq_true rfl) dX11_init_17 ⟨Nat.le_of_ble_eq_true rfl, Nat.le_of_ble_eq_true rfl⟩ (hs_eqS fun S3 hS3 => ?_)
  replace hv := hv S3 hS3
  refine wa_putFR X J (j := 3) hk_11 hc_11 i_11 tyX11 tyX11_ok nmX11 (by decide) kw_1187 rfl rfl rfl dX11_init_19 hs_1ne ⟨rfl, Or.inr ⟨_, rfl⟩⟩ (hs_eqS fun S4 hS4 => ?_)
  replace hv := hv S4 hS4
  refine wa_aload_n X 0 rfl dX11_init_22 rfl ?_
  refine wa_sipush X dX11_init_23 ks1200 ?_
  refine wa_newi X hk_44 kw_111 (by decide) (by decide) (Nat.le_of_ble_eq_true rfl) dX11_init_26 ⟨Nat.le_of_ble_eq_true rfl, Nat.le_of_ble_eq_true rfl⟩ (hs_eqS fun S5 hS5 => ?_)
  replace hv := hv S5 hS5
  refine wa_putFR X J (j := 4) hk_11 hc_11 i_11 tyX11 tyX11_ok nmX11 (by decide) kw_1188 rfl rfl rfl dX11_init_28 hs_1ne ⟨rfl, Or.inr ⟨_, rfl⟩⟩ (hs_eqS fun S6 hS6 => ?_)
  replace hv := hv S6 hS6
  refine wa_aload_n X 0 rfl dX11_init_31 rfl ?_
  refine wa_sipush X dX11_init_32 ks1200 ?_
  refine wa_newi X hk_46 kw_111 (by decide) (by decide) (Nat.le_of_ble_eq_true rfl) dX11_init_35 ⟨Nat.le_of_ble_eq_true rfl, Nat.le_of_ble_eq_true rfl⟩ (hs_eqS fun S7 hS7 => ?_)
  replace hv := hv S7 hS7
  refine wa_putFR X J (j := 6) hk_11 hc_11 i_11 tyX11 tyX11_ok nmX11 (by decide) kw_1190 rfl rfl rfl dX11_init_37 hs_1ne ⟨rfl, Or.inr ⟨_, rfl⟩⟩ (hs_eqS fun S8 hS8 => ?_)
  replace hv := hv S8 hS8
  refine wa_aload_n X 0 rfl dX11_init_40 rfl ?_
  refine wa_sipush X dX11_init_41 ks1200 ?_
  refine wa_newi X hk_47 kw_111 (by decide) (by decide) (Nat.le_of_ble_eq_true rfl) dX11_init_44 ⟨Nat.le_of_ble_eq_true rfl, Nat.le_of_ble_eq_true rfl⟩ (hs_eqS fun S9 hS9 => ?_)
  replace hv := hv S9 hS9
  refine wa_putFR X J (j := 7) hk_11 hc_11 i_11 tyX11 tyX11_ok nmX11 (by decide) kw_1191 rfl rfl rfl dX11_init_46 hs_1ne ⟨rfl, Or.inr ⟨_, rfl⟩⟩ (hs_eqS fun S10 hS10 => ?_)
  replace hv := hv S10 hS10
  refine wa_aload_n X 0 rfl dX11_init_49 rfl ?_
  refine wa_sipush X dX11_init_50 ks1200 ?_
  refine wa_newi X hk_48 kw_111 (by decide) (by decide) (Nat.le_of_ble_eq_true rfl) dX11_init_53 ⟨Nat.le_of_ble_eq_true rfl, Nat.le_of_ble_eq_true rfl⟩ (hs_eqS fun S11 hS11 => ?_)
  replace hv := hv S11 hS11
  refine wa_putFR X J (j := 8) hk_11 hc_11 i_11 tyX11 tyX11_ok nmX11 (by decide) kw_1192 rfl rfl rfl dX11_init_55 hs_1ne ⟨rfl, Or.inr ⟨_, rfl⟩⟩ (hs_eqS fun S12 hS12 => ?_)
  replace hv := hv S12 hS12
  refine wa_aload_n X 0 rfl dX11_init_58 rfl ?_
  refine wa_sipush X dX11_init_59 ks1200 ?_
  refine wa_newi X hk_49 kw_111 (by decide) (by decide) (Nat.le_of_ble_eq_true rfl) dX11_init_62 ⟨Nat.le_of_ble_eq_true rfl, Nat.le_of_ble_eq_true rfl⟩ (hs_eqS fun S13 hS13 => ?_)
  replace hv := hv S13 hS13
  refine wa_putFR X J (j := 9) hk_11 hc_11 i_11 tyX11 tyX11_ok nmX11 (by decide) kw_1193 rfl rfl rfl dX11_init_64 hs_1ne ⟨rfl, Or.inr ⟨_, rfl⟩⟩ (hs_eqS fun S14 hS14 => ?_)
  replace hv := hv S14 hS14
  refine wa_aload_n X 0 rfl dX11_init_67 rfl ?_
  refine wa_bipush X dX11_init_68 kb36 ?_
  refine wa_newi X hk_51 kw_111 (by decide) (by decide) (Nat.le_of_ble_eq_true rfl) dX11_init_70 ⟨Nat.le_of_ble_eq_true rfl, Nat.le_of_ble_eq_true rfl⟩ (hs_eqS fun S15 hS15 => ?_)
  replace hv := hv S15 hS15
  refine wa_putFR X J (j := 11) hk_11 hc_11 i_11 tyX11 tyX11_ok nmX11 (by decide) kw_1195 rfl rfl rfl dX11_init_72 hs_1ne ⟨rfl, Or.inr ⟨_, rfl⟩⟩ (hs_eqS fun S16 hS16 => ?_)
  replace hv := hv S16 hS16
  refine wa_aload_n X 0 rfl dX11_init_75 rfl ?_
  refine wa_bipush X dX11_init_76 kb60 ?_
  refine wa_newi X hk_53 kw_111 (by decide) (by decide) (Nat.le_of_ble_eq_true rfl) dX11_init_78 ⟨Nat.le_of_ble_eq_true rfl, Nat.le_of_ble_eq_true rfl⟩ (hs_eqS fun S17 hS17 => ?_)
  replace hv := hv S17 hS17
  refine wa_putFR X J (j := 13) hk_11 hc_11 i_11 tyX11 tyX11_ok nmX11 (by decide) kw_1197 rfl rfl rfl dX11_init_80 hs_1ne ⟨rfl, Or.inr ⟨_, rfl⟩⟩ (hs_eqS fun S18 hS18 => ?_)
  replace hv := hv S18 hS18
  refine wa_aload_n X 0 rfl dX11_init_83 rfl ?_
  refine wa_bipush X dX11_init_84 kb60 ?_
  refine wa_newi X hk_54 kw_111 (by decide) (by decide) (Nat.le_of_ble_eq_true rfl) dX11_init_86 ⟨Nat.le_of_ble_eq_true rfl, Nat.le_of_ble_eq_true rfl⟩ (hs_eqS fun S19 hS19 => ?_)
  replace hv := hv S19 hS19
  refine wa_putFR X J (j := 14) hk_11 hc_11 i_11 tyX11 tyX11_ok nmX11 (by decide) kw_1198 rfl rfl rfl dX11_init_88 hs_1ne ⟨rfl, Or.inr ⟨_, rfl⟩⟩ (hs_eqS fun S20 hS20 => ?_)
  replace hv := hv S20 hS20
  refine wa_aload_n X 0 rfl dX11_init_91 rfl ?_
  refine wa_bipush X dX11_init_92 kb60 ?_
  refine wa_newi X hk_55 kw_111 (by decide) (by decide) (Nat.le_of_ble_eq_true rfl) dX11_init_94 ⟨Nat.le_of_ble_eq_true rfl, Nat.le_of_ble_eq_true rfl⟩ (hs_eqS fun S21 hS21 => ?_)
  replace hv := hv S21 hS21
  refine wa_putFR X J (j := 15) hk_11 hc_11 i_11 tyX11 tyX11_ok nmX11 (by decide) kw_1199 rfl rfl rfl dX11_init_96 hs_1ne ⟨rfl, Or.inr ⟨_, rfl⟩⟩ (hs_eqS fun S22 hS22 => ?_)
  replace hv := hv S22 hS22
  refine wa_aload_n X 0 rfl dX11_init_99 rfl ?_
  refine wa_bipush X dX11_init_100 kb60 ?_
  refine wa_newi X hk_56 kw_111 (by decide) (by decide) (Nat.le_of_ble_eq_true rfl) dX11_init_102 ⟨Nat.le_of_ble_eq_true rfl, Nat.le_of_ble_eq_true rfl⟩ (hs_eqS fun S23 hS23 => ?_)
  replace hv := hv S23 hS23
  refine wa_putFR X J (j := 16) hk_11 hc_11 i_11 tyX11 tyX11_ok nmX11 (by decide) kw_1200 rfl rfl rfl dX11_init_104 hs_1ne ⟨rfl, Or.inr ⟨_, rfl⟩⟩ (hs_eqS fun S24 hS24 => ?_)
  replace hv := hv S24 hS24
  refine wa_aload_n X 0 rfl dX11_init_107 rfl ?_
  refine wa_bipush X dX11_init_108 kb60 ?_
  refine wa_newi X hk_57 kw_111 (by decide) (by decide) (Nat.le_of_ble_eq_true rfl) dX11_init_110 ⟨Nat.le_of_ble_eq_true rfl, Nat.le_of_ble_eq_true rfl⟩ (hs_eqS fun S25 hS25 => ?_)
  replace hv := hv S25 hS25
  refine wa_putFR X J (j := 17) hk_11 hc_11 i_11 tyX11 tyX11_ok nmX11 (by decide) kw_1201 rfl rfl rfl dX11_init_112 hs_1ne ⟨rfl, Or.inr ⟨_, rfl⟩⟩ (hs_eqS fun S26 hS26 => ?_)
  replace hv := hv S26 hS26
  refine wa_aload_n X 0 rfl dX11_init_115 rfl ?_
  refine wa_bipush X dX11_init_116 kb60 ?_
  refine wa_newz X hk_58 kw_257 (by decide) (by decide) (Nat.le_of_ble_eq_true rfl) dX11_init_118 ⟨Nat.le_of_ble_eq_true rfl, Nat.le_of_ble_eq_true rfl⟩ (hs_eqS fun S27 hS27 => ?_)
  replace hv := hv S27 hS27
  refine wa_putFR X J (j := 18) hk_11 hc_11 i_11 tyX11 tyX11_ok nmX11 (by decide) kw_1202 rfl rfl rfl dX11_init_120 hs_1ne ⟨rfl, Or.inr ⟨_, rfl⟩⟩ (hs_eqS fun S28 hS28 => ?_)
  replace hv := hv S28 hS28
  refine wa_aload_n X 0 rfl dX11_init_123 rfl ?_
  refine wa_sipush X dX11_init_124 ks2160 ?_
  refine wa_newi X hk_59 kw_111 (by decide) (by decide) (Nat.le_of_ble_eq_true rfl) dX11_init_127 ⟨Nat.le_of_ble_eq_true rfl, Nat.le_of_ble_eq_true rfl⟩ (hs_eqS fun S29 hS29 => ?_)
  replace hv := hv S29 hS29
  refine wa_putFR X J (j := 19) hk_11 hc_11 i_11 tyX11 tyX11_ok nmX11 (by decide) kw_1203 rfl rfl rfl dX11_init_129 hs_1ne ⟨rfl, Or.inr ⟨_, rfl⟩⟩ (hs_eqS fun S30 hS30 => ?_)
  replace hv := hv S30 hS30
  refine wa_aload_n X 0 rfl dX11_init_132 rfl ?_
  refine wa_iconst X dX11_init_133 kc4 ?_
  refine wa_newi X hk_60 kw_111 (by decide) (by decide) (Nat.le_of_ble_eq_true rfl) dX11_init_134 ⟨Nat.le_of_ble_eq_true rfl, Nat.le_of_ble_eq_true rfl⟩ (hs_eqS fun S31 hS31 => ?_)
  replace hv := hv S31 hS31
  refine wa_putFR X J (j := 20) hk_11 hc_11 i_11 tyX11 tyX11_ok nmX11 (by decide) kw_1204 rfl rfl rfl dX11_init_136 hs_1ne ⟨rfl, Or.inr ⟨_, rfl⟩⟩ (hs_eqS fun S32 hS32 => ?_)
  replace hv := hv S32 hS32
  refine wa_aload_n X 0 rfl dX11_init_139 rfl ?_
  refine wa_iconst X dX11_init_140 kc4 ?_
  refine wa_newz X hk_61 kw_257 (by decide) (by decide) (Nat.le_of_ble_eq_true rfl) dX11_init_141 ⟨Nat.le_of_ble_eq_true rfl, Nat.le_of_ble_eq_true rfl⟩ (hs_eqS fun S33 hS33 => ?_)
  replace hv := hv S33 hS33
  refine wa_putFR X J (j := 21) hk_11 hc_11 i_11 tyX11 tyX11_ok nmX11 (by decide) kw_1205 rfl rfl rfl dX11_init_143 hs_1ne ⟨rfl, Or.inr ⟨_, rfl⟩⟩ (hs_eqS fun S34 hS34 => ?_)
  replace hv := hv S34 hS34
  refine wa_aload_n X 0 rfl dX11_init_146 rfl ?_
  refine wa_iconst X dX11_init_147 kc4 ?_
  refine wa_newi X hk_62 kw_111 (by decide) (by decide) (Nat.le_of_ble_eq_true rfl) dX11_init_148 ⟨Nat.le_of_ble_eq_true rfl, Nat.le_of_ble_eq_true rfl⟩ (hs_eqS fun S35 hS35 => ?_)
  replace hv := hv S35 hS35
  refine wa_putFR X J (j := 22) hk_11 hc_11 i_11 tyX11 tyX11_ok nmX11 (by decide) kw_1206 rfl rfl rfl dX11_init_150 hs_1ne ⟨rfl, Or.inr ⟨_, rfl⟩⟩ (hs_eqS fun S36 hS36 => ?_)
  replace hv := hv S36 hS36
  refine wa_aload_n X 0 rfl dX11_init_153 rfl ?_
  refine wa_iconst X dX11_init_154 kc4 ?_
  refine wa_newz X hk_63 kw_257 (by decide) (by decide) (Nat.le_of_ble_eq_true rfl) dX11_init_155 ⟨Nat.le_of_ble_eq_true rfl, Nat.le_of_ble_eq_true rfl⟩ (hs_eqS fun S37 hS37 => ?_)
  replace hv := hv S37 hS37
  refine wa_putFR X J (j := 23) hk_11 hc_11 i_11 tyX11 tyX11_ok nmX11 (by decide) kw_1207 rfl rfl rfl dX11_init_157 hs_1ne ⟨rfl, Or.inr ⟨_, rfl⟩⟩ (hs_eqS fun S38 hS38 => ?_)
  replace hv := hv S38 hS38
  refine wa_aload_n X 0 rfl dX11_init_160 rfl ?_
  refine wa_bipush X dX11_init_161 kb80 ?_
  refine wa_newi X hk_65 kw_111 (by decide) (by decide) (Nat.le_of_ble_eq_true rfl) dX11_init_163 ⟨Nat.le_of_ble_eq_true rfl, Nat.le_of_ble_eq_true rfl⟩ (hs_eqS fun S39 hS39 => ?_)
  replace hv := hv S39 hS39
  refine wa_putFR X J (j := 25) hk_11 hc_11 i_11 tyX11 tyX11_ok nmX11 (by decide) kw_1209 rfl rfl rfl dX11_init_165 hs_1ne ⟨rfl, Or.inr ⟨_, rfl⟩⟩ (hs_eqS fun S40 hS40 => ?_)
  replace hv := hv S40 hS40
  refine wa_aload_n X 0 rfl dX11_init_168 rfl ?_
  refine wa_bipush X dX11_init_169 kb80 ?_
  refine wa_newi X hk_66 kw_111 (by decide) (by decide) (Nat.le_of_ble_eq_true rfl) dX11_init_171 ⟨Nat.le_of_ble_eq_true rfl, Nat.le_of_ble_eq_true rfl⟩ (hs_eqS fun S41 hS41 => ?_)
  replace hv := hv S41 hS41
  refine wa_putFR X J (j := 26) hk_11 hc_11 i_11 tyX11 tyX11_ok nmX11 (by decide) kw_1210 rfl rfl rfl dX11_init_173 hs_1ne ⟨rfl, Or.inr ⟨_, rfl⟩⟩ (hs_eqS fun S42 hS42 => ?_)
  replace hv := hv S42 hS42
  refine wa_aload_n X 0 rfl dX11_init_176 rfl ?_
  refine wa_bipush X dX11_init_177 kb80 ?_
  refine wa_newz X hk_67 kw_257 (by decide) (by decide) (Nat.le_of_ble_eq_true rfl) dX11_init_179 ⟨Nat.le_of_ble_eq_true rfl, Nat.le_of_ble_eq_true rfl⟩ (hs_eqS fun S43 hS43 => ?_)
  replace hv := hv S43 hS43
  refine wa_putFR X J (j := 27) hk_11 hc_11 i_11 tyX11 tyX11_ok nmX11 (by decide) kw_1211 rfl rfl rfl dX11_init_181 hs_1ne ⟨rfl, Or.inr ⟨_, rfl⟩⟩ (hs_eqS fun S44 hS44 => ?_)
  replace hv := hv S44 hS44
  refine wa_aload_n X 0 rfl dX11_init_184 rfl ?_
  refine wa_bipush X dX11_init_185 kb80 ?_
  refine wa_newi X hk_68 kw_111 (by decide) (by decide) (Nat.le_of_ble_eq_true rfl) dX11_init_187 ⟨Nat.le_of_ble_eq_true rfl, Nat.le_of_ble_eq_true rfl⟩ (hs_eqS fun S45 hS45 => ?_)
  replace hv := hv S45 hS45
  refine wa_putFR X J (j := 28) hk_11 hc_11 i_11 tyX11 tyX11_ok nmX11 (by decide) kw_1212 rfl rfl rfl dX11_init_189 hs_1ne ⟨rfl, Or.inr ⟨_, rfl⟩⟩ (hs_eqS fun S46 hS46 => ?_)
  replace hv := hv S46 hS46
  refine wa_aload_n X 0 rfl dX11_init_192 rfl ?_
  refine wa_bipush X dX11_init_193 kb80 ?_
  refine wa_newi X hk_69 kw_111 (by decide) (by decide) (Nat.le_of_ble_eq_true rfl) dX11_init_195 ⟨Nat.le_of_ble_eq_true rfl, Nat.le_of_ble_eq_true rfl⟩ (hs_eqS fun S47 hS47 => ?_)
  replace hv := hv S47 hS47
  refine wa_putFR X J (j := 29) hk_11 hc_11 i_11 tyX11 tyX11_ok nmX11 (by decide) kw_1213 rfl rfl rfl dX11_init_197 hs_1ne ⟨rfl, Or.inr ⟨_, rfl⟩⟩ (hs_eqS fun S48 hS48 => ?_)
  replace hv := hv S48 hS48
  refine wa_aload_n X 0 rfl dX11_init_200 rfl ?_
  refine wa_bipush X dX11_init_201 kb80 ?_
  refine wa_newi X hk_70 kw_111 (by decide) (by decide) (Nat.le_of_ble_eq_true rfl) dX11_init_203 ⟨Nat.le_of_ble_eq_true rfl, Nat.le_of_ble_eq_true rfl⟩ (hs_eqS fun S49 hS49 => ?_)
  replace hv := hv S49 hS49
  refine wa_putFR X J (j := 30) hk_11 hc_11 i_11 tyX11 tyX11_ok nmX11 (by decide) kw_1214 rfl rfl rfl dX11_init_205 hs_1ne ⟨rfl, Or.inr ⟨_, rfl⟩⟩ (hs_eqS fun S50 hS50 => ?_)
  replace hv := hv S50 hS50
  refine wa_aload_n X 0 rfl dX11_init_208 rfl ?_
  refine wa_bipush X dX11_init_209 kb80 ?_
  refine wa_newi X hk_71 kw_111 (by decide) (by decide) (Nat.le_of_ble_eq_true rfl) dX11_init_211 ⟨Nat.le_of_ble_eq_true rfl, Nat.le_of_ble_eq_true rfl⟩ (hs_eqS fun S51 hS51 => ?_)
  replace hv := hv S51 hS51
  refine wa_putFR X J (j := 31) hk_11 hc_11 i_11 tyX11 tyX11_ok nmX11 (by decide) kw_1215 rfl rfl rfl dX11_init_213 hs_1ne ⟨rfl, Or.inr ⟨_, rfl⟩⟩ (hs_eqS fun S52 hS52 => ?_)
  replace hv := hv S52 hS52
  refine wa_aload_n X 0 rfl dX11_init_216 rfl ?_
  refine wa_bipush X dX11_init_217 kb80 ?_
  refine wa_newi X hk_72 kw_111 (by decide) (by decide) (Nat.le_of_ble_eq_true rfl) dX11_init_219 ⟨Nat.le_of_ble_eq_true rfl, Nat.le_of_ble_eq_true rfl⟩ (hs_eqS fun S53 hS53 => ?_)
  replace hv := hv S53 hS53
  refine wa_putFR X J (j := 32) hk_11 hc_11 i_11 tyX11 tyX11_ok nmX11 (by decide) kw_1216 rfl rfl rfl dX11_init_221 hs_1ne ⟨rfl, Or.inr ⟨_, rfl⟩⟩ (hs_eqS fun S54 hS54 => ?_)
  replace hv := hv S54 hS54
  refine wa_aload_n X 0 rfl dX11_init_224 rfl ?_
  refine wa_bipush X dX11_init_225 kb80 ?_
  refine wa_newz X hk_73 kw_257 (by decide) (by decide) (Nat.le_of_ble_eq_true rfl) dX11_init_227 ⟨Nat.le_of_ble_eq_true rfl, Nat.le_of_ble_eq_true rfl⟩ (hs_eqS fun S55 hS55 => ?_)
  replace hv := hv S55 hS55
  refine wa_putFR X J (j := 33) hk_11 hc_11 i_11 tyX11 tyX11_ok nmX11 (by decide) kw_1217 rfl rfl rfl dX11_init_229 hs_1ne ⟨rfl, Or.inr ⟨_, rfl⟩⟩ (hs_eqS fun S56 hS56 => ?_)
  replace hv := hv S56 hS56
  refine wa_aload_n X 0 rfl dX11_init_232 rfl ?_
  refine wa_bipush X dX11_init_233 kb80 ?_
  refine wa_newi X hk_74 kw_111 (by decide) (by decide) (Nat.le_of_ble_eq_true rfl) dX11_init_235 ⟨Nat.le_of_ble_eq_true rfl, Nat.le_of_ble_eq_true rfl⟩ (hs_eqS fun S57 hS57 => ?_)
  replace hv := hv S57 hS57
  refine wa_putFR X J (j := 34) hk_11 hc_11 i_11 tyX11 tyX11_ok nmX11 (by decide) kw_1218 rfl rfl rfl dX11_init_237 hs_1ne ⟨rfl, Or.inr ⟨_, rfl⟩⟩ (hs_eqS fun S58 hS58 => ?_)
  replace hv := hv S58 hS58
  refine wa_aload_n X 0 rfl dX11_init_240 rfl ?_
  refine wa_bipush X dX11_init_241 kb80 ?_
  refine wa_newi X hk_75 kw_111 (by decide) (by decide) (Nat.le_of_ble_eq_true rfl) dX11_init_243 ⟨Nat.le_of_ble_eq_true rfl, Nat.le_of_ble_eq_true rfl⟩ (hs_eqS fun S59 hS59 => ?_)
  replace hv := hv S59 hS59
  refine wa_putFR X J (j := 35) hk_11 hc_11 i_11 tyX11 tyX11_ok nmX11 (by decide) kw_1219 rfl rfl rfl dX11_init_245 hs_1ne ⟨rfl, Or.inr ⟨_, rfl⟩⟩ (hs_eqS fun S60 hS60 => ?_)
  replace hv := hv S60 hS60
  refine wa_aload_n X 0 rfl dX11_init_248 rfl ?_
  refine wa_bipush X dX11_init_249 kb30 ?_
  refine wa_newi X hk_77 kw_111 (by decide) (by decide) (Nat.le_of_ble_eq_true rfl) dX11_init_251 ⟨Nat.le_of_ble_eq_true rfl, Nat.le_of_ble_eq_true rfl⟩ (hs_eqS fun S61 hS61 => ?_)
  replace hv := hv S61 hS61
  refine wa_putFR X J (j := 37) hk_11 hc_11 i_11 tyX11 tyX11_ok nmX11 (by decide) kw_1221 rfl rfl rfl dX11_init_253 hs_1ne ⟨rfl, Or.inr ⟨_, rfl⟩⟩ (hs_eqS fun S62 hS62 => ?_)
  replace hv := hv S62 hS62
  refine wa_aload_n X 0 rfl dX11_init_256 rfl ?_
  refine wa_bipush X dX11_init_257 kb30 ?_
  refine wa_newi X hk_78 kw_111 (by decide) (by decide) (Nat.le_of_ble_eq_true rfl) dX11_init_259 ⟨Nat.le_of_ble_eq_true rfl, Nat.le_of_ble_eq_true rfl⟩ (hs_eqS fun S63 hS63 => ?_)
  replace hv := hv S63 hS63
  refine wa_putFR X J (j := 38) hk_11 hc_11 i_11 tyX11 tyX11_ok nmX11 (by decide) kw_1222 rfl rfl rfl dX11_init_261 hs_1ne ⟨rfl, Or.inr ⟨_, rfl⟩⟩ (hs_eqS fun S64 hS64 => ?_)
  replace hv := hv S64 hS64
  refine wa_aload_n X 0 rfl dX11_init_264 rfl ?_
  refine wa_bipush X dX11_init_265 kb30 ?_
  refine wa_newi X hk_79 kw_111 (by decide) (by decide) (Nat.le_of_ble_eq_true rfl) dX11_init_267 ⟨Nat.le_of_ble_eq_true rfl, Nat.le_of_ble_eq_true rfl⟩ (hs_eqS fun S65 hS65 => ?_)
  replace hv := hv S65 hS65
  refine wa_putFR X J (j := 39) hk_11 hc_11 i_11 tyX11 tyX11_ok nmX11 (by decide) kw_1223 rfl rfl rfl dX11_init_269 hs_1ne ⟨rfl, Or.inr ⟨_, rfl⟩⟩ (hs_eqS fun S66 hS66 => ?_)
  replace hv := hv S66 hS66
  refine wa_aload_n X 0 rfl dX11_init_272 rfl ?_
  refine wa_bipush X dX11_init_273 kb30 ?_
  refine wa_newz X hk_80 kw_257 (by decide) (by decide) (Nat.le_of_ble_eq_true rfl) dX11_init_275 ⟨Nat.le_of_ble_eq_true rfl, Nat.le_of_ble_eq_true rfl⟩ (hs_eqS fun S67 hS67 => ?_)
  replace hv := hv S67 hS67
  refine wa_putFR X J (j := 40) hk_11 hc_11 i_11 tyX11 tyX11_ok nmX11 (by decide) kw_1224 rfl rfl rfl dX11_init_277 hs_1ne ⟨rfl, Or.inr ⟨_, rfl⟩⟩ (hs_eqS fun S68 hS68 => ?_)
  replace hv := hv S68 hS68
  refine wa_aload_n X 0 rfl dX11_init_280 rfl ?_
  refine wa_bipush X dX11_init_281 kb30 ?_
  refine wa_newi X hk_81 kw_111 (by decide) (by decide) (Nat.le_of_ble_eq_true rfl) dX11_init_283 ⟨Nat.le_of_ble_eq_true rfl, Nat.le_of_ble_eq_true rfl⟩ (hs_eqS fun S69 hS69 => ?_)
  replace hv := hv S69 hS69
  refine wa_putFR X J (j := 41) hk_11 hc_11 i_11 tyX11 tyX11_ok nmX11 (by decide) kw_1225 rfl rfl rfl dX11_init_285 hs_1ne ⟨rfl, Or.inr ⟨_, rfl⟩⟩ (hs_eqS fun S70 hS70 => ?_)
  replace hv := hv S70 hS70
  refine wa_aload_n X 0 rfl dX11_init_288 rfl ?_
  refine wa_bipush X dX11_init_289 kb30 ?_
  refine wa_newi X hk_82 kw_111 (by decide) (by decide) (Nat.le_of_ble_eq_true rfl) dX11_init_291 ⟨Nat.le_of_ble_eq_true rfl, Nat.le_of_ble_eq_true rfl⟩ (hs_eqS fun S71 hS71 => ?_)
  replace hv := hv S71 hS71
  refine wa_putFR X J (j := 42) hk_11 hc_11 i_11 tyX11 tyX11_ok nmX11 (by decide) kw_1226 rfl rfl rfl dX11_init_293 hs_1ne ⟨rfl, Or.inr ⟨_, rfl⟩⟩ (hs_eqS fun S72 hS72 => ?_)
  replace hv := hv S72 hS72
  refine wa_aload_n X 0 rfl dX11_init_296 rfl ?_
  refine wa_bipush X dX11_init_297 kb30 ?_
  refine wa_newi X hk_83 kw_111 (by decide) (by decide) (Nat.le_of_ble_eq_true rfl) dX11_init_299 ⟨Nat.le_of_ble_eq_true rfl, Nat.le_of_ble_eq_true rfl⟩ (hs_eqS fun S73 hS73 => ?_)
  replace hv := hv S73 hS73
  refine wa_putFR X J (j := 43) hk_11 hc_11 i_11 tyX11 tyX11_ok nmX11 (by decide) kw_1227 rfl rfl rfl dX11_init_301 hs_1ne ⟨rfl, Or.inr ⟨_, rfl⟩⟩ (hs_eqS fun S74 hS74 => ?_)
  replace hv := hv S74 hS74
  refine wa_aload_n X 0 rfl dX11_init_304 rfl ?_
  refine wa_bipush X dX11_init_305 kb30 ?_
  refine wa_newi X hk_84 kw_111 (by decide) (by decide) (Nat.le_of_ble_eq_true rfl) dX11_init_307 ⟨Nat.le_of_ble_eq_true rfl, Nat.le_of_ble_eq_true rfl⟩ (hs_eqS fun S75 hS75 => ?_)
  replace hv := hv S75 hS75
  refine wa_putFR X J (j := 44) hk_11 hc_11 i_11 tyX11 tyX11_ok nmX11 (by decide) kw_1228 rfl rfl rfl dX11_init_309 hs_1ne ⟨rfl, Or.inr ⟨_, rfl⟩⟩ (hs_eqS fun S76 hS76 => ?_)
  replace hv := hv S76 hS76
  refine wa_aload_n X 0 rfl dX11_init_312 rfl ?_
  refine wa_bipush X dX11_init_313 kb90 ?_
  refine wa_newi X hk_85 kw_111 (by decide) (by decide) (Nat.le_of_ble_eq_true rfl) dX11_init_315 ⟨Nat.le_of_ble_eq_true rfl, Nat.le_of_ble_eq_true rfl⟩ (hs_eqS fun S77 hS77 => ?_)
  replace hv := hv S77 hS77
  refine wa_putFR X J (j := 45) hk_11 hc_11 i_11 tyX11 tyX11_ok nmX11 (by decide) kw_1229 rfl rfl rfl dX11_init_317 hs_1ne ⟨rfl, Or.inr ⟨_, rfl⟩⟩ (hs_eqS fun S78 hS78 => ?_)
  replace hv := hv S78 hS78
  refine wa_aload_n X 0 rfl dX11_init_320 rfl ?_
  refine wa_bipush X dX11_init_321 kb24 ?_
  refine wa_newj X hk_86 kw_1365 (by decide) (by decide) (Nat.le_of_ble_eq_true rfl) dX11_init_323 ⟨Nat.le_of_ble_eq_true rfl, Nat.le_of_ble_eq_true rfl⟩ (hs_eqS fun S79 hS79 => ?_)
  replace hv := hv S79 hS79
  refine wa_putFR X J (j := 46) hk_11 hc_11 i_11 tyX11 tyX11_ok nmX11 (by decide) kw_1230 rfl rfl rfl dX11_init_325 hs_1ne ⟨rfl, Or.inr ⟨_, rfl⟩⟩ (hs_eqS fun S80 hS80 => ?_)
  replace hv := hv S80 hS80
  refine wa_aload_n X 0 rfl dX11_init_328 rfl ?_
  refine wa_bipush X dX11_init_329 kb6 ?_
  refine wa_newi X hk_87 kw_111 (by decide) (by decide) (Nat.le_of_ble_eq_true rfl) dX11_init_331 ⟨Nat.le_of_ble_eq_true rfl, Nat.le_of_ble_eq_true rfl⟩ (hs_eqS fun S81 hS81 => ?_)
  replace hv := hv S81 hS81
  refine wa_putFR X J (j := 47) hk_11 hc_11 i_11 tyX11 tyX11_ok nmX11 (by decide) kw_1231 rfl rfl rfl dX11_init_333 hs_1ne ⟨rfl, Or.inr ⟨_, rfl⟩⟩ (hs_eqS fun S82 hS82 => ?_)
  replace hv := hv S82 hS82
  refine wa_aload_n X 0 rfl dX11_init_336 rfl ?_
  refine wa_bipush X dX11_init_337 kb6 ?_
  refine wa_newi X hk_88 kw_111 (by decide) (by decide) (Nat.le_of_ble_eq_true rfl) dX11_init_339 ⟨Nat.le_of_ble_eq_true rfl, Nat.le_of_ble_eq_true rfl⟩ (hs_eqS fun S83 hS83 => ?_)
  replace hv := hv S83 hS83
  refine wa_putFR X J (j := 48) hk_11 hc_11 i_11 tyX11 tyX11_ok nmX11 (by decide) kw_1232 rfl rfl rfl dX11_init_341 hs_1ne ⟨rfl, Or.inr ⟨_, rfl⟩⟩ (hs_eqS fun S84 hS84 => ?_)
  replace hv := hv S84 hS84
  refine wa_aload_n X 0 rfl dX11_init_344 rfl ?_
  refine wa_bipush X dX11_init_345 kb25 ?_
  refine wa_newi X hk_89 kw_111 (by decide) (by decide) (Nat.le_of_ble_eq_true rfl) dX11_init_347 ⟨Nat.le_of_ble_eq_true rfl, Nat.le_of_ble_eq_true rfl⟩ (hs_eqS fun S85 hS85 => ?_)
  replace hv := hv S85 hS85
  refine wa_putFR X J (j := 49) hk_11 hc_11 i_11 tyX11 tyX11_ok nmX11 (by decide) kw_1233 rfl rfl rfl dX11_init_349 hs_1ne ⟨rfl, Or.inr ⟨_, rfl⟩⟩ (hs_eqS fun S86 hS86 => ?_)
  replace hv := hv S86 hS86
  refine wa_aload_n X 0 rfl dX11_init_352 rfl ?_
  refine wa_bipush X dX11_init_353 kb25 ?_
  refine wa_newi X hk_90 kw_111 (by decide) (by decide) (Nat.le_of_ble_eq_true rfl) dX11_init_355 ⟨Nat.le_of_ble_eq_true rfl, Nat.le_of_ble_eq_true rfl⟩ (hs_eqS fun S87 hS87 => ?_)
  replace hv := hv S87 hS87
  refine wa_putFR X J (j := 50) hk_11 hc_11 i_11 tyX11 tyX11_ok nmX11 (by decide) kw_1234 rfl rfl rfl dX11_init_357 hs_1ne ⟨rfl, Or.inr ⟨_, rfl⟩⟩ (hs_eqS fun S88 hS88 => ?_)
  replace hv := hv S88 hS88
  refine wa_aload_n X 0 rfl dX11_init_360 rfl ?_
  refine wa_bipush X dX11_init_361 kb25 ?_
  refine wa_newi X hk_91 kw_111 (by decide) (by decide) (Nat.le_of_ble_eq_true rfl) dX11_init_363 ⟨Nat.le_of_ble_eq_true rfl, Nat.le_of_ble_eq_true rfl⟩ (hs_eqS fun S89 hS89 => ?_)
  replace hv := hv S89 hS89
  refine wa_putFR X J (j := 51) hk_11 hc_11 i_11 tyX11 tyX11_ok nmX11 (by decide) kw_1235 rfl rfl rfl dX11_init_365 hs_1ne ⟨rfl, Or.inr ⟨_, rfl⟩⟩ (hs_eqS fun S90 hS90 => ?_)
  replace hv := hv S90 hS90
  refine wa_aload_n X 0 rfl dX11_init_368 rfl ?_
  refine wa_bipush X dX11_init_369 kb25 ?_
  refine wa_newi X hk_92 kw_111 (by decide) (by decide) (Nat.le_of_ble_eq_true rfl) dX11_init_371 ⟨Nat.le_of_ble_eq_true rfl, Nat.le_of_ble_eq_true rfl⟩ (hs_eqS fun S91 hS91 => ?_)
  replace hv := hv S91 hS91
  refine wa_putFR X J (j := 52) hk_11 hc_11 i_11 tyX11 tyX11_ok nmX11 (by decide) kw_1236 rfl rfl rfl dX11_init_373 hs_1ne ⟨rfl, Or.inr ⟨_, rfl⟩⟩ (hs_eqS fun S92 hS92 => ?_)
  replace hv := hv S92 hS92
  refine wa_aload_n X 0 rfl dX11_init_376 rfl ?_
  refine wa_sipush X dX11_init_377 ks320 ?_
  refine wa_newi X hk_94 kw_111 (by decide) (by decide) (Nat.le_of_ble_eq_true rfl) dX11_init_380 ⟨Nat.le_of_ble_eq_true rfl, Nat.le_of_ble_eq_true rfl⟩ (hs_eqS fun S93 hS93 => ?_)
  replace hv := hv S93 hS93
  refine wa_putFR X J (j := 54) hk_11 hc_11 i_11 tyX11 tyX11_ok nmX11 (by decide) kw_1238 rfl rfl rfl dX11_init_382 hs_1ne ⟨rfl, Or.inr ⟨_, rfl⟩⟩ (hs_eqS fun S94 hS94 => ?_)
  replace hv := hv S94 hS94
  refine wa_aload_n X 0 rfl dX11_init_385 rfl ?_
  refine wa_bipush X dX11_init_386 kb24 ?_
  refine wa_newz X hk_96 kw_257 (by decide) (by decide) (Nat.le_of_ble_eq_true rfl) dX11_init_388 ⟨Nat.le_of_ble_eq_true rfl, Nat.le_of_ble_eq_true rfl⟩ (hs_eqS fun S95 hS95 => ?_)
  replace hv := hv S95 hS95
  refine wa_putFR X J (j := 56) hk_11 hc_11 i_11 tyX11 tyX11_ok nmX11 (by decide) kw_1240 rfl rfl rfl dX11_init_390 hs_1ne ⟨rfl, Or.inr ⟨_, rfl⟩⟩ (hs_eqS fun S96 hS96 => ?_)
  replace hv := hv S96 hS96
  refine wa_aload_n X 0 rfl dX11_init_393 rfl ?_
  refine wa_bipush X dX11_init_394 kb24 ?_
  refine wa_newi X hk_97 kw_111 (by decide) (by decide) (Nat.le_of_ble_eq_true rfl) dX11_init_396 ⟨Nat.le_of_ble_eq_true rfl, Nat.le_of_ble_eq_true rfl⟩ (hs_eqS fun S97 hS97 => ?_)
  replace hv := hv S97 hS97
  refine wa_putFR X J (j := 57) hk_11 hc_11 i_11 tyX11 tyX11_ok nmX11 (by decide) kw_1241 rfl rfl rfl dX11_init_398 hs_1ne ⟨rfl, Or.inr ⟨_, rfl⟩⟩ (hs_eqS fun S98 hS98 => ?_)
  replace hv := hv S98 hS98
  refine wa_iconst X dX11_init_401 kc0 ?_
  refine wa_istore_n X (lv' := [(1, .inl (0 : Int32)), (0, .inr (.inr (11, 1)))]) dX11_init_402 rfl (by decide) rfl ?_
  obtain ⟨I100, ⟨n105, i103⟩, b104⟩ := hv
  refine wa_lv (lv' := [(0, .inr (.inr (11, 1))), (1, .inl (0 : Int32))]) [1, 0] rfl ?_
  suffices L106 : ∀ N101 : Nat, ∀ x99 : Int32, ∀ S102 : hs_S, I100 N101 x99 S102 → wa Z 49 12686 S102 403 [(0, .inr (.inr (11, 1))), (1, .inl x99)] [] from L106 _ _ _ i103
  clear i103
  intro N101
  induction N101 using Nat.strongRecOn with
  | _ N101 h107 =>
    intro x99 S102 j108
    have hv := b104 N101 x99 S102 j108
    refine wa_iload_n X 1 rfl dX11_init_403 rfl ?_
    refine wa_iconst X dX11_init_404 kc4 ?_
    refine wa_icmp_ge X (tgt := 421) dX11_init_405 (by decide) (fun c109 => ?_) (fun c109 => ?_)
    · replace hv := hv.1 c109
      refine wa_iconst X dX11_init_421 kc0 ?_
      refine wa_istore_n X (lv' := [(1, .inl (0 : Int32)), (0, .inr (.inr (11, 1)))]) dX11_init_422 rfl (by decide) rfl ?_
      obtain ⟨I111, ⟨n116, i114⟩, b115⟩ := hv
      refine wa_lv (lv' := [(0, .inr (.inr (11, 1))), (1, .inl (0 : Int32))]) [1, 0] rfl ?_
      suffices L117 : ∀ N112 : Nat, ∀ x110 : Int32, ∀ S113 : hs_S, I111 N112 x110 S113 → wa Z 49 12686 S113 423 [(0, .inr (.inr (11, 1))), (1, .inl x110)] [] from L117 _ _ _ i114
      clear i114
      intro N112
      induction N112 using Nat.strongRecOn with
      | _ N112 h118 =>
        intro x110 S113 j119
        have hv := b115 N112 x110 S113 j119
        refine wa_iload_n X 1 rfl dX11_init_423 rfl ?_
        refine wa_bipush X dX11_init_424 kb6 ?_
        refine wa_icmp_ge X (tgt := 443) dX11_init_426 (by decide) (fun c120 => ?_) (fun c120 => ?_)
        · replace hv := hv.1 c120
          exact wa_return X E dX11_init_443 (Nat.le_of_ble_eq_true rfl) (Nat.le_of_ble_eq_true rfl) ⟨rfl, hv⟩
        · replace hv := hv.2 c120
          refine wa_aload_n X 0 rfl dX11_init_429 rfl ?_
          refine wa_getR X (j := 48) hk_11 hc_11 i_11 (by decide) kw_1232 rfl dX11_init_430 hs_1ne ?_
          obtain ⟨o121, hv⟩ := hv
          refine hs_stR o121 ?_
          refine wa_iload_n X 1 rfl dX11_init_433 rfl ?_
          refine wa_ldc X kw_1183 dX11_init_434 ?_
          obtain ⟨o122, hv⟩ := hv
          refine wa_iast X hk_88 dX11_init_436 hs_1ne o122 (hs_eqS fun S123 hS123 => ?_)
          replace hv := hv S123 hS123
          refine wa_iinc X (v := (x110 + 1)) (lv' := [(1, .inl (x110 + 1)), (0, .inr (.inr (11, 1)))]) 1 rfl dX11_init_437 rfl (by decide) rfl ?_
          refine wa_goto X (tgt := 423) dX11_init_440 (by decide) ?_
          obtain ⟨q124, p125, hv⟩ := hv
          refine wa_lv (lv' := [(0, .inr (.inr (11, 1))), (1, .inl (x110 + 1))]) [1, 0] rfl ?_
          exact h118 q124 p125 _ _ hv
    · replace hv := hv.2 c109
      refine wa_aload_n X 0 rfl dX11_init_408 rfl ?_
      refine wa_getR X (j := 22) hk_11 hc_11 i_11 (by decide) kw_1206 rfl dX11_init_409 hs_1ne ?_
      obtain ⟨o126, hv⟩ := hv
      refine hs_stR o126 ?_
      refine wa_iload_n X 1 rfl dX11_init_412 rfl ?_
      refine wa_iconst X dX11_init_413 kcm1 ?_
      obtain ⟨o127, hv⟩ := hv
      refine wa_iast X hk_62 dX11_init_414 hs_1ne o127 (hs_eqS fun S128 hS128 => ?_)
      replace hv := hv S128 hS128
      refine wa_iinc X (v := (x99 + 1)) (lv' := [(1, .inl (x99 + 1)), (0, .inr (.inr (11, 1)))]) 1 rfl dX11_init_415 rfl (by decide) rfl ?_
      refine wa_goto X (tgt := 403) dX11_init_418 (by decide) ?_
      obtain ⟨q129, p130, hv⟩ := hv
      refine wa_lv (lv' := [(0, .inr (.inr (11, 1))), (1, .inl (x99 + 1))]) [1, 0] rfl ?_
      exact h107 q129 p130 _ _ hv

