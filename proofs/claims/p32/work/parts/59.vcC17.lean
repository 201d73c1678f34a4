def m_Sht_init (S : hs_S) (Q : hs_S → Prop) : Prop := hs_M 6 yX9_init (.code yX9_init cX9_init 1 none) [.inr (.inr (9, 1))] S 13 139 (hs_rV Q) hs_nX
def vc_Sht_init (S : hs_S) (Q : hs_S → Prop) : Prop := (∀ S1 : hs_S, S1 = (hs_nw S 7) → ((m_Rts_init (S.2.2.2 7 + 1) S1 (fun S2 => (∀ S4 : hs_S, S4 = (hs_wR S2 9 1 0 (S.2.2.2 7 + 1)) → ((S4.2.2.2 12 = 0 ∧ S4.2.1 12 2 0 = 0) ∧ (∀ S6 : hs_S, S6 = (hs_nw S4 12) → (∀ S7 : hs_S, S7 = (hs_wR S6 9 1 1 1) → (∀ S8 : hs_S, S8 = (hs_nw S7 25) → (∀ S9 : hs_S, S9 = (hs_wR S8 9 1 2 (S7.2.2.2 25 + 1)) → (∀ S10 : hs_S, S10 = (hs_nw S9 5) → ((m_Fml_init (S9.2.2.2 5 + 1) S10 (fun S11 => (∀ S13 : hs_S, S13 = (hs_wR S11 9 1 3 (S9.2.2.2 5 + 1)) → (∀ S14 : hs_S, S14 = (hs_nw S13 5) → ((m_Fml_init (S13.2.2.2 5 + 1) S14 (fun S15 => (∀ S17 : hs_S, S17 = (hs_wR S15 9 1 4 (S13.2.2.2 5 + 1)) → (Q S17)))))))))))))))))))))
set_option maxRecDepth 100000 in
set_option maxHeartbeats 4000000 in
theorem ok_Sht_init {S : hs_S} {Q : hs_S → Prop} (hv : vc_Sht_init S Q) : m_Sht_init S Q := by
  unfold vc_Sht_init at hv
  refine hs_body (own := RX9) rfl rfl (Nat.le_of_ble_eq_true rfl) (fun Z X E N J0 => ?_)
  show wa Z 0 0 S 0 [(0, .inr (.inr (9, 1)))] []
  have J : hs_I Z := J0
  refine wa_aload_n X 0 rfl dX9_init_0 rfl ?_
  refine wa_objInit X kw_60 kw_53 kw_54 dX9_init_1 hs_1ne ⟨Nat.le_of_ble_eq_true rfl, Nat.le_of_ble_eq_true rfl⟩ ?_
  refine wa_aload_n X 0 rfl dX9_init_4 rfl ?_
  refine wa_new X (t := 7) hk_7 hc_7 i_7 tyX7 tyX7_ok dv_7 kw_61 kw_62 kw_23 dX9_init_5 ⟨Nat.le_of_ble_eq_true rfl, Nat.le_of_ble_eq_true rfl⟩ (hs_eqS fun S1 hS1 => ?_)
  replace hv := hv S1 hS1
  refine wa_dup X dX9_init_8 rfl ?_
  refine wa_callI X (As := []) (hv) kw_65 kw_23 kw_63 kw_64 rfl nd_X7_init rfl rfl (Nat.le_of_ble_eq_true rfl) dX9_init_9 (hs_sne _) ⟨⟨Nat.le_of_ble_eq_true rfl, Nat.le_of_ble_eq_true rfl⟩, Nat.le_of_ble_eq_true rfl, Nat.le_of_ble_eq_true rfl⟩ (fun v S2 h => ?_) (fun _ _ h => h.elim)
  obtain ⟨rfl, hv⟩ := h
  refine wa_putFR X J (j := 0) hk_9 hc_9 i_9 tyX9 tyX9_ok nmX9 (by decide) kw_132 rfl rfl rfl dX9_init_12 hs_1ne ⟨rfl, Or.inl ⟨_, rfl⟩⟩ (hs_eqS fun S4 hS4 => ?_)
  replace hv := hv S4 hS4
  refine wa_aload_n X 0 rfl dX9_init_15 rfl ?_
  obtain ⟨o5, hv⟩ := hv
  refine wa_lnew X hk_12 kw_78 kw_80 dX9_init_16 dX9_init_19 dX9_init_20 ⟨Nat.le_of_ble_eq_true rfl, Nat.le_of_ble_eq_true rfl⟩ (Nat.le_of_ble_eq_true rfl) ⟨Nat.le_of_ble_eq_true rfl, Nat.le_of_ble_eq_true rfl⟩ o5 (hs_eqS fun S6 hS6 => ?_)
  replace hv := hv S6 hS6
  refine wa_putFR X J (j := 1) hk_9 hc_9 i_9 tyX9 tyX9_ok nmX9 (by decide) kw_135 rfl rfl rfl dX9_init_23 hs_1ne ⟨rfl, Or.inl ⟨_, rfl⟩⟩ (hs_eqS fun S7 hS7 => ?_)
  replace hv := hv S7 hS7
  refine wa_aload_n X 0 rfl dX9_init_26 rfl ?_
  refine wa_iconst X dX9_init_27 kc4 ?_
  refine wa_newi X hk_25 kw_77 (by decide) (by decide) (Nat.le_of_ble_eq_true rfl) dX9_init_28 ⟨Nat.le_of_ble_eq_true rfl, Nat.le_of_ble_eq_true rfl⟩ (hs_eqS fun S8 hS8 => ?_)
  replace hv := hv S8 hS8
  refine wa_putFR X J (j := 2) hk_9 hc_9 i_9 tyX9 tyX9_ok nmX9 (by decide) kw_138 rfl rfl rfl dX9_init_30 hs_1ne ⟨rfl, Or.inr ⟨_, rfl⟩⟩ (hs_eqS fun S9 hS9 => ?_)
  replace hv := hv S9 hS9
  refine wa_aload_n X 0 rfl dX9_init_33 rfl ?_
  refine wa_new X (t := 5) hk_5 hc_5 i_5 tyX5 tyX5_ok dv_5 kw_104 kw_105 kw_27 dX9_init_34 ⟨Nat.le_of_ble_eq_true rfl, Nat.le_of_ble_eq_true rfl⟩ (hs_eqS fun S10 hS10 => ?_)
  replace hv := hv S10 hS10
  refine wa_dup X dX9_init_37 rfl ?_
  refine wa_callIN X (As := []) (hv) kw_108 kw_27 kw_106 kw_107 rfl nd_X5_init rfl rfl (Nat.le_of_ble_eq_true rfl) dX9_init_38 (hs_sne _) ⟨⟨Nat.le_of_ble_eq_true rfl, Nat.le_of_ble_eq_true rfl⟩, Nat.le_of_ble_eq_true rfl, Nat.le_of_ble_eq_true rfl⟩ (fun v S11 h => ?_) (fun _ _ h => h.elim)
  obtain ⟨rfl, hv⟩ := h
  refine wa_putFR X J (j := 3) hk_9 hc_9 i_9 tyX9 tyX9_ok nmX9 (by decide) kw_140 rfl rfl rfl dX9_init_41 hs_1ne ⟨rfl, Or.inl ⟨_, rfl⟩⟩ (hs_eqS fun S13 hS13 => ?_)
  replace hv := hv S13 hS13
  refine wa_aload_n X 0 rfl dX9_init_44 rfl ?_
  refine wa_new X (t := 5) hk_5 hc_5 i_5 tyX5 tyX5_ok dv_5 kw_104 kw_105 kw_27 dX9_init_45 ⟨Nat.le_of_ble_eq_true rfl, Nat.le_of_ble_eq_true rfl⟩ (hs_eqS fun S14 hS14 => ?_)
  replace hv := hv S14 hS14
  refine wa_dup X dX9_init_48 rfl ?_
  refine wa_callIN X (As := []) (hv) kw_108 kw_27 kw_106 kw_107 rfl nd_X5_init rfl rfl (Nat.le_of_ble_eq_true rfl) dX9_init_49 (hs_sne _) ⟨⟨Nat.le_of_ble_eq_true rfl, Nat.le_of_ble_eq_true rfl⟩, Nat.le_of_ble_eq_true rfl, Nat.le_of_ble_eq_true rfl⟩ (fun v S15 h => ?_) (fun _ _ h => h.elim)
  obtain ⟨rfl, hv⟩ := h
  refine wa_putR X (j := 4) hk_9 hc_9 i_9 tyX9 tyX9_ok nmX9 (by decide) kw_143 rfl rfl dX9_init_52 hs_1ne ⟨rfl, Or.inl ⟨_, rfl⟩⟩ (hs_eqS fun S17 hS17 => ?_)
  replace hv := hv S17 hS17
  exact wa_return X E dX9_init_55 (Nat.le_of_ble_eq_true rfl) (Nat.le_of_ble_eq_true rfl) ⟨rfl, hv⟩

def m_Book_init (S : hs_S) (Q : hs_S → Prop) : Prop := hs_M 6 yX1_init (.code yX1_init cX1_init 2 none) [.inr (.inr (1, 1))] S 20 250 (hs_rV Q) hs_nX
def vc_Book_init (S : hs_S) (Q : hs_S → Prop) : Prop := ((S.2.2.2 13 = 0 ∧ S.2.1 13 2 0 = 0) ∧ (∀ S2 : hs_S, S2 = (hs_nw S 13) → (∀ S3 : hs_S, S3 = (hs_wR S2 1 1 0 1) → (∀ S4 : hs_S, S4 = (hs_nw S3 26) → (∀ S5 : hs_S, S5 = (hs_wR S4 1 1 1 (S3.2.2.2 26 + 1)) → ((S5.2.2.2 14 = 0 ∧ S5.2.1 14 2 0 = 0) ∧ (∀ S7 : hs_S, S7 = (hs_nw S5 14) → (∀ S8 : hs_S, S8 = (hs_wR S7 1 1 2 1) → (∀ S9 : hs_S, S9 = (hs_nw S8 27) → (∀ S10 : hs_S, S10 = (hs_wR S9 1 1 3 (S8.2.2.2 27 + 1)) → (((S10.2.1 1 1 1) = 1) ∧ (∀ S13 : hs_S, S13 = (hs_nw S10 8) → ((m_Rnd_init (S10.2.2.2 8 + 1) (0 : Int32) S13 (fun S14 => (∀ S16 : hs_S, S16 = (hs_wR S14 26 1 (0 : Int32).toNatClampNeg (S10.2.2.2 8 + 1)) → (((S16.2.1 1 1 1) = 1) ∧ (∀ S19 : hs_S, S19 = (hs_nw S16 8) → ((m_Rnd_init (S16.2.2.2 8 + 1) (1 : Int32) S19 (fun S20 => (∀ S22 : hs_S, S22 = (hs_wR S20 26 1 (1 : Int32).toNatClampNeg (S16.2.2.2 8 + 1)) → (((S22.2.1 1 1 1) = 1) ∧ (∀ S25 : hs_S, S25 = (hs_nw S22 8) → ((m_Rnd_init (S22.2.2.2 8 + 1) (2 : Int32) S25 (fun S26 => (∀ S28 : hs_S, S28 = (hs_wR S26 26 1 (2 : Int32).toNatClampNeg (S22.2.2.2 8 + 1)) → (((S28.2.1 1 1 1) = 1) ∧ (∀ S31 : hs_S, S31 = (hs_nw S28 8) → ((m_Rnd_init (S28.2.2.2 8 + 1) (3 : Int32) S31 (fun S32 => (∀ S34 : hs_S, S34 = (hs_wR S32 26 1 (3 : Int32).toNatClampNeg (S28.2.2.2 8 + 1)) → (Q S34)))))))))))))))))))))))))))))))))))
set_option maxRecDepth 100000 in
set_option maxHeartbeats 4000000 in
theorem ok_Book_init {S : hs_S} {Q : hs_S → Prop} (hv : vc_Book_init S Q) : m_Book_init S Q := by
  unfold vc_Book_init at hv
  refine hs_body (own := RX1) rfl rfl (Nat.le_of_ble_eq_true rfl) (fun Z X E N J0 => ?_)
  show wa Z 0 0 S 0 [(0, .inr (.inr (1, 1)))] []
  have J : hs_I Z := J0
  refine wa_aload_n X 0 rfl dX1_init_0 rfl ?_
  refine wa_objInit X kw_161 kw_53 kw_54 dX1_init_1 hs_1ne ⟨Nat.le_of_ble_eq_true rfl, Nat.le_of_ble_eq_true rfl⟩ ?_
  refine wa_aload_n X 0 rfl dX1_init_4 rfl ?_
  obtain ⟨o1, hv⟩ := hv
  refine wa_lnew X hk_13 kw_162 kw_163 dX1_init_5 dX1_init_8 dX1_init_9 ⟨Nat.le_of_ble_eq_true rfl, Nat.le_of_ble_eq_true rfl⟩ (Nat.le_of_ble_eq_true rfl) ⟨Nat.le_of_ble_eq_true rfl, Nat.le_of_ble_eq_true rfl⟩ o1 (hs_eqS fun S2 hS2 => ?_)
  replace hv := hv S2 hS2
  refine wa_putFR X J (j := 0) hk_1 hc_1 i_1 tyX1 tyX1_ok nmX1 (by decide) kw_224 rfl rfl rfl dX1_init_12 hs_1ne ⟨rfl, Or.inl ⟨_, rfl⟩⟩ (hs_eqS fun S3 hS3 => ?_)
  replace hv := hv S3 hS3
  refine wa_aload_n X 0 rfl dX1_init_15 rfl ?_
  refine wa_iconst X dX1_init_16 kc4 ?_
  refine wa_newq X hk_26 (fun _ => rfl) (Or.inl rfl) kw_164 (by decide) (by decide) (Nat.le_of_ble_eq_true rfl) dX1_init_17 ⟨Nat.le_of_ble_eq_true rfl, Nat.le_of_ble_eq_true rfl⟩ (hs_eqS fun S4 hS4 => ?_)
  replace hv := hv S4 hS4
  refine wa_putFR X J (j := 1) hk_1 hc_1 i_1 tyX1 tyX1_ok nmX1 (by decide) kw_228 rfl rfl rfl dX1_init_20 hs_1ne ⟨rfl, Or.inr ⟨_, rfl⟩⟩ (hs_eqS fun S5 hS5 => ?_)
  replace hv := hv S5 hS5
  refine wa_aload_n X 0 rfl dX1_init_23 rfl ?_
  obtain ⟨o6, hv⟩ := hv
  refine wa_lnew X hk_14 kw_162 kw_163 dX1_init_24 dX1_init_27 dX1_init_28 ⟨Nat.le_of_ble_eq_true rfl, Nat.le_of_ble_eq_true rfl⟩ (Nat.le_of_ble_eq_true rfl) ⟨Nat.le_of_ble_eq_true rfl, Nat.le_of_ble_eq_true rfl⟩ o6 (hs_eqS fun S7 hS7 => ?_)
  replace hv := hv S7 hS7
  refine wa_putFR X J (j := 2) hk_1 hc_1 i_1 tyX1 tyX1_ok nmX1 (by decide) kw_230 rfl rfl rfl dX1_init_31 hs_1ne ⟨rfl, Or.inl ⟨_, rfl⟩⟩ (hs_eqS fun S8 hS8 => ?_)
  replace hv := hv S8 hS8
  refine wa_aload_n X 0 rfl dX1_init_34 rfl ?_
  refine wa_iconst X dX1_init_35 kc4 ?_
  refine wa_newz X hk_27 kw_223 (by decide) (by decide) (Nat.le_of_ble_eq_true rfl) dX1_init_36 ⟨Nat.le_of_ble_eq_true rfl, Nat.le_of_ble_eq_true rfl⟩ (hs_eqS fun S9 hS9 => ?_)
  replace hv := hv S9 hS9
  refine wa_putFR X J (j := 3) hk_1 hc_1 i_1 tyX1 tyX1_ok nmX1 (by decide) kw_234 rfl rfl rfl dX1_init_38 hs_1ne ⟨rfl, Or.inr ⟨_, rfl⟩⟩ (hs_eqS fun S10 hS10 => ?_)
  replace hv := hv S10 hS10
  refine wa_iconst X dX1_init_41 kc0 ?_
  refine wa_istore_n X (lv' := [(1, .inl (0 : Int32)), (0, .inr (.inr (1, 1)))]) dX1_init_42 rfl (by decide) rfl ?_
  refine wa_iload_n X 0 rfl dX1_init_43 rfl ?_
  refine wa_iconst X dX1_init_44 kc4 ?_
  refine wa_icmp_ge X (tgt := 68) dX1_init_45 (by decide) (fun c => absurd c (by decide)) (fun _ => ?_)
  refine wa_aload_n X 1 rfl dX1_init_48 rfl ?_
  refine wa_getR X (j := 1) hk_1 hc_1 i_1 (by decide) kw_228 rfl dX1_init_49 hs_1ne ?_
  obtain ⟨o12, hv⟩ := hv
  refine hs_stR o12 ?_
  refine wa_iload_n X 0 rfl dX1_init_52 rfl ?_
  refine wa_new X (t := 8) hk_8 hc_8 i_8 tyX8 tyX8_ok dv_8 kw_164 kw_166 kw_29 dX1_init_53 ⟨Nat.le_of_ble_eq_true rfl, Nat.le_of_ble_eq_true rfl⟩ (hs_eqS fun S13 hS13 => ?_)
  replace hv := hv S13 hS13
  refine wa_dup X dX1_init_56 rfl ?_
  refine wa_iload_n X 0 rfl dX1_init_57 rfl ?_
  refine wa_callI X (As := [.inl (0 : Int32)]) (hv) kw_169 kw_29 kw_167 kw_168 rfl nd_X8_init rfl rfl (Nat.le_of_ble_eq_true rfl) dX1_init_58 (hs_sne _) ⟨⟨Nat.le_of_ble_eq_true rfl, Nat.le_of_ble_eq_true rfl⟩, Nat.le_of_ble_eq_true rfl, Nat.le_of_ble_eq_true rfl⟩ (fun v S14 h => ?_) (fun _ _ h => h.elim)
  obtain ⟨rfl, hv⟩ := h
  refine wa_aast X hk_26 hk_8 hc_8 (fun _ => rfl) dX1_init_61 hs_1ne (by decide) (hs_sne _) (hs_eqS fun S16 hS16 => ?_)
  replace hv := hv S16 hS16
  refine wa_iinc X (v := (1 : Int32)) (lv' := [(1, .inl (1 : Int32)), (0, .inr (.inr (1, 1)))]) 0 rfl dX1_init_62 (by decide) (by decide) rfl ?_
  refine wa_goto X (tgt := 43) dX1_init_65 (by decide) ?_
  refine wa_iload_n X 0 rfl dX1_init_43 rfl ?_
  refine wa_iconst X dX1_init_44 kc4 ?_
  refine wa_icmp_ge X (tgt := 68) dX1_init_45 (by decide) (fun c => absurd c (by decide)) (fun _ => ?_)
  refine wa_aload_n X 1 rfl dX1_init_48 rfl ?_
  refine wa_getR X (j := 1) hk_1 hc_1 i_1 (by decide) kw_228 rfl dX1_init_49 hs_1ne ?_
  obtain ⟨o18, hv⟩ := hv
  refine hs_stR o18 ?_
  refine wa_iload_n X 0 rfl dX1_init_52 rfl ?_
  refine wa_new X (t := 8) hk_8 hc_8 i_8 tyX8 tyX8_ok dv_8 kw_164 kw_166 kw_29 dX1_init_53 ⟨Nat.le_of_ble_eq_true rfl, Nat.le_of_ble_eq_true rfl⟩ (hs_eqS fun S19 hS19 => ?_)
  replace hv := hv S19 hS19
  refine wa_dup X dX1_init_56 rfl ?_
  refine wa_iload_n X 0 rfl dX1_init_57 rfl ?_
  refine wa_callI X (As := [.inl (1 : Int32)]) (hv) kw_169 kw_29 kw_167 kw_168 rfl nd_X8_init rfl rfl (Nat.le_of_ble_eq_true rfl) dX1_init_58 (hs_sne _) ⟨⟨Nat.le_of_ble_eq_true rfl, Nat.le_of_ble_eq_true rfl⟩, Nat.le_of_ble_eq_true rfl, Nat.le_of_ble_eq_true rfl⟩ (fun v S20 h => ?_) (fun _ _ h => h.elim)
  obtain ⟨rfl, hv⟩ := h
  refine wa_aast X hk_26 hk_8 hc_8 (fun _ => rfl) dX1_init_61 hs_1ne (by decide) (hs_sne _) (hs_eqS fun S22 hS22 => ?_)
  replace hv := hv S22 hS22
  refine wa_iinc X (v := (2 : Int32)) (lv' := [(1, .inl (2 : Int32)), (0, .inr (.inr (1, 1)))]) 0 rfl dX1_init_62 (by decide) (by decide) rfl ?_
  refine wa_goto X (tgt := 43) dX1_init_65 (by decide) ?_
  refine wa_iload_n X 0 rfl dX1_init_43 rfl ?_
  refine wa_iconst X dX1_init_44 kc4 ?_
  refine wa_icmp_ge X (tgt := 68) dX1_init_45 (by decide) (fun c => absurd c (by decide)) (fun _ => ?_)
  refine wa_aload_n X 1 rfl dX1_init_48 rfl ?_
  refine wa_getR X (j := 1) hk_1 hc_1 i_1 (by decide) kw_228 rfl dX1_init_49 hs_1ne ?_
  obtain ⟨o24, hv⟩ := hv
  refine hs_stR o24 ?_
  refine wa_iload_n X 0 rfl dX1_init_52 rfl ?_
  refine wa_new X (t := 8) hk_8 hc_8 i_8 tyX8 tyX8_ok dv_8 kw_164 kw_166 kw_29 dX1_init_53 ⟨Nat.le_of_ble_eq_true rfl, Nat.le_of_ble_eq_true rfl⟩ (hs_eqS fun S25 hS25 => ?_)
  replace hv := hv S25 hS25
  refine wa_dup X dX1_init_56 rfl ?_
  refine wa_iload_n X 0 rfl dX1_init_57 rfl ?_
  refine wa_callI X (As := [.inl (2 : Int32)]) (hv) kw_169 kw_29 kw_167 kw_168 rfl nd_X8_init rfl rfl (Nat.le_of_ble_eq_true rfl) dX1_init_58 (hs_sne _) ⟨⟨Nat.le_of_ble_eq_true rfl, Nat.le_of_ble_eq_true rfl⟩, Nat.le_of_ble_eq_true rfl, Nat.le_of_ble_eq_true rfl⟩ (fun v S26 h => ?_) (fun _ _ h => h.elim)
  obtain ⟨rfl, hv⟩ := h
  refine wa_aast X hk_26 hk_8 hc_8 (fun _ => rfl) dX1_init_61 hs_1ne (by decide) (hs_sne _) (hs_eqS fun S28 hS28 => ?_)
  replace hv := hv S28 hS28
  refine wa_iinc X (v := (3 : Int32)) (lv' := [(1, .inl (3 : Int32)), (0, .inr (.inr (1, 1)))]) 0 rfl dX1_init_62 (by decide) (by decide) rfl ?_
  refine wa_goto X (tgt := 43) dX1_init_65 (by decide) ?_
  refine wa_iload_n X 0 rfl dX1_init_43 rfl ?_
  refine wa_iconst X dX1_init_44 kc4 ?_
  refine wa_icmp_ge X (tgt := 68) dX1_init_45 (by decide) (fun c => absurd c (by decide)) (fun _ => ?_)
  refine wa_aload_n X 1 rfl dX1_init_48 rfl ?_
  refine wa_getR X (j := 1) hk_1 hc_1 i_1 (by decide) kw_228 rfl dX1_init_49 hs_1ne ?_
  obtain ⟨o30, hv⟩ := hv
  refine hs_stR o30 ?_
  refine wa_iload_n X 0 rfl dX1_init_52 rfl ?_
  refine wa_new X (t := 8) hk_8 hc_8 i_8 tyX8 tyX8_ok dv_8 kw_164 kw_166 kw_29 dX1_init_53 ⟨Nat.le_of_ble_eq_true rfl, Nat.le_of_ble_eq_true rfl⟩ (hs_eqS fun S31 hS31 => ?_)
  replace hv := hv S31 hS31
  refine wa_dup X dX1_init_56 rfl ?_
  refine wa_iload_n X 0 rfl dX1_init_57 rfl ?_
  refine wa_callI X (As := [.inl (3 : Int32)]) (hv) kw_169 kw_29 kw_167 kw_168 rfl nd_X8_init rfl rfl (Nat.le_of_ble_eq_true rfl) dX1_init_58 (hs_sne _) ⟨⟨Nat.le_of_ble_eq_true rfl, Nat.le_of_ble_eq_true rfl⟩, Nat.le_of_ble_eq_true rfl, Nat.le_of_ble_eq_true rfl⟩ (fun v S32 h => ?_) (fun _ _ h => h.elim)
  obtain ⟨rfl, hv⟩ := h
  refine wa_aast X hk_26 hk_8 hc_8 (fun _ => rfl) dX1_init_61 hs_1ne (by decide) (hs_sne _) (hs_eqS fun S34 hS34 => ?_)
  replace hv := hv S34 hS34
  refine wa_iinc X (v := (4 : Int32)) (lv' := [(1, .inl (4 : Int32)), (0, .inr (.inr (1, 1)))]) 0 rfl dX1_init_62 (by decide) (by decide) rfl ?_
  refine wa_goto X (tgt := 43) dX1_init_65 (by decide) ?_
  refine wa_iload_n X 0 rfl dX1_init_43 rfl ?_
  refine wa_iconst X dX1_init_44 kc4 ?_
  refine wa_icmp_ge X (tgt := 68) dX1_init_45 (by decide) (fun _ => ?_) (fun c => absurd c (by decide))
  exact wa_return X E dX1_init_68 (Nat.le_of_ble_eq_true rfl) (Nat.le_of_ble_eq_true rfl) ⟨rfl, hv⟩

def m_Fnd_init (S : hs_S) (Q : hs_S → Prop) : Prop := hs_M 2 yX4_init (.code yX4_init cX4_init 4 none) [.inr (.inr (4, 1)), .inr (.inr (9, 1)), .inr (.inr (1, 1))] S 14 427 (hs_rV Q) hs_nX
def vc_Fnd_init (S : hs_S) (Q : hs_S → Prop) : Prop := (∀ S1 : hs_S, S1 = (hs_nw S 28) → (∀ S2 : hs_S, S2 = (hs_wR S1 4 1 3 (S.2.2.2 28 + 1)) → (∀ S3 : hs_S, S3 = (hs_nw S2 29) → (∀ S4 : hs_S, S4 = (hs_wR S3 4 1 4 (S2.2.2.2 29 + 1)) → (∀ S5 : hs_S, S5 = (hs_nw S4 30) → (∀ S6 : hs_S, S6 = (hs_wR S5 4 1 5 (S4.2.2.2 30 + 1)) → (∀ S7 : hs_S, S7 = (hs_nw S6 31) → (∀ S8 : hs_S, S8 = (hs_wR S7 4 1 6 (S6.2.2.2 31 + 1)) → (((S8.2.2.2 32 = 0 ∧ S8.2.2.2 33 = 0)) ∧ (∀ S10 : hs_S, S10 = (hs_nm S8) → (∀ S11 : hs_S, S11 = (hs_wR S10 4 1 7 1) → (∀ S12 : hs_S, S12 = (hs_nw S11 34) → (∀ S13 : hs_S, S13 = (hs_wR S12 4 1 8 (S11.2.2.2 34 + 1)) → (∀ S14 : hs_S, S14 = (hs_wI S13 4 1 9 (0 : Int32)) → (∀ S15 : hs_S, S15 = (hs_wR S14 4 1 0 1) → (∀ S16 : hs_S, S16 = (hs_wR S15 4 1 1 1) → (((S16.2.1 9 1 0) = 1) ∧ (∀ S18 : hs_S, S18 = (hs_wR S16 4 1 2 1) → (∃ I20 : Nat → Int32 → hs_S → Prop, (∃ n25, I20 n25 (0 : Int32) S18) ∧ (∀ N21 : Nat, ∀ x19 : Int32, ∀ S22 : hs_S, I20 N21 x19 S22 → (((24 : Int32) ≤ x19 → (Q S22)) ∧ (¬ (24 : Int32) ≤ x19 → (((S22.2.1 4 1 3) = 1) ∧ (((S22.2.1 9 1 3) = 1) ∧ ((0 ≤ x19.toInt ∧ x19.toInt < 24) ∧ (∀ S33 : hs_S, S33 = (hs_wR S22 28 1 x19.toNatClampNeg 1) → (∃ q34, q34 < N21 ∧ I20 q34 (x19 + 1) S33)))))))))))))))))))))))))))
set_option maxRecDepth 100000 in
set_option maxHeartbeats 4000000 in
theorem ok_Fnd_init {S : hs_S} {Q : hs_S → Prop} (hv : vc_Fnd_init S Q) : m_Fnd_init S Q := by
  unfold vc_Fnd_init at hv
  refine hs_body (own := RX4) rfl rfl (Nat.le_of_ble_eq_true rfl) (fun Z X E N J0 => ?_)
  show wa Z 0 0 S 0 [(0, .inr (.inr (4, 1))), (1, .inr (.inr (9, 1))), (2, .inr (.inr (1, 1)))] []
  have J : hs_I Z := J0
  refine wa_aload_n X 0 rfl dX4_init_0 rfl ?_
  refine wa_objInit X kw_250 kw_53 kw_54 dX4_init_1 hs_1ne ⟨Nat.le_of_ble_eq_true rfl, Nat.le_of_ble_eq_true rfl⟩ ?_
  refine wa_aload_n X 0 rfl dX4_init_4 rfl ?_
  refine wa_bipush X dX4_init_5 kb24 ?_
  refine wa_newq X hk_28 (fun _ => rfl) (Or.inr rfl) kw_251 (by decide) (by decide) (Nat.le_of_ble_eq_true rfl) dX4_init_7 ⟨Nat.le_of_ble_eq_true rfl, Nat.le_of_ble_eq_true rfl⟩ (hs_eqS fun S1 hS1 => ?_)
  replace hv := hv S1 hS1
  refine wa_putFR X J (j := 3) hk_4 hc_4 i_4 tyX4 tyX4_ok nmX4 (by decide) kw_258 rfl rfl rfl dX4_init_10 hs_1ne ⟨rfl, Or.inr ⟨_, rfl⟩⟩ (hs_eqS fun S2 hS2 => ?_)
  replace hv := hv S2 hS2
  refine wa_aload_n X 0 rfl dX4_init_13 rfl ?_
  refine wa_bipush X dX4_init_14 kb24 ?_
  refine wa_newi X hk_29 kw_77 (by decide) (by decide) (Nat.le_of_ble_eq_true rfl) dX4_init_16 ⟨Nat.le_of_ble_eq_true rfl, Nat.le_of_ble_eq_true rfl⟩ (hs_eqS fun S3 hS3 => ?_)
  replace hv := hv S3 hS3
  refine wa_putFR X J (j := 4) hk_4 hc_4 i_4 tyX4 tyX4_ok nmX4 (by decide) kw_259 rfl rfl rfl dX4_init_18 hs_1ne ⟨rfl, Or.inr ⟨_, rfl⟩⟩ (hs_eqS fun S4 hS4 => ?_)
  replace hv := hv S4 hS4
  refine wa_aload_n X 0 rfl dX4_init_21 rfl ?_
  refine wa_bipush X dX4_init_22 kb24 ?_
  refine wa_newi X hk_30 kw_77 (by decide) (by decide) (Nat.le_of_ble_eq_true rfl) dX4_init_24 ⟨Nat.le_of_ble_eq_true rfl, Nat.le_of_ble_eq_true rfl⟩ (hs_eqS fun S5 hS5 => ?_)
  replace hv := hv S5 hS5
  refine wa_putFR X J (j := 5) hk_4 hc_4 i_4 tyX4 tyX4_ok nmX4 (by decide) kw_260 rfl rfl rfl dX4_init_26 hs_1ne ⟨rfl, Or.inr ⟨_, rfl⟩⟩ (hs_eqS fun S6 hS6 => ?_)
  replace hv := hv S6 hS6
  refine wa_aload_n X 0 rfl dX4_init_29 rfl ?_
  refine wa_bipush X dX4_init_30 kb24 ?_
  refine wa_newi X hk_31 kw_77 (by decide) (by decide) (Nat.le_of_ble_eq_true rfl) dX4_init_32 ⟨Nat.le_of_ble_eq_true rfl, Nat.le_of_ble_eq_true rfl⟩ (hs_eqS fun S7 hS7 => ?_)
  replace hv := hv S7 hS7
  refine wa_putFR X J (j := 6) hk_4 hc_4 i_4 tyX4 tyX4_ok nmX4 (by decide) kw_261 rfl rfl rfl dX4_init_34 hs_1ne ⟨rfl, Or.inr ⟨_, rfl⟩⟩ (hs_eqS fun S8 hS8 => ?_)
  replace hv := hv S8 hS8
  refine wa_aload_n X 0 rfl dX4_init_37 rfl ?_
  refine wa_bipush X dX4_init_38 kb8 ?_
  refine wa_iconst X dX4_init_40 kc4 ?_
  obtain ⟨o9, hv⟩ := hv
  refine wa_mna X kw_253 kw_77 dX4_init_41 ⟨Nat.le_of_ble_eq_true rfl, Nat.le_of_ble_eq_true rfl⟩ o9 (hs_eqS fun S10 hS10 => ?_)
  replace hv := hv S10 hS10
  refine wa_putFR X J (j := 7) hk_4 hc_4 i_4 tyX4 tyX4_ok nmX4 (by decide) kw_262 rfl rfl rfl dX4_init_45 hs_1ne ⟨rfl, Or.inr ⟨_, rfl⟩⟩ (hs_eqS fun S11 hS11 => ?_)
  replace hv := hv S11 hS11
  refine wa_aload_n X 0 rfl dX4_init_48 rfl ?_
  refine wa_sipush X dX4_init_49 ks291 ?_
  refine wa_newi X hk_34 kw_77 (by decide) (by decide) (Nat.le_of_ble_eq_true rfl) dX4_init_52 ⟨Nat.le_of_ble_eq_true rfl, Nat.le_of_ble_eq_true rfl⟩ (hs_eqS fun S12 hS12 => ?_)
  replace hv := hv S12 hS12
  refine wa_putFR X J (j := 8) hk_4 hc_4 i_4 tyX4 tyX4_ok nmX4 (by decide) kw_263 rfl rfl rfl dX4_init_54 hs_1ne ⟨rfl, Or.inr ⟨_, rfl⟩⟩ (hs_eqS fun S13 hS13 => ?_)
  replace hv := hv S13 hS13
  refine wa_aload_n X 0 rfl dX4_init_57 rfl ?_
  refine wa_iconst X dX4_init_58 kc0 ?_
  refine wa_putI X (j := 9) hk_4 hc_4 i_4 tyX4 tyX4_ok nmX4 (by decide) kw_264 rfl rfl dX4_init_59 hs_1ne ⟨rfl, Or.inl rfl⟩ (hs_eqS fun S14 hS14 => ?_)
  replace hv := hv S14 hS14
  refine wa_aload_n X 0 rfl dX4_init_62 rfl ?_
  refine wa_aload_n X 1 rfl dX4_init_63 rfl ?_
  refine wa_putFR X J (j := 0) hk_4 hc_4 i_4 tyX4 tyX4_ok nmX4 (by decide) kw_255 rfl rfl rfl dX4_init_64 hs_1ne ⟨rfl, Or.inl ⟨_, rfl⟩⟩ (hs_eqS fun S15 hS15 => ?_)
  replace hv := hv S15 hS15
  refine wa_aload_n X 0 rfl dX4_init_67 rfl ?_
  refine wa_aload_n X 2 rfl dX4_init_68 rfl ?_
  refine wa_putFR X J (j := 1) hk_4 hc_4 i_4 tyX4 tyX4_ok nmX4 (by decide) kw_256 rfl rfl rfl dX4_init_69 hs_1ne ⟨rfl, Or.inl ⟨_, rfl⟩⟩ (hs_eqS fun S16 hS16 => ?_)
  replace hv := hv S16 hS16
  refine wa_aload_n X 0 rfl dX4_init_72 rfl ?_
  refine wa_aload_n X 1 rfl dX4_init_73 rfl ?_
  refine wa_getR X (j := 0) hk_9 hc_9 i_9 (by decide) kw_133 rfl dX4_init_74 hs_1ne ?_
  obtain ⟨o17, hv⟩ := hv
  refine hs_stR o17 ?_
  refine wa_putR X (j := 2) hk_4 hc_4 i_4 tyX4 tyX4_ok nmX4 (by decide) kw_257 rfl rfl dX4_init_77 hs_1ne ⟨rfl, Or.inl ⟨_, rfl⟩⟩ (hs_eqS fun S18 hS18 => ?_)
  replace hv := hv S18 hS18
  refine wa_iconst X dX4_init_80 kc0 ?_
  refine wa_istore_n X (lv' := [(3, .inl (0 : Int32)), (0, .inr (.inr (4, 1))), (1, .inr (.inr (9, 1))), (2, .inr (.inr (1, 1)))]) dX4_init_81 rfl (by decide) rfl ?_
  obtain ⟨I20, ⟨n25, i23⟩, b24⟩ := hv
  refine wa_lv (lv' := [(0, .inr (.inr (4, 1))), (1, .inr (.inr (9, 1))), (3, .inl (0 : Int32))]) [1, 2, 0] rfl ?_
  suffices L26 : ∀ N21 : Nat, ∀ x19 : Int32, ∀ S22 : hs_S, I20 N21 x19 S22 → wa Z 14 427 S22 82 [(0, .inr (.inr (4, 1))), (1, .inr (.inr (9, 1))), (3, .inl x19)] [] from L26 _ _ _ i23
  clear i23
  intro N21
  induction N21 using Nat.strongRecOn with
  | _ N21 h27 =>
    intro x19 S22 j28
    have hv := b24 N21 x19 S22 j28
    refine wa_iload_n X 2 rfl dX4_init_82 rfl ?_
    refine wa_bipush X dX4_init_83 kb24 ?_
    refine wa_icmp_ge X (tgt := 104) dX4_init_85 (by decide) (fun c29 => ?_) (fun c29 => ?_)
    · replace hv := hv.1 c29
      exact wa_return X E dX4_init_104 (Nat.le_of_ble_eq_true rfl) (Nat.le_of_ble_eq_true rfl) ⟨rfl, hv⟩
    · replace hv := hv.2 c29
      refine wa_aload_n X 0 rfl dX4_init_88 rfl ?_
      refine wa_getR X (j := 3) hk_4 hc_4 i_4 (by decide) kw_258 rfl dX4_init_89 hs_1ne ?_
      obtain ⟨o30, hv⟩ := hv
      refine hs_stR o30 ?_
      refine wa_iload_n X 2 rfl dX4_init_92 rfl ?_
      refine wa_aload_n X 1 rfl dX4_init_93 rfl ?_
      refine wa_getR X (j := 3) hk_9 hc_9 i_9 (by decide) kw_141 rfl dX4_init_94 hs_1ne ?_
      obtain ⟨o31, hv⟩ := hv
      refine hs_stR o31 ?_
      obtain ⟨o32, hv⟩ := hv
      refine wa_aast X hk_28 hk_5 hc_5 (fun _ => rfl) dX4_init_97 hs_1ne o32 hs_1ne (hs_eqS fun S33 hS33 => ?_)
      replace hv := hv S33 hS33
      refine wa_iinc X (v := (x19 + 1)) (lv' := [(3, .inl (x19 + 1)), (0, .inr (.inr (4, 1))), (1, .inr (.inr (9, 1)))]) 2 rfl dX4_init_98 rfl (by decide) rfl ?_
      refine wa_goto X (tgt := 82) dX4_init_101 (by decide) ?_
      obtain ⟨q34, p35, hv⟩ := hv
      refine wa_lv (lv' := [(0, .inr (.inr (4, 1))), (1, .inr (.inr (9, 1))), (3, .inl (x19 + 1))]) [1, 2, 0] rfl ?_
      exact h27 q34 p35 _ _ hv

def m_Clr_init (S : hs_S) (Q : hs_S → Prop) : Prop := hs_M 2 yX2_init (.code yX2_init cX2_init 3 none) [.inr (.inr (2, 1)), .inr (.inr (1, 1)), .inr (.inr (4, 1))] S 0 0 (hs_rV Q) hs_nX
def vc_Clr_init (S : hs_S) (Q : hs_S → Prop) : Prop := (∀ S1 : hs_S, S1 = (hs_wR S 2 1 0 1) → (∀ S2 : hs_S, S2 = (hs_wR S1 2 1 1 1) → (Q S2)))
set_option maxRecDepth 100000 in
set_option maxHeartbeats 4000000 in
theorem ok_Clr_init {S : hs_S} {Q : hs_S → Prop} (hv : vc_Clr_init S Q) : m_Clr_init S Q := by
  unfold vc_Clr_init at hv
  refine hs_body (own := RX2) rfl rfl (Nat.le_of_ble_eq_true rfl) (fun Z X E N J0 => ?_)
  show wa Z 0 0 S 0 [(0, .inr (.inr (2, 1))), (1, .inr (.inr (1, 1))), (2, .inr (.inr (4, 1)))] []
  have J : hs_I Z := J0
  refine wa_aload_n X 0 rfl dX2_init_0 rfl ?_
  refine wa_objInit X kw_291 kw_53 kw_54 dX2_init_1 hs_1ne ⟨Nat.le_of_ble_eq_true rfl, Nat.le_of_ble_eq_true rfl⟩ ?_
  refine wa_aload_n X 0 rfl dX2_init_4 rfl ?_
  refine wa_aload_n X 1 rfl dX2_init_5 rfl ?_
  refine wa_putFR X J (j := 0) hk_2 hc_2 i_2 tyX2 tyX2_ok nmX2 (by decide) kw_292 rfl rfl rfl dX2_init_6 hs_1ne ⟨rfl, Or.inl ⟨_, rfl⟩⟩ (hs_eqS fun S1 hS1 => ?_)
  replace hv := hv S1 hS1
  refine wa_aload_n X 0 rfl dX2_init_9 rfl ?_
  refine wa_aload_n X 2 rfl dX2_init_10 rfl ?_
  refine wa_putFR X J (j := 1) hk_2 hc_2 i_2 tyX2 tyX2_ok nmX2 (by decide) kw_293 rfl rfl rfl dX2_init_11 hs_1ne ⟨rfl, Or.inl ⟨_, rfl⟩⟩ (hs_eqS fun S2 hS2 => ?_)
  replace hv := hv S2 hS2
  exact wa_return X E dX2_init_14 (Nat.le_of_ble_eq_true rfl) (Nat.le_of_ble_eq_true rfl) ⟨rfl, hv⟩

def m_Ldg_init (S : hs_S) (Q : hs_S → Prop) : Prop := hs_M 2 yX6_init (.code yX6_init cX6_init 3 none) [.inr (.inr (6, 1)), .inr (.inr (1, 1))] S 5 48 (hs_rV Q) hs_nX
def vc_Ldg_init (S : hs_S) (Q : hs_S → Prop) : Prop := (∀ S1 : hs_S, S1 = (hs_nw S 35) → (∀ S2 : hs_S, S2 = (hs_wR S1 6 1 1 (S.2.2.2 35 + 1)) → (∀ S3 : hs_S, S3 = (hs_nw S2 36) → (∀ S4 : hs_S, S4 = (hs_wR S3 6 1 2 (S2.2.2.2 36 + 1)) → (∀ S5 : hs_S, S5 = (hs_nw S4 37) → (∀ S6 : hs_S, S6 = (hs_wR S5 6 1 3 (S4.2.2.2 37 + 1)) → (∀ S7 : hs_S, S7 = (hs_nw S6 38) → (∀ S8 : hs_S, S8 = (hs_wR S7 6 1 4 (S6.2.2.2 38 + 1)) → (∀ S9 : hs_S, S9 = (hs_nw S8 39) → (∀ S10 : hs_S, S10 = (hs_wR S9 6 1 5 (S8.2.2.2 39 + 1)) → (∀ S11 : hs_S, S11 = (hs_wR S10 6 1 0 1) → (∃ I13 : Nat → Int32 → hs_S → Prop, (∃ n18, I13 n18 (0 : Int32) S11) ∧ (∀ N14 : Nat, ∀ x12 : Int32, ∀ S15 : hs_S, I13 N14 x12 S15 → (((6 : Int32) ≤ x12 → (Q S15)) ∧ (¬ (6 : Int32) ≤ x12 → (((S15.2.1 6 1 3) = 1) ∧ ((0 ≤ x12.toInt ∧ x12.toInt < 6) ∧ (∀ S25 : hs_S, S25 = (hs_wI S15 37 1 x12.toNatClampNeg (100000 : Int32)) → (∃ q26, q26 < N14 ∧ I13 q26 (x12 + 1) S25)))))))))))))))))))
set_option maxRecDepth 100000 in
set_option maxHeartbeats 4000000 in
theorem ok_Ldg_init {S : hs_S} {Q : hs_S → Prop} (hv : vc_Ldg_init S Q) : m_Ldg_init S Q := by
  unfold vc_Ldg_init at hv
  refine hs_body (own := RX6) rfl rfl (Nat.le_of_ble_eq_true rfl) (fun Z X E N J0 => ?_)
  show wa Z 0 0 S 0 [(0, .inr (.inr (6, 1))), (1, .inr (.inr (1, 1)))] []
  have J : hs_I Z := J0
  refine wa_aload_n X 0 rfl dX6_init_0 rfl ?_
  refine wa_objInit X kw_304 kw_53 kw_54 dX6_init_1 hs_1ne ⟨Nat.le_of_ble_eq_true rfl, Nat.le_of_ble_eq_true rfl⟩ ?_
  refine wa_aload_n X 0 rfl dX6_init_4 rfl ?_
  refine wa_bipush X dX6_init_5 kb24 ?_
  refine wa_newi X hk_35 kw_77 (by decide) (by decide) (Nat.le_of_ble_eq_true rfl) dX6_init_7 ⟨Nat.le_of_ble_eq_true rfl, Nat.le_of_ble_eq_true rfl⟩ (hs_eqS fun S1 hS1 => ?_)
  replace hv := hv S1 hS1
  refine wa_putFR X J (j := 1) hk_6 hc_6 i_6 tyX6 tyX6_ok nmX6 (by decide) kw_307 rfl rfl rfl dX6_init_9 hs_1ne ⟨rfl, Or.inr ⟨_, rfl⟩⟩ (hs_eqS fun S2 hS2 => ?_)
  replace hv := hv S2 hS2
  refine wa_aload_n X 0 rfl dX6_init_12 rfl ?_
  refine wa_bipush X dX6_init_13 kb6 ?_
  refine wa_newi X hk_36 kw_77 (by decide) (by decide) (Nat.le_of_ble_eq_true rfl) dX6_init_15 ⟨Nat.le_of_ble_eq_true rfl, Nat.le_of_ble_eq_true rfl⟩ (hs_eqS fun S3 hS3 => ?_)
  replace hv := hv S3 hS3
  refine wa_putFR X J (j := 2) hk_6 hc_6 i_6 tyX6 tyX6_ok nmX6 (by decide) kw_308 rfl rfl rfl dX6_init_17 hs_1ne ⟨rfl, Or.inr ⟨_, rfl⟩⟩ (hs_eqS fun S4 hS4 => ?_)
  replace hv := hv S4 hS4
  refine wa_aload_n X 0 rfl dX6_init_20 rfl ?_
  refine wa_bipush X dX6_init_21 kb6 ?_
  refine wa_newi X hk_37 kw_77 (by decide) (by decide) (Nat.le_of_ble_eq_true rfl) dX6_init_23 ⟨Nat.le_of_ble_eq_true rfl, Nat.le_of_ble_eq_true rfl⟩ (hs_eqS fun S5 hS5 => ?_)
  replace hv := hv S5 hS5
  refine wa_putFR X J (j := 3) hk_6 hc_6 i_6 tyX6 tyX6_ok nmX6 (by decide) kw_310 rfl rfl rfl dX6_init_25 hs_1ne ⟨rfl, Or.inr ⟨_, rfl⟩⟩ (hs_eqS fun S6 hS6 => ?_)
  replace hv := hv S6 hS6
  refine wa_aload_n X 0 rfl dX6_init_28 rfl ?_
  refine wa_bipush X dX6_init_29 kb6 ?_
  refine wa_newi X hk_38 kw_77 (by decide) (by decide) (Nat.le_of_ble_eq_true rfl) dX6_init_31 ⟨Nat.le_of_ble_eq_true rfl, Nat.le_of_ble_eq_true rfl⟩ (hs_eqS fun S7 hS7 => ?_)
  replace hv := hv S7 hS7
  refine wa_putFR X J (j := 4) hk_6 hc_6 i_6 tyX6 tyX6_ok nmX6 (by decide) kw_312 rfl rfl rfl dX6_init_33 hs_1ne ⟨rfl, Or.inr ⟨_, rfl⟩⟩ (hs_eqS fun S8 hS8 => ?_)
  replace hv := hv S8 hS8
  refine wa_aload_n X 0 rfl dX6_init_36 rfl ?_
  refine wa_bipush X dX6_init_37 kb6 ?_
  refine wa_newi X hk_39 kw_77 (by decide) (by decide) (Nat.le_of_ble_eq_true rfl) dX6_init_39 ⟨Nat.le_of_ble_eq_true rfl, Nat.le_of_ble_eq_true rfl⟩ (hs_eqS fun S9 hS9 => ?_)
  replace hv := hv S9 hS9
  refine wa_putFR X J (j := 5) hk_6 hc_6 i_6 tyX6 tyX6_ok nmX6 (by decide) kw_313 rfl rfl rfl dX6_init_41 hs_1ne ⟨rfl, Or.inr ⟨_, rfl⟩⟩ (hs_eqS fun S10 hS10 => ?_)
  replace hv := hv S10 hS10
  refine wa_aload_n X 0 rfl dX6_init_44 rfl ?_
  refine wa_aload_n X 1 rfl dX6_init_45 rfl ?_
  refine wa_putFR X J (j := 0) hk_6 hc_6 i_6 tyX6 tyX6_ok nmX6 (by decide) kw_306 rfl rfl rfl dX6_init_46 hs_1ne ⟨rfl, Or.inl ⟨_, rfl⟩⟩ (hs_eqS fun S11 hS11 => ?_)
  replace hv := hv S11 hS11
  refine wa_iconst X dX6_init_49 kc0 ?_
  refine wa_istore_n X (lv' := [(2, .inl (0 : Int32)), (0, .inr (.inr (6, 1))), (1, .inr (.inr (1, 1)))]) dX6_init_50 rfl (by decide) rfl ?_
  obtain ⟨I13, ⟨n18, i16⟩, b17⟩ := hv
  refine wa_lv (lv' := [(0, .inr (.inr (6, 1))), (2, .inl (0 : Int32))]) [1, 0] rfl ?_
  suffices L19 : ∀ N14 : Nat, ∀ x12 : Int32, ∀ S15 : hs_S, I13 N14 x12 S15 → wa Z 5 48 S15 51 [(0, .inr (.inr (6, 1))), (2, .inl x12)] [] from L19 _ _ _ i16
  clear i16
  intro N14
  induction N14 using Nat.strongRecOn with
  | _ N14 h20 =>
    intro x12 S15 j21
    have hv := b17 N14 x12 S15 j21
    refine wa_iload_n X 1 rfl dX6_init_51 rfl ?_
    refine wa_bipush X dX6_init_52 kb6 ?_
    refine wa_icmp_ge X (tgt := 71) dX6_init_54 (by decide) (fun c22 => ?_) (fun c22 => ?_)
    · replace hv := hv.1 c22
      exact wa_return X E dX6_init_71 (Nat.le_of_ble_eq_true rfl) (Nat.le_of_ble_eq_true rfl) ⟨rfl, hv⟩
    · replace hv := hv.2 c22
      refine wa_aload_n X 0 rfl dX6_init_57 rfl ?_
      refine wa_getR X (j := 3) hk_6 hc_6 i_6 (by decide) kw_310 rfl dX6_init_58 hs_1ne ?_
      obtain ⟨o23, hv⟩ := hv
      refine hs_stR o23 ?_
      refine wa_iload_n X 1 rfl dX6_init_61 rfl ?_
      refine wa_ldc X kw_305 dX6_init_62 ?_
      obtain ⟨o24, hv⟩ := hv
      refine wa_iast X hk_37 dX6_init_64 hs_1ne o24 (hs_eqS fun S25 hS25 => ?_)
      replace hv := hv S25 hS25
      refine wa_iinc X (v := (x12 + 1)) (lv' := [(2, .inl (x12 + 1)), (0, .inr (.inr (6, 1)))]) 1 rfl dX6_init_65 rfl (by decide) rfl ?_
      refine wa_goto X (tgt := 51) dX6_init_68 (by decide) ?_
      obtain ⟨q26, p27, hv⟩ := hv
      refine wa_lv (lv' := [(0, .inr (.inr (6, 1))), (2, .inl (x12 + 1))]) [1, 0] rfl ?_
      exact h20 q26 p27 _ _ hv

def m_C_init (S : hs_S) (Q : hs_S → Prop) : Prop := hs_M 7 yX10_init (.code yX10_init cX10_init 1 none) [.inr (.inr (10, 1))] S 57 891 (hs_rV Q) hs_nX
def vc_C_init (S : hs_S) (Q : hs_S → Prop) : Prop := ((S.2.2.2 9 = 0) ∧ (∀ S2 : hs_S, S2 = (hs_nw S 9) → ((m_Sht_init S2 (fun S3 => (∀ S5 : hs_S, S5 = (hs_wR S3 10 1 0 1) → ((S5.2.2.2 1 = 0) ∧ (∀ S7 : hs_S, S7 = (hs_nw S5 1) → ((m_Book_init S7 (fun S8 => (∀ S10 : hs_S, S10 = (hs_wR S8 10 1 1 1) → ((S10.2.2.2 4 = 0) ∧ (∀ S12 : hs_S, S12 = (hs_nw S10 4) → (((S12.2.1 10 1 0) = 1) ∧ (((S12.2.1 10 1 1) = 1) ∧ ((m_Fnd_init S12 (fun S15 => (∀ S17 : hs_S, S17 = (hs_wR S15 10 1 2 1) → ((S17.2.2.2 2 = 0) ∧ (∀ S19 : hs_S, S19 = (hs_nw S17 2) → (((S19.2.1 10 1 1) = 1) ∧ (((S19.2.1 10 1 2) = 1) ∧ ((m_Clr_init S19 (fun S22 => (∀ S24 : hs_S, S24 = (hs_wR S22 10 1 3 1) → ((S24.2.2.2 6 = 0) ∧ (∀ S26 : hs_S, S26 = (hs_nw S24 6) → (((S26.2.1 10 1 1) = 1) ∧ ((m_Ldg_init S26 (fun S28 => (∀ S30 : hs_S, S30 = (hs_wR S28 10 1 4 1) → (∀ S31 : hs_S, S31 = (hs_wI S30 10 1 5 (0 : Int32)) → (Q S31)))))))))))))))))))))))))))))))))))))
set_option maxRecDepth 100000 in
set_option maxHeartbeats 4000000 in
theorem ok_C_init {S : hs_S} {Q : hs_S → Prop} (hv : vc_C_init S Q) : m_C_init S Q := by
  unfold vc_C_init at hv
  refine hs_body (own := RX10) rfl rfl (Nat.le_of_ble_eq_true rfl) (fun Z X E N J0 => ?_)
  show wa Z 0 0 S 0 [(0, .inr (.inr (10, 1)))] []
  have J : hs_I Z := J0
  refine wa_aload_n X 0 rfl dX10_init_0 rfl ?_
  refine wa_objInit X kw_52 kw_53 kw_54 dX10_init_1 hs_1ne ⟨Nat.le_of_ble_eq_true rfl, Nat.le_of_ble_eq_true rfl⟩ ?_
  refine wa_aload_n X 0 rfl dX10_init_4 rfl ?_
  obtain ⟨o1, hv⟩ := hv
  refine wa_new1 X (t := 9) hk_9 hc_9 i_9 tyX9 tyX9_ok dv_9 kw_55 kw_56 kw_22 dX10_init_5 ⟨Nat.le_of_ble_eq_true rfl, Nat.le_of_ble_eq_true rfl⟩ o1 (hs_eqS fun S2 hS2 => ?_)
  replace hv := hv S2 hS2
  refine wa_dup X dX10_init_8 rfl ?_
  refine wa_callIN X (As := []) (hv) kw_59 kw_22 kw_57 kw_58 rfl nd_X9_init rfl rfl (Nat.le_of_ble_eq_true rfl) dX10_init_9 hs_1ne ⟨⟨Nat.le_of_ble_eq_true rfl, Nat.le_of_ble_eq_true rfl⟩, Nat.le_of_ble_eq_true rfl, Nat.le_of_ble_eq_true rfl⟩ (fun v S3 h => ?_) (fun _ _ h => h.elim)
  obtain ⟨rfl, hv⟩ := h
  refine wa_putFR X J (j := 0) hk_10 hc_10 i_10 tyX10 tyX10_ok nmX10 (by decide) kw_327 rfl rfl rfl dX10_init_12 hs_1ne ⟨rfl, Or.inl ⟨_, rfl⟩⟩ (hs_eqS fun S5 hS5 => ?_)
  replace hv := hv S5 hS5
  refine wa_aload_n X 0 rfl dX10_init_15 rfl ?_
  obtain ⟨o6, hv⟩ := hv
  refine wa_new1 X (t := 1) hk_1 hc_1 i_1 tyX1 tyX1_ok dv_1 kw_156 kw_157 kw_28 dX10_init_16 ⟨Nat.le_of_ble_eq_true rfl, Nat.le_of_ble_eq_true rfl⟩ o6 (hs_eqS fun S7 hS7 => ?_)
  replace hv := hv S7 hS7
  refine wa_dup X dX10_init_19 rfl ?_
  refine wa_callI X (As := []) (hv) kw_160 kw_28 kw_158 kw_159 rfl nd_X1_init rfl rfl (Nat.le_of_ble_eq_true rfl) dX10_init_20 hs_1ne ⟨⟨Nat.le_of_ble_eq_true rfl, Nat.le_of_ble_eq_true rfl⟩, Nat.le_of_ble_eq_true rfl, Nat.le_of_ble_eq_true rfl⟩ (fun v S8 h => ?_) (fun _ _ h => h.elim)
  obtain ⟨rfl, hv⟩ := h
  refine wa_putFR X J (j := 1) hk_10 hc_10 i_10 tyX10 tyX10_ok nmX10 (by decide) kw_328 rfl rfl rfl dX10_init_23 hs_1ne ⟨rfl, Or.inl ⟨_, rfl⟩⟩ (hs_eqS fun S10 hS10 => ?_)
  replace hv := hv S10 hS10
  refine wa_aload_n X 0 rfl dX10_init_26 rfl ?_
  obtain ⟨o11, hv⟩ := hv
  refine wa_new1 X (t := 4) hk_4 hc_4 i_4 tyX4 tyX4_ok dv_4 kw_245 kw_246 kw_30 dX10_init_27 ⟨Nat.le_of_ble_eq_true rfl, Nat.le_of_ble_eq_true rfl⟩ o11 (hs_eqS fun S12 hS12 => ?_)
  replace hv := hv S12 hS12
  refine wa_dup X dX10_init_30 rfl ?_
  refine wa_aload_n X 0 rfl dX10_init_31 rfl ?_
  refine wa_getR X (j := 0) hk_10 hc_10 i_10 (by decide) kw_327 rfl dX10_init_32 hs_1ne ?_
  obtain ⟨o13, hv⟩ := hv
  refine hs_stR o13 ?_
  refine wa_aload_n X 0 rfl dX10_init_35 rfl ?_
  refine wa_getR X (j := 1) hk_10 hc_10 i_10 (by decide) kw_328 rfl dX10_init_36 hs_1ne ?_
  obtain ⟨o14, hv⟩ := hv
  refine hs_stR o14 ?_
  refine wa_callI X (As := [.inr (.inr (9, 1)), .inr (.inr (1, 1))]) (hv) kw_249 kw_30 kw_247 kw_248 rfl nd_X4_init rfl rfl (Nat.le_of_ble_eq_true rfl) dX10_init_39 hs_1ne ⟨⟨Nat.le_of_ble_eq_true rfl, Nat.le_of_ble_eq_true rfl⟩, Nat.le_of_ble_eq_true rfl, Nat.le_of_ble_eq_true rfl⟩ (fun v S15 h => ?_) (fun _ _ h => h.elim)
  obtain ⟨rfl, hv⟩ := h
  refine wa_putFR X J (j := 2) hk_10 hc_10 i_10 tyX10 tyX10_ok nmX10 (by decide) kw_329 rfl rfl rfl dX10_init_42 hs_1ne ⟨rfl, Or.inl ⟨_, rfl⟩⟩ (hs_eqS fun S17 hS17 => ?_)
  replace hv := hv S17 hS17
  refine wa_aload_n X 0 rfl dX10_init_45 rfl ?_
  obtain ⟨o18, hv⟩ := hv
  refine wa_new1 X (t := 2) hk_2 hc_2 i_2 tyX2 tyX2_ok dv_2 kw_286 kw_287 kw_31 dX10_init_46 ⟨Nat.le_of_ble_eq_true rfl, Nat.le_of_ble_eq_true rfl⟩ o18 (hs_eqS fun S19 hS19 => ?_)
  replace hv := hv S19 hS19
  refine wa_dup X dX10_init_49 rfl ?_
  refine wa_aload_n X 0 rfl dX10_init_50 rfl ?_
  refine wa_getR X (j := 1) hk_10 hc_10 i_10 (by decide) kw_328 rfl dX10_init_51 hs_1ne ?_
  obtain ⟨o20, hv⟩ := hv
  refine hs_stR o20 ?_
  refine wa_aload_n X 0 rfl dX10_init_54 rfl ?_
  refine wa_getR X (j := 2) hk_10 hc_10 i_10 (by decide) kw_329 rfl dX10_init_55 hs_1ne ?_
  obtain ⟨o21, hv⟩ := hv
  refine hs_stR o21 ?_
  refine wa_callI X (As := [.inr (.inr (1, 1)), .inr (.inr (4, 1))]) (hv) kw_290 kw_31 kw_288 kw_289 rfl nd_X2_init rfl rfl (Nat.le_of_ble_eq_true rfl) dX10_init_58 hs_1ne ⟨⟨Nat.le_of_ble_eq_true rfl, Nat.le_of_ble_eq_true rfl⟩, Nat.le_of_ble_eq_true rfl, Nat.le_of_ble_eq_true rfl⟩ (fun v S22 h => ?_) (fun _ _ h => h.elim)
  obtain ⟨rfl, hv⟩ := h
  refine wa_putFR X J (j := 3) hk_10 hc_10 i_10 tyX10 tyX10_ok nmX10 (by decide) kw_330 rfl rfl rfl dX10_init_61 hs_1ne ⟨rfl, Or.inl ⟨_, rfl⟩⟩ (hs_eqS fun S24 hS24 => ?_)
  replace hv := hv S24 hS24
  refine wa_aload_n X 0 rfl dX10_init_64 rfl ?_
  obtain ⟨o25, hv⟩ := hv
  refine wa_new1 X (t := 6) hk_6 hc_6 i_6 tyX6 tyX6_ok dv_6 kw_299 kw_300 kw_32 dX10_init_65 ⟨Nat.le_of_ble_eq_true rfl, Nat.le_of_ble_eq_true rfl⟩ o25 (hs_eqS fun S26 hS26 => ?_)
  replace hv := hv S26 hS26
  refine wa_dup X dX10_init_68 rfl ?_
  refine wa_aload_n X 0 rfl dX10_init_69 rfl ?_
  refine wa_getR X (j := 1) hk_10 hc_10 i_10 (by decide) kw_328 rfl dX10_init_70 hs_1ne ?_
  obtain ⟨o27, hv⟩ := hv
  refine hs_stR o27 ?_
  refine wa_callI X (As := [.inr (.inr (1, 1))]) (hv) kw_303 kw_32 kw_301 kw_302 rfl nd_X6_init rfl rfl (Nat.le_of_ble_eq_true rfl) dX10_init_73 hs_1ne ⟨⟨Nat.le_of_ble_eq_true rfl, Nat.le_of_ble_eq_true rfl⟩, Nat.le_of_ble_eq_true rfl, Nat.le_of_ble_eq_true rfl⟩ (fun v S28 h => ?_) (fun _ _ h => h.elim)
  obtain ⟨rfl, hv⟩ := h
  refine wa_putFR X J (j := 4) hk_10 hc_10 i_10 tyX10 tyX10_ok nmX10 (by decide) kw_331 rfl rfl rfl dX10_init_76 hs_1ne ⟨rfl, Or.inl ⟨_, rfl⟩⟩ (hs_eqS fun S30 hS30 => ?_)
  replace hv := hv S30 hS30
  refine wa_aload_n X 0 rfl dX10_init_79 rfl ?_
  refine wa_iconst X dX10_init_80 kc0 ?_
  refine wa_putI X (j := 5) hk_10 hc_10 i_10 tyX10 tyX10_ok nmX10 (by decide) kw_332 rfl rfl dX10_init_81 hs_1ne ⟨rfl, Or.inl rfl⟩ (hs_eqS fun S31 hS31 => ?_)
  replace hv := hv S31 hS31
  exact wa_return X E dX10_init_84 (Nat.le_of_ble_eq_true rfl) (Nat.le_of_ble_eq_true rfl) ⟨rfl, hv⟩

