def E_Edit_init (i0 : Nat) (a1 a2 a3 a4 a5 : Int32) (r6 : Nat) (S : hs_S) : hs_S := hs_wR (hs_wI (hs_wI (hs_wI (hs_wI (hs_wI (hs_wI S 3 i0 6 0) 3 i0 0 a1) 3 i0 1 a2) 3 i0 2 a3) 3 i0 3 a4) 3 i0 4 a5) 3 i0 5 r6
def m_Edit_init (i0 : Nat) (a1 : Int32) (a2 : Int32) (a3 : Int32) (a4 : Int32) (a5 : Int32) (r6 : Nat) (S : hs_S) (Q : hs_S → Prop) : Prop := hs_M 2 yX3_init (.code yX3_init cX3_init 7 none) [.inr (.inr (3, i0)), .inl a1, .inl a2, .inl a3, .inl a4, .inl a5, .inr (.inr (5, r6))] S 0 0 (hs_rV Q) hs_nX
def vc_Edit_init (i0 : Nat) (a1 : Int32) (a2 : Int32) (a3 : Int32) (a4 : Int32) (a5 : Int32) (r6 : Nat) (S : hs_S) (Q : hs_S → Prop) : Prop := (∀ S1 : hs_S, S1 = (hs_wI S 3 i0 6 (0 : Int32)) → (∀ S2 : hs_S, S2 = (hs_wI S1 3 i0 0 a1) → (∀ S3 : hs_S, S3 = (hs_wI S2 3 i0 1 a2) → (∀ S4 : hs_S, S4 = (hs_wI S3 3 i0 2 a3) → (∀ S5 : hs_S, S5 = (hs_wI S4 3 i0 3 a4) → (∀ S6 : hs_S, S6 = (hs_wI S5 3 i0 4 a5) → (∀ S7 : hs_S, S7 = (hs_wR S6 3 i0 5 r6) → (Q S7))))))))
set_option maxRecDepth 100000 in
set_option maxHeartbeats 4000000 in
theorem ok_Edit_init {i0 : Nat} {a1 : Int32} {a2 : Int32} {a3 : Int32} {a4 : Int32} {a5 : Int32} {r6 : Nat} {S : hs_S} {Q : hs_S → Prop} (hi0 : i0 ≠ 0) (hr6 : r6 ≠ 0) (hv : vc_Edit_init i0 a1 a2 a3 a4 a5 r6 S Q) : m_Edit_init i0 a1 a2 a3 a4 a5 r6 S Q := by
  unfold vc_Edit_init at hv
  refine hs_body (own := RX3) rfl rfl (Nat.le_of_ble_eq_true rfl) (fun Z X E N J0 => ?_)
  show wa Z 0 0 S 0 [(0, .inr (.inr (3, i0))), (1, .inl a1), (2, .inl a2), (3, .inl a3), (4, .inl a4), (5, .inl a5), (6, .inr (.inr (5, r6)))] []
  have J : hs_I Z := J0
  refine wa_aload_n X 0 rfl dX3_init_0 rfl ?_
  refine wa_objInit X kw_613 kw_53 kw_54 dX3_init_1 hi0 ⟨Nat.le_of_ble_eq_true rfl, Nat.le_of_ble_eq_true rfl⟩ ?_
  refine wa_aload_n X 0 rfl dX3_init_4 rfl ?_
  refine wa_iconst X dX3_init_5 kc0 ?_
  refine wa_putI X (j := 6) hk_3 hc_3 i_3 tyX3 tyX3_ok nmX3 (by decide) kw_628 rfl rfl dX3_init_6 hi0 ⟨rfl, Or.inr ⟨rfl, Or.inl rfl⟩⟩ (hs_eqS fun S1 hS1 => ?_)
  replace hv := hv S1 hS1
  refine wa_aload_n X 0 rfl dX3_init_9 rfl ?_
  refine wa_iload_n X 1 rfl dX3_init_10 rfl ?_
  refine wa_putFI X J (j := 0) hk_3 hc_3 i_3 tyX3 tyX3_ok nmX3 (by decide) kw_614 rfl rfl rfl dX3_init_11 hi0 ⟨rfl, Or.inl rfl⟩ (hs_eqS fun S2 hS2 => ?_)
  replace hv := hv S2 hS2
  refine wa_aload_n X 0 rfl dX3_init_14 rfl ?_
  refine wa_iload_n X 2 rfl dX3_init_15 rfl ?_
  refine wa_putFI X J (j := 1) hk_3 hc_3 i_3 tyX3 tyX3_ok nmX3 (by decide) kw_616 rfl rfl rfl dX3_init_16 hi0 ⟨rfl, Or.inl rfl⟩ (hs_eqS fun S3 hS3 => ?_)
  replace hv := hv S3 hS3
  refine wa_aload_n X 0 rfl dX3_init_19 rfl ?_
  refine wa_iload_n X 3 rfl dX3_init_20 rfl ?_
  refine wa_putFI X J (j := 2) hk_3 hc_3 i_3 tyX3 tyX3_ok nmX3 (by decide) kw_619 rfl rfl rfl dX3_init_21 hi0 ⟨rfl, Or.inl rfl⟩ (hs_eqS fun S4 hS4 => ?_)
  replace hv := hv S4 hS4
  refine wa_aload_n X 0 rfl dX3_init_24 rfl ?_
  refine wa_iload X 4 rfl dX3_init_25 ?_
  refine wa_putFI X J (j := 3) hk_3 hc_3 i_3 tyX3 tyX3_ok nmX3 (by decide) kw_621 rfl rfl rfl dX3_init_27 hi0 ⟨rfl, Or.inl rfl⟩ (hs_eqS fun S5 hS5 => ?_)
  replace hv := hv S5 hS5
  refine wa_aload_n X 0 rfl dX3_init_30 rfl ?_
  refine wa_iload X 5 rfl dX3_init_31 ?_
  refine wa_putFI X J (j := 4) hk_3 hc_3 i_3 tyX3 tyX3_ok nmX3 (by decide) kw_623 rfl rfl rfl dX3_init_33 hi0 ⟨rfl, Or.inl rfl⟩ (hs_eqS fun S6 hS6 => ?_)
  replace hv := hv S6 hS6
  refine wa_aload_n X 0 rfl dX3_init_36 rfl ?_
  refine wa_aload X 6 rfl dX3_init_37 ?_
  refine wa_putFR X J (j := 5) hk_3 hc_3 i_3 tyX3 tyX3_ok nmX3 (by decide) kw_625 rfl rfl rfl dX3_init_39 hi0 ⟨rfl, Or.inl ⟨_, rfl⟩⟩ (hs_eqS fun S7 hS7 => ?_)
  replace hv := hv S7 hS7
  exact wa_return X E dX3_init_42 (Nat.le_of_ble_eq_true rfl) (Nat.le_of_ble_eq_true rfl) ⟨rfl, hv⟩
theorem v_Edit_init {i0 : Nat} {a1 a2 a3 a4 a5 : Int32} {r6 : Nat} {S : hs_S} {Q : hs_S → Prop} (h : Q (E_Edit_init i0 a1 a2 a3 a4 a5 r6 S)) : vc_Edit_init i0 a1 a2 a3 a4 a5 r6 S Q := by
  rintro _ rfl _ rfl _ rfl _ rfl _ rfl _ rfl _ rfl
  exact h

def E_Bid_init (i0 : Nat) (a1 a2 : Int32) (r3 : Nat) (a4 a5 a6 a7 : Int32) (S : hs_S) : hs_S := hs_wI (hs_wI (hs_wI (hs_wI (hs_wR (hs_wI (hs_wI (hs_wI (hs_wI (hs_wI S 0 i0 7 2147483647) 0 i0 8 0) 0 i0 9 0) 0 i0 0 a1) 0 i0 1 a2) 0 i0 2 r3) 0 i0 3 a4) 0 i0 4 a5) 0 i0 5 a6) 0 i0 6 a7
def m_Bid_init (i0 : Nat) (a1 : Int32) (a2 : Int32) (r3 : Nat) (a4 : Int32) (a5 : Int32) (a6 : Int32) (a7 : Int32) (S : hs_S) (Q : hs_S → Prop) : Prop := hs_M 2 yX0_init (.code yX0_init cX0_init 8 none) [.inr (.inr (0, i0)), .inl a1, .inl a2, .inr (.inr (8, r3)), .inl a4, .inl a5, .inl a6, .inl a7] S 0 0 (hs_rV Q) hs_nX
def vc_Bid_init (i0 : Nat) (a1 : Int32) (a2 : Int32) (r3 : Nat) (a4 : Int32) (a5 : Int32) (a6 : Int32) (a7 : Int32) (S : hs_S) (Q : hs_S → Prop) : Prop := (∀ S1 : hs_S, S1 = (hs_wI S 0 i0 7 (2147483647 : Int32)) → (∀ S2 : hs_S, S2 = (hs_wI S1 0 i0 8 (0 : Int32)) → (∀ S3 : hs_S, S3 = (hs_wI S2 0 i0 9 (0 : Int32)) → (∀ S4 : hs_S, S4 = (hs_wI S3 0 i0 0 a1) → (∀ S5 : hs_S, S5 = (hs_wI S4 0 i0 1 a2) → (∀ S6 : hs_S, S6 = (hs_wR S5 0 i0 2 r3) → ((a4 = 0 ∨ a4 = 1) ∧ (∀ S8 : hs_S, S8 = (hs_wI S6 0 i0 3 a4) → (∀ S9 : hs_S, S9 = (hs_wI S8 0 i0 4 a5) → (∀ S10 : hs_S, S10 = (hs_wI S9 0 i0 5 a6) → (∀ S11 : hs_S, S11 = (hs_wI S10 0 i0 6 a7) → (Q S11))))))))))))
set_option maxRecDepth 100000 in
set_option maxHeartbeats 4000000 in
theorem ok_Bid_init {i0 : Nat} {a1 : Int32} {a2 : Int32} {r3 : Nat} {a4 : Int32} {a5 : Int32} {a6 : Int32} {a7 : Int32} {S : hs_S} {Q : hs_S → Prop} (hi0 : i0 ≠ 0) (hr3 : r3 ≠ 0) (hv : vc_Bid_init i0 a1 a2 r3 a4 a5 a6 a7 S Q) : m_Bid_init i0 a1 a2 r3 a4 a5 a6 a7 S Q := by
  unfold vc_Bid_init at hv
  refine hs_body (own := RX0) rfl rfl (Nat.le_of_ble_eq_true rfl) (fun Z X E N J0 => ?_)
  show wa Z 0 0 S 0 [(0, .inr (.inr (0, i0))), (1, .inl a1), (2, .inl a2), (3, .inr (.inr (8, r3))), (4, .inl a4), (5, .inl a5), (6, .inl a6), (7, .inl a7)] []
  have J : hs_I Z := J0
  refine wa_aload_n X 0 rfl dX0_init_0 rfl ?_
  refine wa_objInit X kw_834 kw_53 kw_54 dX0_init_1 hi0 ⟨Nat.le_of_ble_eq_true rfl, Nat.le_of_ble_eq_true rfl⟩ ?_
  refine wa_aload_n X 0 rfl dX0_init_4 rfl ?_
  refine wa_ldc X kw_835 dX0_init_5 ?_
  refine wa_putI X (j := 7) hk_0 hc_0 i_0 tyX0 tyX0_ok nmX0 (by decide) kw_859 rfl rfl dX0_init_7 hi0 ⟨rfl, Or.inl rfl⟩ (hs_eqS fun S1 hS1 => ?_)
  replace hv := hv S1 hS1
  refine wa_aload_n X 0 rfl dX0_init_10 rfl ?_
  refine wa_iconst X dX0_init_11 kc0 ?_
  refine wa_putI X (j := 8) hk_0 hc_0 i_0 tyX0 tyX0_ok nmX0 (by decide) kw_862 rfl rfl dX0_init_12 hi0 ⟨rfl, Or.inr ⟨rfl, Or.inl rfl⟩⟩ (hs_eqS fun S2 hS2 => ?_)
  replace hv := hv S2 hS2
  refine wa_aload_n X 0 rfl dX0_init_15 rfl ?_
  refine wa_iconst X dX0_init_16 kc0 ?_
  refine wa_putI X (j := 9) hk_0 hc_0 i_0 tyX0 tyX0_ok nmX0 (by decide) kw_864 rfl rfl dX0_init_17 hi0 ⟨rfl, Or.inl rfl⟩ (hs_eqS fun S3 hS3 => ?_)
  replace hv := hv S3 hS3
  refine wa_aload_n X 0 rfl dX0_init_20 rfl ?_
  refine wa_iload_n X 1 rfl dX0_init_21 rfl ?_
  refine wa_putFI X J (j := 0) hk_0 hc_0 i_0 tyX0 tyX0_ok nmX0 (by decide) kw_836 rfl rfl rfl dX0_init_22 hi0 ⟨rfl, Or.inl rfl⟩ (hs_eqS fun S4 hS4 => ?_)
  replace hv := hv S4 hS4
  refine wa_aload_n X 0 rfl dX0_init_25 rfl ?_
  refine wa_iload_n X 2 rfl dX0_init_26 rfl ?_
  refine wa_putFI X J (j := 1) hk_0 hc_0 i_0 tyX0 tyX0_ok nmX0 (by decide) kw_838 rfl rfl rfl dX0_init_27 hi0 ⟨rfl, Or.inl rfl⟩ (hs_eqS fun S5 hS5 => ?_)
  replace hv := hv S5 hS5
  refine wa_aload_n X 0 rfl dX0_init_30 rfl ?_
  refine wa_aload_n X 3 rfl dX0_init_31 rfl ?_
  refine wa_putFR X J (j := 2) hk_0 hc_0 i_0 tyX0 tyX0_ok nmX0 (by decide) kw_841 rfl rfl rfl dX0_init_32 hi0 ⟨rfl, Or.inl ⟨_, rfl⟩⟩ (hs_eqS fun S6 hS6 => ?_)
  replace hv := hv S6 hS6
  refine wa_aload_n X 0 rfl dX0_init_35 rfl ?_
  refine wa_iload X 4 rfl dX0_init_36 ?_
  obtain ⟨o7, hv⟩ := hv
  refine wa_putFI X J (j := 3) hk_0 hc_0 i_0 tyX0 tyX0_ok nmX0 (by decide) kw_846 rfl rfl rfl dX0_init_38 hi0 ⟨rfl, Or.inr ⟨rfl, o7⟩⟩ (hs_eqS fun S8 hS8 => ?_)
  replace hv := hv S8 hS8
  refine wa_aload_n X 0 rfl dX0_init_41 rfl ?_
  refine wa_iload X 5 rfl dX0_init_42 ?_
  refine wa_putFI X J (j := 4) hk_0 hc_0 i_0 tyX0 tyX0_ok nmX0 (by decide) kw_850 rfl rfl rfl dX0_init_44 hi0 ⟨rfl, Or.inl rfl⟩ (hs_eqS fun S9 hS9 => ?_)
  replace hv := hv S9 hS9
  refine wa_aload_n X 0 rfl dX0_init_47 rfl ?_
  refine wa_iload X 6 rfl dX0_init_48 ?_
  refine wa_putFI X J (j := 5) hk_0 hc_0 i_0 tyX0 tyX0_ok nmX0 (by decide) kw_855 rfl rfl rfl dX0_init_50 hi0 ⟨rfl, Or.inl rfl⟩ (hs_eqS fun S10 hS10 => ?_)
  replace hv := hv S10 hS10
  refine wa_aload_n X 0 rfl dX0_init_53 rfl ?_
  refine wa_iload X 7 rfl dX0_init_54 ?_
  refine wa_putFI X J (j := 6) hk_0 hc_0 i_0 tyX0 tyX0_ok nmX0 (by decide) kw_858 rfl rfl rfl dX0_init_56 hi0 ⟨rfl, Or.inl rfl⟩ (hs_eqS fun S11 hS11 => ?_)
  replace hv := hv S11 hS11
  exact wa_return X E dX0_init_59 (Nat.le_of_ble_eq_true rfl) (Nat.le_of_ble_eq_true rfl) ⟨rfl, hv⟩
theorem v_Bid_init {i0 : Nat} {a1 a2 : Int32} {r3 : Nat} {a4 a5 a6 a7 : Int32} {S : hs_S} {Q : hs_S → Prop} (h4 : a4 = 0 ∨ a4 = 1) (h : Q (E_Bid_init i0 a1 a2 r3 a4 a5 a6 a7 S)) : vc_Bid_init i0 a1 a2 r3 a4 a5 a6 a7 S Q := by
  rintro _ rfl _ rfl _ rfl _ rfl _ rfl _ rfl
  refine ⟨h4, ?_⟩
  rintro _ rfl _ rfl _ rfl _ rfl
  exact h

def E_Fml_init (i0 : Nat) (S : hs_S) : hs_S := hs_wI (hs_wI (hs_wR (hs_nw (hs_wR (hs_nw (hs_wR (hs_nw S 22) 5 i0 0 (S.2.2.2 22 + 1)) 23) 5 i0 1 (S.2.2.2 23 + 1)) 24) 5 i0 2 (S.2.2.2 24 + 1)) 5 i0 3 0) 5 i0 4 0
def m_Fml_init (i0 : Nat) (S : hs_S) (Q : hs_S → Prop) : Prop := hs_M 2 yX5_init (.code yX5_init cX5_init 1 none) [.inr (.inr (5, i0))] S 3 36 (hs_rV Q) hs_nX
def vc_Fml_init (i0 : Nat) (S : hs_S) (Q : hs_S → Prop) : Prop := (∀ S1 : hs_S, S1 = (hs_nw S 22) → (∀ S2 : hs_S, S2 = (hs_wR S1 5 i0 0 (S.2.2.2 22 + 1)) → (∀ S3 : hs_S, S3 = (hs_nw S2 23) → (∀ S4 : hs_S, S4 = (hs_wR S3 5 i0 1 (S2.2.2.2 23 + 1)) → (∀ S5 : hs_S, S5 = (hs_nw S4 24) → (∀ S6 : hs_S, S6 = (hs_wR S5 5 i0 2 (S4.2.2.2 24 + 1)) → (∀ S7 : hs_S, S7 = (hs_wI S6 5 i0 3 (0 : Int32)) → (∀ S8 : hs_S, S8 = (hs_wI S7 5 i0 4 (0 : Int32)) → (Q S8)))))))))
set_option maxRecDepth 100000 in
set_option maxHeartbeats 4000000 in
theorem ok_Fml_init {i0 : Nat} {S : hs_S} {Q : hs_S → Prop} (hi0 : i0 ≠ 0) (hv : vc_Fml_init i0 S Q) : m_Fml_init i0 S Q := by
  unfold vc_Fml_init at hv
  refine hs_body (own := RX5) rfl rfl (Nat.le_of_ble_eq_true rfl) (fun Z X E N J0 => ?_)
  show wa Z 0 0 S 0 [(0, .inr (.inr (5, i0)))] []
  have J : hs_I Z := J0
  refine wa_aload_n X 0 rfl dX5_init_0 rfl ?_
  refine wa_objInit X kw_109 kw_53 kw_54 dX5_init_1 hi0 ⟨Nat.le_of_ble_eq_true rfl, Nat.le_of_ble_eq_true rfl⟩ ?_
  refine wa_aload_n X 0 rfl dX5_init_4 rfl ?_
  refine wa_bipush X dX5_init_5 kb12 ?_
  refine wa_newi X hk_22 kw_77 (by decide) (by decide) (Nat.le_of_ble_eq_true rfl) dX5_init_7 ⟨Nat.le_of_ble_eq_true rfl, Nat.le_of_ble_eq_true rfl⟩ (hs_eqS fun S1 hS1 => ?_)
  replace hv := hv S1 hS1
  refine wa_putFR X J (j := 0) hk_5 hc_5 i_5 tyX5 tyX5_ok nmX5 (by decide) kw_110 rfl rfl rfl dX5_init_9 hi0 ⟨rfl, Or.inr ⟨_, rfl⟩⟩ (hs_eqS fun S2 hS2 => ?_)
  replace hv := hv S2 hS2
  refine wa_aload_n X 0 rfl dX5_init_12 rfl ?_
  refine wa_bipush X dX5_init_13 kb12 ?_
  refine wa_newi X hk_23 kw_77 (by decide) (by decide) (Nat.le_of_ble_eq_true rfl) dX5_init_15 ⟨Nat.le_of_ble_eq_true rfl, Nat.le_of_ble_eq_true rfl⟩ (hs_eqS fun S3 hS3 => ?_)
  replace hv := hv S3 hS3
  refine wa_putFR X J (j := 1) hk_5 hc_5 i_5 tyX5 tyX5_ok nmX5 (by decide) kw_112 rfl rfl rfl dX5_init_17 hi0 ⟨rfl, Or.inr ⟨_, rfl⟩⟩ (hs_eqS fun S4 hS4 => ?_)
  replace hv := hv S4 hS4
  refine wa_aload_n X 0 rfl dX5_init_20 rfl ?_
  refine wa_bipush X dX5_init_21 kb12 ?_
  refine wa_newi X hk_24 kw_77 (by decide) (by decide) (Nat.le_of_ble_eq_true rfl) dX5_init_23 ⟨Nat.le_of_ble_eq_true rfl, Nat.le_of_ble_eq_true rfl⟩ (hs_eqS fun S5 hS5 => ?_)
  replace hv := hv S5 hS5
  refine wa_putFR X J (j := 2) hk_5 hc_5 i_5 tyX5 tyX5_ok nmX5 (by decide) kw_114 rfl rfl rfl dX5_init_25 hi0 ⟨rfl, Or.inr ⟨_, rfl⟩⟩ (hs_eqS fun S6 hS6 => ?_)
  replace hv := hv S6 hS6
  refine wa_aload_n X 0 rfl dX5_init_28 rfl ?_
  refine wa_iconst X dX5_init_29 kc0 ?_
  refine wa_putI X (j := 3) hk_5 hc_5 i_5 tyX5 tyX5_ok nmX5 (by decide) kw_116 rfl rfl dX5_init_30 hi0 ⟨rfl, Or.inl rfl⟩ (hs_eqS fun S7 hS7 => ?_)
  replace hv := hv S7 hS7
  refine wa_aload_n X 0 rfl dX5_init_33 rfl ?_
  refine wa_iconst X dX5_init_34 kc0 ?_
  refine wa_putI X (j := 4) hk_5 hc_5 i_5 tyX5 tyX5_ok nmX5 (by decide) kw_119 rfl rfl dX5_init_35 hi0 ⟨rfl, Or.inl rfl⟩ (hs_eqS fun S8 hS8 => ?_)
  replace hv := hv S8 hS8
  exact wa_return X E dX5_init_38 (Nat.le_of_ble_eq_true rfl) (Nat.le_of_ble_eq_true rfl) ⟨rfl, hv⟩
theorem v_Fml_init {i0 : Nat} {S : hs_S} {Q : hs_S → Prop} (h : Q (E_Fml_init i0 S)) : vc_Fml_init i0 S Q := by
  rintro _ rfl _ rfl _ rfl _ rfl _ rfl _ rfl _ rfl _ rfl
  exact h

/-- a row of numbers of a thing -/
def hs_row (S : hs_S) (u j : Nat) (q : Nat → Int32) : hs_S := (fun t i p => if t = u ∧ i = j then q p else S.1 t i p, S.2)
abbrev Rts0 (i0 : Nat) (S : hs_S) : hs_S := hs_wR (hs_nw (hs_wR (hs_nw S 20) 7 i0 0 (S.2.2.2 20 + 1)) 21) 7 i0 1 (S.2.2.2 21 + 1)
def E_Rts_init (i0 : Nat) (S : hs_S) : hs_S := hs_row (Rts0 i0 S) 20 (S.2.2.2 20 + 1) (fun p => if p < 24 then nI (p / 6) else 0)
theorem nI_div6 {k : Nat} (h : k < 2147483648) : nI k / 6 = nI (k / 6) := by
  apply i32_eq.mpr
  have h1 : (nI k).toInt = k := nI_toInt (by omega)
  have h2 : (nI (k / 6)).toInt = ((k / 6 : Nat) : Int) := nI_toInt (by omega)
  rw [Int32.toInt_div, h1, h2]
  have z6 : (6 : Int32).toInt = 6 := rfl
  rw [z6, Int.tdiv_eq_ediv_of_nonneg (by omega)]
  exact bm32 (by omega)
def m_Rts_init (i0 : Nat) (S : hs_S) (Q : hs_S → Prop) : Prop := hs_M 2 yX7_init (.code yX7_init cX7_init 2 none) [.inr (.inr (7, i0))] S 2 48 (hs_rV Q) hs_nX
def vc_Rts_init (i0 : Nat) (S : hs_S) (Q : hs_S → Prop) : Prop := (∀ S1 : hs_S, S1 = (hs_nw S 20) → (∀ S2 : hs_S, S2 = (hs_wR S1 7 i0 0 (S.2.2.2 20 + 1)) → (∀ S3 : hs_S, S3 = (hs_nw S2 21) → (∀ S4 : hs_S, S4 = (hs_wR S3 7 i0 1 (S2.2.2.2 21 + 1)) → (∃ I6 : Nat → Int32 → hs_S → Prop, (∃ n11, I6 n11 (0 : Int32) S4) ∧ (∀ N7 : Nat, ∀ x5 : Int32, ∀ S8 : hs_S, I6 N7 x5 S8 → (((24 : Int32) ≤ x5 → (Q S8)) ∧ (¬ (24 : Int32) ≤ x5 → (((S8.2.1 7 i0 0) ≠ 0) ∧ ((0 ≤ x5.toInt ∧ x5.toInt < 24) ∧ (∀ S18 : hs_S, S18 = (hs_wI S8 20 (S8.2.1 7 i0 0) x5.toNatClampNeg (x5 / (6 : Int32))) → (∃ q19, q19 < N7 ∧ I6 q19 (x5 + 1) S18))))))))))))
set_option maxRecDepth 100000 in
set_option maxHeartbeats 4000000 in
theorem ok_Rts_init {i0 : Nat} {S : hs_S} {Q : hs_S → Prop} (hi0 : i0 ≠ 0) (hv : vc_Rts_init i0 S Q) : m_Rts_init i0 S Q := by
  unfold vc_Rts_init at hv
  refine hs_body (own := RX7) rfl rfl (Nat.le_of_ble_eq_true rfl) (fun Z X E N J0 => ?_)
  show wa Z 0 0 S 0 [(0, .inr (.inr (7, i0)))] []
  have J : hs_I Z := J0
  refine wa_aload_n X 0 rfl dX7_init_0 rfl ?_
  refine wa_objInit X kw_66 kw_53 kw_54 dX7_init_1 hi0 ⟨Nat.le_of_ble_eq_true rfl, Nat.le_of_ble_eq_true rfl⟩ ?_
  refine wa_aload_n X 0 rfl dX7_init_4 rfl ?_
  refine wa_bipush X dX7_init_5 kb24 ?_
  refine wa_newi X hk_20 kw_77 (by decide) (by decide) (Nat.le_of_ble_eq_true rfl) dX7_init_7 ⟨Nat.le_of_ble_eq_true rfl, Nat.le_of_ble_eq_true rfl⟩ (hs_eqS fun S1 hS1 => ?_)
  replace hv := hv S1 hS1
  refine wa_putFR X J (j := 0) hk_7 hc_7 i_7 tyX7 tyX7_ok nmX7 (by decide) kw_67 rfl rfl rfl dX7_init_9 hi0 ⟨rfl, Or.inr ⟨_, rfl⟩⟩ (hs_eqS fun S2 hS2 => ?_)
  replace hv := hv S2 hS2
  refine wa_aload_n X 0 rfl dX7_init_12 rfl ?_
  refine wa_bipush X dX7_init_13 kb24 ?_
  refine wa_newi X hk_21 kw_77 (by decide) (by decide) (Nat.le_of_ble_eq_true rfl) dX7_init_15 ⟨Nat.le_of_ble_eq_true rfl, Nat.le_of_ble_eq_true rfl⟩ (hs_eqS fun S3 hS3 => ?_)
  replace hv := hv S3 hS3
  refine wa_putFR X J (j := 1) hk_7 hc_7 i_7 tyX7 tyX7_ok nmX7 (by decide) kw_71 rfl rfl rfl dX7_init_17 hi0 ⟨rfl, Or.inr ⟨_, rfl⟩⟩ (hs_eqS fun S4 hS4 => ?_)
  replace hv := hv S4 hS4
  refine wa_iconst X dX7_init_20 kc0 ?_
  refine wa_istore_n X (lv' := [(1, .inl (0 : Int32)), (0, .inr (.inr (7, i0)))]) dX7_init_21 rfl (by decide) rfl ?_
  obtain ⟨I6, ⟨n11, i9⟩, b10⟩ := hv
  refine wa_lv (lv' := [(0, .inr (.inr (7, i0))), (1, .inl (0 : Int32))]) [1, 0] rfl ?_
  suffices L12 : ∀ N7 : Nat, ∀ x5 : Int32, ∀ S8 : hs_S, I6 N7 x5 S8 → wa Z 2 48 S8 22 [(0, .inr (.inr (7, i0))), (1, .inl x5)] [] from L12 _ _ _ i9
  clear i9
  intro N7
  induction N7 using Nat.strongRecOn with
  | _ N7 h13 =>
    intro x5 S8 j14
    have hv := b10 N7 x5 S8 j14
    refine wa_iload_n X 1 rfl dX7_init_22 rfl ?_
    refine wa_bipush X dX7_init_23 kb24 ?_
    refine wa_icmp_ge X (tgt := 44) dX7_init_25 (by decide) (fun c15 => ?_) (fun c15 => ?_)
    · replace hv := hv.1 c15
      exact wa_return X E dX7_init_44 (Nat.le_of_ble_eq_true rfl) (Nat.le_of_ble_eq_true rfl) ⟨rfl, hv⟩
    · replace hv := hv.2 c15
      refine wa_aload_n X 0 rfl dX7_init_28 rfl ?_
      refine wa_getR X (j := 0) hk_7 hc_7 i_7 (by decide) kw_67 rfl dX7_init_29 hi0 ?_
      refine wa_iload_n X 1 rfl dX7_init_32 rfl ?_
      refine wa_iload_n X 1 rfl dX7_init_33 rfl ?_
      refine wa_bipush X dX7_init_34 kb6 ?_
      refine wa_idiv X dX7_init_36 (by decide) ?_
      obtain ⟨o16, hv⟩ := hv
      obtain ⟨o17, hv⟩ := hv
      refine wa_iast X hk_20 dX7_init_37 o16 o17 (hs_eqS fun S18 hS18 => ?_)
      replace hv := hv S18 hS18
      refine wa_iinc X (v := (x5 + 1)) (lv' := [(1, .inl (x5 + 1)), (0, .inr (.inr (7, i0)))]) 1 rfl dX7_init_38 rfl (by decide) rfl ?_
      refine wa_goto X (tgt := 22) dX7_init_41 (by decide) ?_
      obtain ⟨q19, p20, hv⟩ := hv
      refine wa_lv (lv' := [(0, .inr (.inr (7, i0))), (1, .inl (x5 + 1))]) [1, 0] rfl ?_
      exact h13 q19 p20 _ _ hv
theorem v_Rts_init {i0 : Nat} {S : hs_S} {Q : hs_S → Prop} (h : Q (E_Rts_init i0 S)) : vc_Rts_init i0 S Q := by
  unfold vc_Rts_init
  rintro _ rfl _ rfl _ rfl _ rfl
  have e21 : (hs_nw (hs_wR (hs_nw S 20) 7 i0 0 (S.2.2.2 20 + 1)) 21).2.2.2 20 = S.2.2.2 20 + 1 := rfl
  refine ⟨fun N x T => ∃ k, k ≤ 24 ∧ x = nI k ∧ N = 24 - k ∧ T = hs_row (Rts0 i0 S) 20 (S.2.2.2 20 + 1) (fun p => if p < k then nI (p / 6) else 0), ⟨24, 0, by omega, rfl, rfl, ?_⟩, ?_⟩
  · refine Prod.ext ?_ rfl
    funext t i p
    show _ = if t = 20 ∧ i = S.2.2.2 20 + 1 then (if p < 0 then nI (p / 6) else 0) else (Rts0 i0 S).1 t i p
    by_cases q : t = 20 ∧ i = S.2.2.2 20 + 1
    · rw [if_pos q, if_neg (by omega), q.1, q.2]
      show (if (20 : Nat) = 21 ∧ S.2.2.2 20 + 1 = S.2.2.2 21 + 1 then (0 : Int32) else if (20 : Nat) = 20 ∧ S.2.2.2 20 + 1 = S.2.2.2 20 + 1 then 0 else S.1 20 (S.2.2.2 20 + 1) p) = 0
      rw [if_neg (by omega), if_pos ⟨rfl, rfl⟩]
    · rw [if_neg q]; rfl
  · rintro N x T ⟨k, hk, rfl, rfl, rfl⟩
    refine ⟨fun hh => ?_, fun hh => ?_⟩
    · have : k = 24 := hl_end (g := 24) (by omega) hk hh
      subst this
      exact h
    · have hk1 : k < 24 := hl_go (g := 24) (by omega) hk hh
      have eR : (hs_row (Rts0 i0 S) 20 (S.2.2.2 20 + 1) (fun p => if p < k then nI (p / 6) else 0)).2.1 7 i0 0 = S.2.2.2 20 + 1 := by
        show (if 7 = 7 ∧ i0 = i0 ∧ 0 = 1 then S.2.2.2 21 + 1 else if (7 : Nat) = 21 ∧ i0 = S.2.2.2 21 + 1 then 0 else if 7 = 7 ∧ i0 = i0 ∧ 0 = 0 then S.2.2.2 20 + 1 else (hs_nw S 20).2.1 7 i0 0) = _
        rw [if_neg (by omega), if_neg (by omega), if_pos ⟨rfl, rfl, rfl⟩]
      rw [eR, hl_cl (by omega)]
      refine ⟨by omega, hl_ix (by omega) (by omega), ?_⟩
      rintro _ rfl
      refine ⟨24 - (k + 1), by omega, k + 1, hk1, nI_1 k, rfl, ?_⟩
      refine Prod.ext ?_ rfl
      funext t i p
      show (if t = 20 ∧ i = S.2.2.2 20 + 1 ∧ p = k then nI k / 6 else if t = 20 ∧ i = S.2.2.2 20 + 1 then (if p < k then nI (p / 6) else 0) else (Rts0 i0 S).1 t i p) = if t = 20 ∧ i = S.2.2.2 20 + 1 then (if p < k + 1 then nI (p / 6) else 0) else (Rts0 i0 S).1 t i p
      by_cases q : t = 20 ∧ i = S.2.2.2 20 + 1
      · rw [if_pos q, if_pos q]
        by_cases w : p = k
        · rw [if_pos ⟨q.1, q.2, w⟩, if_pos (by omega), w, nI_div6 (by omega)]
        · rw [if_neg fun z => w z.2.2]
          by_cases v : p < k
          · rw [if_pos v, if_pos (by omega)]
          · rw [if_neg v, if_neg (by omega)]
      · rw [if_neg fun z => q ⟨z.1, z.2.1⟩, if_neg q, if_neg q]

abbrev Rnd0 (i0 : Nat) (S : hs_S) : hs_S := hs_wI (hs_wI (hs_wI S 8 i0 1 2147483647) 8 i0 2 2147483647) 8 i0 3 0
def E_Rnd_init (i0 : Nat) (a1 : Int32) (S : hs_S) : hs_S := hs_wI (hs_wI (hs_wI (hs_wI (hs_wI (hs_wR (E_Rts_init (S.2.2.2 7 + 1) (hs_nw (Rnd0 i0 S) 7)) 8 i0 4 (S.2.2.2 7 + 1)) 8 i0 5 (-1)) 8 i0 6 0) 8 i0 7 0) 8 i0 8 0) 8 i0 0 a1
def m_Rnd_init (i0 : Nat) (a1 : Int32) (S : hs_S) (Q : hs_S → Prop) : Prop := hs_M 3 yX8_init (.code yX8_init cX8_init 2 none) [.inr (.inr (8, i0)), .inl a1] S 3 50 (hs_rV Q) hs_nX
def vc_Rnd_init (i0 : Nat) (a1 : Int32) (S : hs_S) (Q : hs_S → Prop) : Prop := (∀ S1 : hs_S, S1 = (hs_wI S 8 i0 1 (2147483647 : Int32)) → (∀ S2 : hs_S, S2 = (hs_wI S1 8 i0 2 (2147483647 : Int32)) → (∀ S3 : hs_S, S3 = (hs_wI S2 8 i0 3 (0 : Int32)) → (∀ S4 : hs_S, S4 = (hs_nw S3 7) → ((m_Rts_init (S3.2.2.2 7 + 1) S4 (fun S5 => (∀ S7 : hs_S, S7 = (hs_wR S5 8 i0 4 (S3.2.2.2 7 + 1)) → (∀ S8 : hs_S, S8 = (hs_wI S7 8 i0 5 (-1 : Int32)) → (∀ S9 : hs_S, S9 = (hs_wI S8 8 i0 6 (0 : Int32)) → (∀ S10 : hs_S, S10 = (hs_wI S9 8 i0 7 (0 : Int32)) → (∀ S11 : hs_S, S11 = (hs_wI S10 8 i0 8 (0 : Int32)) → (∀ S12 : hs_S, S12 = (hs_wI S11 8 i0 0 a1) → (Q S12))))))))))))))
set_option maxRecDepth 100000 in
set_option maxHeartbeats 4000000 in
theorem ok_Rnd_init {i0 : Nat} {a1 : Int32} {S : hs_S} {Q : hs_S → Prop} (hi0 : i0 ≠ 0) (hv : vc_Rnd_init i0 a1 S Q) : m_Rnd_init i0 a1 S Q := by
  unfold vc_Rnd_init at hv
  refine hs_body (own := RX8) rfl rfl (Nat.le_of_ble_eq_true rfl) (fun Z X E N J0 => ?_)
  show wa Z 0 0 S 0 [(0, .inr (.inr (8, i0))), (1, .inl a1)] []
  have J : hs_I Z := J0
  refine wa_aload_n X 0 rfl dX8_init_0 rfl ?_
  refine wa_objInit X kw_170 kw_53 kw_54 dX8_init_1 hi0 ⟨Nat.le_of_ble_eq_true rfl, Nat.le_of_ble_eq_true rfl⟩ ?_
  refine wa_aload_n X 0 rfl dX8_init_4 rfl ?_
  refine wa_ldc X kw_171 dX8_init_5 ?_
  refine wa_putI X (j := 1) hk_8 hc_8 i_8 tyX8 tyX8_ok nmX8 (by decide) kw_179 rfl rfl dX8_init_7 hi0 ⟨rfl, Or.inl rfl⟩ (hs_eqS fun S1 hS1 => ?_)
  replace hv := hv S1 hS1
  refine wa_aload_n X 0 rfl dX8_init_10 rfl ?_
  refine wa_ldc X kw_171 dX8_init_11 ?_
  refine wa_putI X (j := 2) hk_8 hc_8 i_8 tyX8 tyX8_ok nmX8 (by decide) kw_181 rfl rfl dX8_init_13 hi0 ⟨rfl, Or.inl rfl⟩ (hs_eqS fun S2 hS2 => ?_)
  replace hv := hv S2 hS2
  refine wa_aload_n X 0 rfl dX8_init_16 rfl ?_
  refine wa_iconst X dX8_init_17 kc0 ?_
  refine wa_putI X (j := 3) hk_8 hc_8 i_8 tyX8 tyX8_ok nmX8 (by decide) kw_185 rfl rfl dX8_init_18 hi0 ⟨rfl, Or.inr ⟨rfl, Or.inl rfl⟩⟩ (hs_eqS fun S3 hS3 => ?_)
  replace hv := hv S3 hS3
  refine wa_aload_n X 0 rfl dX8_init_21 rfl ?_
  refine wa_new X (t := 7) hk_7 hc_7 i_7 tyX7 tyX7_ok dv_7 kw_172 kw_62 kw_23 dX8_init_22 ⟨Nat.le_of_ble_eq_true rfl, Nat.le_of_ble_eq_true rfl⟩ (hs_eqS fun S4 hS4 => ?_)
  replace hv := hv S4 hS4
  refine wa_dup X dX8_init_25 rfl ?_
  refine wa_callI X (As := []) (hv) kw_65 kw_23 kw_173 kw_64 rfl nd_X7_init rfl rfl (Nat.le_of_ble_eq_true rfl) dX8_init_26 (hs_sne _) ⟨⟨Nat.le_of_ble_eq_true rfl, Nat.le_of_ble_eq_true rfl⟩, Nat.le_of_ble_eq_true rfl, Nat.le_of_ble_eq_true rfl⟩ (fun v S5 h => ?_) (fun _ _ h => h.elim)
  obtain ⟨rfl, hv⟩ := h
  refine wa_putFR X J (j := 4) hk_8 hc_8 i_8 tyX8 tyX8_ok nmX8 (by decide) kw_187 rfl rfl rfl dX8_init_29 hi0 ⟨rfl, Or.inl ⟨_, rfl⟩⟩ (hs_eqS fun S7 hS7 => ?_)
  replace hv := hv S7 hS7
  refine wa_aload_n X 0 rfl dX8_init_32 rfl ?_
  refine wa_iconst X dX8_init_33 kcm1 ?_
  refine wa_putI X (j := 5) hk_8 hc_8 i_8 tyX8 tyX8_ok nmX8 (by decide) kw_189 rfl rfl dX8_init_34 hi0 ⟨rfl, Or.inl rfl⟩ (hs_eqS fun S8 hS8 => ?_)
  replace hv := hv S8 hS8
  refine wa_aload_n X 0 rfl dX8_init_37 rfl ?_
  refine wa_iconst X dX8_init_38 kc0 ?_
  refine wa_putI X (j := 6) hk_8 hc_8 i_8 tyX8 tyX8_ok nmX8 (by decide) kw_194 rfl rfl dX8_init_39 hi0 ⟨rfl, Or.inl rfl⟩ (hs_eqS fun S9 hS9 => ?_)
  replace hv := hv S9 hS9
  refine wa_aload_n X 0 rfl dX8_init_42 rfl ?_
  refine wa_iconst X dX8_init_43 kc0 ?_
  refine wa_putI X (j := 7) hk_8 hc_8 i_8 tyX8 tyX8_ok nmX8 (by decide) kw_197 rfl rfl dX8_init_44 hi0 ⟨rfl, Or.inl rfl⟩ (hs_eqS fun S10 hS10 => ?_)
  replace hv := hv S10 hS10
  refine wa_aload_n X 0 rfl dX8_init_47 rfl ?_
  refine wa_iconst X dX8_init_48 kc0 ?_
  refine wa_putI X (j := 8) hk_8 hc_8 i_8 tyX8 tyX8_ok nmX8 (by decide) kw_201 rfl rfl dX8_init_49 hi0 ⟨rfl, Or.inl rfl⟩ (hs_eqS fun S11 hS11 => ?_)
  replace hv := hv S11 hS11
  refine wa_aload_n X 0 rfl dX8_init_52 rfl ?_
  refine wa_iload_n X 1 rfl dX8_init_53 rfl ?_
  refine wa_putFI X J (j := 0) hk_8 hc_8 i_8 tyX8 tyX8_ok nmX8 (by decide) kw_174 rfl rfl rfl dX8_init_54 hi0 ⟨rfl, Or.inl rfl⟩ (hs_eqS fun S12 hS12 => ?_)
  replace hv := hv S12 hS12
  exact wa_return X E dX8_init_57 (Nat.le_of_ble_eq_true rfl) (Nat.le_of_ble_eq_true rfl) ⟨rfl, hv⟩
theorem v_Rnd_init {i0 : Nat} {a1 : Int32} {S : hs_S} {Q : hs_S → Prop} (h : Q (E_Rnd_init i0 a1 S)) : vc_Rnd_init i0 a1 S Q := by
  rintro _ rfl _ rfl _ rfl _ rfl
  refine ok_Rts_init (by omega) (v_Rts_init ?_)
  rintro _ rfl _ rfl _ rfl _ rfl _ rfl _ rfl
  exact h

