abbrev bc (S : hs_S) (r : Nat) : Nat := (S.1 8 (S.2.1 0 r 2) 0).toNatClampNeg
def E_Fnd_addBid (r1 : Nat) (S : hs_S) : hs_S :=
  if S.1 0 r1 3 = 0 then hs_wI (hs_wI (hs_wI S 33 7 (bc S r1) (S.1 33 7 (bc S r1) + 1)) 33 4 (bc S r1) (if S.1 33 6 (bc S r1) = 0 then S.1 0 r1 5 else if S.1 0 r1 5 < S.1 33 4 (bc S r1) then S.1 0 r1 5 else S.1 33 4 (bc S r1))) 33 6 (bc S r1) (S.1 33 6 (bc S r1) + S.1 0 r1 4)
  else hs_wI (hs_wI (hs_wI S 33 7 (bc S r1) (S.1 33 7 (bc S r1) + 1)) 33 3 (bc S r1) (if S.1 33 3 (bc S r1) < S.1 0 r1 5 then S.1 0 r1 5 else S.1 33 3 (bc S r1))) 33 5 (bc S r1) (S.1 33 5 (bc S r1) + S.1 0 r1 4)
def P_Fnd_addBid (r1 : Nat) (S : hs_S) : Prop := S.2.1 0 r1 2 ≠ 0 ∧ 0 ≤ (S.1 8 (S.2.1 0 r1 2) 0).toInt ∧ (S.1 8 (S.2.1 0 r1 2) 0).toInt < 4
def m_Fnd_addBid (r1 : Nat) (S : hs_S) (Q : hs_S → Prop) : Prop := hs_M 2 yX4_addBid (.code yX4_addBid cX4_addBid 4 none) [.inr (.inr (4, 1)), .inr (.inr (0, r1))] S 0 0 (hs_qV Q) hs_nX
def vc_Fnd_addBid (r1 : Nat) (S : hs_S) (Q : hs_S → Prop) : Prop := (((S.2.1 0 r1 2) ≠ 0) ∧ ((0 ≤ (S.1 8 (S.2.1 0 r1 2) 0).toInt ∧ (S.1 8 (S.2.1 0 r1 2) 0).toInt < 4) ∧ (∀ S3 : hs_S, S3 = (hs_wI S 33 ((6 : Int32).toNatClampNeg + 1) (S.1 8 (S.2.1 0 r1 2) 0).toNatClampNeg ((S.1 33 ((6 : Int32).toNatClampNeg + 1) (S.1 8 (S.2.1 0 r1 2) 0).toNatClampNeg) + (1 : Int32))) → (((S3.1 0 r1 3) = 0 → (∀ x5 : Int32, x5 = (if (S3.1 33 ((5 : Int32).toNatClampNeg + 1) (S.1 8 (S.2.1 0 r1 2) 0).toNatClampNeg) = 0 then (1 : Int32) else (0 : Int32)) → (∀ x6 : Int32, x6 = (if x5 = 0 then (if (S3.1 0 r1 5) < (S3.1 33 ((3 : Int32).toNatClampNeg + 1) (S.1 8 (S.2.1 0 r1 2) 0).toNatClampNeg) then (S3.1 0 r1 5) else (S3.1 33 ((3 : Int32).toNatClampNeg + 1) (S.1 8 (S.2.1 0 r1 2) 0).toNatClampNeg)) else (S3.1 0 r1 5)) → (∀ S7 : hs_S, S7 = (hs_wI S3 33 ((3 : Int32).toNatClampNeg + 1) (S.1 8 (S.2.1 0 r1 2) 0).toNatClampNeg x6) → (∀ S8 : hs_S, S8 = (hs_wI S7 33 ((5 : Int32).toNatClampNeg + 1) (S.1 8 (S.2.1 0 r1 2) 0).toNatClampNeg ((S7.1 33 ((5 : Int32).toNatClampNeg + 1) (S.1 8 (S.2.1 0 r1 2) 0).toNatClampNeg) + (S7.1 0 r1 4))) → (Q S8)))))) ∧ (¬ (S3.1 0 r1 3) = 0 → (∀ S15 : hs_S, S15 = (hs_wI S3 33 ((2 : Int32).toNatClampNeg + 1) (S.1 8 (S.2.1 0 r1 2) 0).toNatClampNeg (if (S3.1 33 ((2 : Int32).toNatClampNeg + 1) (S.1 8 (S.2.1 0 r1 2) 0).toNatClampNeg) < (S3.1 0 r1 5) then (S3.1 0 r1 5) else (S3.1 33 ((2 : Int32).toNatClampNeg + 1) (S.1 8 (S.2.1 0 r1 2) 0).toNatClampNeg))) → (∀ S16 : hs_S, S16 = (hs_wI S15 33 ((4 : Int32).toNatClampNeg + 1) (S.1 8 (S.2.1 0 r1 2) 0).toNatClampNeg ((S15.1 33 ((4 : Int32).toNatClampNeg + 1) (S.1 8 (S.2.1 0 r1 2) 0).toNatClampNeg) + (S15.1 0 r1 4))) → (Q S16))))))))
set_option maxRecDepth 100000 in
set_option maxHeartbeats 4000000 in
theorem ok_Fnd_addBid {r1 : Nat} {S : hs_S} {Q : hs_S → Prop} (hr1 : r1 ≠ 0) (hw : hs_Wi S) (hv : vc_Fnd_addBid r1 S Q) : m_Fnd_addBid r1 S Q := by
  unfold vc_Fnd_addBid at hv
  refine hs_body (own := RX4) rfl rfl (Nat.le_of_ble_eq_true rfl) (fun Z X E N J0 => ?_)
  show wa Z 0 0 S 0 [(0, .inr (.inr (4, 1))), (1, .inr (.inr (0, r1)))] []
  refine wa_aload_n X 1 rfl dX4_addBid_0 rfl ?_
  refine wa_getR X (j := 2) hk_0 hc_0 i_0 (by decide) kw_844 rfl dX4_addBid_1 hr1 ?_
  obtain ⟨o1, hv⟩ := hv
  refine wa_getI X (j := 0) hk_8 hc_8 i_8 (by decide) kw_176 rfl dX4_addBid_4 o1 ?_
  refine wa_istore_n X (lv' := [(2, .inl (S.1 8 (S.2.1 0 r1 2) 0)), (0, .inr (.inr (4, 1))), (1, .inr (.inr (0, r1)))]) dX4_addBid_7 rfl (by decide) rfl ?_
  refine wa_aload_n X 1 rfl dX4_addBid_8 rfl ?_
  refine wa_getfw X hw (j := 7) (r := 1) hk_4 hc_4 i_4 (by decide) kw_262 rfl rfl (by decide) rfl dX4_addBid_9 hs_1ne ?_
  refine wa_bipush X dX4_addBid_12 kb6 ?_
  refine wa_aaldw X hw dX4_addBid_14 (by decide) ?_
  refine wa_iload_n X 0 rfl dX4_addBid_15 rfl ?_
  refine wa_dup2 X dX4_addBid_16 rfl rfl ?_
  obtain ⟨o2, hv⟩ := hv
  refine wa_iald X hk_33 dX4_addBid_17 (hs_sne _) o2 ?_
  refine wa_iconst X dX4_addBid_18 kc1 ?_
  refine wa_iadd X dX4_addBid_19 ?_
  refine wa_iast X hk_33 dX4_addBid_20 (hs_sne _) o2 (hs_eqS fun S3 hS3 => ?_)
  replace hv := hv S3 hS3
  replace hw : hs_Wi S3 := hS3 ▸ hs_Wi_I hw
  refine wa_aload_n X 2 rfl dX4_addBid_21 rfl ?_
  refine wa_getI X (j := 3) hk_0 hc_0 i_0 (by decide) kw_849 rfl dX4_addBid_22 hr1 ?_
  refine wa_if_eq X (tgt := 67) dX4_addBid_25 (by decide) (fun c4 => ?_) (fun c4 => ?_)
  · replace hv := hv.1 c4
    refine wa_aload_n X 1 rfl dX4_addBid_67 rfl ?_
    refine wa_getfw X hw (j := 7) (r := 1) hk_4 hc_4 i_4 (by decide) kw_262 rfl rfl (by decide) rfl dX4_addBid_68 hs_1ne ?_
    refine wa_iconst X dX4_addBid_71 kc5 ?_
    refine wa_aaldw X hw dX4_addBid_72 (by decide) ?_
    refine wa_iload_n X 0 rfl dX4_addBid_73 rfl ?_
    refine wa_iald X hk_33 dX4_addBid_74 (hs_sne _) o2 ?_
    have k12 : ∀ (x5 : Int32), x5 = (if (S3.1 33 ((5 : Int32).toNatClampNeg + 1) (S.1 8 (S.2.1 0 r1 2) 0).toNatClampNeg) = 0 then (1 : Int32) else (0 : Int32)) → wa Z 0 0 S3 83 [(0, .inr (.inr (4, 1))), (1, .inr (.inr (0, r1))), (2, .inl (S.1 8 (S.2.1 0 r1 2) 0))] [.inl x5] := by
      intro x5 hE
      replace hv := hv _ hE
      refine wa_istore_n X (lv' := [(3, .inl x5), (0, .inr (.inr (4, 1))), (1, .inr (.inr (0, r1))), (2, .inl (S.1 8 (S.2.1 0 r1 2) 0))]) dX4_addBid_83 rfl (by decide) rfl ?_
      refine wa_aload_n X 1 rfl dX4_addBid_84 rfl ?_
      refine wa_getfw X hw (j := 7) (r := 1) hk_4 hc_4 i_4 (by decide) kw_262 rfl rfl (by decide) rfl dX4_addBid_85 hs_1ne ?_
      refine wa_iconst X dX4_addBid_88 kc3 ?_
      refine wa_aaldw X hw dX4_addBid_89 (by decide) ?_
      refine wa_iload_n X 3 rfl dX4_addBid_90 rfl ?_
      refine wa_iload_n X 0 rfl dX4_addBid_91 rfl ?_
      have k9 : ∀ (x6 : Int32), x6 = (if x5 = 0 then (if (S3.1 0 r1 5) < (S3.1 33 ((3 : Int32).toNatClampNeg + 1) (S.1 8 (S.2.1 0 r1 2) 0).toNatClampNeg) then (S3.1 0 r1 5) else (S3.1 33 ((3 : Int32).toNatClampNeg + 1) (S.1 8 (S.2.1 0 r1 2) 0).toNatClampNeg)) else (S3.1 0 r1 5)) → wa Z 0 0 S3 117 [(0, .inr (.inr (4, 1))), (1, .inr (.inr (0, r1))), (2, .inl (S.1 8 (S.2.1 0 r1 2) 0))] [.inl x6, .inl (S.1 8 (S.2.1 0 r1 2) 0), .inr (.inr (33, ((3 : Int32).toNatClampNeg + 1)))] := by
        intro x6 hE
        replace hv := hv _ hE
        refine wa_iast X hk_33 dX4_addBid_117 (hs_sne _) o2 (hs_eqS fun S7 hS7 => ?_)
        replace hv := hv S7 hS7
        replace hw : hs_Wi S7 := hS7 ▸ hs_Wi_I hw
        refine wa_aload_n X 0 rfl dX4_addBid_118 rfl ?_
        refine wa_getfw X hw (j := 7) (r := 1) hk_4 hc_4 i_4 (by decide) kw_262 rfl rfl (by decide) rfl dX4_addBid_119 hs_1ne ?_
        refine wa_iconst X dX4_addBid_122 kc5 ?_
        refine wa_aaldw X hw dX4_addBid_123 (by decide) ?_
        refine wa_iload_n X 2 rfl dX4_addBid_124 rfl ?_
        refine wa_dup2 X dX4_addBid_125 rfl rfl ?_
        refine wa_iald X hk_33 dX4_addBid_126 (hs_sne _) o2 ?_
        refine wa_aload_n X 1 rfl dX4_addBid_127 rfl ?_
        refine wa_getI X (j := 4) hk_0 hc_0 i_0 (by decide) kw_853 rfl dX4_addBid_128 hr1 ?_
        refine wa_iadd X dX4_addBid_131 ?_
        refine wa_iast X hk_33 dX4_addBid_132 (hs_sne _) o2 (hs_eqS fun S8 hS8 => ?_)
        replace hv := hv S8 hS8
        replace hw : hs_Wi S8 := hS8 ▸ hs_Wi_I hw
        exact wa_return X E dX4_addBid_133 (Nat.le_of_ble_eq_true rfl) (Nat.le_of_ble_eq_true rfl) ⟨hw, rfl, hv⟩
      clear hv
      refine wa_if_eq X (tgt := 102) dX4_addBid_92 (by decide) (fun c11 => ?_) (fun c11 => ?_)
      · refine wa_aload_n X 1 rfl dX4_addBid_102 rfl ?_
        refine wa_getfw X hw (j := 7) (r := 1) hk_4 hc_4 i_4 (by decide) kw_262 rfl rfl (by decide) rfl dX4_addBid_103 hs_1ne ?_
        refine wa_iconst X dX4_addBid_106 kc3 ?_
        refine wa_aaldw X hw dX4_addBid_107 (by decide) ?_
        refine wa_iload_n X 3 rfl dX4_addBid_108 rfl ?_
        refine wa_iald X hk_33 dX4_addBid_109 (hs_sne _) o2 ?_
        refine wa_aload_n X 2 rfl dX4_addBid_110 rfl ?_
        refine wa_getI X (j := 5) hk_0 hc_0 i_0 (by decide) kw_857 rfl dX4_addBid_111 hr1 ?_
        refine wa_mmin X kw_761 kw_703 kw_39 kw_704 (Nat.le_of_ble_eq_true rfl) dX4_addBid_114 ⟨⟨Nat.le_of_ble_eq_true rfl, Nat.le_of_ble_eq_true rfl⟩, Nat.le_of_ble_eq_true rfl, Nat.le_of_ble_eq_true rfl⟩ ?_
        refine wa_lv (lv' := [(0, .inr (.inr (4, 1))), (1, .inr (.inr (0, r1))), (2, .inl (S.1 8 (S.2.1 0 r1 2) 0))]) [1, 2, 3] rfl ?_
        exact wa_wid (Nat.le_of_ble_eq_true rfl) (Nat.le_of_ble_eq_true rfl) (k9 _  (by rw [if_pos c11]))
      · refine wa_aload_n X 2 rfl dX4_addBid_95 rfl ?_
        refine wa_getI X (j := 5) hk_0 hc_0 i_0 (by decide) kw_857 rfl dX4_addBid_96 hr1 ?_
        refine wa_goto X (tgt := 117) dX4_addBid_99 (by decide) ?_
        refine wa_lv (lv' := [(0, .inr (.inr (4, 1))), (1, .inr (.inr (0, r1))), (2, .inl (S.1 8 (S.2.1 0 r1 2) 0))]) [1, 2, 3] rfl ?_
        exact wa_wid (Nat.le_of_ble_eq_true rfl) (Nat.le_of_ble_eq_true rfl) (k9 _  (by rw [if_neg c11]))
    clear hv
    refine wa_if_ne X (tgt := 82) dX4_addBid_75 (by decide) (fun c14 => ?_) (fun c14 => ?_)
    · refine wa_iconst X dX4_addBid_82 kc0 ?_
      refine wa_lv (lv' := [(0, .inr (.inr (4, 1))), (1, .inr (.inr (0, r1))), (2, .inl (S.1 8 (S.2.1 0 r1 2) 0))]) [1, 2, 0] rfl ?_
      exact wa_wid (Nat.le_of_ble_eq_true rfl) (Nat.le_of_ble_eq_true rfl) (k12 _  (by rw [if_neg c14]))
    · refine wa_iconst X dX4_addBid_78 kc1 ?_
      refine wa_goto X (tgt := 83) dX4_addBid_79 (by decide) ?_
      refine wa_lv (lv' := [(0, .inr (.inr (4, 1))), (1, .inr (.inr (0, r1))), (2, .inl (S.1 8 (S.2.1 0 r1 2) 0))]) [1, 2, 0] rfl ?_
      exact wa_wid (Nat.le_of_ble_eq_true rfl) (Nat.le_of_ble_eq_true rfl) (k12 _  (by rw [if_pos c14]))
  · replace hv := hv.2 c4
    refine wa_aload_n X 1 rfl dX4_addBid_28 rfl ?_
    refine wa_getfw X hw (j := 7) (r := 1) hk_4 hc_4 i_4 (by decide) kw_262 rfl rfl (by decide) rfl dX4_addBid_29 hs_1ne ?_
    refine wa_iconst X dX4_addBid_32 kc2 ?_
    refine wa_aaldw X hw dX4_addBid_33 (by decide) ?_
    refine wa_iload_n X 0 rfl dX4_addBid_34 rfl ?_
    refine wa_aload_n X 1 rfl dX4_addBid_35 rfl ?_
    refine wa_getfw X hw (j := 7) (r := 1) hk_4 hc_4 i_4 (by decide) kw_262 rfl rfl (by decide) rfl dX4_addBid_36 hs_1ne ?_
    refine wa_iconst X dX4_addBid_39 kc2 ?_
    refine wa_aaldw X hw dX4_addBid_40 (by decide) ?_
    refine wa_iload_n X 0 rfl dX4_addBid_41 rfl ?_
    refine wa_iald X hk_33 dX4_addBid_42 (hs_sne _) o2 ?_
    refine wa_aload_n X 2 rfl dX4_addBid_43 rfl ?_
    refine wa_getI X (j := 5) hk_0 hc_0 i_0 (by decide) kw_857 rfl dX4_addBid_44 hr1 ?_
    refine wa_mmax X kw_760 kw_607 kw_39 kw_608 (Nat.le_of_ble_eq_true rfl) dX4_addBid_47 ⟨⟨Nat.le_of_ble_eq_true rfl, Nat.le_of_ble_eq_true rfl⟩, Nat.le_of_ble_eq_true rfl, Nat.le_of_ble_eq_true rfl⟩ ?_
    refine wa_iast X hk_33 dX4_addBid_50 (hs_sne _) o2 (hs_eqS fun S15 hS15 => ?_)
    replace hv := hv S15 hS15
    replace hw : hs_Wi S15 := hS15 ▸ hs_Wi_I hw
    refine wa_aload_n X 1 rfl dX4_addBid_51 rfl ?_
    refine wa_getfw X hw (j := 7) (r := 1) hk_4 hc_4 i_4 (by decide) kw_262 rfl rfl (by decide) rfl dX4_addBid_52 hs_1ne ?_
    refine wa_iconst X dX4_addBid_55 kc4 ?_
    refine wa_aaldw X hw dX4_addBid_56 (by decide) ?_
    refine wa_iload_n X 0 rfl dX4_addBid_57 rfl ?_
    refine wa_dup2 X dX4_addBid_58 rfl rfl ?_
    refine wa_iald X hk_33 dX4_addBid_59 (hs_sne _) o2 ?_
    refine wa_aload_n X 2 rfl dX4_addBid_60 rfl ?_
    refine wa_getI X (j := 4) hk_0 hc_0 i_0 (by decide) kw_853 rfl dX4_addBid_61 hr1 ?_
    refine wa_iadd X dX4_addBid_64 ?_
    refine wa_iast X hk_33 dX4_addBid_65 (hs_sne _) o2 (hs_eqS fun S16 hS16 => ?_)
    replace hv := hv S16 hS16
    replace hw : hs_Wi S16 := hS16 ▸ hs_Wi_I hw
    exact wa_return X E dX4_addBid_66 (Nat.le_of_ble_eq_true rfl) (Nat.le_of_ble_eq_true rfl) ⟨hw, rfl, hv⟩
theorem v_Fnd_addBid {r1 : Nat} {S : hs_S} (hP : P_Fnd_addBid r1 S) : vc_Fnd_addBid r1 S (fun S' => S' = E_Fnd_addBid r1 S) := by
  refine ⟨hP.1, hP.2, ?_⟩
  rintro _ rfl
  refine ⟨fun h => ?_, fun h => ?_⟩
  · rintro x5 h5 x6 h6 _ rfl _ rfl
    unfold E_Fnd_addBid
    have h' : S.1 0 r1 3 = 0 := h
    rw [if_pos h']
    have e6 : x6 = (if S.1 33 6 (bc S r1) = 0 then S.1 0 r1 5 else if S.1 0 r1 5 < S.1 33 4 (bc S r1) then S.1 0 r1 5 else S.1 33 4 (bc S r1)) := by
      rw [h6, h5]
      by_cases q : S.1 33 6 (bc S r1) = 0
      · rw [if_pos q]
        refine if_neg ?_
        have : (if (hs_wI S 33 ((6 : Int32).toNatClampNeg + 1) (S.1 8 (S.2.1 0 r1 2) 0).toNatClampNeg (S.1 33 ((6 : Int32).toNatClampNeg + 1) (S.1 8 (S.2.1 0 r1 2) 0).toNatClampNeg + 1)).1 33 ((5 : Int32).toNatClampNeg + 1) (S.1 8 (S.2.1 0 r1 2) 0).toNatClampNeg = 0 then (1 : Int32) else 0) = 1 := if_pos q
        rw [this]; decide
      · rw [if_neg q]
        refine if_pos ?_
        exact if_neg q
    rw [e6]
    rfl
  · rintro _ rfl _ rfl
    unfold E_Fnd_addBid
    have h' : ¬ S.1 0 r1 3 = 0 := h
    rw [if_neg h']
    rfl
theorem f_Fnd_addBid {r1 : Nat} {S : hs_S} (hr1 : r1 ≠ 0) (hw : hs_Wi S) (hP : P_Fnd_addBid r1 S) : hs_M 2 yX4_addBid (.code yX4_addBid cX4_addBid 4 none) [.inr (.inr (4, 1)), .inr (.inr (0, r1))] S 0 0 (hs_pd (none) (E_Fnd_addBid r1 S)) hs_nX := hs_pdV (ok_Fnd_addBid hr1 hw (v_Fnd_addBid hP))

/-- the rounds that were cleared -/
abbrev rd (S : hs_S) (k : Nat) : Nat := S.2.1 14 1 k
def cRd (S : hs_S) : Prop := ∃ g : Nat, g ≤ 30 ∧ hs_sz S 14 = g ∧ ∀ k, k < g → rd S k ≠ 0 ∧ ∃ c : Nat, c < 4 ∧ S.1 8 (rd S k) 0 = nI c
def cForm (S : hs_S) (e c : Int32) : Nat → Nat
  | 0 => 1
  | k + 1 => if S.1 3 (ed S k) 1 = c ∧ ¬ F_Edit_countsAt (ed S k) e S = 0 then S.2.1 3 (ed S k) 5 else cForm S e c k
def cBA (S : hs_S) (c e : Int32) : Nat → Int32 × (Int32 × (Int32 × (Int32 × Int32)))
  | 0 => (0, (0, (0, (0, 0))))
  | k + 1 => if S.1 8 (br S k) 0 = c ∧ ¬ F_Bid_standsAt (bd S k) e S = 0 then
      (if S.1 0 (bd S k) 3 = 0 then ((cBA S c e k).1, ((if (cBA S c e k).2.2.2.1 = 0 then S.1 0 (bd S k) 5 else if S.1 0 (bd S k) 5 < (cBA S c e k).2.1 then S.1 0 (bd S k) 5 else (cBA S c e k).2.1), ((cBA S c e k).2.2.1, ((cBA S c e k).2.2.2.1 + S.1 0 (bd S k) 4, (cBA S c e k).2.2.2.2 + 1))))
       else ((if (cBA S c e k).1 < S.1 0 (bd S k) 5 then S.1 0 (bd S k) 5 else (cBA S c e k).1), ((cBA S c e k).2.1, ((cBA S c e k).2.2.1 + S.1 0 (bd S k) 4, ((cBA S c e k).2.2.2.1, (cBA S c e k).2.2.2.2 + 1)))))
    else cBA S c e k
def cLs (S : hs_S) (c e : Int32) : Nat → Int32
  | 0 => 0
  | k + 1 => if S.1 8 (rd S k) 0 = c ∧ ¬ e ≤ S.1 8 (rd S k) 2 ∧ ¬ S.1 8 (rd S k) 5 = -1 then S.1 8 (rd S k) 5 else cLs S c e k
/-- what going to an event writes -/
def GF (S U : hs_S) : Prop := U.2.2 = S.2.2 ∧ (∀ t i p, t ≠ 28 → ¬ (t = 4 ∧ p = 2) → U.2.1 t i p = S.2.1 t i p) ∧ ∀ t i p, t ≠ 29 → t ≠ 33 → U.1 t i p = S.1 t i p
theorem GF.w {S U : hs_S} (h : GF S U) {t i p : Nat} {x : Int32} (q : t = 29 ∨ t = 33) : GF S (hs_wI U t i p x) := by
  refine ⟨h.1, h.2.1, fun a b c h1 h2 => ?_⟩
  rw [← h.2.2 a b c h1 h2]
  exact if_neg fun z => by rcases q with q | q <;> omega
theorem GF.wR {S U : hs_S} (h : GF S U) {t i p x : Nat} (q : t = 28 ∨ (t = 4 ∧ p = 2)) : GF S (hs_wR U t i p x) := by
  refine ⟨h.1, fun a b c h1 h2 => ?_, h.2.2⟩
  rw [← h.2.1 a b c h1 h2]
  refine if_neg fun z => ?_
  rcases q with q | q
  · omega
  · exact h2 ⟨by omega, by omega⟩
theorem GF.forget {S U : hs_S} (h : GF S U) : GF S (E_Fnd_forgetFacts U) := by
  refine ⟨h.1, h.2.1, fun a b c h1 h2 => ?_⟩
  rw [← h.2.2 a b c h1 h2]
  exact if_neg fun z => h2 z.1
theorem GF.add {S U : hs_S} (h : GF S U) {r : Nat} : GF S (E_Fnd_addBid r U) := by
  unfold E_Fnd_addBid
  by_cases q : U.1 0 r 3 = 0
  · rw [if_pos q]; exact ((h.w (Or.inr rfl)).w (Or.inr rfl)).w (Or.inr rfl)
  · rw [if_neg q]; exact ((h.w (Or.inr rfl)).w (Or.inr rfl)).w (Or.inr rfl)
theorem w33 {S : hs_S} {i c a b : Nat} {x : Int32} : (hs_wI S 33 i c x).1 33 a b = if a = i ∧ b = c then x else S.1 33 a b := by
  show (if 33 = 33 ∧ a = i ∧ b = c then x else S.1 33 a b) = _
  by_cases w : a = i ∧ b = c
  · rw [if_pos ⟨rfl, w⟩, if_pos w]
  · rw [if_neg fun z => w z.2, if_neg w]
theorem w28 {S : hs_S} {n k x : Nat} : (hs_wR S 28 1 n x).2.1 28 1 k = if k = n then x else S.2.1 28 1 k := by
  show (if 28 = 28 ∧ 1 = 1 ∧ k = n then x else S.2.1 28 1 k) = _
  by_cases w : k = n
  · rw [if_pos ⟨rfl, rfl, w⟩, if_pos w]
  · rw [if_neg fun z => w z.2.2, if_neg w]
def P_Fnd_goTo (a1 : Int32) (r2 : Nat) (S : hs_S) : Prop := (∃ g : Nat, g ≤ 60 ∧ hs_sz S 12 = g ∧ ∀ k, k < g → ed S k ≠ 0 ∧ (∃ c : Nat, c < 24 ∧ S.1 3 (ed S k) 1 = nI c) ∧ S.2.1 3 (ed S k) 5 ≠ 0) ∧ (∃ g : Nat, g ≤ 80 ∧ hs_sz S 13 = g ∧ ∀ k, k < g → bd S k ≠ 0 ∧ br S k ≠ 0 ∧ ∃ c : Nat, c < 4 ∧ S.1 8 (br S k) 0 = nI c) ∧ cRd S
def fctAt (S U : hs_S) (e : Int32) (nb nr : Nat) (c : Nat) : Prop := (U.1 33 3 c, (U.1 33 4 c, (U.1 33 5 c, (U.1 33 6 c, U.1 33 7 c)))) = cBA S (nI c) e nb ∧ U.1 33 8 c = cLs S (nI c) e nr
def R_Fnd_goTo (a1 : Int32) (r2 : Nat) (S T : hs_S) : Prop := GF S T ∧ T.2.1 4 1 2 = r2 ∧ (∀ c, c < 24 → T.1 29 1 c = 0 ∧ T.2.1 28 1 c = cForm S a1 (nI c) (hs_sz S 12)) ∧ ∀ c, c < 4 → fctAt S T a1 (hs_sz S 13) (hs_sz S 14) c
/-- rows of facts that differ in one column alone -/
theorem fct_eq {S U T : hs_S} {e : Int32} {nb nr nb' nr' c : Nat} (h : fctAt S U e nb nr c) (h1 : ∀ a, T.1 33 a c = U.1 33 a c) (h2 : cBA S (nI c) e nb' = cBA S (nI c) e nb) (h3 : cLs S (nI c) e nr' = cLs S (nI c) e nr) : fctAt S T e nb' nr' c := by
  unfold fctAt
  rw [h1, h1, h1, h1, h1, h1, h2, h3]
  exact h
def m_Fnd_goTo (a1 : Int32) (r2 : Nat) (S : hs_S) (Q : hs_S → Prop) : Prop := hs_M 5 yX4_goTo (.code yX4_goTo cX4_goTo 5 none) [.inr (.inr (4, 1)), .inl a1, .inr (.inr (7, r2))] S 0 0 (hs_qV Q) hs_nX
def vc_Fnd_goTo (a1 : Int32) (r2 : Nat) (S : hs_S) (Q : hs_S → Prop) : Prop := (∀ S1 : hs_S, S1 = (hs_wR S 4 1 2 r2) → (∃ I3 : Nat → Int32 → hs_S → Prop, (∃ n8, I3 n8 (0 : Int32) S1) ∧ (∀ N4 : Nat, ∀ x2 : Int32, ∀ S5 : hs_S, I3 N4 x2 S5 → (((24 : Int32) ≤ x2 → (∃ I14 : Nat → Int32 → hs_S → Prop, (∃ n19, I14 n19 (0 : Int32) S5) ∧ (∀ N15 : Nat, ∀ x13 : Int32, ∀ S16 : hs_S, I14 N15 x13 S16 → (((nI (hs_sz S16 12)) ≤ x13 → (∀ S24 : hs_S, S24 = (E_Fnd_forgetFacts S16) → (∃ I26 : Nat → Int32 → hs_S → Prop, (∃ n31, I26 n31 (0 : Int32) S24) ∧ (∀ N27 : Nat, ∀ x25 : Int32, ∀ S28 : hs_S, I26 N27 x25 S28 → (((nI (hs_sz S28 13)) ≤ x25 → (∃ I37 : Nat → Int32 → hs_S → Prop, (∃ n42, I37 n42 (0 : Int32) S28) ∧ (∀ N38 : Nat, ∀ x36 : Int32, ∀ S39 : hs_S, I37 N38 x36 S39 → (((nI (hs_sz S39 14)) ≤ x36 → (Q S39)) ∧ (¬ (nI (hs_sz S39 14)) ≤ x36 → ((0 ≤ x36.toInt ∧ x36.toInt < (hs_sz S39 14)) ∧ (((S39.2.1 14 1 x36.toNatClampNeg) ≠ 0) ∧ ((a1 ≤ (S39.1 8 (S39.2.1 14 1 x36.toNatClampNeg) 2) → (∃ q50, q50 < N38 ∧ I37 q50 (x36 + 1) S39)) ∧ (¬ a1 ≤ (S39.1 8 (S39.2.1 14 1 x36.toNatClampNeg) 2) → (((S39.1 8 (S39.2.1 14 1 x36.toNatClampNeg) 5) = (-1 : Int32) → (∃ q53, q53 < N38 ∧ I37 q53 (x36 + 1) S39)) ∧ (¬ (S39.1 8 (S39.2.1 14 1 x36.toNatClampNeg) 5) = (-1 : Int32) → ((0 ≤ (S39.1 8 (S39.2.1 14 1 x36.toNatClampNeg) 0).toInt ∧ (S39.1 8 (S39.2.1 14 1 x36.toNatClampNeg) 0).toInt < 4) ∧ (∀ S56 : hs_S, S56 = (hs_wI S39 33 ((7 : Int32).toNatClampNeg + 1) (S39.1 8 (S39.2.1 14 1 x36.toNatClampNeg) 0).toNatClampNeg (S39.1 8 (S39.2.1 14 1 x36.toNatClampNeg) 5)) → (∃ q57, q57 < N38 ∧ I37 q57 (x36 + 1) S56)))))))))))))) ∧ (¬ (nI (hs_sz S28 13)) ≤ x25 → ((0 ≤ x25.toInt ∧ x25.toInt < (hs_sz S28 13)) ∧ (((S28.2.1 13 1 x25.toNatClampNeg) ≠ 0) ∧ ((P_Bid_standsAt (S28.2.1 13 1 x25.toNatClampNeg) a1 S28) ∧ (((F_Bid_standsAt (S28.2.1 13 1 x25.toNatClampNeg) a1 S28) = 0 → (∃ q63, q63 < N27 ∧ I26 q63 (x25 + 1) S28)) ∧ (¬ (F_Bid_standsAt (S28.2.1 13 1 x25.toNatClampNeg) a1 S28) = 0 → ((P_Fnd_addBid (S28.2.1 13 1 x25.toNatClampNeg) S28) ∧ (∀ S66 : hs_S, S66 = (E_Fnd_addBid (S28.2.1 13 1 x25.toNatClampNeg) S28) → (∃ q67, q67 < N27 ∧ I26 q67 (x25 + 1) S66)))))))))))))) ∧ (¬ (nI (hs_sz S16 12)) ≤ x13 → ((0 ≤ x13.toInt ∧ x13.toInt < (hs_sz S16 12)) ∧ (((S16.2.1 12 1 x13.toNatClampNeg) ≠ 0) ∧ (((F_Edit_countsAt (S16.2.1 12 1 x13.toNatClampNeg) a1 S16) = 0 → (∃ q72, q72 < N15 ∧ I14 q72 (x13 + 1) S16)) ∧ (¬ (F_Edit_countsAt (S16.2.1 12 1 x13.toNatClampNeg) a1 S16) = 0 → ((0 ≤ (S16.1 3 (S16.2.1 12 1 x13.toNatClampNeg) 1).toInt ∧ (S16.1 3 (S16.2.1 12 1 x13.toNatClampNeg) 1).toInt < 24) ∧ (((S16.2.1 3 (S16.2.1 12 1 x13.toNatClampNeg) 5) ≠ 0) ∧ (∀ S76 : hs_S, S76 = (hs_wR S16 28 1 (S16.1 3 (S16.2.1 12 1 x13.toNatClampNeg) 1).toNatClampNeg (S16.2.1 3 (S16.2.1 12 1 x13.toNatClampNeg) 5)) → (∃ q77, q77 < N15 ∧ I14 q77 (x13 + 1) S76))))))))))))) ∧ (¬ (24 : Int32) ≤ x2 → ((0 ≤ x2.toInt ∧ x2.toInt < 24) ∧ (∀ S80 : hs_S, S80 = (hs_wI S5 29 1 x2.toNatClampNeg (0 : Int32)) → (∀ S81 : hs_S, S81 = (hs_wR S80 28 1 x2.toNatClampNeg 1) → (∃ q82, q82 < N4 ∧ I3 q82 (x2 + 1) S81)))))))))
set_option maxRecDepth 100000 in
set_option maxHeartbeats 4000000 in
theorem ok_Fnd_goTo {a1 : Int32} {r2 : Nat} {S : hs_S} {Q : hs_S → Prop} (hr2 : r2 ≠ 0) (hw : hs_Wi S) (hv : vc_Fnd_goTo a1 r2 S Q) : m_Fnd_goTo a1 r2 S Q := by
  unfold vc_Fnd_goTo at hv
  refine hs_body (own := RX4) rfl rfl (Nat.le_of_ble_eq_true rfl) (fun Z X E N J0 => ?_)
  show wa Z 0 0 S 0 [(0, .inr (.inr (4, 1))), (1, .inl a1), (2, .inr (.inr (7, r2)))] []
  refine wa_aload_n X 0 rfl dX4_goTo_0 rfl ?_
  refine wa_aload_n X 2 rfl dX4_goTo_1 rfl ?_
  refine wa_putR X (j := 2) hk_4 hc_4 i_4 tyX4 tyX4_ok nmX4 (by decide) kw_257 rfl rfl dX4_goTo_2 hs_1ne ⟨rfl, Or.inl ⟨_, rfl⟩⟩ (hs_eqS fun S1 hS1 => ?_)
  replace hv := hv S1 hS1
  replace hw : hs_Wi S1 := hS1 ▸ hs_Wi_R rfl (by decide) hw
  refine wa_iconst X dX4_goTo_5 kc0 ?_
  refine wa_istore_n X (lv' := [(3, .inl (0 : Int32)), (0, .inr (.inr (4, 1))), (1, .inl a1), (2, .inr (.inr (7, r2)))]) dX4_goTo_6 rfl (by decide) rfl ?_
  obtain ⟨I3, ⟨n8, i6⟩, b7⟩ := hv
  refine wa_lv (lv' := [(0, .inr (.inr (4, 1))), (1, .inl a1), (3, .inl (0 : Int32))]) [1, 2, 0] rfl ?_
  suffices L9 : ∀ N4 : Nat, ∀ x2 : Int32, ∀ S5 : hs_S, hs_Wi S5 → I3 N4 x2 S5 → wa Z 0 0 S5 7 [(0, .inr (.inr (4, 1))), (1, .inl a1), (3, .inl x2)] [] from L9 _ _ _ hw i6
  clear hw
  clear i6
  intro N4
  induction N4 using Nat.strongRecOn with
  | _ N4 h10 =>
    intro x2 S5 hw j11
    have hv := b7 N4 x2 S5 j11
    refine wa_iload_n X 2 rfl dX4_goTo_7 rfl ?_
    refine wa_bipush X dX4_goTo_8 kb24 ?_
    refine wa_icmp_ge X (tgt := 39) dX4_goTo_10 (by decide) (fun c12 => ?_) (fun c12 => ?_)
    · replace hv := hv.1 c12
      refine wa_iconst X dX4_goTo_39 kc0 ?_
      refine wa_istore_n X (lv' := [(3, .inl (0 : Int32)), (0, .inr (.inr (4, 1))), (1, .inl a1)]) dX4_goTo_40 rfl (by decide) rfl ?_
      obtain ⟨I14, ⟨n19, i17⟩, b18⟩ := hv
      refine wa_lv (lv' := [(0, .inr (.inr (4, 1))), (1, .inl a1), (3, .inl (0 : Int32))]) [1, 2, 0] rfl ?_
      suffices L20 : ∀ N15 : Nat, ∀ x13 : Int32, ∀ S16 : hs_S, hs_Wi S16 → I14 N15 x13 S16 → wa Z 0 0 S16 41 [(0, .inr (.inr (4, 1))), (1, .inl a1), (3, .inl x13)] [] from L20 _ _ _ hw i17
      clear hw
      clear i17
      intro N15
      induction N15 using Nat.strongRecOn with
      | _ N15 h21 =>
        intro x13 S16 hw j22
        have hv := b18 N15 x13 S16 j22
        refine wa_iload_n X 2 rfl dX4_goTo_41 rfl ?_
        refine wa_aload_n X 0 rfl dX4_goTo_42 rfl ?_
        refine wa_getfw X hw (j := 0) (r := 1) hk_4 hc_4 i_4 (by decide) kw_255 rfl rfl (by decide) rfl dX4_goTo_43 hs_1ne ?_
        refine wa_getfw X hw (j := 1) (r := 1) hk_9 hc_9 i_9 (by decide) kw_136 rfl rfl (by decide) rfl dX4_goTo_46 hs_1ne ?_
        refine wa_lsize X hk_12 kw_739 dX4_goTo_49 hs_1ne ⟨⟨Nat.le_of_ble_eq_true rfl, Nat.le_of_ble_eq_true rfl⟩, Nat.le_of_ble_eq_true rfl, Nat.le_of_ble_eq_true rfl⟩ (Nat.le_of_ble_eq_true rfl) ?_
        refine wa_icmp_ge X (tgt := 105) dX4_goTo_54 (by decide) (fun c23 => ?_) (fun c23 => ?_)
        · replace hv := hv.1 c23
          refine wa_aload_n X 0 rfl dX4_goTo_105 rfl ?_
          refine wa_callV X (As := []) (f_Fnd_forgetFacts hw) hk_4 hc_4 rfl kw_750 kw_30 kw_747 kw_749 kw_7 nd_X4_forgetFacts rfl rfl (Nat.le_of_ble_eq_true rfl) dX4_goTo_106 hs_1ne ⟨⟨Nat.le_of_ble_eq_true rfl, Nat.le_of_ble_eq_true rfl⟩, Nat.le_of_ble_eq_true rfl, Nat.le_of_ble_eq_true rfl⟩ (hs_pdk fun S24 hS24 hw => ?_) (fun _ _ h => h.elim)
          replace hv := hv S24 hS24
          refine wa_iconst X dX4_goTo_109 kc0 ?_
          refine wa_istore_n X (lv' := [(3, .inl (0 : Int32)), (0, .inr (.inr (4, 1))), (1, .inl a1)]) dX4_goTo_110 rfl (by decide) rfl ?_
          obtain ⟨I26, ⟨n31, i29⟩, b30⟩ := hv
          refine wa_lv (lv' := [(0, .inr (.inr (4, 1))), (1, .inl a1), (3, .inl (0 : Int32))]) [1, 2, 0] rfl ?_
          suffices L32 : ∀ N27 : Nat, ∀ x25 : Int32, ∀ S28 : hs_S, hs_Wi S28 → I26 N27 x25 S28 → wa Z 0 0 S28 111 [(0, .inr (.inr (4, 1))), (1, .inl a1), (3, .inl x25)] [] from L32 _ _ _ hw i29
          clear hw
          clear i29
          intro N27
          induction N27 using Nat.strongRecOn with
          | _ N27 h33 =>
            intro x25 S28 hw j34
            have hv := b30 N27 x25 S28 j34
            refine wa_iload_n X 2 rfl dX4_goTo_111 rfl ?_
            refine wa_aload_n X 0 rfl dX4_goTo_112 rfl ?_
            refine wa_getfw X hw (j := 1) (r := 1) hk_4 hc_4 i_4 (by decide) kw_256 rfl rfl (by decide) rfl dX4_goTo_113 hs_1ne ?_
            refine wa_getfw X hw (j := 0) (r := 1) hk_1 hc_1 i_1 (by decide) kw_225 rfl rfl (by decide) rfl dX4_goTo_116 hs_1ne ?_
            refine wa_lsize X hk_13 kw_739 dX4_goTo_119 hs_1ne ⟨⟨Nat.le_of_ble_eq_true rfl, Nat.le_of_ble_eq_true rfl⟩, Nat.le_of_ble_eq_true rfl, Nat.le_of_ble_eq_true rfl⟩ (Nat.le_of_ble_eq_true rfl) ?_
            refine wa_icmp_ge X (tgt := 166) dX4_goTo_124 (by decide) (fun c35 => ?_) (fun c35 => ?_)
            · replace hv := hv.1 c35
              refine wa_iconst X dX4_goTo_166 kc0 ?_
              refine wa_istore_n X (lv' := [(3, .inl (0 : Int32)), (0, .inr (.inr (4, 1))), (1, .inl a1)]) dX4_goTo_167 rfl (by decide) rfl ?_
              obtain ⟨I37, ⟨n42, i40⟩, b41⟩ := hv
              refine wa_lv (lv' := [(0, .inr (.inr (4, 1))), (1, .inl a1), (3, .inl (0 : Int32))]) [1, 2, 0] rfl ?_
              suffices L43 : ∀ N38 : Nat, ∀ x36 : Int32, ∀ S39 : hs_S, hs_Wi S39 → I37 N38 x36 S39 → wa Z 0 0 S39 168 [(0, .inr (.inr (4, 1))), (1, .inl a1), (3, .inl x36)] [] from L43 _ _ _ hw i40
              clear hw
              clear i40
              intro N38
              induction N38 using Nat.strongRecOn with
              | _ N38 h44 =>
                intro x36 S39 hw j45
                have hv := b41 N38 x36 S39 j45
                refine wa_iload_n X 2 rfl dX4_goTo_168 rfl ?_
                refine wa_aload_n X 0 rfl dX4_goTo_169 rfl ?_
                refine wa_getfw X hw (j := 1) (r := 1) hk_4 hc_4 i_4 (by decide) kw_256 rfl rfl (by decide) rfl dX4_goTo_170 hs_1ne ?_
                refine wa_getfw X hw (j := 2) (r := 1) hk_1 hc_1 i_1 (by decide) kw_232 rfl rfl (by decide) rfl dX4_goTo_173 hs_1ne ?_
                refine wa_lsize X hk_14 kw_739 dX4_goTo_176 hs_1ne ⟨⟨Nat.le_of_ble_eq_true rfl, Nat.le_of_ble_eq_true rfl⟩, Nat.le_of_ble_eq_true rfl, Nat.le_of_ble_eq_true rfl⟩ (Nat.le_of_ble_eq_true rfl) ?_
                refine wa_icmp_ge X (tgt := 244) dX4_goTo_181 (by decide) (fun c46 => ?_) (fun c46 => ?_)
                · replace hv := hv.1 c46
                  exact wa_return X E dX4_goTo_244 (Nat.le_of_ble_eq_true rfl) (Nat.le_of_ble_eq_true rfl) ⟨hw, rfl, hv⟩
                · replace hv := hv.2 c46
                  refine wa_aload_n X 0 rfl dX4_goTo_184 rfl ?_
                  refine wa_getfw X hw (j := 1) (r := 1) hk_4 hc_4 i_4 (by decide) kw_256 rfl rfl (by decide) rfl dX4_goTo_185 hs_1ne ?_
                  refine wa_getfw X hw (j := 2) (r := 1) hk_1 hc_1 i_1 (by decide) kw_232 rfl rfl (by decide) rfl dX4_goTo_188 hs_1ne ?_
                  refine wa_iload_n X 2 rfl dX4_goTo_191 rfl ?_
                  obtain ⟨o47, hv⟩ := hv
                  refine wa_lget X hk_14 kw_741 dX4_goTo_192 hs_1ne ⟨⟨Nat.le_of_ble_eq_true rfl, Nat.le_of_ble_eq_true rfl⟩, Nat.le_of_ble_eq_true rfl, Nat.le_of_ble_eq_true rfl⟩ (Nat.le_of_ble_eq_true rfl) o47 ?_
                  obtain ⟨o48, hv⟩ := hv
                  refine wa_cast X hk_8 hc_8 kw_762 dX4_goTo_197 o48 ?_
                  refine wa_astore X (lv' := [(4, .inr (.inr (8, (S39.2.1 14 1 x36.toNatClampNeg)))), (0, .inr (.inr (4, 1))), (1, .inl a1), (3, .inl x36)]) dX4_goTo_200 (by decide) rfl ?_
                  refine wa_aload X 0 rfl dX4_goTo_202 ?_
                  refine wa_getI X (j := 2) hk_8 hc_8 i_8 (by decide) kw_184 rfl dX4_goTo_204 o48 ?_
                  refine wa_iload_n X 2 rfl dX4_goTo_207 rfl ?_
                  refine wa_icmp_ge X (tgt := 238) dX4_goTo_208 (by decide) (fun c49 => ?_) (fun c49 => ?_)
                  · replace hv := hv.1 c49
                    refine wa_iinc X (v := (x36 + 1)) (lv' := [(3, .inl (x36 + 1)), (4, .inr (.inr (8, (S39.2.1 14 1 x36.toNatClampNeg)))), (0, .inr (.inr (4, 1))), (1, .inl a1)]) 3 rfl dX4_goTo_238 rfl (by decide) rfl ?_
                    refine wa_goto X (tgt := 168) dX4_goTo_241 (by decide) ?_
                    obtain ⟨q50, p51, hv⟩ := hv
                    refine wa_lv (lv' := [(0, .inr (.inr (4, 1))), (1, .inl a1), (3, .inl (x36 + 1))]) [2, 3, 0] rfl ?_
                    exact h44 q50 p51 _ _ hw hv
                  · replace hv := hv.2 c49
                    refine wa_aload X 0 rfl dX4_goTo_211 ?_
                    refine wa_getI X (j := 5) hk_8 hc_8 i_8 (by decide) kw_190 rfl dX4_goTo_213 o48 ?_
                    refine wa_iconst X dX4_goTo_216 kcm1 ?_
                    refine wa_icmp_eq X (tgt := 238) dX4_goTo_217 (by decide) (fun c52 => ?_) (fun c52 => ?_)
                    · replace hv := hv.1 c52
                      refine wa_iinc X (v := (x36 + 1)) (lv' := [(3, .inl (x36 + 1)), (4, .inr (.inr (8, (S39.2.1 14 1 x36.toNatClampNeg)))), (0, .inr (.inr (4, 1))), (1, .inl a1)]) 3 rfl dX4_goTo_238 rfl (by decide) rfl ?_
                      refine wa_goto X (tgt := 168) dX4_goTo_241 (by decide) ?_
                      obtain ⟨q53, p54, hv⟩ := hv
                      refine wa_lv (lv' := [(0, .inr (.inr (4, 1))), (1, .inl a1), (3, .inl (x36 + 1))]) [2, 3, 0] rfl ?_
                      exact h44 q53 p54 _ _ hw hv
                    · replace hv := hv.2 c52
                      refine wa_aload_n X 1 rfl dX4_goTo_220 rfl ?_
                      refine wa_getfw X hw (j := 7) (r := 1) hk_4 hc_4 i_4 (by decide) kw_262 rfl rfl (by decide) rfl dX4_goTo_221 hs_1ne ?_
                      refine wa_bipush X dX4_goTo_224 kb7 ?_
                      refine wa_aaldw X hw dX4_goTo_226 (by decide) ?_
                      refine wa_aload X 0 rfl dX4_goTo_227 ?_
                      refine wa_getI X (j := 0) hk_8 hc_8 i_8 (by decide) kw_176 rfl dX4_goTo_229 o48 ?_
                      refine wa_aload X 0 rfl dX4_goTo_232 ?_
                      refine wa_getI X (j := 5) hk_8 hc_8 i_8 (by decide) kw_190 rfl dX4_goTo_234 o48 ?_
                      obtain ⟨o55, hv⟩ := hv
                      refine wa_iast X hk_33 dX4_goTo_237 (hs_sne _) o55 (hs_eqS fun S56 hS56 => ?_)
                      replace hv := hv S56 hS56
                      replace hw : hs_Wi S56 := hS56 ▸ hs_Wi_I hw
                      refine wa_iinc X (v := (x36 + 1)) (lv' := [(3, .inl (x36 + 1)), (4, .inr (.inr (8, (S39.2.1 14 1 x36.toNatClampNeg)))), (0, .inr (.inr (4, 1))), (1, .inl a1)]) 3 rfl dX4_goTo_238 rfl (by decide) rfl ?_
                      refine wa_goto X (tgt := 168) dX4_goTo_241 (by decide) ?_
                      obtain ⟨q57, p58, hv⟩ := hv
                      refine wa_lv (lv' := [(0, .inr (.inr (4, 1))), (1, .inl a1), (3, .inl (x36 + 1))]) [2, 3, 0] rfl ?_
                      exact h44 q57 p58 _ _ hw hv
            · replace hv := hv.2 c35
              refine wa_aload_n X 0 rfl dX4_goTo_127 rfl ?_
              refine wa_getfw X hw (j := 1) (r := 1) hk_4 hc_4 i_4 (by decide) kw_256 rfl rfl (by decide) rfl dX4_goTo_128 hs_1ne ?_
              refine wa_getfw X hw (j := 0) (r := 1) hk_1 hc_1 i_1 (by decide) kw_225 rfl rfl (by decide) rfl dX4_goTo_131 hs_1ne ?_
              refine wa_iload_n X 2 rfl dX4_goTo_134 rfl ?_
              obtain ⟨o59, hv⟩ := hv
              refine wa_lget X hk_13 kw_741 dX4_goTo_135 hs_1ne ⟨⟨Nat.le_of_ble_eq_true rfl, Nat.le_of_ble_eq_true rfl⟩, Nat.le_of_ble_eq_true rfl, Nat.le_of_ble_eq_true rfl⟩ (Nat.le_of_ble_eq_true rfl) o59 ?_
              obtain ⟨o60, hv⟩ := hv
              refine wa_cast X hk_0 hc_0 kw_751 dX4_goTo_140 o60 ?_
              refine wa_astore X (lv' := [(4, .inr (.inr (0, (S28.2.1 13 1 x25.toNatClampNeg)))), (0, .inr (.inr (4, 1))), (1, .inl a1), (3, .inl x25)]) dX4_goTo_143 (by decide) rfl ?_
              refine wa_aload X 0 rfl dX4_goTo_145 ?_
              refine wa_iload_n X 2 rfl dX4_goTo_147 rfl ?_
              obtain ⟨o61, hv⟩ := hv
              refine wa_callV X (As := [.inl a1]) (f_Bid_standsAt o60 hw o61) hk_0 hc_0 rfl kw_755 kw_46 kw_752 kw_753 kw_754 nd_X0_standsAt rfl rfl (Nat.le_of_ble_eq_true rfl) dX4_goTo_148 o60 ⟨⟨Nat.le_of_ble_eq_true rfl, Nat.le_of_ble_eq_true rfl⟩, Nat.le_of_ble_eq_true rfl, Nat.le_of_ble_eq_true rfl⟩ (hs_pdk0 ?_) (fun _ _ h => h.elim)
              refine wa_if_eq X (tgt := 160) dX4_goTo_151 (by decide) (fun c62 => ?_) (fun c62 => ?_)
              · replace hv := hv.1 c62
                refine wa_iinc X (v := (x25 + 1)) (lv' := [(3, .inl (x25 + 1)), (4, .inr (.inr (0, (S28.2.1 13 1 x25.toNatClampNeg)))), (0, .inr (.inr (4, 1))), (1, .inl a1)]) 3 rfl dX4_goTo_160 rfl (by decide) rfl ?_
                refine wa_goto X (tgt := 111) dX4_goTo_163 (by decide) ?_
                obtain ⟨q63, p64, hv⟩ := hv
                refine wa_lv (lv' := [(0, .inr (.inr (4, 1))), (1, .inl a1), (3, .inl (x25 + 1))]) [2, 3, 0] rfl ?_
                exact h33 q63 p64 _ _ hw hv
              · replace hv := hv.2 c62
                refine wa_aload_n X 1 rfl dX4_goTo_154 rfl ?_
                refine wa_aload X 0 rfl dX4_goTo_155 ?_
                obtain ⟨o65, hv⟩ := hv
                refine wa_callV X (As := [.inr (.inr (0, (S28.2.1 13 1 x25.toNatClampNeg)))]) (f_Fnd_addBid o60 hw o65) hk_4 hc_4 rfl kw_759 kw_30 kw_756 kw_758 kw_8 nd_X4_addBid rfl rfl (Nat.le_of_ble_eq_true rfl) dX4_goTo_157 hs_1ne ⟨⟨Nat.le_of_ble_eq_true rfl, Nat.le_of_ble_eq_true rfl⟩, Nat.le_of_ble_eq_true rfl, Nat.le_of_ble_eq_true rfl⟩ (hs_pdk fun S66 hS66 hw => ?_) (fun _ _ h => h.elim)
                replace hv := hv S66 hS66
                refine wa_iinc X (v := (x25 + 1)) (lv' := [(3, .inl (x25 + 1)), (4, .inr (.inr (0, (S28.2.1 13 1 x25.toNatClampNeg)))), (0, .inr (.inr (4, 1))), (1, .inl a1)]) 3 rfl dX4_goTo_160 rfl (by decide) rfl ?_
                refine wa_goto X (tgt := 111) dX4_goTo_163 (by decide) ?_
                obtain ⟨q67, p68, hv⟩ := hv
                refine wa_lv (lv' := [(0, .inr (.inr (4, 1))), (1, .inl a1), (3, .inl (x25 + 1))]) [2, 3, 0] rfl ?_
                exact h33 q67 p68 _ _ hw hv
        · replace hv := hv.2 c23
          refine wa_aload_n X 0 rfl dX4_goTo_57 rfl ?_
          refine wa_getfw X hw (j := 0) (r := 1) hk_4 hc_4 i_4 (by decide) kw_255 rfl rfl (by decide) rfl dX4_goTo_58 hs_1ne ?_
          refine wa_getfw X hw (j := 1) (r := 1) hk_9 hc_9 i_9 (by decide) kw_136 rfl rfl (by decide) rfl dX4_goTo_61 hs_1ne ?_
          refine wa_iload_n X 2 rfl dX4_goTo_64 rfl ?_
          obtain ⟨o69, hv⟩ := hv
          refine wa_lget X hk_12 kw_741 dX4_goTo_65 hs_1ne ⟨⟨Nat.le_of_ble_eq_true rfl, Nat.le_of_ble_eq_true rfl⟩, Nat.le_of_ble_eq_true rfl, Nat.le_of_ble_eq_true rfl⟩ (Nat.le_of_ble_eq_true rfl) o69 ?_
          obtain ⟨o70, hv⟩ := hv
          refine wa_cast X hk_3 hc_3 kw_742 dX4_goTo_70 o70 ?_
          refine wa_astore X (lv' := [(4, .inr (.inr (3, (S16.2.1 12 1 x13.toNatClampNeg)))), (0, .inr (.inr (4, 1))), (1, .inl a1), (3, .inl x13)]) dX4_goTo_73 (by decide) rfl ?_
          refine wa_aload X 0 rfl dX4_goTo_75 ?_
          refine wa_iload_n X 2 rfl dX4_goTo_77 rfl ?_
          refine wa_callV X (As := [.inl a1]) (f_Edit_countsAt o70 hw) hk_3 hc_3 rfl kw_746 kw_42 kw_743 kw_744 kw_745 nd_X3_countsAt rfl rfl (Nat.le_of_ble_eq_true rfl) dX4_goTo_78 o70 ⟨⟨Nat.le_of_ble_eq_true rfl, Nat.le_of_ble_eq_true rfl⟩, Nat.le_of_ble_eq_true rfl, Nat.le_of_ble_eq_true rfl⟩ (hs_pdk0 ?_) (fun _ _ h => h.elim)
          refine wa_if_eq X (tgt := 99) dX4_goTo_81 (by decide) (fun c71 => ?_) (fun c71 => ?_)
          · replace hv := hv.1 c71
            refine wa_iinc X (v := (x13 + 1)) (lv' := [(3, .inl (x13 + 1)), (4, .inr (.inr (3, (S16.2.1 12 1 x13.toNatClampNeg)))), (0, .inr (.inr (4, 1))), (1, .inl a1)]) 3 rfl dX4_goTo_99 rfl (by decide) rfl ?_
            refine wa_goto X (tgt := 41) dX4_goTo_102 (by decide) ?_
            obtain ⟨q72, p73, hv⟩ := hv
            refine wa_lv (lv' := [(0, .inr (.inr (4, 1))), (1, .inl a1), (3, .inl (x13 + 1))]) [2, 3, 0] rfl ?_
            exact h21 q72 p73 _ _ hw hv
          · replace hv := hv.2 c71
            refine wa_aload_n X 1 rfl dX4_goTo_84 rfl ?_
            refine wa_getfw X hw (j := 3) (r := 1) hk_4 hc_4 i_4 (by decide) kw_258 rfl rfl (by decide) rfl dX4_goTo_85 hs_1ne ?_
            refine wa_aload X 0 rfl dX4_goTo_88 ?_
            refine wa_getI X (j := 1) hk_3 hc_3 i_3 (by decide) kw_617 rfl dX4_goTo_90 o70 ?_
            refine wa_aload X 0 rfl dX4_goTo_93 ?_
            refine wa_getR X (j := 5) hk_3 hc_3 i_3 (by decide) kw_626 rfl dX4_goTo_95 o70 ?_
            obtain ⟨o74, hv⟩ := hv
            obtain ⟨o75, hv⟩ := hv
            refine wa_aast X hk_28 hk_5 hc_5 (fun _ => rfl) dX4_goTo_98 hs_1ne o74 o75 (hs_eqS fun S76 hS76 => ?_)
            replace hv := hv S76 hS76
            replace hw : hs_Wi S76 := hS76 ▸ hs_Wi_R rfl (by decide) hw
            refine wa_iinc X (v := (x13 + 1)) (lv' := [(3, .inl (x13 + 1)), (4, .inr (.inr (3, (S16.2.1 12 1 x13.toNatClampNeg)))), (0, .inr (.inr (4, 1))), (1, .inl a1)]) 3 rfl dX4_goTo_99 rfl (by decide) rfl ?_
            refine wa_goto X (tgt := 41) dX4_goTo_102 (by decide) ?_
            obtain ⟨q77, p78, hv⟩ := hv
            refine wa_lv (lv' := [(0, .inr (.inr (4, 1))), (1, .inl a1), (3, .inl (x13 + 1))]) [2, 3, 0] rfl ?_
            exact h21 q77 p78 _ _ hw hv
    · replace hv := hv.2 c12
      refine wa_aload_n X 0 rfl dX4_goTo_13 rfl ?_
      refine wa_getfw X hw (j := 4) (r := 1) hk_4 hc_4 i_4 (by decide) kw_259 rfl rfl (by decide) rfl dX4_goTo_14 hs_1ne ?_
      refine wa_iload_n X 2 rfl dX4_goTo_17 rfl ?_
      refine wa_iconst X dX4_goTo_18 kc0 ?_
      obtain ⟨o79, hv⟩ := hv
      refine wa_iast X hk_29 dX4_goTo_19 hs_1ne o79 (hs_eqS fun S80 hS80 => ?_)
      replace hv := hv S80 hS80
      replace hw : hs_Wi S80 := hS80 ▸ hs_Wi_I hw
      refine wa_aload_n X 0 rfl dX4_goTo_20 rfl ?_
      refine wa_getfw X hw (j := 3) (r := 1) hk_4 hc_4 i_4 (by decide) kw_258 rfl rfl (by decide) rfl dX4_goTo_21 hs_1ne ?_
      refine wa_iload_n X 2 rfl dX4_goTo_24 rfl ?_
      refine wa_aload_n X 0 rfl dX4_goTo_25 rfl ?_
      refine wa_getfw X hw (j := 0) (r := 1) hk_4 hc_4 i_4 (by decide) kw_255 rfl rfl (by decide) rfl dX4_goTo_26 hs_1ne ?_
      refine wa_getfw X hw (j := 3) (r := 1) hk_9 hc_9 i_9 (by decide) kw_141 rfl rfl (by decide) rfl dX4_goTo_29 hs_1ne ?_
      refine wa_aast X hk_28 hk_5 hc_5 (fun _ => rfl) dX4_goTo_32 hs_1ne o79 hs_1ne (hs_eqS fun S81 hS81 => ?_)
      replace hv := hv S81 hS81
      replace hw : hs_Wi S81 := hS81 ▸ hs_Wi_R rfl (by decide) hw
      refine wa_iinc X (v := (x2 + 1)) (lv' := [(3, .inl (x2 + 1)), (0, .inr (.inr (4, 1))), (1, .inl a1)]) 2 rfl dX4_goTo_33 rfl (by decide) rfl ?_
      refine wa_goto X (tgt := 7) dX4_goTo_36 (by decide) ?_
      obtain ⟨q82, p83, hv⟩ := hv
      refine wa_lv (lv' := [(0, .inr (.inr (4, 1))), (1, .inl a1), (3, .inl (x2 + 1))]) [1, 2, 0] rfl ?_
      exact h10 q82 p83 _ _ hw hv
theorem v_Fnd_goTo {a1 : Int32} {r2 : Nat} {S : hs_S} (hP : P_Fnd_goTo a1 r2 S) : vc_Fnd_goTo a1 r2 S (fun T => R_Fnd_goTo a1 r2 S T) := by
  obtain ⟨⟨nE, hE, eE, hed⟩, ⟨nB, hB, eB, hbd⟩, ⟨nR, hR, eR, hrd⟩⟩ := hP
  have nIi : ∀ {a b : Nat}, a < 60 → b < 60 → nI a = nI b → a = b := fun ha hb h => (hl_inj (by omega) (by omega)).mp h
  unfold vc_Fnd_goTo
  rintro S1 h1
  have g1 : GF S S1 := h1 ▸ (GF.wR ⟨rfl, fun _ _ _ _ _ => rfl, fun _ _ _ _ _ => rfl⟩ (Or.inr ⟨rfl, rfl⟩))
  have ρ1 : S1.2.1 4 1 2 = r2 := by rw [h1]; rfl
  refine ⟨fun N x U => ∃ k, k ≤ 24 ∧ x = nI k ∧ N = 24 - k ∧ GF S U ∧ U.2.1 4 1 2 = r2 ∧ ∀ c, c < k → U.1 29 1 c = 0 ∧ U.2.1 28 1 c = 1, ⟨24, 0, by omega, rfl, rfl, g1, ρ1, fun c hc => absurd hc (by omega)⟩, ?_⟩
  rintro N x U ⟨k, hk, rfl, rfl, gU, ρU, hU⟩
  refine ⟨fun h => ?_, fun h => ?_⟩
  · have hk24 : k = 24 := hl_end (g := 24) (by omega) hk h
    subst hk24
    refine ⟨fun N x U => ∃ k, k ≤ nE ∧ x = nI k ∧ N = nE - k ∧ GF S U ∧ U.2.1 4 1 2 = r2 ∧ ∀ c, c < 24 → U.1 29 1 c = 0 ∧ U.2.1 28 1 c = cForm S a1 (nI c) k, ⟨nE, 0, by omega, rfl, rfl, gU, ρU, hU⟩, ?_⟩
    clear hU ρU gU
    rintro N x U ⟨k, hk, rfl, rfl, gU, ρU, hU⟩
    have z12 : hs_sz U 12 = nE := (gU.2.1 12 2 0 (by decide) (by omega)).trans eE
    rw [z12]
    refine ⟨fun h => ?_, fun h => ?_⟩
    · have hkE : k = nE := hl_end (by omega) hk h
      subst hkE
      rintro V hV
      have gV : GF S V := hV ▸ gU.forget
      have ρV : V.2.1 4 1 2 = r2 := hV ▸ ρU
      have cV : ∀ c, c < 24 → V.1 29 1 c = 0 ∧ V.2.1 28 1 c = cForm S a1 (nI c) k := fun c hc => by
        rw [hV]
        exact hU c hc
      have fV : ∀ c, c < 4 → fctAt S V a1 0 0 c := fun c hc => by
        have e : ∀ i, 3 ≤ i → i ≤ 8 → V.1 33 i c = 0 := fun i h1 h2 => by rw [hV]; exact if_pos ⟨rfl, h1, h2, hc⟩
        unfold fctAt
        rw [e 3 (by omega) (by omega), e 4 (by omega) (by omega), e 5 (by omega) (by omega), e 6 (by omega) (by omega), e 7 (by omega) (by omega), e 8 (by omega) (by omega)]
        exact ⟨rfl, rfl⟩
      clear hV
      refine ⟨fun N x U => ∃ j, j ≤ nB ∧ x = nI j ∧ N = nB - j ∧ GF S U ∧ U.2.1 4 1 2 = r2 ∧ (∀ c, c < 24 → U.1 29 1 c = 0 ∧ U.2.1 28 1 c = cForm S a1 (nI c) k) ∧ ∀ c, c < 4 → fctAt S U a1 j 0 c, ⟨nB, 0, by omega, rfl, rfl, gV, ρV, cV, fV⟩, ?_⟩
      clear fV cV ρV gV
      rintro N x W ⟨j, hj, rfl, rfl, gW, ρW, cW, fW⟩
      have z13 : hs_sz W 13 = nB := (gW.2.1 13 2 0 (by decide) (by omega)).trans eB
      rw [z13]
      refine ⟨fun h => ?_, fun h => ?_⟩
      · have hjB : j = nB := hl_end (by omega) hj h
        subst hjB
        refine ⟨fun N x U => ∃ m, m ≤ nR ∧ x = nI m ∧ N = nR - m ∧ GF S U ∧ U.2.1 4 1 2 = r2 ∧ (∀ c, c < 24 → U.1 29 1 c = 0 ∧ U.2.1 28 1 c = cForm S a1 (nI c) k) ∧ ∀ c, c < 4 → fctAt S U a1 j m c, ⟨nR, 0, by omega, rfl, rfl, gW, ρW, cW, fW⟩, ?_⟩
        clear fW cW ρW gW
        rintro N x X ⟨m, hm, rfl, rfl, gX, ρX, cX, fX⟩
        have z14 : hs_sz X 14 = nR := (gX.2.1 14 2 0 (by decide) (by omega)).trans eR
        rw [z14]
        refine ⟨fun h => ?_, fun h => ?_⟩
        · have hmR : m = nR := hl_end (by omega) hm h
          subst hmR
          refine ⟨gX, ρX, ?_, ?_⟩
          · rw [eE]; exact cX
          · rw [eB, eR]; exact fX
        · have hm1 := hl_go (by omega) hm h
          rw [hl_cl (by omega)]
          obtain ⟨r0, c0, hc0, ec0⟩ := hrd m hm1
          have erd : X.2.1 14 1 m = rd S m := gX.2.1 14 1 m (by decide) (by omega)
          have e8 : ∀ p, X.1 8 (rd S m) p = S.1 8 (rd S m) p := fun p => gX.2.2 8 (rd S m) p (by decide) (by decide)
          rw [erd, e8, e8, e8, ec0, hl_cl (by omega)]
          have stay : ∀ T : hs_S, T = X → (∀ c, cLs S (nI c) a1 (m + 1) = cLs S (nI c) a1 m) → ∃ q, q < nR - m ∧ ∃ m', m' ≤ nR ∧ nI m + 1 = nI m' ∧ q = nR - m' ∧ GF S X ∧ X.2.1 4 1 2 = r2 ∧ (∀ c, c < 24 → X.1 29 1 c = 0 ∧ X.2.1 28 1 c = cForm S a1 (nI c) k) ∧ ∀ c, c < 4 → fctAt S X a1 j m' c := fun T _ hs => ⟨nR - (m + 1), by omega, m + 1, hm1, nI_1 m, rfl, gX, ρX, cX, fun c hc => fct_eq (fX c hc) (fun _ => rfl) rfl (hs c)⟩
          refine ⟨hl_ix (by omega) (by omega), r0, fun h1 => stay X rfl fun c => if_neg fun z => z.2.1 h1, fun h1 => ⟨fun h2 => stay X rfl fun c => if_neg fun z => z.2.2 h2, fun h2 => ⟨hl_ix (by omega) (by omega), ?_⟩⟩⟩
          rintro _ rfl
          refine ⟨nR - (m + 1), by omega, m + 1, hm1, nI_1 m, rfl, gX.w (Or.inr rfl), ρX, cX, fun c hc => ?_⟩
          by_cases q : c = c0
          · subst q
            have e33 : ∀ a, (hs_wI X 33 ((7 : Int32).toNatClampNeg + 1) c (S.1 8 (rd S m) 5)).1 33 a c = if a = 8 then S.1 8 (rd S m) 5 else X.1 33 a c := fun a => by
              refine (w33 (i := 8)).trans ?_
              by_cases y : a = 8
              · rw [if_pos ⟨y, rfl⟩, if_pos y]
              · rw [if_neg fun z => y z.1, if_neg y]
            unfold fctAt
            rw [e33, e33, e33, e33, e33, e33, if_neg (by decide), if_neg (by decide), if_neg (by decide), if_neg (by decide), if_neg (by decide), if_pos rfl]
            refine ⟨(fX c hc).1, ?_⟩
            exact (if_pos ⟨ec0, h1, h2⟩).symm
          · refine fct_eq (fX c hc) (fun a => ?_) rfl (if_neg fun z => q ?_)
            · exact (w33 (i := 8)).trans (if_neg fun z => q z.2)
            · exact nIi (by omega) (by omega) (z.1.symm.trans ec0)
      · have hj1 := hl_go (by omega) hj h
        rw [hl_cl (by omega)]
        obtain ⟨b0, r0, c0, hc0, ec0⟩ := hbd j hj1
        have ebd : W.2.1 13 1 j = bd S j := gW.2.1 13 1 j (by decide) (by omega)
        have ebr : W.2.1 0 (bd S j) 2 = br S j := gW.2.1 0 (bd S j) 2 (by decide) (by omega)
        have e0 : ∀ p, W.1 0 (bd S j) p = S.1 0 (bd S j) p := fun p => gW.2.2 0 (bd S j) p (by decide) (by decide)
        have e8 : ∀ p, W.1 8 (br S j) p = S.1 8 (br S j) p := fun p => gW.2.2 8 (br S j) p (by decide) (by decide)
        have est : F_Bid_standsAt (bd S j) a1 W = F_Bid_standsAt (bd S j) a1 S := by
          unfold F_Bid_standsAt
          simp only [ebr, e0, e8]
        rw [ebd, est]
        refine ⟨hl_ix (by omega) (by omega), b0, by unfold P_Bid_standsAt; rw [ebr]; exact r0, fun h1 => ?_, fun h1 => ⟨⟨by rw [ebr]; exact r0, by rw [ebr, e8, ec0]; exact hl_ix (by omega) (by omega)⟩, ?_⟩⟩
        · exact ⟨nB - (j + 1), by omega, j + 1, hj1, nI_1 j, rfl, gW, ρW, cW, fun c hc => fct_eq (fW c hc) (fun _ => rfl) (if_neg fun z => z.2 h1) rfl⟩
        · rintro T hT
          have gT : GF S T := hT ▸ gW.add
          have rT : T.2 = W.2 := by
            rw [hT]; unfold E_Fnd_addBid
            by_cases q : W.1 0 (bd S j) 3 = 0
            · rw [if_pos q]; rfl
            · rw [if_neg q]; rfl
          have c29 : T.1 29 = W.1 29 := by
            rw [hT]; unfold E_Fnd_addBid
            by_cases q : W.1 0 (bd S j) 3 = 0
            · rw [if_pos q]; rfl
            · rw [if_neg q]; rfl
          have ebc : bc W (bd S j) = c0 := by
            show (W.1 8 (W.2.1 0 (bd S j) 2) 0).toNatClampNeg = c0
            rw [ebr, e8, ec0]; exact hl_cl (by omega)
          refine ⟨nB - (j + 1), by omega, j + 1, hj1, nI_1 j, rfl, gT, by rw [rT]; exact ρW, fun c hc => by rw [rT, c29]; exact cW c hc, fun c hc => ?_⟩
          unfold E_Fnd_addBid at hT
          rw [ebc, e0, e0, e0] at hT
          obtain ⟨f1, f2⟩ := fW c hc
          have p1 : (cBA S (nI c) a1 j).1 = W.1 33 3 c := by rw [← f1]
          have p2 : (cBA S (nI c) a1 j).2.1 = W.1 33 4 c := by rw [← f1]
          have p3 : (cBA S (nI c) a1 j).2.2.1 = W.1 33 5 c := by rw [← f1]
          have p4 : (cBA S (nI c) a1 j).2.2.2.1 = W.1 33 6 c := by rw [← f1]
          have p5 : (cBA S (nI c) a1 j).2.2.2.2 = W.1 33 7 c := by rw [← f1]
          by_cases q : c = c0
          · subst q
            unfold fctAt
            rw [cBA, if_pos ⟨ec0, h1⟩, p1, p2, p3, p4, p5]
            by_cases y : S.1 0 (bd S j) 3 = 0
            · rw [if_pos y] at hT ⊢
              subst hT
              simp only [w33]
              exact ⟨rfl, f2⟩
            · rw [if_neg y] at hT ⊢
              subst hT
              simp only [w33]
              exact ⟨rfl, f2⟩
          · have nq : cBA S (nI c) a1 (j + 1) = cBA S (nI c) a1 j := if_neg fun z => q (nIi (by omega) (by omega) (z.1.symm.trans ec0))
            refine fct_eq (fW c hc) (fun a => ?_) nq rfl
            by_cases y : S.1 0 (bd S j) 3 = 0
            · rw [if_pos y] at hT
              rw [hT, w33, if_neg fun z => q z.2, w33, if_neg fun z => q z.2, w33, if_neg fun z => q z.2]
            · rw [if_neg y] at hT
              rw [hT, w33, if_neg fun z => q z.2, w33, if_neg fun z => q z.2, w33, if_neg fun z => q z.2]
    · have hk1 := hl_go (by omega) hk h
      rw [hl_cl (by omega)]
      obtain ⟨b0, ⟨c0, hc0, ec0⟩, r0⟩ := hed k hk1
      have eed : U.2.1 12 1 k = ed S k := gU.2.1 12 1 k (by decide) (by omega)
      have e3 : ∀ p, U.1 3 (ed S k) p = S.1 3 (ed S k) p := fun p => gU.2.2 3 (ed S k) p (by decide) (by decide)
      have e3r : U.2.1 3 (ed S k) 5 = S.2.1 3 (ed S k) 5 := gU.2.1 3 (ed S k) 5 (by decide) (by omega)
      have est : F_Edit_countsAt (ed S k) a1 U = F_Edit_countsAt (ed S k) a1 S := by
        unfold F_Edit_countsAt
        simp only [e3]
      rw [eed, est, e3, e3r, ec0, hl_cl (by omega)]
      refine ⟨hl_ix (by omega) (by omega), b0, fun h1 => ?_, fun h1 => ⟨hl_ix (by omega) (by omega), r0, ?_⟩⟩
      · refine ⟨nE - (k + 1), by omega, k + 1, hk1, nI_1 k, rfl, gU, ρU, fun c hc => ⟨(hU c hc).1, ?_⟩⟩
        rw [(hU c hc).2]; exact (if_neg fun z => z.2 h1).symm
      · rintro _ rfl
        refine ⟨nE - (k + 1), by omega, k + 1, hk1, nI_1 k, rfl, gU.wR (Or.inl rfl), ρU, fun c hc => ⟨(hU c hc).1, ?_⟩⟩
        rw [w28]
        by_cases q : c = c0
        · subst q
          rw [if_pos rfl]; exact (if_pos ⟨ec0, h1⟩).symm
        · rw [if_neg q, (hU c hc).2]
          exact (if_neg fun z => q (nIi (by omega) (by omega) (z.1.symm.trans ec0))).symm
  · have hk1 : k < 24 := hl_go (g := 24) (by omega) hk h
    rw [hl_cl (by omega)]
    refine ⟨hl_ix (by omega) (by omega), ?_⟩
    rintro _ rfl _ rfl
    refine ⟨24 - (k + 1), by omega, k + 1, hk1, nI_1 k, rfl, (gU.w (Or.inl rfl)).wR (Or.inl rfl), ρU, fun c hc => ⟨?_, ?_⟩⟩
    · show (hs_wI U 29 1 k 0).1 29 1 c = 0
      rw [w29]
      by_cases q : c = k
      · rw [if_pos q]
      · rw [if_neg q]; exact (hU c (by omega)).1
    · rw [w28]
      by_cases q : c = k
      · rw [if_pos q]
      · rw [if_neg q]; exact (hU c (by omega)).2

