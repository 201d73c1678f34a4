/-- an edit is told; its words are q's -/
def E_tells (a1 a2 a3 : Int32) (q : Nat → Int32) (S : hs_S) : hs_S :=
  hs_wI (hs_wI (hs_rw (hs_wI (hs_wI (hs_wI (hs_wI (hs_wI S 53 1 (S.1 11 1 12).toNatClampNeg a2) 54 1 (S.1 11 1 12).toNatClampNeg a1) 55 1 (S.1 11 1 12).toNatClampNeg (S.1 11 1 0)) 56 1 (S.1 11 1 12).toNatClampNeg (S.1 11 1 0 + (if 1 ≤ S.1 60 1 (a2 / 6).toNatClampNeg then S.1 60 1 (a2 / 6).toNatClampNeg else 1))) 57 1 (S.1 11 1 12).toNatClampNeg a3) 59 q) 11 1 12 (S.1 11 1 12 + 1)) 11 1 0 (S.1 11 1 0 + 1)
def P_tellsEdit (a1 a2 a3 : Int32) (S : hs_S) : Prop := cN (S.1 11 1 12) 59 ∧ (∃ c : Nat, c < 24 ∧ a2 = nI c) ∧ cN a3 12
def R_tellsEdit (a1 a2 a3 : Int32) (S : hs_S) (r : Int32) (T : hs_S) : Prop := r = S.1 11 1 12 ∧ ∃ q : Nat → Int32, T = E_tells a1 a2 a3 q S ∧ ∀ k w : Nat, k < 60 → S.1 11 1 12 = nI k → w ≤ 12 → a3 = nI w → ∀ p, q p = if 36 * k ≤ p ∧ p < 36 * k + 3 * w then S.1 51 1 (p - 36 * k) else S.1 59 1 p
def m_M_tellsEdit (a1 : Int32) (a2 : Int32) (a3 : Int32) (S : hs_S) (Q : Int32 → hs_S → Prop) : Prop := hs_M 2 yX11_tellsEdit (.code yX11_tellsEdit cX11_tellsEdit 6 (some FieldType.int)) [.inr (.inr (11, 1)), .inl a1, .inl a2, .inl a3] S 0 0 (hs_qI Q) hs_nX
def vc_M_tellsEdit (a1 : Int32) (a2 : Int32) (a3 : Int32) (S : hs_S) (Q : Int32 → hs_S → Prop) : Prop := ((0 ≤ (S.1 11 1 12).toInt ∧ (S.1 11 1 12).toInt < 60) ∧ (∀ S2 : hs_S, S2 = (hs_wI S 53 1 (S.1 11 1 12).toNatClampNeg a2) → ((0 ≤ (S2.1 11 1 12).toInt ∧ (S2.1 11 1 12).toInt < 60) ∧ (∀ S4 : hs_S, S4 = (hs_wI S2 54 1 (S2.1 11 1 12).toNatClampNeg a1) → ((0 ≤ (S4.1 11 1 12).toInt ∧ (S4.1 11 1 12).toInt < 60) ∧ (∀ S6 : hs_S, S6 = (hs_wI S4 55 1 (S4.1 11 1 12).toNatClampNeg (S4.1 11 1 0)) → ((0 ≤ (a2 / (6 : Int32)).toInt ∧ (a2 / (6 : Int32)).toInt < 4) ∧ (∀ x8 : Int32, x8 = (if (1 : Int32) ≤ (S6.1 60 1 (a2 / (6 : Int32)).toNatClampNeg) then (S6.1 60 1 (a2 / (6 : Int32)).toNatClampNeg) else (1 : Int32)) → ((0 ≤ (S6.1 11 1 12).toInt ∧ (S6.1 11 1 12).toInt < 60) ∧ (∀ S10 : hs_S, S10 = (hs_wI S6 56 1 (S6.1 11 1 12).toNatClampNeg ((S6.1 11 1 0) + x8)) → ((0 ≤ (S10.1 11 1 12).toInt ∧ (S10.1 11 1 12).toInt < 60) ∧ (∀ S12 : hs_S, S12 = (hs_wI S10 57 1 (S10.1 11 1 12).toNatClampNeg a3) → (∃ I14 : Nat → Int32 → hs_S → Prop, (∃ n19, I14 n19 (0 : Int32) S12) ∧ (∀ N15 : Nat, ∀ x13 : Int32, ∀ S16 : hs_S, I14 N15 x13 S16 → ((((3 : Int32) * a3) ≤ x13 → (∀ S24 : hs_S, S24 = (hs_wI S16 11 1 12 ((S16.1 11 1 12) + (1 : Int32))) → (∀ S25 : hs_S, S25 = (E_act ((S24.1 11 1 12) - (1 : Int32)) S24) → (Q ((S24.1 11 1 12) - (1 : Int32)) S25)))) ∧ (¬ ((3 : Int32) * a3) ≤ x13 → ((0 ≤ x13.toInt ∧ x13.toInt < 36) ∧ ((0 ≤ (((36 : Int32) * (S16.1 11 1 12)) + x13).toInt ∧ (((36 : Int32) * (S16.1 11 1 12)) + x13).toInt < 2160) ∧ (∀ S28 : hs_S, S28 = (hs_wI S16 59 1 (((36 : Int32) * (S16.1 11 1 12)) + x13).toNatClampNeg (S16.1 51 1 x13.toNatClampNeg)) → (∃ q29, q29 < N15 ∧ I14 q29 (x13 + 1) S28))))))))))))))))))))
set_option maxRecDepth 100000 in
set_option maxHeartbeats 4000000 in
theorem ok_M_tellsEdit {a1 : Int32} {a2 : Int32} {a3 : Int32} {S : hs_S} {Q : Int32 → hs_S → Prop} (hw : hs_Wi S) (hv : vc_M_tellsEdit a1 a2 a3 S Q) : m_M_tellsEdit a1 a2 a3 S Q := by
  unfold vc_M_tellsEdit at hv
  refine hs_body (own := RX11) rfl rfl (Nat.le_of_ble_eq_true rfl) (fun Z X E N J0 => ?_)
  show wa Z 0 0 S 0 [(0, .inr (.inr (11, 1))), (1, .inl a1), (2, .inl a2), (3, .inl a3)] []
  refine wa_aload_n X 0 rfl dX11_tellsEdit_0 rfl ?_
  refine wa_getfw X hw (j := 13) (r := 1) hk_11 hc_11 i_11 (by decide) kw_1197 rfl rfl (by decide) rfl dX11_tellsEdit_1 hs_1ne ?_
  refine wa_aload_n X 0 rfl dX11_tellsEdit_4 rfl ?_
  refine wa_getI X (j := 12) hk_11 hc_11 i_11 (by decide) kw_1196 rfl dX11_tellsEdit_5 hs_1ne ?_
  refine wa_iload_n X 2 rfl dX11_tellsEdit_8 rfl ?_
  obtain ⟨o1, hv⟩ := hv
  refine wa_iast X hk_53 dX11_tellsEdit_9 hs_1ne o1 (hs_eqS fun S2 hS2 => ?_)
  replace hv := hv S2 hS2
  replace hw : hs_Wi S2 := hS2 ▸ hs_Wi_I hw
  refine wa_aload_n X 0 rfl dX11_tellsEdit_10 rfl ?_
  refine wa_getfw X hw (j := 14) (r := 1) hk_11 hc_11 i_11 (by decide) kw_1198 rfl rfl (by decide) rfl dX11_tellsEdit_11 hs_1ne ?_
  refine wa_aload_n X 0 rfl dX11_tellsEdit_14 rfl ?_
  refine wa_getI X (j := 12) hk_11 hc_11 i_11 (by decide) kw_1196 rfl dX11_tellsEdit_15 hs_1ne ?_
  refine wa_iload_n X 1 rfl dX11_tellsEdit_18 rfl ?_
  obtain ⟨o3, hv⟩ := hv
  refine wa_iast X hk_54 dX11_tellsEdit_19 hs_1ne o3 (hs_eqS fun S4 hS4 => ?_)
  replace hv := hv S4 hS4
  replace hw : hs_Wi S4 := hS4 ▸ hs_Wi_I hw
  refine wa_aload_n X 0 rfl dX11_tellsEdit_20 rfl ?_
  refine wa_getfw X hw (j := 15) (r := 1) hk_11 hc_11 i_11 (by decide) kw_1199 rfl rfl (by decide) rfl dX11_tellsEdit_21 hs_1ne ?_
  refine wa_aload_n X 0 rfl dX11_tellsEdit_24 rfl ?_
  refine wa_getI X (j := 12) hk_11 hc_11 i_11 (by decide) kw_1196 rfl dX11_tellsEdit_25 hs_1ne ?_
  refine wa_aload_n X 0 rfl dX11_tellsEdit_28 rfl ?_
  refine wa_getI X (j := 0) hk_11 hc_11 i_11 (by decide) kw_1184 rfl dX11_tellsEdit_29 hs_1ne ?_
  obtain ⟨o5, hv⟩ := hv
  refine wa_iast X hk_55 dX11_tellsEdit_32 hs_1ne o5 (hs_eqS fun S6 hS6 => ?_)
  replace hv := hv S6 hS6
  replace hw : hs_Wi S6 := hS6 ▸ hs_Wi_I hw
  refine wa_aload_n X 0 rfl dX11_tellsEdit_33 rfl ?_
  refine wa_getfw X hw (j := 20) (r := 1) hk_11 hc_11 i_11 (by decide) kw_1204 rfl rfl (by decide) rfl dX11_tellsEdit_34 hs_1ne ?_
  refine wa_iload_n X 2 rfl dX11_tellsEdit_37 rfl ?_
  refine wa_bipush X dX11_tellsEdit_38 kb6 ?_
  refine wa_idiv X dX11_tellsEdit_40 (by decide) ?_
  obtain ⟨o7, hv⟩ := hv
  refine wa_iald X hk_60 dX11_tellsEdit_41 hs_1ne o7 ?_
  refine wa_istore X (lv' := [(4, .inl (S6.1 60 1 (a2 / (6 : Int32)).toNatClampNeg)), (0, .inr (.inr (11, 1))), (1, .inl a1), (2, .inl a2), (3, .inl a3)]) dX11_tellsEdit_42 (by decide) rfl ?_
  refine wa_aload_n X 1 rfl dX11_tellsEdit_44 rfl ?_
  refine wa_getfw X hw (j := 16) (r := 1) hk_11 hc_11 i_11 (by decide) kw_1200 rfl rfl (by decide) rfl dX11_tellsEdit_45 hs_1ne ?_
  refine wa_aload_n X 1 rfl dX11_tellsEdit_48 rfl ?_
  refine wa_getI X (j := 12) hk_11 hc_11 i_11 (by decide) kw_1196 rfl dX11_tellsEdit_49 hs_1ne ?_
  refine wa_aload_n X 1 rfl dX11_tellsEdit_52 rfl ?_
  refine wa_getI X (j := 0) hk_11 hc_11 i_11 (by decide) kw_1184 rfl dX11_tellsEdit_53 hs_1ne ?_
  refine wa_iload X 0 rfl dX11_tellsEdit_56 ?_
  refine wa_iconst X dX11_tellsEdit_58 kc1 ?_
  have k31 : ∀ (x8 : Int32), x8 = (if (1 : Int32) ≤ (S6.1 60 1 (a2 / (6 : Int32)).toNatClampNeg) then (S6.1 60 1 (a2 / (6 : Int32)).toNatClampNeg) else (1 : Int32)) → wa Z 0 0 S6 68 [(0, .inr (.inr (11, 1))), (3, .inl a3)] [.inl x8, .inl (S6.1 11 1 0), .inl (S6.1 11 1 12), .inr (.inr (56, 1))] := by
    intro x8 hE
    replace hv := hv _ hE
    refine wa_iadd X dX11_tellsEdit_68 ?_
    obtain ⟨o9, hv⟩ := hv
    refine wa_iast X hk_56 dX11_tellsEdit_69 hs_1ne o9 (hs_eqS fun S10 hS10 => ?_)
    replace hv := hv S10 hS10
    replace hw : hs_Wi S10 := hS10 ▸ hs_Wi_I hw
    refine wa_aload_n X 0 rfl dX11_tellsEdit_70 rfl ?_
    refine wa_getfw X hw (j := 17) (r := 1) hk_11 hc_11 i_11 (by decide) kw_1201 rfl rfl (by decide) rfl dX11_tellsEdit_71 hs_1ne ?_
    refine wa_aload_n X 0 rfl dX11_tellsEdit_74 rfl ?_
    refine wa_getI X (j := 12) hk_11 hc_11 i_11 (by decide) kw_1196 rfl dX11_tellsEdit_75 hs_1ne ?_
    refine wa_iload_n X 1 rfl dX11_tellsEdit_78 rfl ?_
    obtain ⟨o11, hv⟩ := hv
    refine wa_iast X hk_57 dX11_tellsEdit_79 hs_1ne o11 (hs_eqS fun S12 hS12 => ?_)
    replace hv := hv S12 hS12
    replace hw : hs_Wi S12 := hS12 ▸ hs_Wi_I hw
    refine wa_iconst X dX11_tellsEdit_80 kc0 ?_
    refine wa_istore X (lv' := [(5, .inl (0 : Int32)), (0, .inr (.inr (11, 1))), (3, .inl a3)]) dX11_tellsEdit_81 (by decide) rfl ?_
    obtain ⟨I14, ⟨n19, i17⟩, b18⟩ := hv
    refine wa_lv (lv' := [(0, .inr (.inr (11, 1))), (3, .inl a3), (5, .inl (0 : Int32))]) [1, 2, 0] rfl ?_
    suffices L20 : ∀ N15 : Nat, ∀ x13 : Int32, ∀ S16 : hs_S, hs_Wi S16 → I14 N15 x13 S16 → wa Z 0 0 S16 83 [(0, .inr (.inr (11, 1))), (3, .inl a3), (5, .inl x13)] [] from L20 _ _ _ hw i17
    clear hw
    clear i17
    intro N15
    induction N15 using Nat.strongRecOn with
    | _ N15 h21 =>
      intro x13 S16 hw j22
      have hv := b18 N15 x13 S16 j22
      refine wa_iload X 2 rfl dX11_tellsEdit_83 ?_
      refine wa_iconst X dX11_tellsEdit_85 kc3 ?_
      refine wa_iload_n X 1 rfl dX11_tellsEdit_86 rfl ?_
      refine wa_imul X dX11_tellsEdit_87 ?_
      refine wa_icmp_ge X (tgt := 119) dX11_tellsEdit_88 (by decide) (fun c23 => ?_) (fun c23 => ?_)
      · replace hv := hv.1 c23
        refine wa_aload_n X 0 rfl dX11_tellsEdit_119 rfl ?_
        refine wa_dup X dX11_tellsEdit_120 rfl ?_
        refine wa_getI X (j := 12) hk_11 hc_11 i_11 (by decide) kw_1196 rfl dX11_tellsEdit_121 hs_1ne ?_
        refine wa_iconst X dX11_tellsEdit_124 kc1 ?_
        refine wa_iadd X dX11_tellsEdit_125 ?_
        refine wa_putI X (j := 12) hk_11 hc_11 i_11 tyX11 tyX11_ok nmX11 (by decide) kw_1196 rfl rfl dX11_tellsEdit_126 hs_1ne ⟨rfl, Or.inl rfl⟩ (hs_eqS fun S24 hS24 => ?_)
        replace hv := hv S24 hS24
        replace hw : hs_Wi S24 := hS24 ▸ hs_Wi_I hw
        refine wa_aload_n X 0 rfl dX11_tellsEdit_129 rfl ?_
        refine wa_aload_n X 0 rfl dX11_tellsEdit_130 rfl ?_
        refine wa_getI X (j := 12) hk_11 hc_11 i_11 (by decide) kw_1196 rfl dX11_tellsEdit_131 hs_1ne ?_
        refine wa_iconst X dX11_tellsEdit_134 kc1 ?_
        refine wa_isub X dX11_tellsEdit_135 ?_
        refine wa_callV X (As := [.inl ((S24.1 11 1 12) - (1 : Int32))]) (f_M_act hw) hk_11 hc_11 rfl kw_1399 kw_66 kw_1396 kw_1398 kw_23 nd_X11_act rfl rfl (Nat.le_of_ble_eq_true rfl) dX11_tellsEdit_136 hs_1ne ⟨⟨Nat.le_of_ble_eq_true rfl, Nat.le_of_ble_eq_true rfl⟩, Nat.le_of_ble_eq_true rfl, Nat.le_of_ble_eq_true rfl⟩ (hs_pdk fun S25 hS25 hw => ?_) (fun _ _ h => h.elim)
        replace hv := hv S25 hS25
        exact wa_ireturn X E dX11_tellsEdit_139 (Nat.le_of_ble_eq_true rfl) (Nat.le_of_ble_eq_true rfl) (Or.inl rfl) ⟨hw, _, rfl, hv⟩
      · replace hv := hv.2 c23
        refine wa_aload_n X 0 rfl dX11_tellsEdit_91 rfl ?_
        refine wa_getfw X hw (j := 19) (r := 1) hk_11 hc_11 i_11 (by decide) kw_1203 rfl rfl (by decide) rfl dX11_tellsEdit_92 hs_1ne ?_
        refine wa_bipush X dX11_tellsEdit_95 kb36 ?_
        refine wa_aload_n X 0 rfl dX11_tellsEdit_97 rfl ?_
        refine wa_getI X (j := 12) hk_11 hc_11 i_11 (by decide) kw_1196 rfl dX11_tellsEdit_98 hs_1ne ?_
        refine wa_imul X dX11_tellsEdit_101 ?_
        refine wa_iload X 2 rfl dX11_tellsEdit_102 ?_
        refine wa_iadd X dX11_tellsEdit_104 ?_
        refine wa_aload_n X 0 rfl dX11_tellsEdit_105 rfl ?_
        refine wa_getfw X hw (j := 11) (r := 1) hk_11 hc_11 i_11 (by decide) kw_1195 rfl rfl (by decide) rfl dX11_tellsEdit_106 hs_1ne ?_
        refine wa_iload X 2 rfl dX11_tellsEdit_109 ?_
        obtain ⟨o26, hv⟩ := hv
        refine wa_iald X hk_51 dX11_tellsEdit_111 hs_1ne o26 ?_
        obtain ⟨o27, hv⟩ := hv
        refine wa_iast X hk_59 dX11_tellsEdit_112 hs_1ne o27 (hs_eqS fun S28 hS28 => ?_)
        replace hv := hv S28 hS28
        replace hw : hs_Wi S28 := hS28 ▸ hs_Wi_I hw
        refine wa_iinc X (v := (x13 + 1)) (lv' := [(5, .inl (x13 + 1)), (0, .inr (.inr (11, 1))), (3, .inl a3)]) 2 rfl dX11_tellsEdit_113 rfl (by decide) rfl ?_
        refine wa_goto X (tgt := 83) dX11_tellsEdit_116 (by decide) ?_
        obtain ⟨q29, p30, hv⟩ := hv
        refine wa_lv (lv' := [(0, .inr (.inr (11, 1))), (3, .inl a3), (5, .inl (x13 + 1))]) [1, 2, 0] rfl ?_
        exact h21 q29 p30 _ _ hw hv
  clear hv
  refine wa_icmp_ge X (tgt := 66) dX11_tellsEdit_59 (by decide) (fun c33 => ?_) (fun c33 => ?_)
  · refine wa_iload X 0 rfl dX11_tellsEdit_66 ?_
    refine wa_lv (lv' := [(0, .inr (.inr (11, 1))), (3, .inl a3)]) [1, 4] rfl ?_
    exact wa_wid (Nat.le_of_ble_eq_true rfl) (Nat.le_of_ble_eq_true rfl) (k31 _  (by rw [if_pos c33]))
  · refine wa_iconst X dX11_tellsEdit_62 kc1 ?_
    refine wa_goto X (tgt := 68) dX11_tellsEdit_63 (by decide) ?_
    refine wa_lv (lv' := [(0, .inr (.inr (11, 1))), (3, .inl a3)]) [1, 4] rfl ?_
    exact wa_wid (Nat.le_of_ble_eq_true rfl) (Nat.le_of_ble_eq_true rfl) (k31 _  (by rw [if_neg c33]))
theorem v_M_tellsEdit {a1 a2 a3 : Int32} {S : hs_S} (hP : P_tellsEdit a1 a2 a3 S) : vc_M_tellsEdit a1 a2 a3 S (fun r T => R_tellsEdit a1 a2 a3 S r T) := by
  obtain ⟨⟨k, hk, ek⟩, ⟨c, hc, ec⟩, w, hw, ew⟩ := hP
  have hi : 0 ≤ (S.1 11 1 12).toInt ∧ (S.1 11 1 12).toInt < 60 := by rw [ek]; exact hl_ix (by omega) (by omega)
  have h6 : 0 ≤ (a2 / 6).toInt ∧ (a2 / 6).toInt < 4 := by
    have e1 : (nI c).toInt = c := nI_toInt (by omega)
    have e6 : (6 : Int32).toInt = 6 := rfl
    rw [ec, i32_div (by omega) (by omega), e1, e6]; omega
  unfold vc_M_tellsEdit
  refine ⟨hi, fun S2 h2 => ⟨by rw [h2]; exact hi, fun S4 h4 => ⟨by rw [h4, h2]; exact hi, fun S6 h6' => ⟨h6, fun x hx => ⟨by rw [h6', h4, h2]; exact hi, fun S10 h10 => ⟨by rw [h10, h6', h4, h2]; exact hi, fun S12 h12 => ?_⟩⟩⟩⟩⟩⟩
  have e12 : S12.1 11 1 12 = nI k := by rw [h12, h10, h6', h4, h2]; exact ek
  have e51 : ∀ p, S12.1 51 1 p = S.1 51 1 p := fun p => by rw [h12, h10, h6', h4, h2]; rfl
  have e59 : ∀ p, S12.1 59 1 p = S.1 59 1 p := fun p => by rw [h12, h10, h6', h4, h2]; rfl
  have e3w : (3 : Int32) * a3 = nI (3 * w) := by rw [ew]; exact pk_mul 3 w
  have e36 : (36 : Int32) * nI k = nI (36 * k) := pk_mul 36 k
  refine ⟨fun N x T => ∃ j, j ≤ 3 * w ∧ x = nI j ∧ (∃ q : Nat → Int32, T = hs_rw S12 59 q ∧ ∀ p, q p = if 36 * k ≤ p ∧ p < 36 * k + j then S.1 51 1 (p - 36 * k) else S.1 59 1 p) ∧ N = 3 * w - j, ⟨3 * w, 0, Nat.zero_le _, rfl, ⟨S12.1 59 1, hs_rw_0.symm, fun p => by rw [if_neg (fun z => absurd z.2 (by omega))]; exact e59 p⟩, rfl⟩, ?_⟩
  rintro N x T ⟨j, hj, rfl, ⟨q, rfl, hq⟩, rfl⟩
  rw [e3w]
  have e12' : (hs_rw S12 59 q).1 11 1 12 = nI k := e12
  refine ⟨fun h S24 h24 S25 h25 => ?_, fun h => ?_⟩
  · have := hl_end (by omega) hj h
    subst this
    have e24 : S24.1 11 1 12 = nI (k + 1) := by rw [h24]; show (hs_rw S12 59 q).1 11 1 12 + 1 = _; rw [e12']; exact nI_1 k
    refine ⟨?_, q, ?_, fun k' w' hk' ek' hw' ew' p => ?_⟩
    · rw [e24, ek, nI_s1 (by omega) (by omega)]; rfl
    · rw [h25, h24, h12, h10, h6', h4, h2, hx, h6', h4, h2]
      unfold E_tells E_act
      rfl
    · have a1 : k = k' := (hl_inj (by omega) (by omega)).mp (ek.symm.trans ek')
      have a2 : w = w' := (hl_inj (by omega) (by omega)).mp (ew.symm.trans ew')
      subst a1; subst a2
      exact hq p
  · have hj1 := hl_go (by omega) hj h
    have hjc : (nI j).toNatClampNeg = j := hl_cl (by omega)
    rw [e12', e36, nI_addI (by omega), hjc, hl_cl (by omega)]
    refine ⟨hl_ix (by omega) (by omega), hl_ix (by omega) (by omega), fun S5 h5 => hl_nx hj1 ⟨fun p => if p = 36 * k + j then S.1 51 1 j else q p, ?_, fun p => ?_⟩⟩
    · rw [h5, hs_rw_w]
      have : (hs_rw S12 59 q).1 51 1 j = S.1 51 1 j := e51 j
      rw [this]
    · show (if p = 36 * k + j then _ else q p) = _
      by_cases z : p = 36 * k + j
      · rw [if_pos z, if_pos ⟨by omega, by omega⟩, z, Nat.add_sub_cancel_left]
      · rw [if_neg z, hq]
        by_cases y : 36 * k ≤ p ∧ p < 36 * k + j
        · rw [if_pos y, if_pos ⟨y.1, by omega⟩]
        · rw [if_neg y, if_neg fun y' => y ⟨y'.1, by omega⟩]

/-- how many cells an owner has -/
def mOC (S : hs_S) (o e : Int32) : Nat → Int32
  | 0 => 0
  | c + 1 => if F_ownerAt (nI c) e S = o then mOC S o e c + 1 else mOC S o e c + 0
abbrev okGive (a1 a2 a3 a4 : Int32) : Prop := ¬ F_isOwner a1 = 0 ∧ ¬ F_isCell a2 a3 = 0 ∧ ¬ F_isOwner a4 = 0
def E_give (c o : Int32) (S : hs_S) : hs_S := hs_wI (hs_wI (hs_wI (hs_wI (hs_wI S 42 1 (S.1 11 1 1).toNatClampNeg (S.1 11 1 0)) 43 1 (S.1 11 1 1).toNatClampNeg c) 44 1 (S.1 11 1 1).toNatClampNeg o) 11 1 1 (S.1 11 1 1 + 1)) 11 1 0 (S.1 11 1 0 + 1)
def P_give (a1 a2 a3 a4 : Int32) (S : hs_S) : Prop := cN (S.1 11 1 1) 1199
def R_give (a1 a2 a3 a4 : Int32) (S : hs_S) (r : Int32) (T : hs_S) : Prop :=
  (okGive a1 a2 a3 a4 → (F_ownerAt (6 * a2 + a3) (S.1 11 1 0) (E_asks 1 S) = a1 → T = E_give (6 * a2 + a3) a4 (E_asks 1 S) ∧ r = mOC T a4 (T.1 11 1 0) 24) ∧ (¬ F_ownerAt (6 * a2 + a3) (S.1 11 1 0) (E_asks 1 S) = a1 → T = E_fails 2 (E_asks 1 S) ∧ r = 0)) ∧
  (¬ okGive a1 a2 a3 a4 → T = E_asks 0 S ∧ r = 0)
def m_M_give (a1 : Int32) (a2 : Int32) (a3 : Int32) (a4 : Int32) (S : hs_S) (Q : Int32 → hs_S → Prop) : Prop := hs_M 2 yX11_give (.code yX11_give cX11_give 8 (some FieldType.int)) [.inr (.inr (11, 1)), .inl a1, .inl a2, .inl a3, .inl a4] S 0 0 (hs_qI Q) hs_nX
def vc_M_give (a1 : Int32) (a2 : Int32) (a3 : Int32) (a4 : Int32) (S : hs_S) (Q : Int32 → hs_S → Prop) : Prop := (∀ x1 : Int32, x1 = (if (F_isOwner a1) = 0 then (0 : Int32) else (if (F_isCell a2 a3) = 0 then (0 : Int32) else (if (F_isOwner a4) = 0 then (0 : Int32) else (1 : Int32)))) → ((P_asks x1 S) ∧ (∀ S3 : hs_S, S3 = (E_asks x1 S) → ((¬ x1 = 0 → ((P_ownerAt (((6 : Int32) * a2) + a3) (S3.1 11 1 0) S3) ∧ (((F_ownerAt (((6 : Int32) * a2) + a3) (S3.1 11 1 0) S3) = a1 → ((0 ≤ (S3.1 11 1 1).toInt ∧ (S3.1 11 1 1).toInt < 1200) ∧ (∀ S8 : hs_S, S8 = (hs_wI S3 42 1 (S3.1 11 1 1).toNatClampNeg (S3.1 11 1 0)) → ((0 ≤ (S8.1 11 1 1).toInt ∧ (S8.1 11 1 1).toInt < 1200) ∧ (∀ S10 : hs_S, S10 = (hs_wI S8 43 1 (S8.1 11 1 1).toNatClampNeg (((6 : Int32) * a2) + a3)) → ((0 ≤ (S10.1 11 1 1).toInt ∧ (S10.1 11 1 1).toInt < 1200) ∧ (∀ S12 : hs_S, S12 = (hs_wI S10 44 1 (S10.1 11 1 1).toNatClampNeg a4) → (∀ S13 : hs_S, S13 = (hs_wI S12 11 1 1 ((S12.1 11 1 1) + (1 : Int32))) → (∀ S14 : hs_S, S14 = (hs_wI S13 11 1 0 ((S13.1 11 1 0) + (1 : Int32))) → (∃ I17 : Nat → Int32 → Int32 → Prop, (∃ n21, I17 n21 (0 : Int32) (0 : Int32)) ∧ (∀ N18 : Nat, ∀ x15 : Int32, ∀ x16 : Int32, I17 N18 x15 x16 → (((24 : Int32) ≤ x16 → (Q x15 S14)) ∧ (¬ (24 : Int32) ≤ x16 → ((P_ownerAt x16 (S14.1 11 1 0) S14) ∧ ((¬ (F_ownerAt x16 (S14.1 11 1 0) S14) = a4 → (∃ q28, q28 < N18 ∧ I17 q28 (x15 + (0 : Int32)) (x16 + 1))) ∧ ((F_ownerAt x16 (S14.1 11 1 0) S14) = a4 → (∃ q30, q30 < N18 ∧ I17 q30 (x15 + (1 : Int32)) (x16 + 1)))))))))))))))))) ∧ (¬ (F_ownerAt (((6 : Int32) * a2) + a3) (S3.1 11 1 0) S3) = a1 → (∀ S32 : hs_S, S32 = (E_fails (2 : Int32) S3) → (Q (0 : Int32) S32)))))) ∧ (x1 = 0 → (Q (0 : Int32) S3))))))
set_option maxRecDepth 100000 in
set_option maxHeartbeats 4000000 in
theorem ok_M_give {a1 : Int32} {a2 : Int32} {a3 : Int32} {a4 : Int32} {S : hs_S} {Q : Int32 → hs_S → Prop} (hw : hs_Wi S) (hv : vc_M_give a1 a2 a3 a4 S Q) : m_M_give a1 a2 a3 a4 S Q := by
  unfold vc_M_give at hv
  refine hs_body (own := RX11) rfl rfl (Nat.le_of_ble_eq_true rfl) (fun Z X E N J0 => ?_)
  show wa Z 0 0 S 0 [(0, .inr (.inr (11, 1))), (1, .inl a1), (2, .inl a2), (3, .inl a3), (4, .inl a4)] []
  refine wa_aload_n X 0 rfl dX11_give_0 rfl ?_
  refine wa_iload_n X 1 rfl dX11_give_1 rfl ?_
  refine wa_callS X (As := [.inl a1]) (f_M_isOwner hw) kw_1376 kw_66 kw_1374 kw_1375 nd_X11_isOwner rfl rfl (Nat.le_of_ble_eq_true rfl) dX11_give_2 ⟨⟨Nat.le_of_ble_eq_true rfl, Nat.le_of_ble_eq_true rfl⟩, Nat.le_of_ble_eq_true rfl, Nat.le_of_ble_eq_true rfl⟩ (hs_pdk0 ?_) (fun _ _ h => h.elim)
  have k33 : ∀ (x1 : Int32), x1 = (if (F_isOwner a1) = 0 then (0 : Int32) else (if (F_isCell a2 a3) = 0 then (0 : Int32) else (if (F_isOwner a4) = 0 then (0 : Int32) else (1 : Int32)))) → wa Z 0 0 S 29 [(0, .inr (.inr (11, 1))), (1, .inl a1), (2, .inl a2), (3, .inl a3), (4, .inl a4)] [.inl x1, .inr (.inr (11, 1))] := by
    intro x1 hE
    replace hv := hv _ hE
    obtain ⟨o2, hv⟩ := hv
    refine wa_callV X (As := [.inl x1]) (f_M_asks hw o2) hk_11 hc_11 rfl kw_1383 kw_66 kw_1380 kw_1382 kw_20 nd_X11_asks rfl rfl (Nat.le_of_ble_eq_true rfl) dX11_give_29 hs_1ne ⟨⟨Nat.le_of_ble_eq_true rfl, Nat.le_of_ble_eq_true rfl⟩, Nat.le_of_ble_eq_true rfl, Nat.le_of_ble_eq_true rfl⟩ (hs_pdk fun S3 hS3 hw => ?_) (fun _ _ h => h.elim)
    replace hv := hv S3 hS3
    refine wa_if_ne X (tgt := 37) dX11_give_32 (by decide) (fun c4 => ?_) (fun c4 => ?_)
    · replace hv := hv.1 c4
      refine wa_bipush X dX11_give_37 kb6 ?_
      refine wa_iload_n X 2 rfl dX11_give_39 rfl ?_
      refine wa_imul X dX11_give_40 ?_
      refine wa_iload_n X 3 rfl dX11_give_41 rfl ?_
      refine wa_iadd X dX11_give_42 ?_
      refine wa_istore X (lv' := [(5, .inl (((6 : Int32) * a2) + a3)), (0, .inr (.inr (11, 1))), (1, .inl a1), (2, .inl a2), (3, .inl a3), (4, .inl a4)]) dX11_give_43 (by decide) rfl ?_
      refine wa_aload_n X 1 rfl dX11_give_45 rfl ?_
      refine wa_iload X 0 rfl dX11_give_46 ?_
      refine wa_aload_n X 1 rfl dX11_give_48 rfl ?_
      refine wa_getI X (j := 0) hk_11 hc_11 i_11 (by decide) kw_1184 rfl dX11_give_49 hs_1ne ?_
      obtain ⟨o5, hv⟩ := hv
      refine wa_callV X (As := [.inl (((6 : Int32) * a2) + a3), .inl (S3.1 11 1 0)]) (f_M_ownerAt hw o5) hk_11 hc_11 rfl kw_1387 kw_66 kw_1384 kw_1386 kw_21 nd_X11_ownerAt rfl rfl (Nat.le_of_ble_eq_true rfl) dX11_give_52 hs_1ne ⟨⟨Nat.le_of_ble_eq_true rfl, Nat.le_of_ble_eq_true rfl⟩, Nat.le_of_ble_eq_true rfl, Nat.le_of_ble_eq_true rfl⟩ (hs_pdk0 ?_) (fun _ _ h => h.elim)
      refine wa_iload_n X 2 rfl dX11_give_55 rfl ?_
      refine wa_icmp_eq X (tgt := 65) dX11_give_56 (by decide) (fun c6 => ?_) (fun c6 => ?_)
      · replace hv := hv.1 c6
        refine wa_aload_n X 1 rfl dX11_give_65 rfl ?_
        refine wa_getfw X hw (j := 2) (r := 1) hk_11 hc_11 i_11 (by decide) kw_1186 rfl rfl (by decide) rfl dX11_give_66 hs_1ne ?_
        refine wa_aload_n X 1 rfl dX11_give_69 rfl ?_
        refine wa_getI X (j := 1) hk_11 hc_11 i_11 (by decide) kw_1185 rfl dX11_give_70 hs_1ne ?_
        refine wa_aload_n X 1 rfl dX11_give_73 rfl ?_
        refine wa_getI X (j := 0) hk_11 hc_11 i_11 (by decide) kw_1184 rfl dX11_give_74 hs_1ne ?_
        obtain ⟨o7, hv⟩ := hv
        refine wa_iast X hk_42 dX11_give_77 hs_1ne o7 (hs_eqS fun S8 hS8 => ?_)
        replace hv := hv S8 hS8
        replace hw : hs_Wi S8 := hS8 ▸ hs_Wi_I hw
        refine wa_aload_n X 1 rfl dX11_give_78 rfl ?_
        refine wa_getfw X hw (j := 3) (r := 1) hk_11 hc_11 i_11 (by decide) kw_1187 rfl rfl (by decide) rfl dX11_give_79 hs_1ne ?_
        refine wa_aload_n X 1 rfl dX11_give_82 rfl ?_
        refine wa_getI X (j := 1) hk_11 hc_11 i_11 (by decide) kw_1185 rfl dX11_give_83 hs_1ne ?_
        refine wa_iload X 0 rfl dX11_give_86 ?_
        obtain ⟨o9, hv⟩ := hv
        refine wa_iast X hk_43 dX11_give_88 hs_1ne o9 (hs_eqS fun S10 hS10 => ?_)
        replace hv := hv S10 hS10
        replace hw : hs_Wi S10 := hS10 ▸ hs_Wi_I hw
        refine wa_aload_n X 1 rfl dX11_give_89 rfl ?_
        refine wa_getfw X hw (j := 4) (r := 1) hk_11 hc_11 i_11 (by decide) kw_1188 rfl rfl (by decide) rfl dX11_give_90 hs_1ne ?_
        refine wa_aload_n X 1 rfl dX11_give_93 rfl ?_
        refine wa_getI X (j := 1) hk_11 hc_11 i_11 (by decide) kw_1185 rfl dX11_give_94 hs_1ne ?_
        refine wa_iload X 5 rfl dX11_give_97 ?_
        obtain ⟨o11, hv⟩ := hv
        refine wa_iast X hk_44 dX11_give_99 hs_1ne o11 (hs_eqS fun S12 hS12 => ?_)
        replace hv := hv S12 hS12
        replace hw : hs_Wi S12 := hS12 ▸ hs_Wi_I hw
        refine wa_aload_n X 1 rfl dX11_give_100 rfl ?_
        refine wa_dup X dX11_give_101 rfl ?_
        refine wa_getI X (j := 1) hk_11 hc_11 i_11 (by decide) kw_1185 rfl dX11_give_102 hs_1ne ?_
        refine wa_iconst X dX11_give_105 kc1 ?_
        refine wa_iadd X dX11_give_106 ?_
        refine wa_putI X (j := 1) hk_11 hc_11 i_11 tyX11 tyX11_ok nmX11 (by decide) kw_1185 rfl rfl dX11_give_107 hs_1ne ⟨rfl, Or.inl rfl⟩ (hs_eqS fun S13 hS13 => ?_)
        replace hv := hv S13 hS13
        replace hw : hs_Wi S13 := hS13 ▸ hs_Wi_I hw
        refine wa_aload_n X 1 rfl dX11_give_110 rfl ?_
        refine wa_dup X dX11_give_111 rfl ?_
        refine wa_getI X (j := 0) hk_11 hc_11 i_11 (by decide) kw_1184 rfl dX11_give_112 hs_1ne ?_
        refine wa_iconst X dX11_give_115 kc1 ?_
        refine wa_iadd X dX11_give_116 ?_
        refine wa_putI X (j := 0) hk_11 hc_11 i_11 tyX11 tyX11_ok nmX11 (by decide) kw_1184 rfl rfl dX11_give_117 hs_1ne ⟨rfl, Or.inl rfl⟩ (hs_eqS fun S14 hS14 => ?_)
        replace hv := hv S14 hS14
        replace hw : hs_Wi S14 := hS14 ▸ hs_Wi_I hw
        refine wa_iconst X dX11_give_120 kc0 ?_
        refine wa_istore X (lv' := [(6, .inl (0 : Int32)), (5, .inl (((6 : Int32) * a2) + a3)), (0, .inr (.inr (11, 1))), (1, .inl a1), (2, .inl a2), (3, .inl a3), (4, .inl a4)]) dX11_give_121 (by decide) rfl ?_
        refine wa_iconst X dX11_give_123 kc0 ?_
        refine wa_istore X (lv' := [(7, .inl (0 : Int32)), (6, .inl (0 : Int32)), (5, .inl (((6 : Int32) * a2) + a3)), (0, .inr (.inr (11, 1))), (1, .inl a1), (2, .inl a2), (3, .inl a3), (4, .inl a4)]) dX11_give_124 (by decide) rfl ?_
        obtain ⟨I17, ⟨n21, i19⟩, b20⟩ := hv
        refine wa_lv (lv' := [(0, .inr (.inr (11, 1))), (4, .inl a4), (6, .inl (0 : Int32)), (7, .inl (0 : Int32))]) [3, 7, 1, 0] rfl ?_
        suffices L22 : ∀ N18 : Nat, ∀ x15 : Int32, ∀ x16 : Int32, I17 N18 x15 x16 → wa Z 0 0 S14 126 [(0, .inr (.inr (11, 1))), (4, .inl a4), (6, .inl x15), (7, .inl x16)] [] from L22 _ _ _ i19
        clear i19
        intro N18
        induction N18 using Nat.strongRecOn with
        | _ N18 h23 =>
          intro x15 x16 j24
          have hv := b20 N18 x15 x16 j24
          refine wa_iload X 3 rfl dX11_give_126 ?_
          refine wa_bipush X dX11_give_128 kb24 ?_
          refine wa_icmp_ge X (tgt := 164) dX11_give_130 (by decide) (fun c25 => ?_) (fun c25 => ?_)
          · replace hv := hv.1 c25
            refine wa_iload X 2 rfl dX11_give_164 ?_
            exact wa_ireturn X E dX11_give_166 (Nat.le_of_ble_eq_true rfl) (Nat.le_of_ble_eq_true rfl) (Or.inl rfl) ⟨hw, _, rfl, hv⟩
          · replace hv := hv.2 c25
            refine wa_iload X 2 rfl dX11_give_133 ?_
            refine wa_aload_n X 0 rfl dX11_give_135 rfl ?_
            refine wa_iload X 3 rfl dX11_give_136 ?_
            refine wa_aload_n X 0 rfl dX11_give_138 rfl ?_
            refine wa_getI X (j := 0) hk_11 hc_11 i_11 (by decide) kw_1184 rfl dX11_give_139 hs_1ne ?_
            obtain ⟨o26, hv⟩ := hv
            refine wa_callV X (As := [.inl x16, .inl (S14.1 11 1 0)]) (f_M_ownerAt hw o26) hk_11 hc_11 rfl kw_1387 kw_66 kw_1384 kw_1386 kw_21 nd_X11_ownerAt rfl rfl (Nat.le_of_ble_eq_true rfl) dX11_give_142 hs_1ne ⟨⟨Nat.le_of_ble_eq_true rfl, Nat.le_of_ble_eq_true rfl⟩, Nat.le_of_ble_eq_true rfl, Nat.le_of_ble_eq_true rfl⟩ (hs_pdk0 ?_) (fun _ _ h => h.elim)
            refine wa_iload X 1 rfl dX11_give_145 ?_
            refine wa_icmp_ne X (tgt := 154) dX11_give_147 (by decide) (fun c27 => ?_) (fun c27 => ?_)
            · replace hv := hv.1 c27
              refine wa_iconst X dX11_give_154 kc0 ?_
              refine wa_iadd X dX11_give_155 ?_
              refine wa_istore X (lv' := [(6, .inl (x15 + (0 : Int32))), (0, .inr (.inr (11, 1))), (4, .inl a4), (7, .inl x16)]) dX11_give_156 (by decide) rfl ?_
              refine wa_iinc X (v := (x16 + 1)) (lv' := [(7, .inl (x16 + 1)), (6, .inl (x15 + (0 : Int32))), (0, .inr (.inr (11, 1))), (4, .inl a4)]) 3 rfl dX11_give_158 rfl (by decide) rfl ?_
              refine wa_goto X (tgt := 126) dX11_give_161 (by decide) ?_
              obtain ⟨q28, p29, hv⟩ := hv
              refine wa_lv (lv' := [(0, .inr (.inr (11, 1))), (4, .inl a4), (6, .inl (x15 + (0 : Int32))), (7, .inl (x16 + 1))]) [2, 3, 1, 0] rfl ?_
              exact h23 q28 p29 _ _ hv
            · replace hv := hv.2 c27
              refine wa_iconst X dX11_give_150 kc1 ?_
              refine wa_goto X (tgt := 155) dX11_give_151 (by decide) ?_
              refine wa_iadd X dX11_give_155 ?_
              refine wa_istore X (lv' := [(6, .inl (x15 + (1 : Int32))), (0, .inr (.inr (11, 1))), (4, .inl a4), (7, .inl x16)]) dX11_give_156 (by decide) rfl ?_
              refine wa_iinc X (v := (x16 + 1)) (lv' := [(7, .inl (x16 + 1)), (6, .inl (x15 + (1 : Int32))), (0, .inr (.inr (11, 1))), (4, .inl a4)]) 3 rfl dX11_give_158 rfl (by decide) rfl ?_
              refine wa_goto X (tgt := 126) dX11_give_161 (by decide) ?_
              obtain ⟨q30, p31, hv⟩ := hv
              refine wa_lv (lv' := [(0, .inr (.inr (11, 1))), (4, .inl a4), (6, .inl (x15 + (1 : Int32))), (7, .inl (x16 + 1))]) [2, 3, 1, 0] rfl ?_
              exact h23 q30 p31 _ _ hv
      · replace hv := hv.2 c6
        refine wa_aload_n X 1 rfl dX11_give_59 rfl ?_
        refine wa_iconst X dX11_give_60 kc2 ?_
        refine wa_callV X (As := [.inl (2 : Int32)]) (f_M_fails hw) hk_11 hc_11 rfl kw_1391 kw_66 kw_1388 kw_1390 kw_22 nd_X11_fails rfl rfl (Nat.le_of_ble_eq_true rfl) dX11_give_61 hs_1ne ⟨⟨Nat.le_of_ble_eq_true rfl, Nat.le_of_ble_eq_true rfl⟩, Nat.le_of_ble_eq_true rfl, Nat.le_of_ble_eq_true rfl⟩ (hs_pdk fun S32 hS32 hw => ?_) (fun _ _ h => h.elim)
        replace hv := hv S32 hS32
        exact wa_ireturn X E dX11_give_64 (Nat.le_of_ble_eq_true rfl) (Nat.le_of_ble_eq_true rfl) (Or.inl rfl) ⟨hw, _, rfl, hv⟩
    · replace hv := hv.2 c4
      refine wa_iconst X dX11_give_35 kc0 ?_
      exact wa_ireturn X E dX11_give_36 (Nat.le_of_ble_eq_true rfl) (Nat.le_of_ble_eq_true rfl) (Or.inl rfl) ⟨hw, _, rfl, hv⟩
  clear hv
  refine wa_if_eq X (tgt := 28) dX11_give_5 (by decide) (fun c35 => ?_) (fun c35 => ?_)
  · refine wa_iconst X dX11_give_28 kc0 ?_
    refine wa_lv (lv' := [(0, .inr (.inr (11, 1))), (1, .inl a1), (2, .inl a2), (3, .inl a3), (4, .inl a4)]) [0, 1, 2, 3, 4] rfl ?_
    exact wa_wid (Nat.le_of_ble_eq_true rfl) (Nat.le_of_ble_eq_true rfl) (k33 _  (by rw [if_pos c35]))
  · refine wa_iload_n X 2 rfl dX11_give_8 rfl ?_
    refine wa_iload_n X 3 rfl dX11_give_9 rfl ?_
    refine wa_callS X (As := [.inl a2, .inl a3]) (f_M_isCell hw) kw_1379 kw_66 kw_1377 kw_1378 nd_X11_isCell rfl rfl (Nat.le_of_ble_eq_true rfl) dX11_give_10 ⟨⟨Nat.le_of_ble_eq_true rfl, Nat.le_of_ble_eq_true rfl⟩, Nat.le_of_ble_eq_true rfl, Nat.le_of_ble_eq_true rfl⟩ (hs_pdk0 ?_) (fun _ _ h => h.elim)
    refine wa_if_eq X (tgt := 28) dX11_give_13 (by decide) (fun c36 => ?_) (fun c36 => ?_)
    · refine wa_iconst X dX11_give_28 kc0 ?_
      refine wa_lv (lv' := [(0, .inr (.inr (11, 1))), (1, .inl a1), (2, .inl a2), (3, .inl a3), (4, .inl a4)]) [0, 1, 2, 3, 4] rfl ?_
      exact wa_wid (Nat.le_of_ble_eq_true rfl) (Nat.le_of_ble_eq_true rfl) (k33 _  (by rw [if_neg c35, if_pos c36]))
    · refine wa_iload X 4 rfl dX11_give_16 ?_
      refine wa_callS X (As := [.inl a4]) (f_M_isOwner hw) kw_1376 kw_66 kw_1374 kw_1375 nd_X11_isOwner rfl rfl (Nat.le_of_ble_eq_true rfl) dX11_give_18 ⟨⟨Nat.le_of_ble_eq_true rfl, Nat.le_of_ble_eq_true rfl⟩, Nat.le_of_ble_eq_true rfl, Nat.le_of_ble_eq_true rfl⟩ (hs_pdk0 ?_) (fun _ _ h => h.elim)
      refine wa_if_eq X (tgt := 28) dX11_give_21 (by decide) (fun c37 => ?_) (fun c37 => ?_)
      · refine wa_iconst X dX11_give_28 kc0 ?_
        refine wa_lv (lv' := [(0, .inr (.inr (11, 1))), (1, .inl a1), (2, .inl a2), (3, .inl a3), (4, .inl a4)]) [0, 1, 2, 3, 4] rfl ?_
        exact wa_wid (Nat.le_of_ble_eq_true rfl) (Nat.le_of_ble_eq_true rfl) (k33 _  (by rw [if_neg c35, if_neg c36, if_pos c37]))
      · refine wa_iconst X dX11_give_24 kc1 ?_
        refine wa_goto X (tgt := 29) dX11_give_25 (by decide) ?_
        refine wa_lv (lv' := [(0, .inr (.inr (11, 1))), (1, .inl a1), (2, .inl a2), (3, .inl a3), (4, .inl a4)]) [0, 1, 2, 3, 4] rfl ?_
        exact wa_wid (Nat.le_of_ble_eq_true rfl) (Nat.le_of_ble_eq_true rfl) (k33 _  (by rw [if_neg c35, if_neg c36, if_neg c37]))
theorem v_M_give {a1 a2 a3 a4 : Int32} {S : hs_S} (hP : P_give a1 a2 a3 a4 S) : vc_M_give a1 a2 a3 a4 S (fun r T => R_give a1 a2 a3 a4 S r T) := by
  obtain ⟨g, hg, eg⟩ := hP
  unfold vc_M_give
  intro x hx
  have hx' : x = bI (okGive a1 a2 a3 a4) := by
    rw [hx]; unfold okGive bI
    by_cases p1 : F_isOwner a1 = 0 <;> by_cases p2 : F_isCell a2 a3 = 0 <;> by_cases p3 : F_isOwner a4 = 0 <;> simp [p1, p2, p3]
  refine ⟨by rw [hx']; exact bI_01 _, fun S3 h3 => ⟨fun q => ?_, fun q => ?_⟩⟩
  · have ok : okGive a1 a2 a3 a4 := Classical.not_not.mp fun w => q (by rw [hx']; exact bI_f w)
    have h3' : S3 = E_asks 1 S := by rw [h3, hx', bI_t ok]
    have eg3 : S3.1 11 1 1 = nI g := by rw [h3]; exact eg
    have hi : 0 ≤ (S3.1 11 1 1).toInt ∧ (S3.1 11 1 1).toInt < 1200 := by rw [eg3]; exact hl_ix (by omega) (by omega)
    refine ⟨⟨g, by omega, eg3⟩, fun w => ?_, fun w S32 h32 => ?_⟩
    · refine ⟨hi, fun S8 h8 => ⟨by rw [h8]; exact hi, fun S10 h10 => ⟨by rw [h10, h8]; exact hi, fun S12 h12 S13 h13 S14 h14 => ?_⟩⟩⟩
      have e14 : S14 = E_give (6 * a2 + a3) a4 S3 := by rw [h14, h13, h12, h10, h8]; rfl
      have g14 : S14.1 11 1 1 = nI (g + 1) := by
        rw [h14, h13, h12, h10, h8]
        show S3.1 11 1 1 + 1 = _
        rw [eg3]; exact nI_1 g
      refine ⟨fun N x y => ∃ k, k ≤ 24 ∧ y = nI k ∧ x = mOC S14 a4 (S14.1 11 1 0) k ∧ N = 24 - k, ⟨24, 0, Nat.zero_le _, rfl, rfl, rfl⟩, ?_⟩
      rintro N x y ⟨k, hk, rfl, rfl, rfl⟩
      refine ⟨fun h => ?_, fun h => ?_⟩
      · have := hl_end (g := 24) (by omega) hk h
        subst this
        refine ⟨fun _ => ⟨fun _ => ⟨by rw [e14, h3'], rfl⟩, fun z => ?_⟩, fun z => absurd ok z⟩
        exact absurd (by rw [← h3']; rw [h3] at w ⊢; exact w) z
      · have hk1 := hl_go (g := 24) (by omega) hk h
        exact ⟨⟨g + 1, by omega, g14⟩, fun z => hl_nx hk1 (if_neg z).symm, fun z => hl_nx hk1 (if_pos z).symm⟩
    · refine ⟨fun _ => ⟨fun z => ?_, fun _ => ⟨by rw [h32, h3'], rfl⟩⟩, fun z => absurd ok z⟩
      exact absurd (by rw [h3']; exact z) w
  · have nok : ¬ okGive a1 a2 a3 a4 := fun w => by rw [hx', bI_t w] at q; exact absurd q (by decide)
    exact ⟨fun w => absurd w nok, fun _ => ⟨by rw [h3, hx', bI_f nok], rfl⟩⟩

