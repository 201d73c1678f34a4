/-- what finding a value reads -/
def mOk (e : Int32) (S : hs_S) : Prop := mWF S e ∧ mWE S e ∧ cN (S.1 11 1 1) 1200 ∧ cN (S.1 11 1 5) 1200 ∧ cN (S.1 11 1 12) 60 ∧ P_lastAt 0 e S ∧ P_bidsAt 0 0 e S
def P_valueAt (a1 a2 : Int32) (S : hs_S) : Prop := (∃ n : Nat, n < 24 ∧ a1 = nI n) ∧ mOk a2 S
def R_valueAt (a1 a2 : Int32) (S : hs_S) (r : Int32) (T : hs_S) : Prop := hs_cl T = hs_cl S ∧ mVal S a2 a1 (T.1 11 1 58) r
def m_M_valueAt (a1 : Int32) (a2 : Int32) (S : hs_S) (Q : Int32 → hs_S → Prop) : Prop := hs_M 5 yX11_valueAt (.code yX11_valueAt cX11_valueAt 5 (some FieldType.int)) [.inr (.inr (11, 1)), .inl a1, .inl a2] S 0 0 (hs_qI Q) hs_nX
def vc_M_valueAt (a1 : Int32) (a2 : Int32) (S : hs_S) (Q : Int32 → hs_S → Prop) : Prop := (∃ I2 : Nat → Int32 → hs_S → Prop, (∃ n7, I2 n7 (0 : Int32) S) ∧ (∀ N3 : Nat, ∀ x1 : Int32, ∀ S4 : hs_S, I2 N3 x1 S4 → (((24 : Int32) ≤ x1 → (∀ S12 : hs_S, S12 = (hs_wI S4 11 1 53 (0 : Int32)) → (∀ S13 : hs_S, S13 = (hs_wI S12 11 1 55 (0 : Int32)) → (∀ S14 : hs_S, S14 = (hs_wI S13 11 1 58 (0 : Int32)) → ((P_starts a1 a2 S14) ∧ (∀ S16 : hs_S, S16 = (E_starts a1 a2 S14) → (∃ I17 : Nat → hs_S → Prop, (∃ n22, I17 n22 S16) ∧ (∀ N18 : Nat, ∀ S19 : hs_S, I17 N18 S19 → (∀ K27 : hs_S → Prop, (∀  (S26 : hs_S), ((¬ (S26.1 11 1 58) = 0 → (Q (0 : Int32) S26)) ∧ ((S26.1 11 1 58) = 0 → ((0 ≤ a1.toInt ∧ a1.toInt < 24) ∧ (Q (S26.1 97 1 a1.toNatClampNeg) S26)))) → K27  S26) → (((S19.1 11 1 53) ≤ 0 → (K27 S19)) ∧ (¬ (S19.1 11 1 53) ≤ 0 → ((¬ (S19.1 11 1 58) = 0 → (K27 S19)) ∧ ((S19.1 11 1 58) = 0 → ((0 ≤ ((S19.1 11 1 53) - (1 : Int32)).toInt ∧ ((S19.1 11 1 53) - (1 : Int32)).toInt < 25) ∧ ((0 ≤ (S19.1 92 1 ((S19.1 11 1 53) - (1 : Int32)).toNatClampNeg).toInt ∧ (S19.1 92 1 ((S19.1 11 1 53) - (1 : Int32)).toNatClampNeg).toInt < 60) ∧ ((¬ (S19.1 90 1 ((S19.1 11 1 53) - (1 : Int32)).toNatClampNeg) = (S19.1 57 1 (S19.1 92 1 ((S19.1 11 1 53) - (1 : Int32)).toNatClampNeg).toNatClampNeg) → ((P_goes ((S19.1 11 1 53) - (1 : Int32)) (((36 : Int32) * (S19.1 92 1 ((S19.1 11 1 53) - (1 : Int32)).toNatClampNeg)) + ((3 : Int32) * (S19.1 90 1 ((S19.1 11 1 53) - (1 : Int32)).toNatClampNeg))) a2 S19) ∧ (∀ S36 : hs_S, S36 = (E_goes ((S19.1 11 1 53) - (1 : Int32)) (((36 : Int32) * (S19.1 92 1 ((S19.1 11 1 53) - (1 : Int32)).toNatClampNeg)) + ((3 : Int32) * (S19.1 90 1 ((S19.1 11 1 53) - (1 : Int32)).toNatClampNeg))) a2 S19) → (∃ q37, q37 < N18 ∧ I17 q37 S36)))) ∧ ((S19.1 90 1 ((S19.1 11 1 53) - (1 : Int32)).toNatClampNeg) = (S19.1 57 1 (S19.1 92 1 ((S19.1 11 1 53) - (1 : Int32)).toNatClampNeg).toNatClampNeg) → ((0 ≤ ((S19.1 11 1 55) - (1 : Int32)).toInt ∧ ((S19.1 11 1 55) - (1 : Int32)).toInt < 320) ∧ ((0 ≤ (S19.1 89 1 ((S19.1 11 1 53) - (1 : Int32)).toNatClampNeg).toInt ∧ (S19.1 89 1 ((S19.1 11 1 53) - (1 : Int32)).toNatClampNeg).toInt < 24) ∧ (∀ S41 : hs_S, S41 = (hs_wI S19 97 1 (S19.1 89 1 ((S19.1 11 1 53) - (1 : Int32)).toNatClampNeg).toNatClampNeg (S19.1 94 1 ((S19.1 11 1 55) - (1 : Int32)).toNatClampNeg)) → ((0 ≤ (S41.1 89 1 ((S19.1 11 1 53) - (1 : Int32)).toNatClampNeg).toInt ∧ (S41.1 89 1 ((S19.1 11 1 53) - (1 : Int32)).toNatClampNeg).toInt < 24) ∧ (∀ S43 : hs_S, S43 = (hs_wI S41 96 1 (S41.1 89 1 ((S19.1 11 1 53) - (1 : Int32)).toNatClampNeg).toNatClampNeg (1 : Int32)) → (∀ S44 : hs_S, S44 = (hs_wI S43 11 1 55 (S43.1 91 1 ((S19.1 11 1 53) - (1 : Int32)).toNatClampNeg)) → (∀ S45 : hs_S, S45 = (hs_wI S44 11 1 53 ((S44.1 11 1 53) - (1 : Int32))) → (∃ q46, q46 < N18 ∧ I17 q46 S45))))))))))))))))))))))))) ∧ (¬ (24 : Int32) ≤ x1 → ((0 ≤ x1.toInt ∧ x1.toInt < 24) ∧ (∀ S49 : hs_S, S49 = (hs_wI S4 96 1 x1.toNatClampNeg (0 : Int32)) → (∃ q50, q50 < N3 ∧ I2 q50 (x1 + 1) S49)))))))
set_option maxRecDepth 100000 in
set_option maxHeartbeats 4000000 in
theorem ok_M_valueAt {a1 : Int32} {a2 : Int32} {S : hs_S} {Q : Int32 → hs_S → Prop} (hw : hs_Wi S) (hv : vc_M_valueAt a1 a2 S Q) : m_M_valueAt a1 a2 S Q := by
  unfold vc_M_valueAt at hv
  refine hs_body (own := RX11) rfl rfl (Nat.le_of_ble_eq_true rfl) (fun Z X E N J0 => ?_)
  show wa Z 0 0 S 0 [(0, .inr (.inr (11, 1))), (1, .inl a1), (2, .inl a2)] []
  refine wa_iconst X dX11_valueAt_0 kc0 ?_
  refine wa_istore_n X (lv' := [(3, .inl (0 : Int32)), (0, .inr (.inr (11, 1))), (1, .inl a1), (2, .inl a2)]) dX11_valueAt_1 rfl (by decide) rfl ?_
  obtain ⟨I2, ⟨n7, i5⟩, b6⟩ := hv
  refine wa_lv (lv' := [(0, .inr (.inr (11, 1))), (1, .inl a1), (2, .inl a2), (3, .inl (0 : Int32))]) [1, 2, 3, 0] rfl ?_
  suffices L8 : ∀ N3 : Nat, ∀ x1 : Int32, ∀ S4 : hs_S, hs_Wi S4 → I2 N3 x1 S4 → wa Z 0 0 S4 2 [(0, .inr (.inr (11, 1))), (1, .inl a1), (2, .inl a2), (3, .inl x1)] [] from L8 _ _ _ hw i5
  clear hw
  clear i5
  intro N3
  induction N3 using Nat.strongRecOn with
  | _ N3 h9 =>
    intro x1 S4 hw j10
    have hv := b6 N3 x1 S4 j10
    refine wa_iload_n X 3 rfl dX11_valueAt_2 rfl ?_
    refine wa_bipush X dX11_valueAt_3 kb24 ?_
    refine wa_icmp_ge X (tgt := 21) dX11_valueAt_5 (by decide) (fun c11 => ?_) (fun c11 => ?_)
    · replace hv := hv.1 c11
      refine wa_aload_n X 0 rfl dX11_valueAt_21 rfl ?_
      refine wa_iconst X dX11_valueAt_22 kc0 ?_
      refine wa_putI X (j := 53) hk_11 hc_11 i_11 tyX11 tyX11_ok nmX11 (by decide) kw_1237 rfl rfl dX11_valueAt_23 hs_1ne ⟨rfl, Or.inl rfl⟩ (hs_eqS fun S12 hS12 => ?_)
      replace hv := hv S12 hS12
      replace hw : hs_Wi S12 := hS12 ▸ hs_Wi_I hw
      refine wa_aload_n X 0 rfl dX11_valueAt_26 rfl ?_
      refine wa_iconst X dX11_valueAt_27 kc0 ?_
      refine wa_putI X (j := 55) hk_11 hc_11 i_11 tyX11 tyX11_ok nmX11 (by decide) kw_1239 rfl rfl dX11_valueAt_28 hs_1ne ⟨rfl, Or.inl rfl⟩ (hs_eqS fun S13 hS13 => ?_)
      replace hv := hv S13 hS13
      replace hw : hs_Wi S13 := hS13 ▸ hs_Wi_I hw
      refine wa_aload_n X 0 rfl dX11_valueAt_31 rfl ?_
      refine wa_iconst X dX11_valueAt_32 kc0 ?_
      refine wa_putI X (j := 58) hk_11 hc_11 i_11 tyX11 tyX11_ok nmX11 (by decide) kw_1242 rfl rfl dX11_valueAt_33 hs_1ne ⟨rfl, Or.inl rfl⟩ (hs_eqS fun S14 hS14 => ?_)
      replace hv := hv S14 hS14
      replace hw : hs_Wi S14 := hS14 ▸ hs_Wi_I hw
      refine wa_aload_n X 0 rfl dX11_valueAt_36 rfl ?_
      refine wa_iload_n X 1 rfl dX11_valueAt_37 rfl ?_
      refine wa_iload_n X 2 rfl dX11_valueAt_38 rfl ?_
      obtain ⟨o15, hv⟩ := hv
      refine wa_callV X (As := [.inl a1, .inl a2]) (f_M_starts hw o15) hk_11 hc_11 rfl kw_1463 kw_66 kw_1460 kw_1462 kw_29 nd_X11_starts rfl rfl (Nat.le_of_ble_eq_true rfl) dX11_valueAt_39 hs_1ne ⟨⟨Nat.le_of_ble_eq_true rfl, Nat.le_of_ble_eq_true rfl⟩, Nat.le_of_ble_eq_true rfl, Nat.le_of_ble_eq_true rfl⟩ (hs_pdk fun S16 hS16 hw => ?_) (fun _ _ h => h.elim)
      replace hv := hv S16 hS16
      obtain ⟨I17, ⟨n22, i20⟩, b21⟩ := hv
      refine wa_lv (lv' := [(0, .inr (.inr (11, 1))), (1, .inl a1), (2, .inl a2)]) [0, 1, 2] rfl ?_
      suffices L23 : ∀ N18 : Nat, ∀ S19 : hs_S, hs_Wi S19 → I17 N18 S19 → wa Z 0 0 S19 42 [(0, .inr (.inr (11, 1))), (1, .inl a1), (2, .inl a2)] [] from L23 _ _ hw i20
      clear hw
      clear i20
      intro N18
      induction N18 using Nat.strongRecOn with
      | _ N18 h24 =>
        intro S19 hw j25
        have hv := b21 N18 S19 j25
        refine wa_aload_n X 0 rfl dX11_valueAt_42 rfl ?_
        refine wa_getI X (j := 53) hk_11 hc_11 i_11 (by decide) kw_1237 rfl dX11_valueAt_43 hs_1ne ?_
        replace hv := hv (fun  S26 => hs_Wi S26 → wa Z 0 0 S26 167 [(0, .inr (.inr (11, 1))), (1, .inl a1)] []) (fun  S26 hv hw => by
          refine wa_aload_n X 0 rfl dX11_valueAt_167 rfl ?_
          refine wa_getI X (j := 58) hk_11 hc_11 i_11 (by decide) kw_1242 rfl dX11_valueAt_168 hs_1ne ?_
          refine wa_if_ne X (tgt := 183) dX11_valueAt_171 (by decide) (fun c28 => ?_) (fun c28 => ?_)
          · replace hv := hv.1 c28
            refine wa_iconst X dX11_valueAt_183 kc0 ?_
            exact wa_ireturn X E dX11_valueAt_184 (Nat.le_of_ble_eq_true rfl) (Nat.le_of_ble_eq_true rfl) (Or.inl rfl) ⟨hw, _, rfl, hv⟩
          · replace hv := hv.2 c28
            refine wa_aload_n X 0 rfl dX11_valueAt_174 rfl ?_
            refine wa_getfw X hw (j := 57) (r := 1) hk_11 hc_11 i_11 (by decide) kw_1241 rfl rfl (by decide) rfl dX11_valueAt_175 hs_1ne ?_
            refine wa_iload_n X 1 rfl dX11_valueAt_178 rfl ?_
            obtain ⟨o29, hv⟩ := hv
            refine wa_iald X hk_97 dX11_valueAt_179 hs_1ne o29 ?_
            refine wa_goto X (tgt := 184) dX11_valueAt_180 (by decide) ?_
            exact wa_ireturn X E dX11_valueAt_184 (Nat.le_of_ble_eq_true rfl) (Nat.le_of_ble_eq_true rfl) (Or.inl rfl) ⟨hw, _, rfl, hv⟩)
        refine wa_if_le X (tgt := 167) dX11_valueAt_46 (by decide) (fun c30 => ?_) (fun c30 => ?_)
        · replace hv := hv.1 c30
          refine wa_lv (lv' := [(0, .inr (.inr (11, 1))), (1, .inl a1)]) [0, 1] rfl ?_
          exact wa_wid (Nat.le_of_ble_eq_true rfl) (Nat.le_of_ble_eq_true rfl) (hv hw)
        · replace hv := hv.2 c30
          refine wa_aload_n X 0 rfl dX11_valueAt_49 rfl ?_
          refine wa_getI X (j := 58) hk_11 hc_11 i_11 (by decide) kw_1242 rfl dX11_valueAt_50 hs_1ne ?_
          refine wa_if_ne X (tgt := 167) dX11_valueAt_53 (by decide) (fun c31 => ?_) (fun c31 => ?_)
          · replace hv := hv.1 c31
            refine wa_lv (lv' := [(0, .inr (.inr (11, 1))), (1, .inl a1)]) [0, 1] rfl ?_
            exact wa_wid (Nat.le_of_ble_eq_true rfl) (Nat.le_of_ble_eq_true rfl) (hv hw)
          · replace hv := hv.2 c31
            refine wa_aload_n X 0 rfl dX11_valueAt_56 rfl ?_
            refine wa_getI X (j := 53) hk_11 hc_11 i_11 (by decide) kw_1237 rfl dX11_valueAt_57 hs_1ne ?_
            refine wa_iconst X dX11_valueAt_60 kc1 ?_
            refine wa_isub X dX11_valueAt_61 ?_
            refine wa_istore_n X (lv' := [(3, .inl ((S19.1 11 1 53) - (1 : Int32))), (0, .inr (.inr (11, 1))), (1, .inl a1), (2, .inl a2)]) dX11_valueAt_62 rfl (by decide) rfl ?_
            refine wa_aload_n X 1 rfl dX11_valueAt_63 rfl ?_
            refine wa_getfw X hw (j := 52) (r := 1) hk_11 hc_11 i_11 (by decide) kw_1236 rfl rfl (by decide) rfl dX11_valueAt_64 hs_1ne ?_
            refine wa_iload_n X 0 rfl dX11_valueAt_67 rfl ?_
            obtain ⟨o32, hv⟩ := hv
            refine wa_iald X hk_92 dX11_valueAt_68 hs_1ne o32 ?_
            refine wa_istore X (lv' := [(4, .inl (S19.1 92 1 ((S19.1 11 1 53) - (1 : Int32)).toNatClampNeg)), (3, .inl ((S19.1 11 1 53) - (1 : Int32))), (0, .inr (.inr (11, 1))), (1, .inl a1), (2, .inl a2)]) dX11_valueAt_69 (by decide) rfl ?_
            refine wa_aload_n X 2 rfl dX11_valueAt_71 rfl ?_
            refine wa_getfw X hw (j := 50) (r := 1) hk_11 hc_11 i_11 (by decide) kw_1234 rfl rfl (by decide) rfl dX11_valueAt_72 hs_1ne ?_
            refine wa_iload_n X 1 rfl dX11_valueAt_75 rfl ?_
            refine wa_iald X hk_90 dX11_valueAt_76 hs_1ne o32 ?_
            refine wa_aload_n X 2 rfl dX11_valueAt_77 rfl ?_
            refine wa_getfw X hw (j := 17) (r := 1) hk_11 hc_11 i_11 (by decide) kw_1201 rfl rfl (by decide) rfl dX11_valueAt_78 hs_1ne ?_
            refine wa_iload X 0 rfl dX11_valueAt_81 ?_
            obtain ⟨o33, hv⟩ := hv
            refine wa_iald X hk_57 dX11_valueAt_83 hs_1ne o33 ?_
            refine wa_icmp_ne X (tgt := 144) dX11_valueAt_84 (by decide) (fun c34 => ?_) (fun c34 => ?_)
            · replace hv := hv.1 c34
              refine wa_aload_n X 2 rfl dX11_valueAt_144 rfl ?_
              refine wa_iload_n X 1 rfl dX11_valueAt_145 rfl ?_
              refine wa_bipush X dX11_valueAt_146 kb36 ?_
              refine wa_iload X 0 rfl dX11_valueAt_148 ?_
              refine wa_imul X dX11_valueAt_150 ?_
              refine wa_iconst X dX11_valueAt_151 kc3 ?_
              refine wa_aload_n X 2 rfl dX11_valueAt_152 rfl ?_
              refine wa_getfw X hw (j := 50) (r := 1) hk_11 hc_11 i_11 (by decide) kw_1234 rfl rfl (by decide) rfl dX11_valueAt_153 hs_1ne ?_
              refine wa_iload_n X 1 rfl dX11_valueAt_156 rfl ?_
              refine wa_iald X hk_90 dX11_valueAt_157 hs_1ne o32 ?_
              refine wa_imul X dX11_valueAt_158 ?_
              refine wa_iadd X dX11_valueAt_159 ?_
              refine wa_iload_n X 4 rfl dX11_valueAt_160 rfl ?_
              obtain ⟨o35, hv⟩ := hv
              refine wa_callV X (As := [.inl ((S19.1 11 1 53) - (1 : Int32)), .inl (((36 : Int32) * (S19.1 92 1 ((S19.1 11 1 53) - (1 : Int32)).toNatClampNeg)) + ((3 : Int32) * (S19.1 90 1 ((S19.1 11 1 53) - (1 : Int32)).toNatClampNeg))), .inl a2]) (f_M_goes hw o35) hk_11 hc_11 rfl kw_1475 kw_66 kw_1472 kw_1474 kw_32 nd_X11_goes rfl rfl (Nat.le_of_ble_eq_true rfl) dX11_valueAt_161 hs_1ne ⟨⟨Nat.le_of_ble_eq_true rfl, Nat.le_of_ble_eq_true rfl⟩, Nat.le_of_ble_eq_true rfl, Nat.le_of_ble_eq_true rfl⟩ (hs_pdk fun S36 hS36 hw => ?_) (fun _ _ h => h.elim)
              replace hv := hv S36 hS36
              refine wa_goto X (tgt := 42) dX11_valueAt_164 (by decide) ?_
              obtain ⟨q37, p38, hv⟩ := hv
              refine wa_lv (lv' := [(0, .inr (.inr (11, 1))), (1, .inl a1), (2, .inl a2)]) [2, 3, 4] rfl ?_
              exact h24 q37 p38 _ hw hv
            · replace hv := hv.2 c34
              refine wa_aload_n X 2 rfl dX11_valueAt_87 rfl ?_
              refine wa_getfw X hw (j := 57) (r := 1) hk_11 hc_11 i_11 (by decide) kw_1241 rfl rfl (by decide) rfl dX11_valueAt_88 hs_1ne ?_
              refine wa_aload_n X 2 rfl dX11_valueAt_91 rfl ?_
              refine wa_getfw X hw (j := 49) (r := 1) hk_11 hc_11 i_11 (by decide) kw_1233 rfl rfl (by decide) rfl dX11_valueAt_92 hs_1ne ?_
              refine wa_iload_n X 1 rfl dX11_valueAt_95 rfl ?_
              refine wa_iald X hk_89 dX11_valueAt_96 hs_1ne o32 ?_
              refine wa_aload_n X 2 rfl dX11_valueAt_97 rfl ?_
              refine wa_getfw X hw (j := 54) (r := 1) hk_11 hc_11 i_11 (by decide) kw_1238 rfl rfl (by decide) rfl dX11_valueAt_98 hs_1ne ?_
              refine wa_aload_n X 2 rfl dX11_valueAt_101 rfl ?_
              refine wa_getI X (j := 55) hk_11 hc_11 i_11 (by decide) kw_1239 rfl dX11_valueAt_102 hs_1ne ?_
              refine wa_iconst X dX11_valueAt_105 kc1 ?_
              refine wa_isub X dX11_valueAt_106 ?_
              obtain ⟨o39, hv⟩ := hv
              refine wa_iald X hk_94 dX11_valueAt_107 hs_1ne o39 ?_
              obtain ⟨o40, hv⟩ := hv
              refine wa_iast X hk_97 dX11_valueAt_108 hs_1ne o40 (hs_eqS fun S41 hS41 => ?_)
              replace hv := hv S41 hS41
              replace hw : hs_Wi S41 := hS41 ▸ hs_Wi_I hw
              refine wa_aload_n X 2 rfl dX11_valueAt_109 rfl ?_
              refine wa_getfw X hw (j := 56) (r := 1) hk_11 hc_11 i_11 (by decide) kw_1240 rfl rfl (by decide) rfl dX11_valueAt_110 hs_1ne ?_
              refine wa_aload_n X 2 rfl dX11_valueAt_113 rfl ?_
              refine wa_getfw X hw (j := 49) (r := 1) hk_11 hc_11 i_11 (by decide) kw_1233 rfl rfl (by decide) rfl dX11_valueAt_114 hs_1ne ?_
              refine wa_iload_n X 1 rfl dX11_valueAt_117 rfl ?_
              refine wa_iald X hk_89 dX11_valueAt_118 hs_1ne o32 ?_
              refine wa_iconst X dX11_valueAt_119 kc1 ?_
              obtain ⟨o42, hv⟩ := hv
              refine wa_bast X hk_96 dX11_valueAt_120 hs_1ne o42 (Or.inr rfl) (hs_eqS fun S43 hS43 => ?_)
              replace hv := hv S43 hS43
              replace hw : hs_Wi S43 := hS43 ▸ hs_Wi_I hw
              refine wa_aload_n X 2 rfl dX11_valueAt_121 rfl ?_
              refine wa_aload_n X 2 rfl dX11_valueAt_122 rfl ?_
              refine wa_getfw X hw (j := 51) (r := 1) hk_11 hc_11 i_11 (by decide) kw_1235 rfl rfl (by decide) rfl dX11_valueAt_123 hs_1ne ?_
              refine wa_iload_n X 1 rfl dX11_valueAt_126 rfl ?_
              refine wa_iald X hk_91 dX11_valueAt_127 hs_1ne o32 ?_
              refine wa_putI X (j := 55) hk_11 hc_11 i_11 tyX11 tyX11_ok nmX11 (by decide) kw_1239 rfl rfl dX11_valueAt_128 hs_1ne ⟨rfl, Or.inl rfl⟩ (hs_eqS fun S44 hS44 => ?_)
              replace hv := hv S44 hS44
              replace hw : hs_Wi S44 := hS44 ▸ hs_Wi_I hw
              refine wa_aload_n X 2 rfl dX11_valueAt_131 rfl ?_
              refine wa_dup X dX11_valueAt_132 rfl ?_
              refine wa_getI X (j := 53) hk_11 hc_11 i_11 (by decide) kw_1237 rfl dX11_valueAt_133 hs_1ne ?_
              refine wa_iconst X dX11_valueAt_136 kc1 ?_
              refine wa_isub X dX11_valueAt_137 ?_
              refine wa_putI X (j := 53) hk_11 hc_11 i_11 tyX11 tyX11_ok nmX11 (by decide) kw_1237 rfl rfl dX11_valueAt_138 hs_1ne ⟨rfl, Or.inl rfl⟩ (hs_eqS fun S45 hS45 => ?_)
              replace hv := hv S45 hS45
              replace hw : hs_Wi S45 := hS45 ▸ hs_Wi_I hw
              refine wa_goto X (tgt := 164) dX11_valueAt_141 (by decide) ?_
              refine wa_goto X (tgt := 42) dX11_valueAt_164 (by decide) ?_
              obtain ⟨q46, p47, hv⟩ := hv
              refine wa_lv (lv' := [(0, .inr (.inr (11, 1))), (1, .inl a1), (2, .inl a2)]) [2, 3, 4] rfl ?_
              exact h24 q46 p47 _ hw hv
    · replace hv := hv.2 c11
      refine wa_aload_n X 0 rfl dX11_valueAt_8 rfl ?_
      refine wa_getfw X hw (j := 56) (r := 1) hk_11 hc_11 i_11 (by decide) kw_1240 rfl rfl (by decide) rfl dX11_valueAt_9 hs_1ne ?_
      refine wa_iload_n X 3 rfl dX11_valueAt_12 rfl ?_
      refine wa_iconst X dX11_valueAt_13 kc0 ?_
      obtain ⟨o48, hv⟩ := hv
      refine wa_bast X hk_96 dX11_valueAt_14 hs_1ne o48 (Or.inl rfl) (hs_eqS fun S49 hS49 => ?_)
      replace hv := hv S49 hS49
      replace hw : hs_Wi S49 := hS49 ▸ hs_Wi_I hw
      refine wa_iinc X (v := (x1 + 1)) (lv' := [(3, .inl (x1 + 1)), (0, .inr (.inr (11, 1))), (1, .inl a1), (2, .inl a2)]) 3 rfl dX11_valueAt_15 rfl (by decide) rfl ?_
      refine wa_goto X (tgt := 2) dX11_valueAt_18 (by decide) ?_
      obtain ⟨q50, p51, hv⟩ := hv
      refine wa_lv (lv' := [(0, .inr (.inr (11, 1))), (1, .inl a1), (2, .inl a2), (3, .inl (x1 + 1))]) [1, 2, 3, 0] rfl ?_
      exact h9 q50 p51 _ _ hw hv
theorem hs_u3I {S : hs_S} {t i p k : Nat} {x : Int32} : (hs_wI S t i p x).1 t i k = if k = p then x else S.1 t i k := by
  show (if t = t ∧ i = i ∧ k = p then x else S.1 t i k) = _
  by_cases w : k = p
  · rw [if_pos ⟨rfl, rfl, w⟩, if_pos w]
  · rw [if_neg fun z => w z.2.2, if_neg w]
theorem mBid_fr {S T : hs_S} {e : Int32} (h : hs_cl T = hs_cl S) (q : P_bidsAt 0 0 e S) : P_bidsAt 0 0 e T := by
  obtain ⟨g, hg, eg, hb⟩ := q
  refine ⟨g, hg, (hs_clI h rfl).trans eg, fun b hb2 => ?_⟩
  have := hb b hb2
  unfold P_isThere at this ⊢
  rw [hs_clI h rfl]; exact this
theorem cN_fr {S T : hs_S} {p n : Nat} (h : hs_cl T = hs_cl S) (hp : hs_scr 11 p = false) (q : cN (S.1 11 1 p) n) : cN (T.1 11 1 p) n := by
  rw [hs_clI h hp]; exact q
theorem sz_eq {S T : hs_S} {e root : Int32} {f : Frm} {r : List Frm} (hw : mWF S e) (hE : mWE S e) (h : MI S e root (f :: r) T) : ∃ k : Nat, k < 60 ∧ T.1 92 1 r.length = nI k ∧ F_editAt f.1 e S = nI k ∧ T.1 57 1 k = nI (mSz S f.1 e) ∧ mSz S f.1 e ≤ 12 := by
  have hg := h.2.1.1 f (List.mem_cons_self ..)
  obtain ⟨n, hn, hfn, hfc⟩ := Gd_cell hg
  obtain ⟨w1, ⟨k, hk, ek⟩, _⟩ := hw n hn (hfn ▸ hg.1.2.1)
  rw [← hfn] at w1 ek
  have h1 : ¬ F_editAt f.1 e S = -1 := by
    rw [ek]
    intro q
    have a : (nI k).toInt = (-1 : Int32).toInt := congrArg Int32.toInt q
    have b : (nI k).toInt = (k : Int) := nI_toInt (by omega)
    have c : (-1 : Int32).toInt = -1 := rfl
    omega
  refine ⟨k, hk, h.1.2.2.2.1.2.2.2.trans ek, ek, ?_, w1⟩
  rw [hs_clI h.1.1 rfl]
  rcases hE n hn with z | ⟨k', hk', z, ⟨g, hg', eg⟩⟩
  · rw [← hfn] at z; exact absurd z h1
  · rw [← hfn] at z
    have hkk : k = k' := (hl_inj (by omega) (by omega)).mp (ek.symm.trans z)
    subst hkk
    unfold mSz
    rw [if_neg h1, ek, hl_cl (by omega), eg, hl_cl (by omega)]
def lpI (S : hs_S) (e root : Int32) (N : Nat) (T : hs_S) : Prop := (T.1 11 1 58 = 0 ∧ ∃ fs, MI S e root fs T ∧ N = mN T fs + 1) ∨ (T.1 11 1 58 ≠ 0 ∧ hs_cl T = hs_cl S ∧ mVal S e root (T.1 11 1 58) 0 ∧ N = 0)
set_option maxHeartbeats 2000000 in
theorem v_M_valueAt {a1 a2 : Int32} {S : hs_S} (hP : P_valueAt a1 a2 S) : vc_M_valueAt a1 a2 S (fun r T => R_valueAt a1 a2 S r T) := by
  obtain ⟨⟨n, hn, en⟩, hw, hE, hgi, hle, hed, hla, hbi⟩ := hP
  have hcell : 0 ≤ a1.toInt ∧ a1.toInt < 24 := by rw [en]; exact hl_ix (by omega) (by omega)
  have hcn : a1.toNatClampNeg = n := by rw [en]; exact cl24 hn
  unfold vc_M_valueAt
  refine ⟨fun N x T => ∃ k, k ≤ 24 ∧ x = nI k ∧ (hs_cl T = hs_cl S ∧ ∀ j, j < k → T.1 96 1 j = 0) ∧ N = 24 - k, ⟨24, 0, Nat.zero_le _, rfl, ⟨rfl, fun j hj => absurd hj (by omega)⟩, rfl⟩, ?_⟩
  rintro N x T ⟨k, hk, rfl, ⟨hT, h0⟩, rfl⟩
  refine ⟨fun h => ?_, fun h => ?_⟩
  · have := hl_end (g := 24) (by omega) hk h
    subst this
    intro S1 h1 S2 h2 S3 h3
    have hc3 : hs_cl S3 = hs_cl S := by rw [h3, hs_cl_I rfl, h2, hs_cl_I rfl, h1, hs_cl_I rfl, hT]
    have h96 : ∀ j, j < 24 → S3.1 96 1 j = 0 := fun j hj => by rw [h3, h2, h1]; exact h0 j hj
    have h53 : S3.1 11 1 53 = 0 := by rw [h3, h2, h1]; rfl
    have h55 : S3.1 11 1 55 = 0 := by rw [h3, h2]; rfl
    have h58 : S3.1 11 1 58 = 0 := by rw [h3]; rfl
    refine ⟨⟨cN_fr hc3 rfl hed, ⟨0, by omega, h53⟩, hcell⟩, fun S4 h4 => ?_⟩
    obtain ⟨s1, fs, s2, s3⟩ := starts_ok (S := S) (T := S3) (root := a1) (fs := []) hE (Or.inr ⟨rfl, en, hc3, h53, h55, h96⟩) hn (fun f hf => nomatch hf) (h96 n hn) (fun f r q => nomatch q)
    rw [← en, ← h4] at s1 s2 s3
    refine ⟨lpI S a2 a1, ⟨mN S4 fs + 1, Or.inl ⟨s1.trans h58, fs, s2, rfl⟩⟩, fun N T hI => ?_⟩
    intro K hK
    rcases hI with ⟨i1, fs, i2, rfl⟩ | ⟨i1, i2, i3, rfl⟩
    · cases fs with
      | nil =>
        have e53 : T.1 11 1 53 = 0 := i2.1.2.1
        refine ⟨fun _ => hK _ ⟨fun q => absurd i1 q, fun _ => ⟨hcell, ?_⟩⟩, fun q => absurd (by rw [e53]; decide) q⟩
        have hf := i2.2.2.2.2 rfl
        rw [hcn] at hf ⊢
        obtain ⟨⟨m, hm⟩, _⟩ := i2.2.2.2.1 n hn hf
        refine ⟨i2.1.1, Or.inl ⟨m, ?_⟩⟩
        rw [i1, en]; exact hm
      | cons f r =>
        have hlen := MI_len i2
        have hlen2 : (f :: r).length = r.length + 1 := rfl
        have e53 : T.1 11 1 53 - 1 = nI r.length := by
          rw [i2.1.2.1, nI_s1 (by omega) (by omega)]; congr 1
        have hd : (nI r.length).toNatClampNeg = r.length := hl_cl (by omega)
        have hg := i2.2.1.1 f (List.mem_cons_self ..)
        obtain ⟨m, hm, hfm, hfc⟩ := Gd_cell hg
        obtain ⟨k, hk, e92, eed, e57, hsz⟩ := sz_eq hw hE i2
        have e90 : T.1 90 1 r.length = nI f.2.1 := i2.1.2.2.2.1.2.1
        have e89 : T.1 89 1 r.length = f.1 := i2.1.2.2.2.1.1
        have e91 : T.1 91 1 r.length = nI (tot r) := i2.1.2.2.2.1.2.2.1
        have hle12 := (Gd_le hw hg)
        have hkc : (nI k).toNatClampNeg = k := hl_cl (by omega)
        refine ⟨fun q => ?_, fun _ => ⟨fun q => absurd i1 q, fun _ => ?_⟩⟩
        · rw [i2.1.2.1] at q
          have := (hl_le (a := (f :: r).length) (b := 0) (by omega) (by omega)).mp q
          omega
        · rw [e53, hd, e92, hkc, e90, e57, e89]
          have heq : nI f.2.1 = nI (mSz S f.1 a2) ↔ f.2.1 = mSz S f.1 a2 := hl_inj (by omega) (by omega)
          have hwi : (36 : Int32) * nI k + 3 * nI f.2.1 = mWi S f.1 a2 f.2.1 := by
            unfold mWi
            rw [eed, hkc, show (36 : Int32) * nI k = nI (36 * k) from pk_mul 36 k, show (3 : Int32) * nI f.2.1 = nI (3 * f.2.1) from pk_mul 3 f.2.1]
            exact nI_addI (by omega)
          refine ⟨hl_ix (by omega) (by omega), hl_ix (by omega) (by omega), fun q => ?_, fun q => ?_⟩
          · have ha : f.2.1 ≠ mSz S f.1 a2 := fun z => q (heq.mpr z)
            have hlt : f.2.1 < mSz S (nI m) a2 := by rw [← hfm]; exact Nat.lt_of_le_of_ne hg.1.2.2.1 ha
            obtain ⟨_, _, _, w4⟩ := hw m hm (hfm ▸ hg.1.2.1)
            obtain ⟨w5, w6⟩ := w4 f.2.1 hlt
            rw [← hfm] at w5 w6
            have h59 : ∀ x, T.1 59 1 x = S.1 59 1 x := fun x => hs_clI i2.1.1 rfl
            have htot := tot_le hw (f :: r) i2.2.1.1
            have htot2 : tot (f :: r) = f.2.2.length + tot r := rfl
            refine ⟨?_, fun S5 h5 => ?_⟩
            · rw [hwi]
              refine ⟨⟨r.length, by omega, rfl⟩, ⟨36 * k + 3 * f.2.1, by omega, ?_⟩, cN_fr i2.1.1 rfl hgi, cN_fr i2.1.1 rfl hle, cN_fr i2.1.1 rfl hed, ⟨(f :: r).length, hlen, i2.1.2.1⟩, cN_fr i2.1.1 rfl hla, mBid_fr i2.1.1 hbi, ⟨tot (f :: r), by omega, i2.1.2.2.1⟩, fun z => ?_, fun z => ?_⟩
              · unfold mWi
                rw [eed, hkc]
              · rw [h59] at z
                obtain ⟨m', hm', z2⟩ := w6 z
                have z3 : mGc (mWi S f.1 a2 f.2.1) T = nI m' := by
                  show 6 * T.1 59 1 _ + T.1 59 1 _ = _
                  rw [h59, h59]; exact z2
                rw [z3]; exact hl_ix (by omega) (by omega)
              · rw [h59] at z ⊢
                have h8' : ¬ S.1 59 1 (mWi S f.1 a2 f.2.1).toNatClampNeg < 8 := by rw [i32_lt]; rw [i32_le] at z; omega
                have htk : tkN (mWh S f.1 a2 f.2.1) = if mWh S f.1 a2 f.2.1 = 14 then 3 else 2 := by unfold tkN; rw [if_neg h8']
                rw [htk, ← hg.1.2.2.2.1] at w5
                refine ⟨tot (f :: r), ?_, by omega, fun z3 => ?_, i2.1.2.2.1⟩
                · by_cases z4 : mWh S f.1 a2 f.2.1 = 14
                  · rw [if_pos z4] at w5; omega
                  · rw [if_neg z4] at w5; omega
                · rw [if_pos z3] at w5; omega
            · rw [hwi] at h5
              have := goes_ok hw hE i2 i1 ha
              rw [← h5] at this
              rcases this with ⟨t1, fs', t2, t3⟩ | ⟨t1, t2, t3⟩
              · exact ⟨mN S5 fs' + 1, by omega, Or.inl ⟨t1, fs', t2, rfl⟩⟩
              · exact ⟨0, by omega, Or.inr ⟨t1, t2, t3, rfl⟩⟩
          · have ha : f.2.1 = mSz S f.1 a2 := heq.mp q
            obtain ⟨_, _, w3, _⟩ := hw m hm (hfm ▸ hg.1.2.1)
            rw [← hfm, ← ha, ← hg.1.2.2.2.1] at w3
            match hp : f.2.2, w3 with
            | [v], _ =>
              have htot2 : tot (f :: r) = 1 + tot r := by show f.2.2.length + tot r = _; rw [hp]; rfl
              have htot := tot_le hw (f :: r) i2.2.1.1
              have e55 : T.1 11 1 55 - 1 = nI (tot r) := by
                rw [i2.1.2.2.1, nI_s1 (by omega) (by omega)]; congr 1; omega
              have e94 : T.1 94 1 (tot r) = v := by
                have := i2.1.2.2.2.2.1
                rw [hp] at this
                exact this.1
              have hfx : 0 ≤ f.1.toInt ∧ f.1.toInt < 24 := by rw [hfm]; exact hl_ix (by omega) (by omega)
              rw [e55]
              refine ⟨hl_ix (by omega) (by omega), hfx, fun S5 h5 => ?_⟩
              have e89' : S5.1 89 1 r.length = f.1 := by rw [h5]; exact e89
              rw [e89']
              refine ⟨hfx, fun S6 h6 S7 h7 S8 h8 => ?_⟩
              rw [hl_cl (by omega), e94] at h5
              have hd2 := MI_done (T' := S8) hw i2 ha ?_ ?_ ?_ ?_ ?_ ?_
              · refine ⟨mN S8 r + 1, by omega, Or.inl ⟨?_, r, hd2.1, rfl⟩⟩
                rw [h8, h7, h6, h5]; exact i1
              · rw [h8, hs_cl_I rfl, h7, hs_cl_I rfl, h6, hs_cl_I rfl, h5, hs_cl_I rfl]
              · rw [h8, h7, h6, h5]; exact e53
              · rw [h8, h7, h6, h5]; exact e91
              · rw [h8, h7, h6, h5]; exact ⟨rfl, rfl, rfl, rfl, rfl⟩
              · intro j
                rw [h8, h7, h6]
                have h5' : S5.1 96 = T.1 96 := by rw [h5]; rfl
                refine (hs_u3I (S := S5)).trans ?_
                rw [h5']
              · intro j
                rw [h8, h7, h6, h5]
                refine (hs_u3I (S := T)).trans ?_
                rw [hp]; rfl
    · exact ⟨fun _ => hK _ ⟨fun _ => ⟨i2, i3⟩, fun q => absurd q i1⟩, fun _ => ⟨fun _ => hK _ ⟨fun _ => ⟨i2, i3⟩, fun q => absurd q i1⟩, fun q => absurd q i1⟩⟩
  · have hk1 := hl_go (g := 24) (by omega) hk h
    refine ⟨hl_ix (by omega) (by omega), fun S1 h1 => ?_⟩
    refine hl_nx hk1 ⟨by rw [h1, hs_cl_I rfl]; exact hT, fun j hj => ?_⟩
    rw [h1, hl_cl (by omega)]
    refine (hs_u3I (S := T)).trans ?_
    by_cases w : j = k
    · rw [if_pos w]
    · rw [if_neg w]; exact h0 j (by omega)

