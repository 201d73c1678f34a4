def mLC (S : hs_S) (o col e : Int32) (f : Nat) : Nat → Int32
  | 0 => 0
  | j + 1 => if F_ownerAt (6 * col + nI (f + j)) e S = o then mLC S o col e f j + 1 else mLC S o col e f j + 0
abbrev okLet (a1 a2 a3 a4 a5 : Int32) : Prop := ¬ F_isOwner a1 = 0 ∧ ¬ F_isOwner a2 = 0 ∧ ¬ F_isCell a3 a4 = 0 ∧ ¬ F_isCell a3 a5 = 0
def E_let (a1 a2 a3 a4 a5 a6 : Int32) (S : hs_S) : hs_S := hs_wI (hs_wI (hs_wI (hs_wI (hs_wI (hs_wI S 46 1 (S.1 11 1 5).toNatClampNeg (S.1 11 1 0)) 47 1 (S.1 11 1 5).toNatClampNeg a1) 48 1 (S.1 11 1 5).toNatClampNeg a2) 49 1 (S.1 11 1 5).toNatClampNeg (((a3 + 4 * a4) + 32 * a5) + (if a6 = 0 then 0 else 256))) 11 1 5 (S.1 11 1 5 + 1)) 11 1 0 (S.1 11 1 0 + 1)
def P_let (a1 a2 a3 a4 a5 a6 : Int32) (S : hs_S) : Prop := cN (S.1 11 1 1) 1200 ∧ cN (S.1 11 1 5) 1199
def R_let (a1 a2 a3 a4 a5 a6 : Int32) (S : hs_S) (r : Int32) (T : hs_S) : Prop :=
  (okLet a1 a2 a3 a4 a5 → (a1 = a2 ∨ ¬ a4 ≤ a5 → T = E_fails 2 (E_asks 1 S) ∧ r = 0) ∧ (¬ a1 = a2 ∧ a4 ≤ a5 → T = E_let a1 a2 a3 a4 a5 a6 (E_asks 1 S) ∧ ∀ f t : Nat, f < 6 → t < 6 → a4 = nI f → a5 = nI t → r = mLC (E_asks 1 S) a1 a3 (S.1 11 1 0) f (t + 1 - f))) ∧
  (¬ okLet a1 a2 a3 a4 a5 → T = E_asks 0 S ∧ r = 0)
def m_M_let (a1 : Int32) (a2 : Int32) (a3 : Int32) (a4 : Int32) (a5 : Int32) (a6 : Int32) (S : hs_S) (Q : Int32 → hs_S → Prop) : Prop := hs_M 2 yX11_let (.code yX11_let cX11_let 9 (some FieldType.int)) [.inr (.inr (11, 1)), .inl a1, .inl a2, .inl a3, .inl a4, .inl a5, .inl a6] S 0 0 (hs_qI Q) hs_nX
def vc_M_let (a1 : Int32) (a2 : Int32) (a3 : Int32) (a4 : Int32) (a5 : Int32) (a6 : Int32) (S : hs_S) (Q : Int32 → hs_S → Prop) : Prop := (∀ x1 : Int32, x1 = (if (F_isOwner a1) = 0 then (0 : Int32) else (if (F_isOwner a2) = 0 then (0 : Int32) else (if (F_isCell a3 a4) = 0 then (0 : Int32) else (if (F_isCell a3 a5) = 0 then (0 : Int32) else (1 : Int32))))) → ((P_asks x1 S) ∧ (∀ S3 : hs_S, S3 = (E_asks x1 S) → ((¬ x1 = 0 → ((a1 = a2 → (∀ S6 : hs_S, S6 = (E_fails (2 : Int32) S3) → (Q (0 : Int32) S6))) ∧ (¬ a1 = a2 → ((a4 ≤ a5 → (∃ I10 : Nat → Int32 → Int32 → Prop, (∃ n14, I10 n14 (0 : Int32) a4) ∧ (∀ N11 : Nat, ∀ x8 : Int32, ∀ x9 : Int32, I10 N11 x8 x9 → ((a5 < x9 → ((0 ≤ (S3.1 11 1 5).toInt ∧ (S3.1 11 1 5).toInt < 1200) ∧ (∀ S20 : hs_S, S20 = (hs_wI S3 46 1 (S3.1 11 1 5).toNatClampNeg (S3.1 11 1 0)) → ((0 ≤ (S20.1 11 1 5).toInt ∧ (S20.1 11 1 5).toInt < 1200) ∧ (∀ S22 : hs_S, S22 = (hs_wI S20 47 1 (S20.1 11 1 5).toNatClampNeg a1) → ((0 ≤ (S22.1 11 1 5).toInt ∧ (S22.1 11 1 5).toInt < 1200) ∧ (∀ S24 : hs_S, S24 = (hs_wI S22 48 1 (S22.1 11 1 5).toNatClampNeg a2) → (∀ x25 : Int32, x25 = (if a6 = 0 then (0 : Int32) else (256 : Int32)) → ((0 ≤ (S24.1 11 1 5).toInt ∧ (S24.1 11 1 5).toInt < 1200) ∧ (∀ S27 : hs_S, S27 = (hs_wI S24 49 1 (S24.1 11 1 5).toNatClampNeg (((a3 + ((4 : Int32) * a4)) + ((32 : Int32) * a5)) + x25)) → (∀ S28 : hs_S, S28 = (hs_wI S27 11 1 5 ((S27.1 11 1 5) + (1 : Int32))) → (∀ S29 : hs_S, S29 = (E_act x8 S28) → (Q x8 S29))))))))))))) ∧ (¬ a5 < x9 → ((P_ownerAt (((6 : Int32) * a3) + x9) (S3.1 11 1 0) S3) ∧ ((¬ (F_ownerAt (((6 : Int32) * a3) + x9) (S3.1 11 1 0) S3) = a1 → (∃ q35, q35 < N11 ∧ I10 q35 (x8 + (0 : Int32)) (x9 + 1))) ∧ ((F_ownerAt (((6 : Int32) * a3) + x9) (S3.1 11 1 0) S3) = a1 → (∃ q37, q37 < N11 ∧ I10 q37 (x8 + (1 : Int32)) (x9 + 1)))))))))) ∧ (¬ a4 ≤ a5 → (∀ S39 : hs_S, S39 = (E_fails (2 : Int32) S3) → (Q (0 : Int32) S39))))))) ∧ (x1 = 0 → (Q (0 : Int32) S3))))))
set_option maxRecDepth 100000 in
set_option maxHeartbeats 4000000 in
theorem ok_M_let {a1 : Int32} {a2 : Int32} {a3 : Int32} {a4 : Int32} {a5 : Int32} {a6 : Int32} {S : hs_S} {Q : Int32 → hs_S → Prop} (hw : hs_Wi S) (hv : vc_M_let a1 a2 a3 a4 a5 a6 S Q) : m_M_let a1 a2 a3 a4 a5 a6 S Q := by
  unfold vc_M_let at hv
  refine hs_body (own := RX11) rfl rfl (Nat.le_of_ble_eq_true rfl) (fun Z X E N J0 => ?_)
  show wa Z 0 0 S 0 [(0, .inr (.inr (11, 1))), (1, .inl a1), (2, .inl a2), (3, .inl a3), (4, .inl a4), (5, .inl a5), (6, .inl a6)] []
  refine wa_aload_n X 0 rfl dX11_let_0 rfl ?_
  refine wa_iload_n X 1 rfl dX11_let_1 rfl ?_
  refine wa_callS X (As := [.inl a1]) (f_M_isOwner hw) kw_1376 kw_66 kw_1374 kw_1375 nd_X11_isOwner rfl rfl (Nat.le_of_ble_eq_true rfl) dX11_let_2 ⟨⟨Nat.le_of_ble_eq_true rfl, Nat.le_of_ble_eq_true rfl⟩, Nat.le_of_ble_eq_true rfl, Nat.le_of_ble_eq_true rfl⟩ (hs_pdk0 ?_) (fun _ _ h => h.elim)
  have k40 : ∀ (x1 : Int32), x1 = (if (F_isOwner a1) = 0 then (0 : Int32) else (if (F_isOwner a2) = 0 then (0 : Int32) else (if (F_isCell a3 a4) = 0 then (0 : Int32) else (if (F_isCell a3 a5) = 0 then (0 : Int32) else (1 : Int32))))) → wa Z 0 0 S 38 [(0, .inr (.inr (11, 1))), (1, .inl a1), (2, .inl a2), (3, .inl a3), (4, .inl a4), (5, .inl a5), (6, .inl a6)] [.inl x1, .inr (.inr (11, 1))] := by
    intro x1 hE
    replace hv := hv _ hE
    obtain ⟨o2, hv⟩ := hv
    refine wa_callV X (As := [.inl x1]) (f_M_asks hw o2) hk_11 hc_11 rfl kw_1383 kw_66 kw_1380 kw_1382 kw_20 nd_X11_asks rfl rfl (Nat.le_of_ble_eq_true rfl) dX11_let_38 hs_1ne ⟨⟨Nat.le_of_ble_eq_true rfl, Nat.le_of_ble_eq_true rfl⟩, Nat.le_of_ble_eq_true rfl, Nat.le_of_ble_eq_true rfl⟩ (hs_pdk fun S3 hS3 hw => ?_) (fun _ _ h => h.elim)
    replace hv := hv S3 hS3
    refine wa_if_ne X (tgt := 46) dX11_let_41 (by decide) (fun c4 => ?_) (fun c4 => ?_)
    · replace hv := hv.1 c4
      refine wa_iload_n X 1 rfl dX11_let_46 rfl ?_
      refine wa_iload_n X 2 rfl dX11_let_47 rfl ?_
      refine wa_icmp_eq X (tgt := 58) dX11_let_48 (by decide) (fun c5 => ?_) (fun c5 => ?_)
      · replace hv := hv.1 c5
        refine wa_aload_n X 0 rfl dX11_let_58 rfl ?_
        refine wa_iconst X dX11_let_59 kc2 ?_
        refine wa_callV X (As := [.inl (2 : Int32)]) (f_M_fails hw) hk_11 hc_11 rfl kw_1391 kw_66 kw_1388 kw_1390 kw_22 nd_X11_fails rfl rfl (Nat.le_of_ble_eq_true rfl) dX11_let_60 hs_1ne ⟨⟨Nat.le_of_ble_eq_true rfl, Nat.le_of_ble_eq_true rfl⟩, Nat.le_of_ble_eq_true rfl, Nat.le_of_ble_eq_true rfl⟩ (hs_pdk fun S6 hS6 hw => ?_) (fun _ _ h => h.elim)
        replace hv := hv S6 hS6
        exact wa_ireturn X E dX11_let_63 (Nat.le_of_ble_eq_true rfl) (Nat.le_of_ble_eq_true rfl) (Or.inl rfl) ⟨hw, _, rfl, hv⟩
      · replace hv := hv.2 c5
        refine wa_iload X 5 rfl dX11_let_51 ?_
        refine wa_iload X 4 rfl dX11_let_53 ?_
        refine wa_icmp_ge X (tgt := 64) dX11_let_55 (by decide) (fun c7 => ?_) (fun c7 => ?_)
        · replace hv := hv.1 c7
          refine wa_iconst X dX11_let_64 kc0 ?_
          refine wa_istore X (lv' := [(7, .inl (0 : Int32)), (0, .inr (.inr (11, 1))), (1, .inl a1), (2, .inl a2), (3, .inl a3), (4, .inl a4), (5, .inl a5), (6, .inl a6)]) dX11_let_65 (by decide) rfl ?_
          refine wa_iload X 5 rfl dX11_let_67 ?_
          refine wa_istore X (lv' := [(8, .inl a4), (7, .inl (0 : Int32)), (0, .inr (.inr (11, 1))), (1, .inl a1), (2, .inl a2), (3, .inl a3), (4, .inl a4), (5, .inl a5), (6, .inl a6)]) dX11_let_69 (by decide) rfl ?_
          obtain ⟨I10, ⟨n14, i12⟩, b13⟩ := hv
          refine wa_lv (lv' := [(0, .inr (.inr (11, 1))), (1, .inl a1), (2, .inl a2), (3, .inl a3), (4, .inl a4), (5, .inl a5), (6, .inl a6), (7, .inl (0 : Int32)), (8, .inl a4)]) [2, 3, 4, 5, 6, 7, 8, 1, 0] rfl ?_
          suffices L15 : ∀ N11 : Nat, ∀ x8 : Int32, ∀ x9 : Int32, I10 N11 x8 x9 → wa Z 0 0 S3 71 [(0, .inr (.inr (11, 1))), (1, .inl a1), (2, .inl a2), (3, .inl a3), (4, .inl a4), (5, .inl a5), (6, .inl a6), (7, .inl x8), (8, .inl x9)] [] from L15 _ _ _ i12
          clear i12
          intro N11
          induction N11 using Nat.strongRecOn with
          | _ N11 h16 =>
            intro x8 x9 j17
            have hv := b13 N11 x8 x9 j17
            refine wa_iload X 8 rfl dX11_let_71 ?_
            refine wa_iload X 5 rfl dX11_let_73 ?_
            refine wa_icmp_gt X (tgt := 113) dX11_let_75 (by decide) (fun c18 => ?_) (fun c18 => ?_)
            · replace hv := hv.1 c18
              refine wa_aload_n X 0 rfl dX11_let_113 rfl ?_
              refine wa_getfw X hw (j := 6) (r := 1) hk_11 hc_11 i_11 (by decide) kw_1190 rfl rfl (by decide) rfl dX11_let_114 hs_1ne ?_
              refine wa_aload_n X 0 rfl dX11_let_117 rfl ?_
              refine wa_getI X (j := 5) hk_11 hc_11 i_11 (by decide) kw_1189 rfl dX11_let_118 hs_1ne ?_
              refine wa_aload_n X 0 rfl dX11_let_121 rfl ?_
              refine wa_getI X (j := 0) hk_11 hc_11 i_11 (by decide) kw_1184 rfl dX11_let_122 hs_1ne ?_
              obtain ⟨o19, hv⟩ := hv
              refine wa_iast X hk_46 dX11_let_125 hs_1ne o19 (hs_eqS fun S20 hS20 => ?_)
              replace hv := hv S20 hS20
              replace hw : hs_Wi S20 := hS20 ▸ hs_Wi_I hw
              refine wa_aload_n X 0 rfl dX11_let_126 rfl ?_
              refine wa_getfw X hw (j := 7) (r := 1) hk_11 hc_11 i_11 (by decide) kw_1191 rfl rfl (by decide) rfl dX11_let_127 hs_1ne ?_
              refine wa_aload_n X 0 rfl dX11_let_130 rfl ?_
              refine wa_getI X (j := 5) hk_11 hc_11 i_11 (by decide) kw_1189 rfl dX11_let_131 hs_1ne ?_
              refine wa_iload_n X 1 rfl dX11_let_134 rfl ?_
              obtain ⟨o21, hv⟩ := hv
              refine wa_iast X hk_47 dX11_let_135 hs_1ne o21 (hs_eqS fun S22 hS22 => ?_)
              replace hv := hv S22 hS22
              replace hw : hs_Wi S22 := hS22 ▸ hs_Wi_I hw
              refine wa_aload_n X 0 rfl dX11_let_136 rfl ?_
              refine wa_getfw X hw (j := 8) (r := 1) hk_11 hc_11 i_11 (by decide) kw_1192 rfl rfl (by decide) rfl dX11_let_137 hs_1ne ?_
              refine wa_aload_n X 0 rfl dX11_let_140 rfl ?_
              refine wa_getI X (j := 5) hk_11 hc_11 i_11 (by decide) kw_1189 rfl dX11_let_141 hs_1ne ?_
              refine wa_iload_n X 2 rfl dX11_let_144 rfl ?_
              obtain ⟨o23, hv⟩ := hv
              refine wa_iast X hk_48 dX11_let_145 hs_1ne o23 (hs_eqS fun S24 hS24 => ?_)
              replace hv := hv S24 hS24
              replace hw : hs_Wi S24 := hS24 ▸ hs_Wi_I hw
              refine wa_aload_n X 0 rfl dX11_let_146 rfl ?_
              refine wa_getfw X hw (j := 9) (r := 1) hk_11 hc_11 i_11 (by decide) kw_1193 rfl rfl (by decide) rfl dX11_let_147 hs_1ne ?_
              refine wa_aload_n X 0 rfl dX11_let_150 rfl ?_
              refine wa_getI X (j := 5) hk_11 hc_11 i_11 (by decide) kw_1189 rfl dX11_let_151 hs_1ne ?_
              refine wa_iload_n X 3 rfl dX11_let_154 rfl ?_
              refine wa_iconst X dX11_let_155 kc4 ?_
              refine wa_iload X 4 rfl dX11_let_156 ?_
              refine wa_imul X dX11_let_158 ?_
              refine wa_iadd X dX11_let_159 ?_
              refine wa_bipush X dX11_let_160 kb32 ?_
              refine wa_iload X 5 rfl dX11_let_162 ?_
              refine wa_imul X dX11_let_164 ?_
              refine wa_iadd X dX11_let_165 ?_
              refine wa_iload X 6 rfl dX11_let_166 ?_
              have k30 : ∀ (x25 : Int32), x25 = (if a6 = 0 then (0 : Int32) else (256 : Int32)) → wa Z 0 0 S24 178 [(0, .inr (.inr (11, 1))), (7, .inl x8)] [.inl x25, .inl ((a3 + ((4 : Int32) * a4)) + ((32 : Int32) * a5)), .inl (S24.1 11 1 5), .inr (.inr (49, 1))] := by
                intro x25 hE
                replace hv := hv _ hE
                refine wa_iadd X dX11_let_178 ?_
                obtain ⟨o26, hv⟩ := hv
                refine wa_iast X hk_49 dX11_let_179 hs_1ne o26 (hs_eqS fun S27 hS27 => ?_)
                replace hv := hv S27 hS27
                replace hw : hs_Wi S27 := hS27 ▸ hs_Wi_I hw
                refine wa_aload_n X 0 rfl dX11_let_180 rfl ?_
                refine wa_dup X dX11_let_181 rfl ?_
                refine wa_getI X (j := 5) hk_11 hc_11 i_11 (by decide) kw_1189 rfl dX11_let_182 hs_1ne ?_
                refine wa_iconst X dX11_let_185 kc1 ?_
                refine wa_iadd X dX11_let_186 ?_
                refine wa_putI X (j := 5) hk_11 hc_11 i_11 tyX11 tyX11_ok nmX11 (by decide) kw_1189 rfl rfl dX11_let_187 hs_1ne ⟨rfl, Or.inl rfl⟩ (hs_eqS fun S28 hS28 => ?_)
                replace hv := hv S28 hS28
                replace hw : hs_Wi S28 := hS28 ▸ hs_Wi_I hw
                refine wa_aload_n X 0 rfl dX11_let_190 rfl ?_
                refine wa_iload X 1 rfl dX11_let_191 ?_
                refine wa_callV X (As := [.inl x8]) (f_M_act hw) hk_11 hc_11 rfl kw_1399 kw_66 kw_1396 kw_1398 kw_23 nd_X11_act rfl rfl (Nat.le_of_ble_eq_true rfl) dX11_let_193 hs_1ne ⟨⟨Nat.le_of_ble_eq_true rfl, Nat.le_of_ble_eq_true rfl⟩, Nat.le_of_ble_eq_true rfl, Nat.le_of_ble_eq_true rfl⟩ (hs_pdk fun S29 hS29 hw => ?_) (fun _ _ h => h.elim)
                replace hv := hv S29 hS29
                exact wa_ireturn X E dX11_let_196 (Nat.le_of_ble_eq_true rfl) (Nat.le_of_ble_eq_true rfl) (Or.inl rfl) ⟨hw, _, rfl, hv⟩
              clear hv
              refine wa_if_eq X (tgt := 177) dX11_let_168 (by decide) (fun c32 => ?_) (fun c32 => ?_)
              · refine wa_iconst X dX11_let_177 kc0 ?_
                refine wa_lv (lv' := [(0, .inr (.inr (11, 1))), (7, .inl x8)]) [0, 7] rfl ?_
                exact wa_wid (Nat.le_of_ble_eq_true rfl) (Nat.le_of_ble_eq_true rfl) (k30 _  (by rw [if_pos c32]))
              · refine wa_sipush X dX11_let_171 ks256 ?_
                refine wa_goto X (tgt := 178) dX11_let_174 (by decide) ?_
                refine wa_lv (lv' := [(0, .inr (.inr (11, 1))), (7, .inl x8)]) [0, 7] rfl ?_
                exact wa_wid (Nat.le_of_ble_eq_true rfl) (Nat.le_of_ble_eq_true rfl) (k30 _  (by rw [if_neg c32]))
            · replace hv := hv.2 c18
              refine wa_iload X 7 rfl dX11_let_78 ?_
              refine wa_aload_n X 0 rfl dX11_let_80 rfl ?_
              refine wa_bipush X dX11_let_81 kb6 ?_
              refine wa_iload_n X 3 rfl dX11_let_83 rfl ?_
              refine wa_imul X dX11_let_84 ?_
              refine wa_iload X 8 rfl dX11_let_85 ?_
              refine wa_iadd X dX11_let_87 ?_
              refine wa_aload_n X 0 rfl dX11_let_88 rfl ?_
              refine wa_getI X (j := 0) hk_11 hc_11 i_11 (by decide) kw_1184 rfl dX11_let_89 hs_1ne ?_
              obtain ⟨o33, hv⟩ := hv
              refine wa_callV X (As := [.inl (((6 : Int32) * a3) + x9), .inl (S3.1 11 1 0)]) (f_M_ownerAt hw o33) hk_11 hc_11 rfl kw_1387 kw_66 kw_1384 kw_1386 kw_21 nd_X11_ownerAt rfl rfl (Nat.le_of_ble_eq_true rfl) dX11_let_92 hs_1ne ⟨⟨Nat.le_of_ble_eq_true rfl, Nat.le_of_ble_eq_true rfl⟩, Nat.le_of_ble_eq_true rfl, Nat.le_of_ble_eq_true rfl⟩ (hs_pdk0 ?_) (fun _ _ h => h.elim)
              refine wa_iload_n X 1 rfl dX11_let_95 rfl ?_
              refine wa_icmp_ne X (tgt := 103) dX11_let_96 (by decide) (fun c34 => ?_) (fun c34 => ?_)
              · replace hv := hv.1 c34
                refine wa_iconst X dX11_let_103 kc0 ?_
                refine wa_iadd X dX11_let_104 ?_
                refine wa_istore X (lv' := [(7, .inl (x8 + (0 : Int32))), (0, .inr (.inr (11, 1))), (1, .inl a1), (2, .inl a2), (3, .inl a3), (4, .inl a4), (5, .inl a5), (6, .inl a6), (8, .inl x9)]) dX11_let_105 (by decide) rfl ?_
                refine wa_iinc X (v := (x9 + 1)) (lv' := [(8, .inl (x9 + 1)), (7, .inl (x8 + (0 : Int32))), (0, .inr (.inr (11, 1))), (1, .inl a1), (2, .inl a2), (3, .inl a3), (4, .inl a4), (5, .inl a5), (6, .inl a6)]) 8 rfl dX11_let_107 rfl (by decide) rfl ?_
                refine wa_goto X (tgt := 71) dX11_let_110 (by decide) ?_
                obtain ⟨q35, p36, hv⟩ := hv
                refine wa_lv (lv' := [(0, .inr (.inr (11, 1))), (1, .inl a1), (2, .inl a2), (3, .inl a3), (4, .inl a4), (5, .inl a5), (6, .inl a6), (7, .inl (x8 + (0 : Int32))), (8, .inl (x9 + 1))]) [2, 3, 4, 5, 6, 7, 8, 1, 0] rfl ?_
                exact h16 q35 p36 _ _ hv
              · replace hv := hv.2 c34
                refine wa_iconst X dX11_let_99 kc1 ?_
                refine wa_goto X (tgt := 104) dX11_let_100 (by decide) ?_
                refine wa_iadd X dX11_let_104 ?_
                refine wa_istore X (lv' := [(7, .inl (x8 + (1 : Int32))), (0, .inr (.inr (11, 1))), (1, .inl a1), (2, .inl a2), (3, .inl a3), (4, .inl a4), (5, .inl a5), (6, .inl a6), (8, .inl x9)]) dX11_let_105 (by decide) rfl ?_
                refine wa_iinc X (v := (x9 + 1)) (lv' := [(8, .inl (x9 + 1)), (7, .inl (x8 + (1 : Int32))), (0, .inr (.inr (11, 1))), (1, .inl a1), (2, .inl a2), (3, .inl a3), (4, .inl a4), (5, .inl a5), (6, .inl a6)]) 8 rfl dX11_let_107 rfl (by decide) rfl ?_
                refine wa_goto X (tgt := 71) dX11_let_110 (by decide) ?_
                obtain ⟨q37, p38, hv⟩ := hv
                refine wa_lv (lv' := [(0, .inr (.inr (11, 1))), (1, .inl a1), (2, .inl a2), (3, .inl a3), (4, .inl a4), (5, .inl a5), (6, .inl a6), (7, .inl (x8 + (1 : Int32))), (8, .inl (x9 + 1))]) [2, 3, 4, 5, 6, 7, 8, 1, 0] rfl ?_
                exact h16 q37 p38 _ _ hv
        · replace hv := hv.2 c7
          refine wa_aload_n X 0 rfl dX11_let_58 rfl ?_
          refine wa_iconst X dX11_let_59 kc2 ?_
          refine wa_callV X (As := [.inl (2 : Int32)]) (f_M_fails hw) hk_11 hc_11 rfl kw_1391 kw_66 kw_1388 kw_1390 kw_22 nd_X11_fails rfl rfl (Nat.le_of_ble_eq_true rfl) dX11_let_60 hs_1ne ⟨⟨Nat.le_of_ble_eq_true rfl, Nat.le_of_ble_eq_true rfl⟩, Nat.le_of_ble_eq_true rfl, Nat.le_of_ble_eq_true rfl⟩ (hs_pdk fun S39 hS39 hw => ?_) (fun _ _ h => h.elim)
          replace hv := hv S39 hS39
          exact wa_ireturn X E dX11_let_63 (Nat.le_of_ble_eq_true rfl) (Nat.le_of_ble_eq_true rfl) (Or.inl rfl) ⟨hw, _, rfl, hv⟩
    · replace hv := hv.2 c4
      refine wa_iconst X dX11_let_44 kc0 ?_
      exact wa_ireturn X E dX11_let_45 (Nat.le_of_ble_eq_true rfl) (Nat.le_of_ble_eq_true rfl) (Or.inl rfl) ⟨hw, _, rfl, hv⟩
  clear hv
  refine wa_if_eq X (tgt := 37) dX11_let_5 (by decide) (fun c42 => ?_) (fun c42 => ?_)
  · refine wa_iconst X dX11_let_37 kc0 ?_
    refine wa_lv (lv' := [(0, .inr (.inr (11, 1))), (1, .inl a1), (2, .inl a2), (3, .inl a3), (4, .inl a4), (5, .inl a5), (6, .inl a6)]) [0, 1, 2, 3, 4, 5, 6] rfl ?_
    exact wa_wid (Nat.le_of_ble_eq_true rfl) (Nat.le_of_ble_eq_true rfl) (k40 _  (by rw [if_pos c42]))
  · refine wa_iload_n X 2 rfl dX11_let_8 rfl ?_
    refine wa_callS X (As := [.inl a2]) (f_M_isOwner hw) kw_1376 kw_66 kw_1374 kw_1375 nd_X11_isOwner rfl rfl (Nat.le_of_ble_eq_true rfl) dX11_let_9 ⟨⟨Nat.le_of_ble_eq_true rfl, Nat.le_of_ble_eq_true rfl⟩, Nat.le_of_ble_eq_true rfl, Nat.le_of_ble_eq_true rfl⟩ (hs_pdk0 ?_) (fun _ _ h => h.elim)
    refine wa_if_eq X (tgt := 37) dX11_let_12 (by decide) (fun c43 => ?_) (fun c43 => ?_)
    · refine wa_iconst X dX11_let_37 kc0 ?_
      refine wa_lv (lv' := [(0, .inr (.inr (11, 1))), (1, .inl a1), (2, .inl a2), (3, .inl a3), (4, .inl a4), (5, .inl a5), (6, .inl a6)]) [0, 1, 2, 3, 4, 5, 6] rfl ?_
      exact wa_wid (Nat.le_of_ble_eq_true rfl) (Nat.le_of_ble_eq_true rfl) (k40 _  (by rw [if_neg c42, if_pos c43]))
    · refine wa_iload_n X 3 rfl dX11_let_15 rfl ?_
      refine wa_iload X 4 rfl dX11_let_16 ?_
      refine wa_callS X (As := [.inl a3, .inl a4]) (f_M_isCell hw) kw_1379 kw_66 kw_1377 kw_1378 nd_X11_isCell rfl rfl (Nat.le_of_ble_eq_true rfl) dX11_let_18 ⟨⟨Nat.le_of_ble_eq_true rfl, Nat.le_of_ble_eq_true rfl⟩, Nat.le_of_ble_eq_true rfl, Nat.le_of_ble_eq_true rfl⟩ (hs_pdk0 ?_) (fun _ _ h => h.elim)
      refine wa_if_eq X (tgt := 37) dX11_let_21 (by decide) (fun c44 => ?_) (fun c44 => ?_)
      · refine wa_iconst X dX11_let_37 kc0 ?_
        refine wa_lv (lv' := [(0, .inr (.inr (11, 1))), (1, .inl a1), (2, .inl a2), (3, .inl a3), (4, .inl a4), (5, .inl a5), (6, .inl a6)]) [0, 1, 2, 3, 4, 5, 6] rfl ?_
        exact wa_wid (Nat.le_of_ble_eq_true rfl) (Nat.le_of_ble_eq_true rfl) (k40 _  (by rw [if_neg c42, if_neg c43, if_pos c44]))
      · refine wa_iload_n X 3 rfl dX11_let_24 rfl ?_
        refine wa_iload X 5 rfl dX11_let_25 ?_
        refine wa_callS X (As := [.inl a3, .inl a5]) (f_M_isCell hw) kw_1379 kw_66 kw_1377 kw_1378 nd_X11_isCell rfl rfl (Nat.le_of_ble_eq_true rfl) dX11_let_27 ⟨⟨Nat.le_of_ble_eq_true rfl, Nat.le_of_ble_eq_true rfl⟩, Nat.le_of_ble_eq_true rfl, Nat.le_of_ble_eq_true rfl⟩ (hs_pdk0 ?_) (fun _ _ h => h.elim)
        refine wa_if_eq X (tgt := 37) dX11_let_30 (by decide) (fun c45 => ?_) (fun c45 => ?_)
        · refine wa_iconst X dX11_let_37 kc0 ?_
          refine wa_lv (lv' := [(0, .inr (.inr (11, 1))), (1, .inl a1), (2, .inl a2), (3, .inl a3), (4, .inl a4), (5, .inl a5), (6, .inl a6)]) [0, 1, 2, 3, 4, 5, 6] rfl ?_
          exact wa_wid (Nat.le_of_ble_eq_true rfl) (Nat.le_of_ble_eq_true rfl) (k40 _  (by rw [if_neg c42, if_neg c43, if_neg c44, if_pos c45]))
        · refine wa_iconst X dX11_let_33 kc1 ?_
          refine wa_goto X (tgt := 38) dX11_let_34 (by decide) ?_
          refine wa_lv (lv' := [(0, .inr (.inr (11, 1))), (1, .inl a1), (2, .inl a2), (3, .inl a3), (4, .inl a4), (5, .inl a5), (6, .inl a6)]) [0, 1, 2, 3, 4, 5, 6] rfl ?_
          exact wa_wid (Nat.le_of_ble_eq_true rfl) (Nat.le_of_ble_eq_true rfl) (k40 _  (by rw [if_neg c42, if_neg c43, if_neg c44, if_neg c45]))
theorem isCell_of {a b : Int32} (h : ¬ F_isCell a b = 0) : (∃ c : Nat, c < 4 ∧ a = nI c) ∧ ∃ w : Nat, w < 6 ∧ b = nI w := by
  have h1 : (0 ≤ a ∧ a < 4) ∧ 0 ≤ b ∧ b < 6 := Classical.not_not.mp fun z => h (bI_f z)
  obtain ⟨⟨p1, p2⟩, p3, p4⟩ := h1
  have z0 : (0 : Int32).toInt = 0 := rfl
  have z4 : (4 : Int32).toInt = 4 := rfl
  have z6 : (6 : Int32).toInt = 6 := rfl
  rw [i32_le, z0] at p1 p3
  rw [i32_lt, z4] at p2
  rw [i32_lt, z6] at p4
  obtain ⟨c, hc, _, ec⟩ := hl_of (n := 4) ⟨p1, p2⟩
  obtain ⟨w, hw, _, ew⟩ := hl_of (n := 6) ⟨p3, p4⟩
  exact ⟨⟨c, hc, ec⟩, w, hw, ew⟩
theorem v_M_let {a1 a2 a3 a4 a5 a6 : Int32} {S : hs_S} (hP : P_let a1 a2 a3 a4 a5 a6 S) : vc_M_let a1 a2 a3 a4 a5 a6 S (fun r T => R_let a1 a2 a3 a4 a5 a6 S r T) := by
  obtain ⟨hG, g, hg, eg⟩ := hP
  unfold vc_M_let
  intro x hx
  have hx' : x = bI (okLet a1 a2 a3 a4 a5) := by
    rw [hx]; unfold bI
    by_cases p1 : F_isOwner a1 = 0 <;> by_cases p2 : F_isOwner a2 = 0 <;> by_cases p3 : F_isCell a3 a4 = 0 <;> by_cases p4 : F_isCell a3 a5 = 0 <;> simp [p1, p2, p3, p4]
  refine ⟨by rw [hx']; exact bI_01 _, fun S3 h3 => ⟨fun q => ?_, fun q => ?_⟩⟩
  · have ok : okLet a1 a2 a3 a4 a5 := Classical.not_not.mp fun w => q (by rw [hx']; exact bI_f w)
    have h3' : S3 = E_asks 1 S := by rw [h3, hx', bI_t ok]
    have eg3 : S3.1 11 1 5 = nI g := by rw [h3]; exact eg
    have hi : 0 ≤ (S3.1 11 1 5).toInt ∧ (S3.1 11 1 5).toInt < 1200 := by rw [eg3]; exact hl_ix (by omega) (by omega)
    obtain ⟨⟨c, hc, ec⟩, f, hf, ef⟩ := isCell_of ok.2.2.1
    obtain ⟨_, t, ht, et⟩ := isCell_of ok.2.2.2
    refine ⟨fun w S6 h6 => ⟨fun _ => ⟨fun _ => ⟨by rw [h6, h3'], rfl⟩, fun z => absurd w z.1⟩, fun z => absurd ok z⟩, fun w => ⟨fun v => ?_, fun v S6 h6 => ⟨fun _ => ⟨fun _ => ⟨by rw [h6, h3'], rfl⟩, fun z => absurd z.2 v⟩, fun z => absurd ok z⟩⟩⟩
    have hft : f ≤ t := by rw [ef, et] at v; exact (hl_le (by omega) (by omega)).mp v
    refine ⟨fun N x y => ∃ j, j ≤ t + 1 - f ∧ y = nI (f + j) ∧ x = mLC S3 a1 a3 (S3.1 11 1 0) f j ∧ N = t + 1 - f - j, ⟨t + 1 - f, 0, Nat.zero_le _, ef, rfl, rfl⟩, ?_⟩
    rintro N x y ⟨j, hj, rfl, rfl, rfl⟩
    refine ⟨fun h => ?_, fun h => ?_⟩
    · have hjt : j = t + 1 - f := by
        rw [et, hl_lt (by omega) (by omega)] at h; omega
      subst hjt
      refine ⟨hi, fun S20 h20 => ⟨by rw [h20]; exact hi, fun S22 h22 => ⟨by rw [h22, h20]; exact hi, fun S24 h24 z hz => ⟨by rw [h24, h22, h20]; exact hi, fun S27 h27 S28 h28 S29 h29 => ?_⟩⟩⟩⟩
      refine ⟨fun _ => ⟨fun z' => absurd z' fun z' => z'.elim w fun z' => z' v, fun _ => ⟨?_, fun f' t' hf' ht' ef' et' => ?_⟩⟩, fun z => absurd ok z⟩
      · rw [← h3', h29, h28, h27, h24, h22, h20, hz]; rfl
      · have a : f = f' := (hl_inj (by omega) (by omega)).mp (ef.symm.trans ef')
        have b : t = t' := (hl_inj (by omega) (by omega)).mp (et.symm.trans et')
        subst a; subst b
        rw [← h3']
        have : S3.1 11 1 0 = S.1 11 1 0 := by rw [h3]; rfl
        rw [this]
    · have hj1 : j < t + 1 - f := by
        rw [et, hl_lt (by omega) (by omega)] at h; omega
      have hnx : ∀ x', x' = mLC S3 a1 a3 (S3.1 11 1 0) f (j + 1) → ∃ q, q < t + 1 - f - j ∧ ∃ j', j' ≤ t + 1 - f ∧ nI (f + j) + 1 = nI (f + j') ∧ x' = mLC S3 a1 a3 (S3.1 11 1 0) f j' ∧ q = t + 1 - f - j' := fun x' hx' => ⟨t + 1 - f - (j + 1), by omega, j + 1, by omega, nI_1 _, hx', rfl⟩
      refine ⟨?_, fun z => hnx _ (if_neg z).symm, fun z => hnx _ (if_pos z).symm⟩
      show cN (S3.1 11 1 1) 1200
      rw [h3]; exact hG
  · have nok : ¬ okLet a1 a2 a3 a4 a5 := fun w => by rw [hx', bI_t w] at q; exact absurd q (by decide)
    exact ⟨fun w => absurd w nok, fun _ => ⟨by rw [h3, hx', bI_f nok], rfl⟩⟩

abbrev okCol (a : Int32) : Prop := ¬ a < 0 ∧ ¬ 4 ≤ a
def E_bell (a1 : Int32) (q : Nat → Int32) (S : hs_S) : hs_S :=
  hs_wI (hs_wI (hs_rw (hs_wI (hs_wI (hs_wI (hs_wI S 77 1 (S.1 11 1 36).toNatClampNeg a1) 78 1 (S.1 11 1 36).toNatClampNeg (S.1 62 1 a1.toNatClampNeg)) 80 1 (S.1 11 1 36).toNatClampNeg (S.1 63 1 a1.toNatClampNeg)) 79 1 (S.1 11 1 36).toNatClampNeg (S.1 11 1 0)) 72 q) 62 1 a1.toNatClampNeg (-1)) 11 1 36 (S.1 11 1 36 + 1)
def bellQ (a1 : Int32) (S : hs_S) (g n : Nat) (b : Nat) : Int32 := if b < g ∧ S.1 66 1 b = a1 ∧ S.1 72 1 b = -1 then nI n else S.1 72 1 b
def P_bell (a1 : Int32) (S : hs_S) : Prop := (∀ c, c < 4 → (S.1 61 1 c = 0 ∨ S.1 61 1 c = 1) ∧ (S.1 63 1 c = 0 ∨ S.1 63 1 c = 1)) ∧ ∃ n g : Nat, n ≤ 30 ∧ S.1 11 1 36 = nI n ∧ g ≤ 80 ∧ S.1 11 1 24 = nI g ∧ (n < 30 → okCol a1 → ¬ S.1 62 1 a1.toNatClampNeg = -1 → P_clears (nI n) (E_bell a1 (bellQ a1 S g n) (E_asks 1 S)))
def R_bell (a1 : Int32) (S : hs_S) (r : Int32) (T : hs_S) : Prop :=
  (¬ okCol a1 → T = E_asks 0 S ∧ r = 0) ∧ (okCol a1 →
    (S.1 62 1 a1.toNatClampNeg = -1 → T = E_act 0 (hs_wI (hs_wI (E_asks 1 S) 62 1 a1.toNatClampNeg (S.1 11 1 0)) 63 1 a1.toNatClampNeg (S.1 61 1 a1.toNatClampNeg)) ∧ r = -1) ∧
    (¬ S.1 62 1 a1.toNatClampNeg = -1 → S.1 11 1 36 = 30 → T = E_fails 2 (E_asks 1 S) ∧ r = 0) ∧
    (¬ S.1 62 1 a1.toNatClampNeg = -1 → ¬ S.1 11 1 36 = 30 → ∃ n g : Nat, ∃ T0, n < 30 ∧ S.1 11 1 36 = nI n ∧ g ≤ 80 ∧ S.1 11 1 24 = nI g ∧ R_clears (nI n) (E_bell a1 (bellQ a1 S g n) (E_asks 1 S)) T0 ∧ T = E_act 0 T0 ∧ r = nI n))
def m_M_bell (a1 : Int32) (S : hs_S) (Q : Int32 → hs_S → Prop) : Prop := hs_M 7 yX11_bell (.code yX11_bell cX11_bell 4 (some FieldType.int)) [.inr (.inr (11, 1)), .inl a1] S 0 0 (hs_qI Q) hs_nX
def vc_M_bell (a1 : Int32) (S : hs_S) (Q : Int32 → hs_S → Prop) : Prop := (∀ x1 : Int32, x1 = (if a1 < 0 then (0 : Int32) else (if (4 : Int32) ≤ a1 then (0 : Int32) else (1 : Int32))) → ((P_asks x1 S) ∧ (∀ S3 : hs_S, S3 = (E_asks x1 S) → ((¬ x1 = 0 → ((0 ≤ a1.toInt ∧ a1.toInt < 4) ∧ ((¬ (S3.1 62 1 a1.toNatClampNeg) = (-1 : Int32) → ((¬ (S3.1 11 1 36) = (30 : Int32) → ((0 ≤ (S3.1 11 1 36).toInt ∧ (S3.1 11 1 36).toInt < 30) ∧ (∀ S9 : hs_S, S9 = (hs_wI S3 77 1 (S3.1 11 1 36).toNatClampNeg a1) → ((0 ≤ (S9.1 11 1 36).toInt ∧ (S9.1 11 1 36).toInt < 30) ∧ (∀ S11 : hs_S, S11 = (hs_wI S9 78 1 (S9.1 11 1 36).toNatClampNeg (S9.1 62 1 a1.toNatClampNeg)) → ((0 ≤ (S11.1 11 1 36).toInt ∧ (S11.1 11 1 36).toInt < 30) ∧ (((S11.1 63 1 a1.toNatClampNeg) = 0 ∨ (S11.1 63 1 a1.toNatClampNeg) = 1) ∧ (∀ S14 : hs_S, S14 = (hs_wI S11 80 1 (S11.1 11 1 36).toNatClampNeg (S11.1 63 1 a1.toNatClampNeg)) → ((0 ≤ (S14.1 11 1 36).toInt ∧ (S14.1 11 1 36).toInt < 30) ∧ (∀ S16 : hs_S, S16 = (hs_wI S14 79 1 (S14.1 11 1 36).toNatClampNeg (S14.1 11 1 0)) → (∃ I18 : Nat → Int32 → hs_S → Prop, (∃ n23, I18 n23 (0 : Int32) S16) ∧ (∀ N19 : Nat, ∀ x17 : Int32, ∀ S20 : hs_S, I18 N19 x17 S20 → (((S20.1 11 1 24) ≤ x17 → (∀ S28 : hs_S, S28 = (hs_wI S20 62 1 a1.toNatClampNeg (-1 : Int32)) → (∀ S29 : hs_S, S29 = (hs_wI S28 11 1 36 ((S28.1 11 1 36) + (1 : Int32))) → ((P_clears ((S29.1 11 1 36) - (1 : Int32)) S29) ∧ (∀ S31 : hs_S, R_clears ((S29.1 11 1 36) - (1 : Int32)) S29 S31 → (∀ S34 : hs_S, S34 = (E_act ((S31.1 11 1 36) - (1 : Int32)) S31) → (Q ((S31.1 11 1 36) - (1 : Int32)) S34))))))) ∧ (¬ (S20.1 11 1 24) ≤ x17 → ((0 ≤ x17.toInt ∧ x17.toInt < 80) ∧ (∀ x36 : Int32, x36 = (if (S20.1 66 1 x17.toNatClampNeg) = a1 then (if (S20.1 72 1 x17.toNatClampNeg) = (-1 : Int32) then (1 : Int32) else (0 : Int32)) else (0 : Int32)) → ((x36 = 0 → (∀ S38 : hs_S, S38 = (hs_wI S20 72 1 x17.toNatClampNeg (S20.1 72 1 x17.toNatClampNeg)) → (∃ q39, q39 < N19 ∧ I18 q39 (x17 + 1) S38))) ∧ (¬ x36 = 0 → (∀ S41 : hs_S, S41 = (hs_wI S20 72 1 x17.toNatClampNeg (S20.1 11 1 36)) → (∃ q42, q42 < N19 ∧ I18 q42 (x17 + 1) S41)))))))))))))))))))) ∧ ((S3.1 11 1 36) = (30 : Int32) → (∀ S48 : hs_S, S48 = (E_fails (2 : Int32) S3) → (Q (0 : Int32) S48))))) ∧ ((S3.1 62 1 a1.toNatClampNeg) = (-1 : Int32) → (∀ S49 : hs_S, S49 = (hs_wI S3 62 1 a1.toNatClampNeg (S3.1 11 1 0)) → (((S49.1 61 1 a1.toNatClampNeg) = 0 ∨ (S49.1 61 1 a1.toNatClampNeg) = 1) ∧ (∀ S51 : hs_S, S51 = (hs_wI S49 63 1 a1.toNatClampNeg (S49.1 61 1 a1.toNatClampNeg)) → (∀ S52 : hs_S, S52 = (E_act (-1 : Int32) S51) → (Q (-1 : Int32) S52))))))))) ∧ (x1 = 0 → (Q (0 : Int32) S3))))))
set_option maxRecDepth 100000 in
set_option maxHeartbeats 4000000 in
theorem ok_M_bell {a1 : Int32} {S : hs_S} {Q : Int32 → hs_S → Prop} (hw : hs_Wi S) (hv : vc_M_bell a1 S Q) : m_M_bell a1 S Q := by
  unfold vc_M_bell at hv
  refine hs_body (own := RX11) rfl rfl (Nat.le_of_ble_eq_true rfl) (fun Z X E N J0 => ?_)
  show wa Z 0 0 S 0 [(0, .inr (.inr (11, 1))), (1, .inl a1)] []
  refine wa_aload_n X 0 rfl dX11_bell_0 rfl ?_
  refine wa_iload_n X 1 rfl dX11_bell_1 rfl ?_
  have k53 : ∀ (x1 : Int32), x1 = (if a1 < 0 then (0 : Int32) else (if (4 : Int32) ≤ a1 then (0 : Int32) else (1 : Int32))) → wa Z 0 0 S 15 [(0, .inr (.inr (11, 1))), (1, .inl a1)] [.inl x1, .inr (.inr (11, 1))] := by
    intro x1 hE
    replace hv := hv _ hE
    obtain ⟨o2, hv⟩ := hv
    refine wa_callV X (As := [.inl x1]) (f_M_asks hw o2) hk_11 hc_11 rfl kw_1383 kw_66 kw_1380 kw_1382 kw_20 nd_X11_asks rfl rfl (Nat.le_of_ble_eq_true rfl) dX11_bell_15 hs_1ne ⟨⟨Nat.le_of_ble_eq_true rfl, Nat.le_of_ble_eq_true rfl⟩, Nat.le_of_ble_eq_true rfl, Nat.le_of_ble_eq_true rfl⟩ (hs_pdk fun S3 hS3 hw => ?_) (fun _ _ h => h.elim)
    replace hv := hv S3 hS3
    refine wa_if_ne X (tgt := 23) dX11_bell_18 (by decide) (fun c4 => ?_) (fun c4 => ?_)
    · replace hv := hv.1 c4
      refine wa_aload_n X 0 rfl dX11_bell_23 rfl ?_
      refine wa_getfw X hw (j := 22) (r := 1) hk_11 hc_11 i_11 (by decide) kw_1206 rfl rfl (by decide) rfl dX11_bell_24 hs_1ne ?_
      refine wa_iload_n X 1 rfl dX11_bell_27 rfl ?_
      obtain ⟨o5, hv⟩ := hv
      refine wa_iald X hk_62 dX11_bell_28 hs_1ne o5 ?_
      refine wa_iconst X dX11_bell_29 kcm1 ?_
      refine wa_icmp_ne X (tgt := 61) dX11_bell_30 (by decide) (fun c6 => ?_) (fun c6 => ?_)
      · replace hv := hv.1 c6
        refine wa_aload_n X 0 rfl dX11_bell_61 rfl ?_
        refine wa_getI X (j := 36) hk_11 hc_11 i_11 (by decide) kw_1220 rfl dX11_bell_62 hs_1ne ?_
        refine wa_bipush X dX11_bell_65 kb30 ?_
        refine wa_icmp_ne X (tgt := 76) dX11_bell_67 (by decide) (fun c7 => ?_) (fun c7 => ?_)
        · replace hv := hv.1 c7
          refine wa_aload_n X 0 rfl dX11_bell_76 rfl ?_
          refine wa_getfw X hw (j := 37) (r := 1) hk_11 hc_11 i_11 (by decide) kw_1221 rfl rfl (by decide) rfl dX11_bell_77 hs_1ne ?_
          refine wa_aload_n X 0 rfl dX11_bell_80 rfl ?_
          refine wa_getI X (j := 36) hk_11 hc_11 i_11 (by decide) kw_1220 rfl dX11_bell_81 hs_1ne ?_
          refine wa_iload_n X 1 rfl dX11_bell_84 rfl ?_
          obtain ⟨o8, hv⟩ := hv
          refine wa_iast X hk_77 dX11_bell_85 hs_1ne o8 (hs_eqS fun S9 hS9 => ?_)
          replace hv := hv S9 hS9
          replace hw : hs_Wi S9 := hS9 ▸ hs_Wi_I hw
          refine wa_aload_n X 0 rfl dX11_bell_86 rfl ?_
          refine wa_getfw X hw (j := 38) (r := 1) hk_11 hc_11 i_11 (by decide) kw_1222 rfl rfl (by decide) rfl dX11_bell_87 hs_1ne ?_
          refine wa_aload_n X 0 rfl dX11_bell_90 rfl ?_
          refine wa_getI X (j := 36) hk_11 hc_11 i_11 (by decide) kw_1220 rfl dX11_bell_91 hs_1ne ?_
          refine wa_aload_n X 0 rfl dX11_bell_94 rfl ?_
          refine wa_getfw X hw (j := 22) (r := 1) hk_11 hc_11 i_11 (by decide) kw_1206 rfl rfl (by decide) rfl dX11_bell_95 hs_1ne ?_
          refine wa_iload_n X 1 rfl dX11_bell_98 rfl ?_
          refine wa_iald X hk_62 dX11_bell_99 hs_1ne o5 ?_
          obtain ⟨o10, hv⟩ := hv
          refine wa_iast X hk_78 dX11_bell_100 hs_1ne o10 (hs_eqS fun S11 hS11 => ?_)
          replace hv := hv S11 hS11
          replace hw : hs_Wi S11 := hS11 ▸ hs_Wi_I hw
          refine wa_aload_n X 0 rfl dX11_bell_101 rfl ?_
          refine wa_getfw X hw (j := 40) (r := 1) hk_11 hc_11 i_11 (by decide) kw_1224 rfl rfl (by decide) rfl dX11_bell_102 hs_1ne ?_
          refine wa_aload_n X 0 rfl dX11_bell_105 rfl ?_
          refine wa_getI X (j := 36) hk_11 hc_11 i_11 (by decide) kw_1220 rfl dX11_bell_106 hs_1ne ?_
          refine wa_aload_n X 0 rfl dX11_bell_109 rfl ?_
          refine wa_getfw X hw (j := 23) (r := 1) hk_11 hc_11 i_11 (by decide) kw_1207 rfl rfl (by decide) rfl dX11_bell_110 hs_1ne ?_
          refine wa_iload_n X 1 rfl dX11_bell_113 rfl ?_
          refine wa_bald X hk_63 dX11_bell_114 hs_1ne o5 ?_
          obtain ⟨o12, hv⟩ := hv
          obtain ⟨o13, hv⟩ := hv
          refine wa_bast X hk_80 dX11_bell_115 hs_1ne o12 o13 (hs_eqS fun S14 hS14 => ?_)
          replace hv := hv S14 hS14
          replace hw : hs_Wi S14 := hS14 ▸ hs_Wi_I hw
          refine wa_aload_n X 0 rfl dX11_bell_116 rfl ?_
          refine wa_getfw X hw (j := 39) (r := 1) hk_11 hc_11 i_11 (by decide) kw_1223 rfl rfl (by decide) rfl dX11_bell_117 hs_1ne ?_
          refine wa_aload_n X 0 rfl dX11_bell_120 rfl ?_
          refine wa_getI X (j := 36) hk_11 hc_11 i_11 (by decide) kw_1220 rfl dX11_bell_121 hs_1ne ?_
          refine wa_aload_n X 0 rfl dX11_bell_124 rfl ?_
          refine wa_getI X (j := 0) hk_11 hc_11 i_11 (by decide) kw_1184 rfl dX11_bell_125 hs_1ne ?_
          obtain ⟨o15, hv⟩ := hv
          refine wa_iast X hk_79 dX11_bell_128 hs_1ne o15 (hs_eqS fun S16 hS16 => ?_)
          replace hv := hv S16 hS16
          replace hw : hs_Wi S16 := hS16 ▸ hs_Wi_I hw
          refine wa_iconst X dX11_bell_129 kc0 ?_
          refine wa_istore_n X (lv' := [(2, .inl (0 : Int32)), (0, .inr (.inr (11, 1))), (1, .inl a1)]) dX11_bell_130 rfl (by decide) rfl ?_
          obtain ⟨I18, ⟨n23, i21⟩, b22⟩ := hv
          refine wa_lv (lv' := [(0, .inr (.inr (11, 1))), (1, .inl a1), (2, .inl (0 : Int32))]) [1, 2, 0] rfl ?_
          suffices L24 : ∀ N19 : Nat, ∀ x17 : Int32, ∀ S20 : hs_S, hs_Wi S20 → I18 N19 x17 S20 → wa Z 0 0 S20 131 [(0, .inr (.inr (11, 1))), (1, .inl a1), (2, .inl x17)] [] from L24 _ _ _ hw i21
          clear hw
          clear i21
          intro N19
          induction N19 using Nat.strongRecOn with
          | _ N19 h25 =>
            intro x17 S20 hw j26
            have hv := b22 N19 x17 S20 j26
            refine wa_iload_n X 2 rfl dX11_bell_131 rfl ?_
            refine wa_aload_n X 0 rfl dX11_bell_132 rfl ?_
            refine wa_getI X (j := 24) hk_11 hc_11 i_11 (by decide) kw_1208 rfl dX11_bell_133 hs_1ne ?_
            refine wa_icmp_ge X (tgt := 194) dX11_bell_136 (by decide) (fun c27 => ?_) (fun c27 => ?_)
            · replace hv := hv.1 c27
              refine wa_aload_n X 0 rfl dX11_bell_194 rfl ?_
              refine wa_getfw X hw (j := 22) (r := 1) hk_11 hc_11 i_11 (by decide) kw_1206 rfl rfl (by decide) rfl dX11_bell_195 hs_1ne ?_
              refine wa_iload_n X 1 rfl dX11_bell_198 rfl ?_
              refine wa_iconst X dX11_bell_199 kcm1 ?_
              refine wa_iast X hk_62 dX11_bell_200 hs_1ne o5 (hs_eqS fun S28 hS28 => ?_)
              replace hv := hv S28 hS28
              replace hw : hs_Wi S28 := hS28 ▸ hs_Wi_I hw
              refine wa_aload_n X 0 rfl dX11_bell_201 rfl ?_
              refine wa_dup X dX11_bell_202 rfl ?_
              refine wa_getI X (j := 36) hk_11 hc_11 i_11 (by decide) kw_1220 rfl dX11_bell_203 hs_1ne ?_
              refine wa_iconst X dX11_bell_206 kc1 ?_
              refine wa_iadd X dX11_bell_207 ?_
              refine wa_putI X (j := 36) hk_11 hc_11 i_11 tyX11 tyX11_ok nmX11 (by decide) kw_1220 rfl rfl dX11_bell_208 hs_1ne ⟨rfl, Or.inl rfl⟩ (hs_eqS fun S29 hS29 => ?_)
              replace hv := hv S29 hS29
              replace hw : hs_Wi S29 := hS29 ▸ hs_Wi_I hw
              refine wa_aload_n X 0 rfl dX11_bell_211 rfl ?_
              refine wa_aload_n X 0 rfl dX11_bell_212 rfl ?_
              refine wa_getI X (j := 36) hk_11 hc_11 i_11 (by decide) kw_1220 rfl dX11_bell_213 hs_1ne ?_
              refine wa_iconst X dX11_bell_216 kc1 ?_
              refine wa_isub X dX11_bell_217 ?_
              obtain ⟨o30, hv⟩ := hv
              refine wa_callV X (As := [.inl ((S29.1 11 1 36) - (1 : Int32))]) (ok_M_clears hw (v_M_clears o30)) hk_11 hc_11 rfl kw_1562 kw_66 kw_1559 kw_1561 kw_46 nd_X11_clears rfl rfl (Nat.le_of_ble_eq_true rfl) dX11_bell_218 hs_1ne ⟨⟨Nat.le_of_ble_eq_true rfl, Nat.le_of_ble_eq_true rfl⟩, Nat.le_of_ble_eq_true rfl, Nat.le_of_ble_eq_true rfl⟩ (fun _ S31 h => ?_) (fun _ _ h => h.elim)
              obtain ⟨hw, rfl, g33⟩ := h
              replace hv := hv S31 g33
              refine wa_aload_n X 0 rfl dX11_bell_221 rfl ?_
              refine wa_aload_n X 0 rfl dX11_bell_222 rfl ?_
              refine wa_getI X (j := 36) hk_11 hc_11 i_11 (by decide) kw_1220 rfl dX11_bell_223 hs_1ne ?_
              refine wa_iconst X dX11_bell_226 kc1 ?_
              refine wa_isub X dX11_bell_227 ?_
              refine wa_callV X (As := [.inl ((S31.1 11 1 36) - (1 : Int32))]) (f_M_act hw) hk_11 hc_11 rfl kw_1399 kw_66 kw_1396 kw_1398 kw_23 nd_X11_act rfl rfl (Nat.le_of_ble_eq_true rfl) dX11_bell_228 hs_1ne ⟨⟨Nat.le_of_ble_eq_true rfl, Nat.le_of_ble_eq_true rfl⟩, Nat.le_of_ble_eq_true rfl, Nat.le_of_ble_eq_true rfl⟩ (hs_pdk fun S34 hS34 hw => ?_) (fun _ _ h => h.elim)
              replace hv := hv S34 hS34
              exact wa_ireturn X E dX11_bell_231 (Nat.le_of_ble_eq_true rfl) (Nat.le_of_ble_eq_true rfl) (Or.inl rfl) ⟨hw, _, rfl, hv⟩
            · replace hv := hv.2 c27
              refine wa_aload_n X 0 rfl dX11_bell_139 rfl ?_
              refine wa_getfw X hw (j := 26) (r := 1) hk_11 hc_11 i_11 (by decide) kw_1210 rfl rfl (by decide) rfl dX11_bell_140 hs_1ne ?_
              refine wa_iload_n X 2 rfl dX11_bell_143 rfl ?_
              obtain ⟨o35, hv⟩ := hv
              refine wa_iald X hk_66 dX11_bell_144 hs_1ne o35 ?_
              refine wa_iload_n X 1 rfl dX11_bell_145 rfl ?_
              have k44 : ∀ (x36 : Int32), x36 = (if (S20.1 66 1 x17.toNatClampNeg) = a1 then (if (S20.1 72 1 x17.toNatClampNeg) = (-1 : Int32) then (1 : Int32) else (0 : Int32)) else (0 : Int32)) → wa Z 0 0 S20 164 [(0, .inr (.inr (11, 1))), (1, .inl a1), (2, .inl x17)] [.inl x36] := by
                intro x36 hE
                replace hv := hv _ hE
                refine wa_istore_n X (lv' := [(3, .inl x36), (0, .inr (.inr (11, 1))), (1, .inl a1), (2, .inl x17)]) dX11_bell_164 rfl (by decide) rfl ?_
                refine wa_aload_n X 1 rfl dX11_bell_165 rfl ?_
                refine wa_getfw X hw (j := 32) (r := 1) hk_11 hc_11 i_11 (by decide) kw_1216 rfl rfl (by decide) rfl dX11_bell_166 hs_1ne ?_
                refine wa_iload_n X 3 rfl dX11_bell_169 rfl ?_
                refine wa_iload_n X 0 rfl dX11_bell_170 rfl ?_
                refine wa_if_eq X (tgt := 181) dX11_bell_171 (by decide) (fun c37 => ?_) (fun c37 => ?_)
                · replace hv := hv.1 c37
                  refine wa_aload_n X 1 rfl dX11_bell_181 rfl ?_
                  refine wa_getfw X hw (j := 32) (r := 1) hk_11 hc_11 i_11 (by decide) kw_1216 rfl rfl (by decide) rfl dX11_bell_182 hs_1ne ?_
                  refine wa_iload_n X 3 rfl dX11_bell_185 rfl ?_
                  refine wa_iald X hk_72 dX11_bell_186 hs_1ne o35 ?_
                  refine wa_iast X hk_72 dX11_bell_187 hs_1ne o35 (hs_eqS fun S38 hS38 => ?_)
                  replace hv := hv S38 hS38
                  replace hw : hs_Wi S38 := hS38 ▸ hs_Wi_I hw
                  refine wa_iinc X (v := (x17 + 1)) (lv' := [(2, .inl (x17 + 1)), (3, .inl x36), (0, .inr (.inr (11, 1))), (1, .inl a1)]) 3 rfl dX11_bell_188 rfl (by decide) rfl ?_
                  refine wa_goto X (tgt := 131) dX11_bell_191 (by decide) ?_
                  obtain ⟨q39, p40, hv⟩ := hv
                  refine wa_lv (lv' := [(0, .inr (.inr (11, 1))), (1, .inl a1), (2, .inl (x17 + 1))]) [2, 3, 0] rfl ?_
                  exact h25 q39 p40 _ _ hw hv
                · replace hv := hv.2 c37
                  refine wa_aload_n X 1 rfl dX11_bell_174 rfl ?_
                  refine wa_getI X (j := 36) hk_11 hc_11 i_11 (by decide) kw_1220 rfl dX11_bell_175 hs_1ne ?_
                  refine wa_goto X (tgt := 187) dX11_bell_178 (by decide) ?_
                  refine wa_iast X hk_72 dX11_bell_187 hs_1ne o35 (hs_eqS fun S41 hS41 => ?_)
                  replace hv := hv S41 hS41
                  replace hw : hs_Wi S41 := hS41 ▸ hs_Wi_I hw
                  refine wa_iinc X (v := (x17 + 1)) (lv' := [(2, .inl (x17 + 1)), (3, .inl x36), (0, .inr (.inr (11, 1))), (1, .inl a1)]) 3 rfl dX11_bell_188 rfl (by decide) rfl ?_
                  refine wa_goto X (tgt := 131) dX11_bell_191 (by decide) ?_
                  obtain ⟨q42, p43, hv⟩ := hv
                  refine wa_lv (lv' := [(0, .inr (.inr (11, 1))), (1, .inl a1), (2, .inl (x17 + 1))]) [2, 3, 0] rfl ?_
                  exact h25 q42 p43 _ _ hw hv
              clear hv
              refine wa_icmp_ne X (tgt := 163) dX11_bell_146 (by decide) (fun c46 => ?_) (fun c46 => ?_)
              · refine wa_iconst X dX11_bell_163 kc0 ?_
                refine wa_lv (lv' := [(0, .inr (.inr (11, 1))), (1, .inl a1), (2, .inl x17)]) [0, 1, 2] rfl ?_
                exact wa_wid (Nat.le_of_ble_eq_true rfl) (Nat.le_of_ble_eq_true rfl) (k44 _  (by rw [if_neg c46]))
              · refine wa_aload_n X 0 rfl dX11_bell_149 rfl ?_
                refine wa_getfw X hw (j := 32) (r := 1) hk_11 hc_11 i_11 (by decide) kw_1216 rfl rfl (by decide) rfl dX11_bell_150 hs_1ne ?_
                refine wa_iload_n X 2 rfl dX11_bell_153 rfl ?_
                refine wa_iald X hk_72 dX11_bell_154 hs_1ne o35 ?_
                refine wa_iconst X dX11_bell_155 kcm1 ?_
                refine wa_icmp_ne X (tgt := 163) dX11_bell_156 (by decide) (fun c47 => ?_) (fun c47 => ?_)
                · refine wa_iconst X dX11_bell_163 kc0 ?_
                  refine wa_lv (lv' := [(0, .inr (.inr (11, 1))), (1, .inl a1), (2, .inl x17)]) [0, 1, 2] rfl ?_
                  exact wa_wid (Nat.le_of_ble_eq_true rfl) (Nat.le_of_ble_eq_true rfl) (k44 _  (by rw [if_pos c46, if_neg c47]))
                · refine wa_iconst X dX11_bell_159 kc1 ?_
                  refine wa_goto X (tgt := 164) dX11_bell_160 (by decide) ?_
                  refine wa_lv (lv' := [(0, .inr (.inr (11, 1))), (1, .inl a1), (2, .inl x17)]) [0, 1, 2] rfl ?_
                  exact wa_wid (Nat.le_of_ble_eq_true rfl) (Nat.le_of_ble_eq_true rfl) (k44 _  (by rw [if_pos c46, if_pos c47]))
        · replace hv := hv.2 c7
          refine wa_aload_n X 0 rfl dX11_bell_70 rfl ?_
          refine wa_iconst X dX11_bell_71 kc2 ?_
          refine wa_callV X (As := [.inl (2 : Int32)]) (f_M_fails hw) hk_11 hc_11 rfl kw_1391 kw_66 kw_1388 kw_1390 kw_22 nd_X11_fails rfl rfl (Nat.le_of_ble_eq_true rfl) dX11_bell_72 hs_1ne ⟨⟨Nat.le_of_ble_eq_true rfl, Nat.le_of_ble_eq_true rfl⟩, Nat.le_of_ble_eq_true rfl, Nat.le_of_ble_eq_true rfl⟩ (hs_pdk fun S48 hS48 hw => ?_) (fun _ _ h => h.elim)
          replace hv := hv S48 hS48
          exact wa_ireturn X E dX11_bell_75 (Nat.le_of_ble_eq_true rfl) (Nat.le_of_ble_eq_true rfl) (Or.inl rfl) ⟨hw, _, rfl, hv⟩
      · replace hv := hv.2 c6
        refine wa_aload_n X 0 rfl dX11_bell_33 rfl ?_
        refine wa_getfw X hw (j := 22) (r := 1) hk_11 hc_11 i_11 (by decide) kw_1206 rfl rfl (by decide) rfl dX11_bell_34 hs_1ne ?_
        refine wa_iload_n X 1 rfl dX11_bell_37 rfl ?_
        refine wa_aload_n X 0 rfl dX11_bell_38 rfl ?_
        refine wa_getI X (j := 0) hk_11 hc_11 i_11 (by decide) kw_1184 rfl dX11_bell_39 hs_1ne ?_
        refine wa_iast X hk_62 dX11_bell_42 hs_1ne o5 (hs_eqS fun S49 hS49 => ?_)
        replace hv := hv S49 hS49
        replace hw : hs_Wi S49 := hS49 ▸ hs_Wi_I hw
        refine wa_aload_n X 0 rfl dX11_bell_43 rfl ?_
        refine wa_getfw X hw (j := 23) (r := 1) hk_11 hc_11 i_11 (by decide) kw_1207 rfl rfl (by decide) rfl dX11_bell_44 hs_1ne ?_
        refine wa_iload_n X 1 rfl dX11_bell_47 rfl ?_
        refine wa_aload_n X 0 rfl dX11_bell_48 rfl ?_
        refine wa_getfw X hw (j := 21) (r := 1) hk_11 hc_11 i_11 (by decide) kw_1205 rfl rfl (by decide) rfl dX11_bell_49 hs_1ne ?_
        refine wa_iload_n X 1 rfl dX11_bell_52 rfl ?_
        refine wa_bald X hk_61 dX11_bell_53 hs_1ne o5 ?_
        obtain ⟨o50, hv⟩ := hv
        refine wa_bast X hk_63 dX11_bell_54 hs_1ne o5 o50 (hs_eqS fun S51 hS51 => ?_)
        replace hv := hv S51 hS51
        replace hw : hs_Wi S51 := hS51 ▸ hs_Wi_I hw
        refine wa_aload_n X 0 rfl dX11_bell_55 rfl ?_
        refine wa_iconst X dX11_bell_56 kcm1 ?_
        refine wa_callV X (As := [.inl (-1 : Int32)]) (f_M_act hw) hk_11 hc_11 rfl kw_1399 kw_66 kw_1396 kw_1398 kw_23 nd_X11_act rfl rfl (Nat.le_of_ble_eq_true rfl) dX11_bell_57 hs_1ne ⟨⟨Nat.le_of_ble_eq_true rfl, Nat.le_of_ble_eq_true rfl⟩, Nat.le_of_ble_eq_true rfl, Nat.le_of_ble_eq_true rfl⟩ (hs_pdk fun S52 hS52 hw => ?_) (fun _ _ h => h.elim)
        replace hv := hv S52 hS52
        exact wa_ireturn X E dX11_bell_60 (Nat.le_of_ble_eq_true rfl) (Nat.le_of_ble_eq_true rfl) (Or.inl rfl) ⟨hw, _, rfl, hv⟩
    · replace hv := hv.2 c4
      refine wa_iconst X dX11_bell_21 kc0 ?_
      exact wa_ireturn X E dX11_bell_22 (Nat.le_of_ble_eq_true rfl) (Nat.le_of_ble_eq_true rfl) (Or.inl rfl) ⟨hw, _, rfl, hv⟩
  clear hv
  refine wa_if_lt X (tgt := 14) dX11_bell_2 (by decide) (fun c55 => ?_) (fun c55 => ?_)
  · refine wa_iconst X dX11_bell_14 kc0 ?_
    refine wa_lv (lv' := [(0, .inr (.inr (11, 1))), (1, .inl a1)]) [0, 1] rfl ?_
    exact wa_wid (Nat.le_of_ble_eq_true rfl) (Nat.le_of_ble_eq_true rfl) (k53 _  (by rw [if_pos c55]))
  · refine wa_iload_n X 1 rfl dX11_bell_5 rfl ?_
    refine wa_iconst X dX11_bell_6 kc4 ?_
    refine wa_icmp_ge X (tgt := 14) dX11_bell_7 (by decide) (fun c56 => ?_) (fun c56 => ?_)
    · refine wa_iconst X dX11_bell_14 kc0 ?_
      refine wa_lv (lv' := [(0, .inr (.inr (11, 1))), (1, .inl a1)]) [0, 1] rfl ?_
      exact wa_wid (Nat.le_of_ble_eq_true rfl) (Nat.le_of_ble_eq_true rfl) (k53 _  (by rw [if_neg c55, if_pos c56]))
    · refine wa_iconst X dX11_bell_10 kc1 ?_
      refine wa_goto X (tgt := 15) dX11_bell_11 (by decide) ?_
      refine wa_lv (lv' := [(0, .inr (.inr (11, 1))), (1, .inl a1)]) [0, 1] rfl ?_
      exact wa_wid (Nat.le_of_ble_eq_true rfl) (Nat.le_of_ble_eq_true rfl) (k53 _  (by rw [if_neg c55, if_neg c56]))
theorem okCol_of {a : Int32} (h : okCol a) : ∃ c : Nat, c < 4 ∧ a = nI c := by
  obtain ⟨h1, h2⟩ := h
  have z0 : (0 : Int32).toInt = 0 := rfl
  have z4 : (4 : Int32).toInt = 4 := rfl
  rw [i32_lt, z0] at h1
  rw [i32_le, z4] at h2
  obtain ⟨c, hc, _, ec⟩ := hl_of (n := 4) (x := a) ⟨by omega, by omega⟩
  exact ⟨c, hc, ec⟩
theorem R_36 {r : Int32} {S T : hs_S} (h : R_clears r S T) : T.1 11 1 36 = S.1 11 1 36 := c2_clI (R_c2 h) rfl
theorem v_M_bell {a1 : Int32} {S : hs_S} (hP : P_bell a1 S) : vc_M_bell a1 S (fun r T => R_bell a1 S r T) := by
  obtain ⟨hB, n, g, hn, en, hg, eg, hC⟩ := hP
  unfold vc_M_bell
  intro x hx
  have hx' : x = bI (okCol a1) := by
    rw [hx]; unfold bI
    by_cases p1 : a1 < 0 <;> by_cases p2 : 4 ≤ a1 <;> simp [p1, p2]
  refine ⟨by rw [hx']; exact bI_01 _, fun S3 h3 => ⟨fun q => ?_, fun q => ?_⟩⟩
  · have ok : okCol a1 := Classical.not_not.mp fun w => q (by rw [hx']; exact bI_f w)
    have h3' : S3 = E_asks 1 S := by rw [h3, hx', bI_t ok]
    obtain ⟨c, hc, ec⟩ := okCol_of ok
    have hcc : a1.toNatClampNeg = c := by rw [ec]; exact hl_cl (by omega)
    have e62 : S3.1 62 1 a1.toNatClampNeg = S.1 62 1 a1.toNatClampNeg := by rw [h3]; rfl
    have e36 : S3.1 11 1 36 = nI n := by rw [h3]; exact en
    rw [e62]
    refine ⟨by rw [ec]; exact hl_ix (by omega) (by omega), fun w => ⟨fun v => ?_, fun v S5 h5 => ?_⟩, fun w S5 h5 => ⟨?_, fun S6 h6 S7 h7 => ?_⟩⟩
    · have hn30 : n < 30 := Nat.lt_of_le_of_ne hn fun z => v (by rw [e36, z]; rfl)
      have hi : 0 ≤ (S3.1 11 1 36).toInt ∧ (S3.1 11 1 36).toInt < 30 := by rw [e36]; exact hl_ix (by omega) (by omega)
      refine ⟨hi, fun S9 h9 => ⟨by rw [h9]; exact hi, fun S11 h11 => ⟨by rw [h11, h9]; exact hi, ?_, fun S14 h14 => ⟨by rw [h14, h11, h9]; exact hi, fun S16 h16 => ?_⟩⟩⟩⟩
      · rw [h11, h9, h3, hcc]; exact (hB c hc).2
      · have e24 : S16.1 11 1 24 = nI g := by rw [h16, h14, h11, h9, h3]; exact eg
        have e36' : S16.1 11 1 36 = nI n := by rw [h16, h14, h11, h9]; exact e36
        have e72 : ∀ b, S16.1 72 1 b = S.1 72 1 b := fun b => by rw [h16, h14, h11, h9, h3]; rfl
        have e66 : ∀ b, S16.1 66 1 b = S.1 66 1 b := fun b => by rw [h16, h14, h11, h9, h3]; rfl
        refine ⟨fun N x T => ∃ j, j ≤ g ∧ x = nI j ∧ T = hs_rw S16 72 (bellQ a1 S j n) ∧ N = g - j, ⟨g, 0, Nat.zero_le _, rfl, ?_, rfl⟩, ?_⟩
        · have : bellQ a1 S 0 n = S16.1 72 1 := by
            funext b
            rw [e72]; unfold bellQ
            exact if_neg fun z => absurd z.1 (by omega)
          rw [this]; exact hs_rw_0.symm
        rintro N x T ⟨j, hj, rfl, rfl, rfl⟩
        refine ⟨fun h => ?_, fun h => ?_⟩
        · have hjg : j = g := hl_end (by omega) hj (by have : (hs_rw S16 72 (bellQ a1 S j n)).1 11 1 24 = nI g := e24; rw [← this]; exact h)
          subst hjg
          intro S28 h28 S29 h29
          have eB : S29 = E_bell a1 (bellQ a1 S j n) (E_asks 1 S) := by
            rw [h29, h28, h16, h14, h11, h9, h3']; rfl
          have e29 : S29.1 11 1 36 = nI (n + 1) := by
            rw [h29, h28]
            show S16.1 11 1 36 + 1 = _
            rw [e36']; exact nI_1 n
          have e29' : S29.1 11 1 36 - 1 = nI n := by rw [e29, nI_s1 (by omega) (by omega)]; rfl
          rw [e29']
          refine ⟨by rw [eB]; exact hC hn30 ok w, fun S31 h31 S34 h34 => ?_⟩
          have e31 : S31.1 11 1 36 - 1 = nI n := by rw [R_36 h31]; exact e29'
          rw [e31] at h34 ⊢
          refine ⟨fun z => absurd ok z, fun _ => ⟨fun z => absurd z w, fun _ z => absurd (by rw [e36]; rw [en] at z; exact z) v, fun _ _ => ⟨n, j, S31, hn30, en, hg, eg, by rw [← eB]; exact h31, h34, rfl⟩⟩⟩
        · have hj1 : j < g := hl_go (by omega) hj (by have : (hs_rw S16 72 (bellQ a1 S j n)).1 11 1 24 = nI g := e24; rw [← this]; exact h)
          have hjc : (nI j).toNatClampNeg = j := hl_cl (by omega)
          have r66 : (hs_rw S16 72 (bellQ a1 S j n)).1 66 1 j = S.1 66 1 j := e66 j
          have r72 : (hs_rw S16 72 (bellQ a1 S j n)).1 72 1 j = S.1 72 1 j := by
            show bellQ a1 S j n j = _
            exact if_neg fun z => absurd z.1 (by omega)
          have r36 : (hs_rw S16 72 (bellQ a1 S j n)).1 11 1 36 = nI n := e36'
          rw [hjc, r66, r72, r36]
          refine ⟨hl_ix (by omega) (by omega), fun z hz => ⟨fun y S5 h5 => hl_nx hj1 ?_, fun y S5 h5 => hl_nx hj1 ?_⟩⟩
          · rw [h5, hs_rw_w]
            congr 1
            funext b
            have hnot : ¬ (S.1 66 1 j = a1 ∧ S.1 72 1 j = -1) := fun p => by
              rw [if_pos p.1, if_pos p.2] at hz
              rw [hz] at y; exact absurd y (by decide)
            unfold bellQ
            by_cases d : b = j
            · rw [if_pos d, d, if_neg fun p => hnot p.2]
            · rw [if_neg d]
              by_cases p : b < j ∧ S.1 66 1 b = a1 ∧ S.1 72 1 b = -1
              · rw [if_pos p, if_pos ⟨by omega, p.2⟩]
              · rw [if_neg p, if_neg fun p' => p ⟨by omega, p'.2⟩]
          · rw [h5, hs_rw_w]
            congr 1
            funext b
            have hyes : S.1 66 1 j = a1 ∧ S.1 72 1 j = -1 := by
              by_cases p1 : S.1 66 1 j = a1
              · by_cases p2 : S.1 72 1 j = -1
                · exact ⟨p1, p2⟩
                · rw [if_pos p1, if_neg p2] at hz; exact absurd hz y
              · rw [if_neg p1] at hz; exact absurd hz y
            unfold bellQ
            by_cases d : b = j
            · rw [if_pos d, d, if_pos ⟨by omega, hyes⟩]
            · rw [if_neg d]
              by_cases p : b < j ∧ S.1 66 1 b = a1 ∧ S.1 72 1 b = -1
              · rw [if_pos p, if_pos ⟨by omega, p.2⟩]
              · rw [if_neg p, if_neg fun p' => p ⟨by omega, p'.2⟩]
    · refine ⟨fun z => absurd ok z, fun _ => ⟨fun z => absurd z w, fun _ _ => ⟨by rw [h5, h3'], rfl⟩, fun _ z => absurd (by rw [en]; rw [e36] at v; exact v) z⟩⟩
    · rw [h5, h3, hcc]; exact (hB c hc).1
    · refine ⟨fun z => absurd ok z, fun _ => ⟨fun _ => ⟨?_, rfl⟩, fun z => absurd w z, fun z => absurd w z⟩⟩
      rw [h7, h6, h5, h3']; rfl
  · have nok : ¬ okCol a1 := fun w => by rw [hx', bI_t w] at q; exact absurd q (by decide)
    exact ⟨fun _ => ⟨by rw [h3, hx', bI_f nok], rfl⟩, fun w => absurd w nok⟩

