abbrev okEdit (a1 a2 a3 : Int32) (S : hs_S) : Prop := ¬ F_isCell a1 a2 = 0 ∧ ¬ a3 < 0 ∧ ¬ F_editsOf (6 * a1 + a2) S ≤ a3
def edV (S : hs_S) (c w : Int32) (k : Nat) : Int32 := if 4 ≤ w then (if w = 4 then S.1 57 1 k else if w = 5 then (if S.1 58 1 k = 0 then 0 else 1) else (if F_editAt c (S.1 11 1 0) S = nI k then 1 else 0)) else (if w = 0 then nI k else if w = 1 then S.1 55 1 k else if w = 2 then S.1 56 1 k else S.1 54 1 k)
def P_edit (a1 a2 a3 a4 : Int32) (S : hs_S) : Prop := cN (S.1 11 1 12) 60
def R_edit (a1 a2 a3 a4 : Int32) (S : hs_S) (r : Int32) (T : hs_S) : Prop :=
  (¬ okEdit a1 a2 a3 S → T = E_asks 0 S ∧ r = 0) ∧ (okEdit a1 a2 a3 S →
    (F_in a4 0 6 = 0 → T = E_fails 2 (E_asks 1 S) ∧ r = 0) ∧
    (¬ F_in a4 0 6 = 0 → T = E_asks 1 S ∧ ∃ k n : Nat, k < n ∧ n ≤ 60 ∧ S.1 11 1 12 = nI n ∧ S.1 53 1 k = 6 * a1 + a2 ∧ mEO S (6 * a1 + a2) k = a3 ∧ r = edV S (6 * a1 + a2) a4 k))
def m_M_edit (a1 : Int32) (a2 : Int32) (a3 : Int32) (a4 : Int32) (S : hs_S) (Q : Int32 → hs_S → Prop) : Prop := hs_M 2 yX11_edit (.code yX11_edit cX11_edit 8 (some FieldType.int)) [.inr (.inr (11, 1)), .inl a1, .inl a2, .inl a3, .inl a4] S 0 0 (hs_qI Q) hs_nX
def vc_M_edit (a1 : Int32) (a2 : Int32) (a3 : Int32) (a4 : Int32) (S : hs_S) (Q : Int32 → hs_S → Prop) : Prop := ((((F_isCell a1 a2) = 0 → True) ∧ (¬ (F_isCell a1 a2) = 0 → ((a3 < 0 → True) ∧ (¬ a3 < 0 → ((P_editsOf (((6 : Int32) * a1) + a2) S) ∧ (((F_editsOf (((6 : Int32) * a1) + a2) S) ≤ a3 → True) ∧ (¬ (F_editsOf (((6 : Int32) * a1) + a2) S) ≤ a3 → True))))))) ∧ (∀ x1 : Int32, x1 = (if (F_isCell a1 a2) = 0 then (0 : Int32) else (if a3 < 0 then (0 : Int32) else (if (F_editsOf (((6 : Int32) * a1) + a2) S) ≤ a3 then (0 : Int32) else (1 : Int32)))) → ((P_asks x1 S) ∧ (∀ S3 : hs_S, S3 = (E_asks x1 S) → ((¬ x1 = 0 → ((¬ (F_in a4 (0 : Int32) (6 : Int32)) = 0 → (∃ I8 : Nat → Int32 → Int32 → Prop, (∃ n12, I8 n12 (0 : Int32) a3) ∧ (∀ N9 : Nat, ∀ x6 : Int32, ∀ x7 : Int32, I8 N9 x6 x7 → ((0 ≤ x6.toInt ∧ x6.toInt < 60) ∧ ((¬ (S3.1 53 1 x6.toNatClampNeg) = (((6 : Int32) * a1) + a2) → ((¬ (S3.1 53 1 x6.toNatClampNeg) = (((6 : Int32) * a1) + a2) → (∃ q19, q19 < N9 ∧ I8 q19 (x6 + 1) (x7 - (0 : Int32)))) ∧ ((S3.1 53 1 x6.toNatClampNeg) = (((6 : Int32) * a1) + a2) → (∃ q21, q21 < N9 ∧ I8 q21 (x6 + 1) (x7 - (1 : Int32)))))) ∧ ((S3.1 53 1 x6.toNatClampNeg) = (((6 : Int32) * a1) + a2) → ((x7 ≤ 0 → (((4 : Int32) ≤ a4 → ((¬ a4 = (4 : Int32) → ((¬ a4 = (5 : Int32) → ((P_editAt (((6 : Int32) * a1) + a2) (S3.1 11 1 0) S3) ∧ ((¬ (F_editAt (((6 : Int32) * a1) + a2) (S3.1 11 1 0) S3) = x6 → (Q (0 : Int32) S3)) ∧ ((F_editAt (((6 : Int32) * a1) + a2) (S3.1 11 1 0) S3) = x6 → (Q (1 : Int32) S3))))) ∧ (a4 = (5 : Int32) → (((S3.1 58 1 x6.toNatClampNeg) = 0 → (Q (0 : Int32) S3)) ∧ (¬ (S3.1 58 1 x6.toNatClampNeg) = 0 → (Q (1 : Int32) S3)))))) ∧ (a4 = (4 : Int32) → (Q (S3.1 57 1 x6.toNatClampNeg) S3)))) ∧ (¬ (4 : Int32) ≤ a4 → ((¬ a4 = 0 → ((¬ a4 = (1 : Int32) → ((¬ a4 = (2 : Int32) → (Q (S3.1 54 1 x6.toNatClampNeg) S3)) ∧ (a4 = (2 : Int32) → (Q (S3.1 56 1 x6.toNatClampNeg) S3)))) ∧ (a4 = (1 : Int32) → (Q (S3.1 55 1 x6.toNatClampNeg) S3)))) ∧ (a4 = 0 → (Q x6 S3)))))) ∧ (¬ x7 ≤ 0 → ((¬ (S3.1 53 1 x6.toNatClampNeg) = (((6 : Int32) * a1) + a2) → (∃ q34, q34 < N9 ∧ I8 q34 (x6 + 1) (x7 - (0 : Int32)))) ∧ ((S3.1 53 1 x6.toNatClampNeg) = (((6 : Int32) * a1) + a2) → (∃ q36, q36 < N9 ∧ I8 q36 (x6 + 1) (x7 - (1 : Int32))))))))))))) ∧ ((F_in a4 (0 : Int32) (6 : Int32)) = 0 → (∀ S38 : hs_S, S38 = (E_fails (2 : Int32) S3) → (Q (0 : Int32) S38))))) ∧ (x1 = 0 → (Q (0 : Int32) S3)))))))
set_option maxRecDepth 100000 in
set_option maxHeartbeats 4000000 in
theorem ok_M_edit {a1 : Int32} {a2 : Int32} {a3 : Int32} {a4 : Int32} {S : hs_S} {Q : Int32 → hs_S → Prop} (hw : hs_Wi S) (hv : vc_M_edit a1 a2 a3 a4 S Q) : m_M_edit a1 a2 a3 a4 S Q := by
  unfold vc_M_edit at hv
  refine hs_body (own := RX11) rfl rfl (Nat.le_of_ble_eq_true rfl) (fun Z X E N J0 => ?_)
  show wa Z 0 0 S 0 [(0, .inr (.inr (11, 1))), (1, .inl a1), (2, .inl a2), (3, .inl a3), (4, .inl a4)] []
  refine wa_aload_n X 0 rfl dX11_edit_0 rfl ?_
  refine wa_iload_n X 1 rfl dX11_edit_1 rfl ?_
  refine wa_iload_n X 2 rfl dX11_edit_2 rfl ?_
  refine wa_callS X (As := [.inl a1, .inl a2]) (f_M_isCell hw) kw_1379 kw_66 kw_1377 kw_1378 nd_X11_isCell rfl rfl (Nat.le_of_ble_eq_true rfl) dX11_edit_3 ⟨⟨Nat.le_of_ble_eq_true rfl, Nat.le_of_ble_eq_true rfl⟩, Nat.le_of_ble_eq_true rfl, Nat.le_of_ble_eq_true rfl⟩ (hs_pdk0 ?_) (fun _ _ h => h.elim)
  obtain ⟨o40, hv⟩ := hv
  have k39 : ∀ (x1 : Int32), x1 = (if (F_isCell a1 a2) = 0 then (0 : Int32) else (if a3 < 0 then (0 : Int32) else (if (F_editsOf (((6 : Int32) * a1) + a2) S) ≤ a3 then (0 : Int32) else (1 : Int32)))) → wa Z 0 0 S 32 [(0, .inr (.inr (11, 1))), (1, .inl a1), (2, .inl a2), (3, .inl a3), (4, .inl a4)] [.inl x1, .inr (.inr (11, 1))] := by
    intro x1 hE
    replace hv := hv _ hE
    obtain ⟨o2, hv⟩ := hv
    refine wa_callV X (As := [.inl x1]) (f_M_asks hw o2) hk_11 hc_11 rfl kw_1383 kw_66 kw_1380 kw_1382 kw_20 nd_X11_asks rfl rfl (Nat.le_of_ble_eq_true rfl) dX11_edit_32 hs_1ne ⟨⟨Nat.le_of_ble_eq_true rfl, Nat.le_of_ble_eq_true rfl⟩, Nat.le_of_ble_eq_true rfl, Nat.le_of_ble_eq_true rfl⟩ (hs_pdk fun S3 hS3 hw => ?_) (fun _ _ h => h.elim)
    replace hv := hv S3 hS3
    refine wa_if_ne X (tgt := 40) dX11_edit_35 (by decide) (fun c4 => ?_) (fun c4 => ?_)
    · replace hv := hv.1 c4
      refine wa_iload X 4 rfl dX11_edit_40 ?_
      refine wa_iconst X dX11_edit_42 kc0 ?_
      refine wa_bipush X dX11_edit_43 kb6 ?_
      refine wa_callS X (As := [.inl a4, .inl (0 : Int32), .inl (6 : Int32)]) (f_M_in hw) kw_1420 kw_66 kw_1418 kw_1419 nd_X11_in rfl rfl (Nat.le_of_ble_eq_true rfl) dX11_edit_45 ⟨⟨Nat.le_of_ble_eq_true rfl, Nat.le_of_ble_eq_true rfl⟩, Nat.le_of_ble_eq_true rfl, Nat.le_of_ble_eq_true rfl⟩ (hs_pdk0 ?_) (fun _ _ h => h.elim)
      refine wa_if_ne X (tgt := 57) dX11_edit_48 (by decide) (fun c5 => ?_) (fun c5 => ?_)
      · replace hv := hv.1 c5
        refine wa_bipush X dX11_edit_57 kb6 ?_
        refine wa_iload_n X 1 rfl dX11_edit_59 rfl ?_
        refine wa_imul X dX11_edit_60 ?_
        refine wa_iload_n X 2 rfl dX11_edit_61 rfl ?_
        refine wa_iadd X dX11_edit_62 ?_
        refine wa_istore X (lv' := [(5, .inl (((6 : Int32) * a1) + a2)), (0, .inr (.inr (11, 1))), (1, .inl a1), (2, .inl a2), (3, .inl a3), (4, .inl a4)]) dX11_edit_63 (by decide) rfl ?_
        refine wa_iconst X dX11_edit_65 kc0 ?_
        refine wa_istore X (lv' := [(6, .inl (0 : Int32)), (5, .inl (((6 : Int32) * a1) + a2)), (0, .inr (.inr (11, 1))), (1, .inl a1), (2, .inl a2), (3, .inl a3), (4, .inl a4)]) dX11_edit_66 (by decide) rfl ?_
        refine wa_iload_n X 5 rfl dX11_edit_68 rfl ?_
        refine wa_istore X (lv' := [(7, .inl a3), (6, .inl (0 : Int32)), (5, .inl (((6 : Int32) * a1) + a2)), (0, .inr (.inr (11, 1))), (1, .inl a1), (2, .inl a2), (3, .inl a3), (4, .inl a4)]) dX11_edit_69 (by decide) rfl ?_
        obtain ⟨I8, ⟨n12, i10⟩, b11⟩ := hv
        refine wa_lv (lv' := [(0, .inr (.inr (11, 1))), (4, .inl a4), (5, .inl (((6 : Int32) * a1) + a2)), (6, .inl (0 : Int32)), (7, .inl a3)]) [3, 7, 2, 1, 0] rfl ?_
        suffices L13 : ∀ N9 : Nat, ∀ x6 : Int32, ∀ x7 : Int32, I8 N9 x6 x7 → wa Z 0 0 S3 71 [(0, .inr (.inr (11, 1))), (4, .inl a4), (5, .inl (((6 : Int32) * a1) + a2)), (6, .inl x6), (7, .inl x7)] [] from L13 _ _ _ i10
        clear i10
        intro N9
        induction N9 using Nat.strongRecOn with
        | _ N9 h14 =>
          intro x6 x7 j15
          have hv := b11 N9 x6 x7 j15
          refine wa_aload_n X 0 rfl dX11_edit_71 rfl ?_
          refine wa_getfw X hw (j := 13) (r := 1) hk_11 hc_11 i_11 (by decide) kw_1197 rfl rfl (by decide) rfl dX11_edit_72 hs_1ne ?_
          refine wa_iload X 3 rfl dX11_edit_75 ?_
          obtain ⟨o16, hv⟩ := hv
          refine wa_iald X hk_53 dX11_edit_77 hs_1ne o16 ?_
          refine wa_iload X 2 rfl dX11_edit_78 ?_
          refine wa_icmp_ne X (tgt := 88) dX11_edit_80 (by decide) (fun c17 => ?_) (fun c17 => ?_)
          · replace hv := hv.1 c17
            refine wa_iload X 4 rfl dX11_edit_88 ?_
            refine wa_aload_n X 0 rfl dX11_edit_90 rfl ?_
            refine wa_getfw X hw (j := 13) (r := 1) hk_11 hc_11 i_11 (by decide) kw_1197 rfl rfl (by decide) rfl dX11_edit_91 hs_1ne ?_
            refine wa_iload X 3 rfl dX11_edit_94 ?_
            refine wa_iald X hk_53 dX11_edit_96 hs_1ne o16 ?_
            refine wa_iload X 2 rfl dX11_edit_97 ?_
            refine wa_icmp_ne X (tgt := 106) dX11_edit_99 (by decide) (fun c18 => ?_) (fun c18 => ?_)
            · replace hv := hv.1 c18
              refine wa_iconst X dX11_edit_106 kc0 ?_
              refine wa_isub X dX11_edit_107 ?_
              refine wa_istore X (lv' := [(7, .inl (x7 - (0 : Int32))), (0, .inr (.inr (11, 1))), (4, .inl a4), (5, .inl (((6 : Int32) * a1) + a2)), (6, .inl x6)]) dX11_edit_108 (by decide) rfl ?_
              refine wa_iinc X (v := (x6 + 1)) (lv' := [(6, .inl (x6 + 1)), (7, .inl (x7 - (0 : Int32))), (0, .inr (.inr (11, 1))), (4, .inl a4), (5, .inl (((6 : Int32) * a1) + a2))]) 4 rfl dX11_edit_110 rfl (by decide) rfl ?_
              refine wa_goto X (tgt := 71) dX11_edit_113 (by decide) ?_
              obtain ⟨q19, p20, hv⟩ := hv
              refine wa_lv (lv' := [(0, .inr (.inr (11, 1))), (4, .inl a4), (5, .inl (((6 : Int32) * a1) + a2)), (6, .inl (x6 + 1)), (7, .inl (x7 - (0 : Int32)))]) [2, 3, 4, 0, 1] rfl ?_
              exact h14 q19 p20 _ _ hv
            · replace hv := hv.2 c18
              refine wa_iconst X dX11_edit_102 kc1 ?_
              refine wa_goto X (tgt := 107) dX11_edit_103 (by decide) ?_
              refine wa_isub X dX11_edit_107 ?_
              refine wa_istore X (lv' := [(7, .inl (x7 - (1 : Int32))), (0, .inr (.inr (11, 1))), (4, .inl a4), (5, .inl (((6 : Int32) * a1) + a2)), (6, .inl x6)]) dX11_edit_108 (by decide) rfl ?_
              refine wa_iinc X (v := (x6 + 1)) (lv' := [(6, .inl (x6 + 1)), (7, .inl (x7 - (1 : Int32))), (0, .inr (.inr (11, 1))), (4, .inl a4), (5, .inl (((6 : Int32) * a1) + a2))]) 4 rfl dX11_edit_110 rfl (by decide) rfl ?_
              refine wa_goto X (tgt := 71) dX11_edit_113 (by decide) ?_
              obtain ⟨q21, p22, hv⟩ := hv
              refine wa_lv (lv' := [(0, .inr (.inr (11, 1))), (4, .inl a4), (5, .inl (((6 : Int32) * a1) + a2)), (6, .inl (x6 + 1)), (7, .inl (x7 - (1 : Int32)))]) [2, 3, 4, 0, 1] rfl ?_
              exact h14 q21 p22 _ _ hv
          · replace hv := hv.2 c17
            refine wa_iload X 4 rfl dX11_edit_83 ?_
            refine wa_if_le X (tgt := 116) dX11_edit_85 (by decide) (fun c23 => ?_) (fun c23 => ?_)
            · replace hv := hv.1 c23
              refine wa_iload X 1 rfl dX11_edit_116 ?_
              refine wa_iconst X dX11_edit_118 kc4 ?_
              refine wa_icmp_ge X (tgt := 172) dX11_edit_119 (by decide) (fun c24 => ?_) (fun c24 => ?_)
              · replace hv := hv.1 c24
                refine wa_iload X 1 rfl dX11_edit_172 ?_
                refine wa_iconst X dX11_edit_174 kc4 ?_
                refine wa_icmp_ne X (tgt := 188) dX11_edit_175 (by decide) (fun c25 => ?_) (fun c25 => ?_)
                · replace hv := hv.1 c25
                  refine wa_iload X 1 rfl dX11_edit_188 ?_
                  refine wa_iconst X dX11_edit_190 kc5 ?_
                  refine wa_icmp_ne X (tgt := 212) dX11_edit_191 (by decide) (fun c26 => ?_) (fun c26 => ?_)
                  · replace hv := hv.1 c26
                    refine wa_aload_n X 0 rfl dX11_edit_212 rfl ?_
                    refine wa_iload X 2 rfl dX11_edit_213 ?_
                    refine wa_aload_n X 0 rfl dX11_edit_215 rfl ?_
                    refine wa_getI X (j := 0) hk_11 hc_11 i_11 (by decide) kw_1184 rfl dX11_edit_216 hs_1ne ?_
                    obtain ⟨o27, hv⟩ := hv
                    refine wa_callV X (As := [.inl (((6 : Int32) * a1) + a2), .inl (S3.1 11 1 0)]) (f_M_editAt hw o27) hk_11 hc_11 rfl kw_1471 kw_66 kw_1468 kw_1470 kw_31 nd_X11_editAt rfl rfl (Nat.le_of_ble_eq_true rfl) dX11_edit_219 hs_1ne ⟨⟨Nat.le_of_ble_eq_true rfl, Nat.le_of_ble_eq_true rfl⟩, Nat.le_of_ble_eq_true rfl, Nat.le_of_ble_eq_true rfl⟩ (hs_pdk0 ?_) (fun _ _ h => h.elim)
                    refine wa_iload X 3 rfl dX11_edit_222 ?_
                    refine wa_icmp_ne X (tgt := 231) dX11_edit_224 (by decide) (fun c28 => ?_) (fun c28 => ?_)
                    · replace hv := hv.1 c28
                      refine wa_iconst X dX11_edit_231 kc0 ?_
                      exact wa_ireturn X E dX11_edit_232 (Nat.le_of_ble_eq_true rfl) (Nat.le_of_ble_eq_true rfl) (Or.inl rfl) ⟨hw, _, rfl, hv⟩
                    · replace hv := hv.2 c28
                      refine wa_iconst X dX11_edit_227 kc1 ?_
                      refine wa_goto X (tgt := 232) dX11_edit_228 (by decide) ?_
                      exact wa_ireturn X E dX11_edit_232 (Nat.le_of_ble_eq_true rfl) (Nat.le_of_ble_eq_true rfl) (Or.inl rfl) ⟨hw, _, rfl, hv⟩
                  · replace hv := hv.2 c26
                    refine wa_aload_n X 0 rfl dX11_edit_194 rfl ?_
                    refine wa_getfw X hw (j := 18) (r := 1) hk_11 hc_11 i_11 (by decide) kw_1202 rfl rfl (by decide) rfl dX11_edit_195 hs_1ne ?_
                    refine wa_iload X 3 rfl dX11_edit_198 ?_
                    refine wa_bald X hk_58 dX11_edit_200 hs_1ne o16 ?_
                    refine wa_if_eq X (tgt := 208) dX11_edit_201 (by decide) (fun c29 => ?_) (fun c29 => ?_)
                    · replace hv := hv.1 c29
                      refine wa_iconst X dX11_edit_208 kc0 ?_
                      refine wa_goto X (tgt := 232) dX11_edit_209 (by decide) ?_
                      exact wa_ireturn X E dX11_edit_232 (Nat.le_of_ble_eq_true rfl) (Nat.le_of_ble_eq_true rfl) (Or.inl rfl) ⟨hw, _, rfl, hv⟩
                    · replace hv := hv.2 c29
                      refine wa_iconst X dX11_edit_204 kc1 ?_
                      refine wa_goto X (tgt := 232) dX11_edit_205 (by decide) ?_
                      exact wa_ireturn X E dX11_edit_232 (Nat.le_of_ble_eq_true rfl) (Nat.le_of_ble_eq_true rfl) (Or.inl rfl) ⟨hw, _, rfl, hv⟩
                · replace hv := hv.2 c25
                  refine wa_aload_n X 0 rfl dX11_edit_178 rfl ?_
                  refine wa_getfw X hw (j := 17) (r := 1) hk_11 hc_11 i_11 (by decide) kw_1201 rfl rfl (by decide) rfl dX11_edit_179 hs_1ne ?_
                  refine wa_iload X 3 rfl dX11_edit_182 ?_
                  refine wa_iald X hk_57 dX11_edit_184 hs_1ne o16 ?_
                  refine wa_goto X (tgt := 232) dX11_edit_185 (by decide) ?_
                  exact wa_ireturn X E dX11_edit_232 (Nat.le_of_ble_eq_true rfl) (Nat.le_of_ble_eq_true rfl) (Or.inl rfl) ⟨hw, _, rfl, hv⟩
              · replace hv := hv.2 c24
                refine wa_iload X 1 rfl dX11_edit_122 ?_
                refine wa_if_ne X (tgt := 132) dX11_edit_124 (by decide) (fun c30 => ?_) (fun c30 => ?_)
                · replace hv := hv.1 c30
                  refine wa_iload X 1 rfl dX11_edit_132 ?_
                  refine wa_iconst X dX11_edit_134 kc1 ?_
                  refine wa_icmp_ne X (tgt := 148) dX11_edit_135 (by decide) (fun c31 => ?_) (fun c31 => ?_)
                  · replace hv := hv.1 c31
                    refine wa_iload X 1 rfl dX11_edit_148 ?_
                    refine wa_iconst X dX11_edit_150 kc2 ?_
                    refine wa_icmp_ne X (tgt := 164) dX11_edit_151 (by decide) (fun c32 => ?_) (fun c32 => ?_)
                    · replace hv := hv.1 c32
                      refine wa_aload_n X 0 rfl dX11_edit_164 rfl ?_
                      refine wa_getfw X hw (j := 14) (r := 1) hk_11 hc_11 i_11 (by decide) kw_1198 rfl rfl (by decide) rfl dX11_edit_165 hs_1ne ?_
                      refine wa_iload X 3 rfl dX11_edit_168 ?_
                      refine wa_iald X hk_54 dX11_edit_170 hs_1ne o16 ?_
                      exact wa_ireturn X E dX11_edit_171 (Nat.le_of_ble_eq_true rfl) (Nat.le_of_ble_eq_true rfl) (Or.inl rfl) ⟨hw, _, rfl, hv⟩
                    · replace hv := hv.2 c32
                      refine wa_aload_n X 0 rfl dX11_edit_154 rfl ?_
                      refine wa_getfw X hw (j := 16) (r := 1) hk_11 hc_11 i_11 (by decide) kw_1200 rfl rfl (by decide) rfl dX11_edit_155 hs_1ne ?_
                      refine wa_iload X 3 rfl dX11_edit_158 ?_
                      refine wa_iald X hk_56 dX11_edit_160 hs_1ne o16 ?_
                      refine wa_goto X (tgt := 171) dX11_edit_161 (by decide) ?_
                      exact wa_ireturn X E dX11_edit_171 (Nat.le_of_ble_eq_true rfl) (Nat.le_of_ble_eq_true rfl) (Or.inl rfl) ⟨hw, _, rfl, hv⟩
                  · replace hv := hv.2 c31
                    refine wa_aload_n X 0 rfl dX11_edit_138 rfl ?_
                    refine wa_getfw X hw (j := 15) (r := 1) hk_11 hc_11 i_11 (by decide) kw_1199 rfl rfl (by decide) rfl dX11_edit_139 hs_1ne ?_
                    refine wa_iload X 3 rfl dX11_edit_142 ?_
                    refine wa_iald X hk_55 dX11_edit_144 hs_1ne o16 ?_
                    refine wa_goto X (tgt := 171) dX11_edit_145 (by decide) ?_
                    exact wa_ireturn X E dX11_edit_171 (Nat.le_of_ble_eq_true rfl) (Nat.le_of_ble_eq_true rfl) (Or.inl rfl) ⟨hw, _, rfl, hv⟩
                · replace hv := hv.2 c30
                  refine wa_iload X 3 rfl dX11_edit_127 ?_
                  refine wa_goto X (tgt := 171) dX11_edit_129 (by decide) ?_
                  exact wa_ireturn X E dX11_edit_171 (Nat.le_of_ble_eq_true rfl) (Nat.le_of_ble_eq_true rfl) (Or.inl rfl) ⟨hw, _, rfl, hv⟩
            · replace hv := hv.2 c23
              refine wa_iload X 4 rfl dX11_edit_88 ?_
              refine wa_aload_n X 0 rfl dX11_edit_90 rfl ?_
              refine wa_getfw X hw (j := 13) (r := 1) hk_11 hc_11 i_11 (by decide) kw_1197 rfl rfl (by decide) rfl dX11_edit_91 hs_1ne ?_
              refine wa_iload X 3 rfl dX11_edit_94 ?_
              refine wa_iald X hk_53 dX11_edit_96 hs_1ne o16 ?_
              refine wa_iload X 2 rfl dX11_edit_97 ?_
              refine wa_icmp_ne X (tgt := 106) dX11_edit_99 (by decide) (fun c33 => ?_) (fun c33 => ?_)
              · replace hv := hv.1 c33
                refine wa_iconst X dX11_edit_106 kc0 ?_
                refine wa_isub X dX11_edit_107 ?_
                refine wa_istore X (lv' := [(7, .inl (x7 - (0 : Int32))), (0, .inr (.inr (11, 1))), (4, .inl a4), (5, .inl (((6 : Int32) * a1) + a2)), (6, .inl x6)]) dX11_edit_108 (by decide) rfl ?_
                refine wa_iinc X (v := (x6 + 1)) (lv' := [(6, .inl (x6 + 1)), (7, .inl (x7 - (0 : Int32))), (0, .inr (.inr (11, 1))), (4, .inl a4), (5, .inl (((6 : Int32) * a1) + a2))]) 4 rfl dX11_edit_110 rfl (by decide) rfl ?_
                refine wa_goto X (tgt := 71) dX11_edit_113 (by decide) ?_
                obtain ⟨q34, p35, hv⟩ := hv
                refine wa_lv (lv' := [(0, .inr (.inr (11, 1))), (4, .inl a4), (5, .inl (((6 : Int32) * a1) + a2)), (6, .inl (x6 + 1)), (7, .inl (x7 - (0 : Int32)))]) [2, 3, 4, 0, 1] rfl ?_
                exact h14 q34 p35 _ _ hv
              · replace hv := hv.2 c33
                refine wa_iconst X dX11_edit_102 kc1 ?_
                refine wa_goto X (tgt := 107) dX11_edit_103 (by decide) ?_
                refine wa_isub X dX11_edit_107 ?_
                refine wa_istore X (lv' := [(7, .inl (x7 - (1 : Int32))), (0, .inr (.inr (11, 1))), (4, .inl a4), (5, .inl (((6 : Int32) * a1) + a2)), (6, .inl x6)]) dX11_edit_108 (by decide) rfl ?_
                refine wa_iinc X (v := (x6 + 1)) (lv' := [(6, .inl (x6 + 1)), (7, .inl (x7 - (1 : Int32))), (0, .inr (.inr (11, 1))), (4, .inl a4), (5, .inl (((6 : Int32) * a1) + a2))]) 4 rfl dX11_edit_110 rfl (by decide) rfl ?_
                refine wa_goto X (tgt := 71) dX11_edit_113 (by decide) ?_
                obtain ⟨q36, p37, hv⟩ := hv
                refine wa_lv (lv' := [(0, .inr (.inr (11, 1))), (4, .inl a4), (5, .inl (((6 : Int32) * a1) + a2)), (6, .inl (x6 + 1)), (7, .inl (x7 - (1 : Int32)))]) [2, 3, 4, 0, 1] rfl ?_
                exact h14 q36 p37 _ _ hv
      · replace hv := hv.2 c5
        refine wa_aload_n X 0 rfl dX11_edit_51 rfl ?_
        refine wa_iconst X dX11_edit_52 kc2 ?_
        refine wa_callV X (As := [.inl (2 : Int32)]) (f_M_fails hw) hk_11 hc_11 rfl kw_1391 kw_66 kw_1388 kw_1390 kw_22 nd_X11_fails rfl rfl (Nat.le_of_ble_eq_true rfl) dX11_edit_53 hs_1ne ⟨⟨Nat.le_of_ble_eq_true rfl, Nat.le_of_ble_eq_true rfl⟩, Nat.le_of_ble_eq_true rfl, Nat.le_of_ble_eq_true rfl⟩ (hs_pdk fun S38 hS38 hw => ?_) (fun _ _ h => h.elim)
        replace hv := hv S38 hS38
        exact wa_ireturn X E dX11_edit_56 (Nat.le_of_ble_eq_true rfl) (Nat.le_of_ble_eq_true rfl) (Or.inl rfl) ⟨hw, _, rfl, hv⟩
    · replace hv := hv.2 c4
      refine wa_iconst X dX11_edit_38 kc0 ?_
      exact wa_ireturn X E dX11_edit_39 (Nat.le_of_ble_eq_true rfl) (Nat.le_of_ble_eq_true rfl) (Or.inl rfl) ⟨hw, _, rfl, hv⟩
  replace hv := o40
  refine wa_if_eq X (tgt := 31) dX11_edit_6 (by decide) (fun c42 => ?_) (fun c42 => ?_)
  · replace hv := hv.1 c42
    refine wa_iconst X dX11_edit_31 kc0 ?_
    refine wa_lv (lv' := [(0, .inr (.inr (11, 1))), (1, .inl a1), (2, .inl a2), (3, .inl a3), (4, .inl a4)]) [0, 1, 2, 3, 4] rfl ?_
    exact wa_wid (Nat.le_of_ble_eq_true rfl) (Nat.le_of_ble_eq_true rfl) (k39 _  (by rw [if_pos c42]))
  · replace hv := hv.2 c42
    refine wa_iload_n X 3 rfl dX11_edit_9 rfl ?_
    refine wa_if_lt X (tgt := 31) dX11_edit_10 (by decide) (fun c43 => ?_) (fun c43 => ?_)
    · replace hv := hv.1 c43
      refine wa_iconst X dX11_edit_31 kc0 ?_
      refine wa_lv (lv' := [(0, .inr (.inr (11, 1))), (1, .inl a1), (2, .inl a2), (3, .inl a3), (4, .inl a4)]) [0, 1, 2, 3, 4] rfl ?_
      exact wa_wid (Nat.le_of_ble_eq_true rfl) (Nat.le_of_ble_eq_true rfl) (k39 _  (by rw [if_neg c42, if_pos c43]))
    · replace hv := hv.2 c43
      refine wa_iload_n X 3 rfl dX11_edit_13 rfl ?_
      refine wa_aload_n X 0 rfl dX11_edit_14 rfl ?_
      refine wa_bipush X dX11_edit_15 kb6 ?_
      refine wa_iload_n X 1 rfl dX11_edit_17 rfl ?_
      refine wa_imul X dX11_edit_18 ?_
      refine wa_iload_n X 2 rfl dX11_edit_19 rfl ?_
      refine wa_iadd X dX11_edit_20 ?_
      obtain ⟨o44, hv⟩ := hv
      refine wa_callV X (As := [.inl (((6 : Int32) * a1) + a2)]) (f_M_editsOf hw o44) hk_11 hc_11 rfl kw_1513 kw_66 kw_1510 kw_1512 kw_39 nd_X11_editsOf rfl rfl (Nat.le_of_ble_eq_true rfl) dX11_edit_21 hs_1ne ⟨⟨Nat.le_of_ble_eq_true rfl, Nat.le_of_ble_eq_true rfl⟩, Nat.le_of_ble_eq_true rfl, Nat.le_of_ble_eq_true rfl⟩ (hs_pdk0 ?_) (fun _ _ h => h.elim)
      refine wa_icmp_ge X (tgt := 31) dX11_edit_24 (by decide) (fun c45 => ?_) (fun c45 => ?_)
      · replace hv := hv.1 c45
        refine wa_iconst X dX11_edit_31 kc0 ?_
        refine wa_lv (lv' := [(0, .inr (.inr (11, 1))), (1, .inl a1), (2, .inl a2), (3, .inl a3), (4, .inl a4)]) [0, 1, 2, 3, 4] rfl ?_
        exact wa_wid (Nat.le_of_ble_eq_true rfl) (Nat.le_of_ble_eq_true rfl) (k39 _  (by rw [if_neg c42, if_neg c43, if_pos c45]))
      · replace hv := hv.2 c45
        refine wa_iconst X dX11_edit_27 kc1 ?_
        refine wa_goto X (tgt := 32) dX11_edit_28 (by decide) ?_
        refine wa_lv (lv' := [(0, .inr (.inr (11, 1))), (1, .inl a1), (2, .inl a2), (3, .inl a3), (4, .inl a4)]) [0, 1, 2, 3, 4] rfl ?_
        exact wa_wid (Nat.le_of_ble_eq_true rfl) (Nat.le_of_ble_eq_true rfl) (k39 _  (by rw [if_neg c42, if_neg c43, if_neg c45]))
theorem mEO_b {S : hs_S} {c : Int32} (k : Nat) (hk : k ≤ 60) : 0 ≤ (mEO S c k).toInt ∧ (mEO S c k).toInt ≤ k ∧ (mEO S c (k + 1)).toInt = (mEO S c k).toInt + (if S.1 53 1 k = c then 1 else 0) := by
  have hb : ∀ j, j ≤ k → 0 ≤ (mEO S c j).toInt ∧ (mEO S c j).toInt ≤ j := by
    intro j
    induction j with
    | zero => intro _; exact ⟨Int.le_refl _, Int.le_refl _⟩
    | succ j ih =>
      intro hj
      have := ih (by omega)
      have o1 : (1 : Int32).toInt = 1 := rfl
      have z0 : (0 : Int32).toInt = 0 := rfl
      unfold mEO
      by_cases q : S.1 53 1 j = c
      · rw [if_pos q, i32_add (by omega)]; omega
      · rw [if_neg q, i32_add (by omega)]; omega
  obtain ⟨b1, b2⟩ := hb k (Nat.le_refl _)
  have o1 : (1 : Int32).toInt = 1 := rfl
  have z0 : (0 : Int32).toInt = 0 := rfl
  refine ⟨b1, b2, ?_⟩
  conv => lhs; unfold mEO
  by_cases q : S.1 53 1 k = c
  · rw [if_pos q, if_pos q, i32_add (by omega)]; omega
  · rw [if_neg q, if_neg q, i32_add (by omega)]; omega
theorem as_editAt {S : hs_S} {c e x : Int32} : F_editAt c e (E_asks x S) = F_editAt c e S := by
  show mEd (E_asks x S) c e (S.1 11 1 12).toNatClampNeg = mEd S c e (S.1 11 1 12).toNatClampNeg
  generalize (S.1 11 1 12).toNatClampNeg = k
  induction k with
  | zero => rfl
  | succ k ih => unfold mEd; rw [ih]; rfl
theorem v_M_edit {a1 a2 a3 a4 : Int32} {S : hs_S} (hP : P_edit a1 a2 a3 a4 S) : vc_M_edit a1 a2 a3 a4 S (fun r T => R_edit a1 a2 a3 a4 S r T) := by
  have hP' := hP
  obtain ⟨n, hn, en⟩ := hP
  have o1 : (1 : Int32).toInt = 1 := rfl
  have z0 : (0 : Int32).toInt = 0 := rfl
  unfold vc_M_edit
  refine ⟨⟨fun _ => True.intro, fun _ => ⟨fun _ => True.intro, fun _ => ⟨hP', fun _ => True.intro, fun _ => True.intro⟩⟩⟩, fun x hx => ?_⟩
  have hx' : x = bI (okEdit a1 a2 a3 S) := by
    rw [hx]; unfold bI
    by_cases p1 : F_isCell a1 a2 = 0 <;> by_cases p2 : a3 < 0 <;> by_cases p3 : F_editsOf (6 * a1 + a2) S ≤ a3 <;> simp [p1, p2, p3]
  refine ⟨by rw [hx']; exact bI_01 _, fun S3 h3 => ⟨fun q => ?_, fun q => ?_⟩⟩
  · have ok : okEdit a1 a2 a3 S := Classical.not_not.mp fun w => q (by rw [hx']; exact bI_f w)
    have h3' : S3 = E_asks 1 S := by rw [h3, hx', bI_t ok]
    refine ⟨fun w => ?_, fun w S5 h5 => ⟨fun z => absurd ok z, fun _ => ⟨fun _ => ⟨by rw [h5, h3'], rfl⟩, fun z => absurd w z⟩⟩⟩
    obtain ⟨ok1, ok2, ok3⟩ := ok
    have hlt : a3.toInt < (mEO S (6 * a1 + a2) n).toInt := by
      unfold F_editsOf at ok3
      rw [en, hl_cl (by omega), i32_le] at ok3
      omega
    have h30 : 0 ≤ a3.toInt := by rw [i32_lt, z0] at ok2; omega
    have e53 : ∀ k, S3.1 53 1 k = S.1 53 1 k := fun k => by rw [h3]; rfl
    have hn0 : 0 < n := by
      rcases Nat.eq_zero_or_pos n with z | z
      · rw [z] at hlt
        have : (mEO S (6 * a1 + a2) 0).toInt = 0 := rfl
        omega
      · exact z
    refine ⟨fun N x y => ∃ k, k < n ∧ x = nI k ∧ (y.toInt = a3.toInt - (mEO S (6 * a1 + a2) k).toInt ∧ 0 ≤ y.toInt) ∧ N = n - k, ⟨n, 0, hn0, rfl, ⟨by show a3.toInt = a3.toInt - 0; omega, h30⟩, rfl⟩, ?_⟩
    rintro N x y ⟨k, hk, rfl, ⟨hy, hy0⟩, rfl⟩
    have hkc : (nI k).toNatClampNeg = k := hl_cl (by omega)
    obtain ⟨m1, m2, m3⟩ := mEO_b (S := S) (c := 6 * a1 + a2) k (by omega)
    rw [hkc, e53]
    have hnx : ∀ z : Int32, z.toInt = (if S.1 53 1 k = 6 * a1 + a2 then 1 else 0) → (¬ S.1 53 1 k = 6 * a1 + a2 ∨ ¬ y ≤ 0) → ∃ q, q < n - k ∧ ∃ k', k' < n ∧ nI k + 1 = nI k' ∧ ((y - z).toInt = a3.toInt - (mEO S (6 * a1 + a2) k').toInt ∧ 0 ≤ (y - z).toInt) ∧ q = n - k' := fun z hz hor => by
      have hyz : (y - z).toInt = y.toInt - z.toInt := i32_sub (by
        have := i32_b a3
        rw [hz]; split <;> omega)
      have hge : 0 ≤ (y - z).toInt := by
        rw [hyz, hz]
        rcases hor with h | h
        · rw [if_neg h]; omega
        · rw [i32_le, z0] at h
          split <;> omega
      have hk1 : k + 1 < n := by
        rcases Nat.lt_or_ge (k + 1) n with h | h
        · exact h
        · exfalso
          have hkn : k + 1 = n := by omega
          rw [hkn] at m3
          rw [hyz, hz] at hge
          omega
      exact ⟨n - (k + 1), by omega, k + 1, hk1, nI_1 k, ⟨by rw [hyz, hz, m3, hy]; omega, hge⟩, rfl⟩
    have hfin : S.1 53 1 k = 6 * a1 + a2 → y ≤ 0 → ∀ r, r = edV S (6 * a1 + a2) a4 k → R_edit a1 a2 a3 a4 S r S3 := fun h1 h2 r hr => by
      rw [i32_le, z0] at h2
      refine ⟨fun z => absurd ⟨ok1, ok2, ok3⟩ z, fun _ => ⟨fun z => absurd z w, fun _ => ⟨h3', k, n, hk, hn, en, h1, i32_eq.mpr (by omega), hr⟩⟩⟩
    refine ⟨hl_ix (by omega) (by omega), fun h1 => ⟨fun h2 => hnx 0 (by rw [if_neg h1]; rfl) (Or.inl h1), fun h2 => absurd h2 h1⟩, fun h1 => ⟨fun h2 => ⟨fun h4 => ⟨fun h5 => ⟨fun h6 => ⟨by show cN (S3.1 11 1 12) 60; rw [h3]; exact hP', fun h7 => hfin h1 h2 _ ?_, fun h7 => hfin h1 h2 _ ?_⟩, fun h6 => ⟨fun h7 => hfin h1 h2 _ ?_, fun h7 => hfin h1 h2 _ ?_⟩⟩, fun h5 => hfin h1 h2 _ ?_⟩, fun h4 => ⟨fun h5 => ⟨fun h6 => ⟨fun h7 => hfin h1 h2 _ ?_, fun h7 => hfin h1 h2 _ ?_⟩, fun h6 => hfin h1 h2 _ ?_⟩, fun h5 => hfin h1 h2 _ ?_⟩⟩, fun h2 => ⟨fun h4 => absurd h1 h4, fun _ => hnx 1 (by rw [if_pos h1]; rfl) (Or.inr h2)⟩⟩⟩
    all_goals unfold edV
    · rw [if_pos h4, if_neg h5, if_neg h6, if_neg]
      intro z
      apply h7
      rw [h3', as_editAt]; exact z
    · rw [if_pos h4, if_neg h5, if_neg h6, if_pos]
      rw [h3', as_editAt] at h7; exact h7
    · rw [if_pos h4, if_neg h5, if_pos h6, if_pos (by rw [h3] at h7; exact h7)]
    · rw [if_pos h4, if_neg h5, if_pos h6, if_neg (by rw [h3] at h7; exact h7)]
    · rw [if_pos h4, if_pos h5, h3]; rfl
    · rw [if_neg h4, if_neg h5, if_neg h6, if_neg h7, h3]; rfl
    · rw [if_neg h4, if_neg h5, if_neg h6, if_pos h7, h3]; rfl
    · rw [if_neg h4, if_neg h5, if_pos h6, h3]; rfl
    · rw [if_neg h4, if_pos h5]
  · have nok : ¬ okEdit a1 a2 a3 S := fun w => by rw [hx', bI_t w] at q; exact absurd q (by decide)
    exact ⟨fun _ => ⟨by rw [h3, hx', bI_f nok], rfl⟩, fun w => absurd w nok⟩

