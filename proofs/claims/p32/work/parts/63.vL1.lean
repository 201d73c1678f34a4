def F_L_some (a1 a2 : Int32) : Int32 := hs_ushr a1 1 - hs_ushr a1 1 / a2 * a2
def P_L_some (_ a2 : Int32) (_ : hs_S) : Prop := ¬ a2 = 0
def m_L_some (a1 : Int32) (a2 : Int32) (S : hs_S) (Q : Int32 → hs_S → Prop) : Prop := hs_M 1 yL_some (.code yL_some cL_some 2 (some FieldType.int)) [.inl a1, .inl a2] S 0 0 (hs_qI Q) hs_nX
def vc_L_some (a1 : Int32) (a2 : Int32) (S : hs_S) (Q : Int32 → hs_S → Prop) : Prop := ((¬ a2 = 0) ∧ (Q ((hs_ushr a1 (1 : Int32)) - (hs_ushr a1 (1 : Int32)) / a2 * a2) S))
set_option maxRecDepth 100000 in
set_option maxHeartbeats 4000000 in
theorem ok_L_some {a1 : Int32} {a2 : Int32} {S : hs_S} {Q : Int32 → hs_S → Prop} (hw : hs_Wi S) (hv : vc_L_some a1 a2 S Q) : m_L_some a1 a2 S Q := by
  unfold vc_L_some at hv
  refine hs_body (own := RL) rfl rfl (Nat.le_of_ble_eq_true rfl) (fun Z X E N J0 => ?_)
  show wa Z 0 0 S 0 [(0, .inl a1), (1, .inl a2)] []
  refine wa_iload_n X 0 rfl dL_some_0 rfl ?_
  refine wa_iconst X dL_some_1 kc1 ?_
  refine wa_iushr X dL_some_2 ?_
  refine wa_iload_n X 1 rfl dL_some_3 rfl ?_
  obtain ⟨o1, hv⟩ := hv
  refine wa_irem X dL_some_4 o1 ?_
  exact wa_ireturn X E dL_some_5 (Nat.le_of_ble_eq_true rfl) (Nat.le_of_ble_eq_true rfl) (Or.inl rfl) ⟨hw, _, rfl, hv⟩
theorem v_L_some {a1 a2 : Int32} {S : hs_S} (hP : P_L_some a1 a2 S) : vc_L_some a1 a2 S (fun r S' => r = F_L_some a1 a2 ∧ S' = S) := ⟨hP, rfl, rfl⟩
theorem f_L_some {a1 : Int32} {a2 : Int32} {S : hs_S} (hw : hs_Wi S) (hP : P_L_some a1 a2 S) : hs_M 1 yL_some (.code yL_some cL_some 2 (some FieldType.int)) [.inl a1, .inl a2] S 0 0 (hs_pd (some (.inl (F_L_some a1 a2))) S) hs_nX := hs_pdI (ok_L_some hw (v_L_some hP))

def m_L_does (a2 : Int32) (a3 : Int32) (a4 : Int32) (a5 : Int32) (S : hs_S) (Q : Int32 → hs_S → Prop) (Ex : String → hs_S → Prop) : Prop := hs_M 56 yL_does (.code yL_does cL_does 5 (some FieldType.int)) [.inr (.inr (10, 1)), .inl a2, .inl a3, .inl a4, .inl a5] S 11 238 (hs_qI Q) (hs_qX Ex)
def vc_L_does (a2 : Int32) (a3 : Int32) (a4 : Int32) (a5 : Int32) (S : hs_S) (Q : Int32 → hs_S → Prop) (Ex : String → hs_S → Prop) : Prop := ((a2 = (0 : Int32) → (hs_Wi S → (m_C_give a3 ((a4 / (8 : Int32)) - (2 : Int32)) ((a4 - a4 / (8 : Int32) * (8 : Int32)) - (1 : Int32)) a5 S (fun r3 S2 => (Q r3 S2)) Ex))) ∧ (a2 = (1 : Int32) → (∀ x5 : Int32, x5 = (if (a5 - a5 / (2 : Int32) * (2 : Int32)) = (1 : Int32) then (1 : Int32) else (0 : Int32)) → (hs_Wi S → (m_C_let a3 ((a4 / (8 : Int32)) - (2 : Int32)) ((a4 - a4 / (8 : Int32) * (8 : Int32)) - (2 : Int32)) ((a5 / (16 : Int32)) - (1 : Int32)) (((a5 - a5 / (16 : Int32) * (16 : Int32)) / (2 : Int32)) - (1 : Int32)) x5 S (fun r7 S6 => (Q r7 S6)) Ex)))) ∧ (a2 = (2 : Int32) → (hs_Wi S → (m_C_word a3 a4 a5 S (fun r13 S12 => (Q r13 S12)) Ex))) ∧ (a2 = (3 : Int32) → (hs_Wi S → (m_C_enter a3 a4 a5 S (fun r16 S15 => (Q r16 S15)) Ex))) ∧ (a2 = (4 : Int32) → (hs_Wi S → (m_C_empty a3 a4 a5 S (fun r19 S18 => (Q r19 S18)) Ex))) ∧ (a2 = (5 : Int32) → (hs_Wi S → (m_C_notice a3 a4 S (fun r22 S21 => (Q r22 S21)) Ex))) ∧ (a2 = (6 : Int32) → (hs_Wi S → (m_C_value a3 a4 a5 S (fun r25 S24 => (Q r25 S24)) Ex))) ∧ (a2 = (7 : Int32) → (hs_Wi S → (m_C_fault a3 a4 a5 S (fun r28 S27 => (Q r28 S27)) Ex))) ∧ (a2 = (8 : Int32) → (hs_Wi S → (m_C_edits a3 a4 S (fun r31 S30 => (Q r31 S30)) Ex))) ∧ (a2 = (9 : Int32) → (hs_Wi S → (m_C_edit a3 a4 ((a5 / (16 : Int32)) - (2 : Int32)) ((a5 - a5 / (16 : Int32) * (16 : Int32)) - (2 : Int32)) S (fun r34 S33 => (Q r34 S33)) Ex))) ∧ (a2 = (10 : Int32) → (∀ x36 : Int32, x36 = (if (a4 - a4 / (2 : Int32) * (2 : Int32)) = (1 : Int32) then (1 : Int32) else (0 : Int32)) → (hs_Wi S → (m_C_bid a3 (a4 / (2 : Int32)) x36 ((a5 / (16384 : Int32)) - (2 : Int32)) ((a5 - a5 / (16384 : Int32) * (16384 : Int32)) - (2 : Int32)) S (fun r38 S37 => (Q r38 S37)) Ex)))) ∧ (a2 = (11 : Int32) → (hs_Wi S → (m_C_withdraw a3 a4 S (fun r44 S43 => (Q r44 S43)) Ex))) ∧ (a2 = (12 : Int32) → (∀ x46 : Int32, x46 = (if a4 = (1 : Int32) then (1 : Int32) else (0 : Int32)) → (hs_Wi S → (m_C_share a3 x46 S (fun r48 S47 => ((r48 = 0 → (Q (0 : Int32) S47)) ∧ (¬ r48 = 0 → (Q (1 : Int32) S47)))) Ex)))) ∧ (a2 = (13 : Int32) → (hs_Wi S → (m_C_bell a3 S (fun r55 S54 => (Q r55 S54)) Ex))) ∧ (a2 = (14 : Int32) → (hs_Wi S → (m_C_isFrozen a3 S (fun r58 S57 => ((r58 = 0 → (Q (0 : Int32) S57)) ∧ (¬ r58 = 0 → (Q (1 : Int32) S57)))) Ex))) ∧ (a2 = (15 : Int32) → (hs_Wi S → (m_C_round a3 a4 S (fun r62 S61 => (Q r62 S61)) Ex))) ∧ (a2 = (16 : Int32) → (hs_Wi S → (m_C_priceAnew a3 S (fun r65 S64 => (Q r65 S64)) Ex))) ∧ (a2 = (17 : Int32) → (hs_Wi S → (m_C_got a3 S (fun r68 S67 => (Q r68 S67)) Ex))) ∧ (a2 = (18 : Int32) → (hs_Wi S → (m_C_due a3 a4 S (fun r71 S70 => (Q r71 S70)) Ex))) ∧ (a2 = (19 : Int32) → (hs_Wi S → (m_C_settle a3 S (fun r74 S73 => (Q r74 S73)) Ex))) ∧ (a2 = (20 : Int32) → (hs_Wi S → (m_C_cash a3 S (fun r77 S76 => (Q r77 S76)) Ex))) ∧ (a2 = (21 : Int32) → (hs_Wi S → (m_C_limit a3 a4 S (fun r80 S79 => (Q r80 S79)) Ex))) ∧ (a2 = (22 : Int32) → (hs_Wi S → (m_C_exposure a3 S (fun r83 S82 => (Q r83 S82)) Ex))) ∧ (a2 = (23 : Int32) → (hs_Wi S → (m_C_strikeBid a3 S (fun r86 S85 => (Q r86 S85)) Ex))) ∧ (a2 = (24 : Int32) → (hs_Wi S → (m_C_strikeEdit a3 S (fun r89 S88 => (Q r89 S88)) Ex))) ∧ (a2 = (25 : Int32) → (hs_Wi S → (m_C_ownerOf a3 a4 S (fun r92 S91 => (Q r92 S91)) Ex))) ∧ (a2.toInt < 0 ∨ 25 < a2.toInt → (hs_Wi S → (m_C_reads a3 a4 a5 S (fun r94 S93 => ((r94 = 0 → (Q (0 : Int32) S93)) ∧ (¬ r94 = 0 → (Q (1 : Int32) S93)))) Ex))))
set_option maxRecDepth 100000 in
set_option maxHeartbeats 4000000 in
theorem ok_L_does {a2 : Int32} {a3 : Int32} {a4 : Int32} {a5 : Int32} {S : hs_S} {Q : Int32 → hs_S → Prop} {Ex : String → hs_S → Prop} (hw : hs_Wi S) (hv : vc_L_does a2 a3 a4 a5 S Q Ex) : m_L_does a2 a3 a4 a5 S Q Ex := by
  unfold vc_L_does at hv
  refine hs_body (own := RL) rfl rfl (Nat.le_of_ble_eq_true rfl) (fun Z X E N J0 => ?_)
  show wa Z 0 0 S 0 [(0, .inr (.inr (10, 1))), (1, .inl a2), (2, .inl a3), (3, .inl a4), (4, .inl a5)] []
  refine wa_iload_n X 1 rfl dL_does_0 rfl ?_
  by_cases c1 : a2 = (0 : Int32)
  · replace hv := hv.1 c1
    refine wa_tableIn X (tgt := 120) dL_does_1 (by rw [c1]; decide) (by rw [c1]; decide) (off := 119) (by rw [c1]; rfl) (by decide) ?_
    refine wa_aload_n X 0 rfl dL_does_120 rfl ?_
    refine wa_iload_n X 2 rfl dL_does_121 rfl ?_
    refine wa_iload_n X 3 rfl dL_does_122 rfl ?_
    refine wa_bipush X dL_does_123 kb8 ?_
    refine wa_idiv X dL_does_125 (by decide) ?_
    refine wa_iconst X dL_does_126 kc2 ?_
    refine wa_isub X dL_does_127 ?_
    refine wa_iload_n X 3 rfl dL_does_128 rfl ?_
    refine wa_bipush X dL_does_129 kb8 ?_
    refine wa_irem X dL_does_131 (by decide) ?_
    refine wa_iconst X dL_does_132 kc1 ?_
    refine wa_isub X dL_does_133 ?_
    refine wa_iload X 4 rfl dL_does_134 ?_
    refine wa_callV X (As := [.inl a3, .inl ((a4 / (8 : Int32)) - (2 : Int32)), .inl ((a4 - a4 / (8 : Int32) * (8 : Int32)) - (1 : Int32)), .inl a5]) (hv hw) hk_10 hc_10 rfl kw_517 kw_21 kw_514 kw_515 kw_516 nd_X10_give rfl rfl (Nat.le_of_ble_eq_true rfl) dL_does_136 hs_1ne ⟨⟨Nat.le_of_ble_eq_true rfl, Nat.le_of_ble_eq_true rfl⟩, Nat.le_of_ble_eq_true rfl, Nat.le_of_ble_eq_true rfl⟩ (fun v S2 h => ?_) (fun _ _ h => wx_out X E N (Nat.le_of_ble_eq_true rfl) (Nat.le_of_ble_eq_true rfl) h)
    obtain ⟨hw, r3, rfl, hv⟩ := h
    exact wa_ireturn X E dL_does_139 (Nat.le_of_ble_eq_true rfl) (Nat.le_of_ble_eq_true rfl) (Or.inl rfl) ⟨hw, _, rfl, hv⟩
  replace hv := hv.2
  by_cases c4 : a2 = (1 : Int32)
  · replace hv := hv.1 c4
    refine wa_tableIn X (tgt := 140) dL_does_1 (by rw [c4]; decide) (by rw [c4]; decide) (off := 139) (by rw [c4]; rfl) (by decide) ?_
    refine wa_aload_n X 0 rfl dL_does_140 rfl ?_
    refine wa_iload_n X 2 rfl dL_does_141 rfl ?_
    refine wa_iload_n X 3 rfl dL_does_142 rfl ?_
    refine wa_bipush X dL_does_143 kb8 ?_
    refine wa_idiv X dL_does_145 (by decide) ?_
    refine wa_iconst X dL_does_146 kc2 ?_
    refine wa_isub X dL_does_147 ?_
    refine wa_iload_n X 3 rfl dL_does_148 rfl ?_
    refine wa_bipush X dL_does_149 kb8 ?_
    refine wa_irem X dL_does_151 (by decide) ?_
    refine wa_iconst X dL_does_152 kc2 ?_
    refine wa_isub X dL_does_153 ?_
    refine wa_iload X 4 rfl dL_does_154 ?_
    refine wa_bipush X dL_does_156 kb16 ?_
    refine wa_idiv X dL_does_158 (by decide) ?_
    refine wa_iconst X dL_does_159 kc1 ?_
    refine wa_isub X dL_does_160 ?_
    refine wa_iload X 4 rfl dL_does_161 ?_
    refine wa_bipush X dL_does_163 kb16 ?_
    refine wa_irem X dL_does_165 (by decide) ?_
    refine wa_iconst X dL_does_166 kc2 ?_
    refine wa_idiv X dL_does_167 (by decide) ?_
    refine wa_iconst X dL_does_168 kc1 ?_
    refine wa_isub X dL_does_169 ?_
    refine wa_iload X 4 rfl dL_does_170 ?_
    refine wa_iconst X dL_does_172 kc2 ?_
    refine wa_irem X dL_does_173 (by decide) ?_
    refine wa_iconst X dL_does_174 kc1 ?_
    have k8 : ∀ (x5 : Int32), x5 = (if (a5 - a5 / (2 : Int32) * (2 : Int32)) = (1 : Int32) then (1 : Int32) else (0 : Int32)) → wa Z 0 0 S 183 [] [.inl x5, .inl (((a5 - a5 / (16 : Int32) * (16 : Int32)) / (2 : Int32)) - (1 : Int32)), .inl ((a5 / (16 : Int32)) - (1 : Int32)), .inl ((a4 - a4 / (8 : Int32) * (8 : Int32)) - (2 : Int32)), .inl ((a4 / (8 : Int32)) - (2 : Int32)), .inl a3, .inr (.inr (10, 1))] := by
      intro x5 hE
      replace hv := hv _ hE
      refine wa_callV X (As := [.inl a3, .inl ((a4 / (8 : Int32)) - (2 : Int32)), .inl ((a4 - a4 / (8 : Int32) * (8 : Int32)) - (2 : Int32)), .inl ((a5 / (16 : Int32)) - (1 : Int32)), .inl (((a5 - a5 / (16 : Int32) * (16 : Int32)) / (2 : Int32)) - (1 : Int32)), .inl x5]) (hv hw) hk_10 hc_10 rfl kw_545 kw_21 kw_542 kw_543 kw_544 nd_X10_let rfl rfl (Nat.le_of_ble_eq_true rfl) dL_does_183 hs_1ne ⟨⟨Nat.le_of_ble_eq_true rfl, Nat.le_of_ble_eq_true rfl⟩, Nat.le_of_ble_eq_true rfl, Nat.le_of_ble_eq_true rfl⟩ (fun v S6 h => ?_) (fun _ _ h => wx_out X E N (Nat.le_of_ble_eq_true rfl) (Nat.le_of_ble_eq_true rfl) h)
      obtain ⟨hw, r7, rfl, hv⟩ := h
      exact wa_ireturn X E dL_does_186 (Nat.le_of_ble_eq_true rfl) (Nat.le_of_ble_eq_true rfl) (Or.inl rfl) ⟨hw, _, rfl, hv⟩
    clear hv
    refine wa_icmp_ne X (tgt := 182) dL_does_175 (by decide) (fun c10 => ?_) (fun c10 => ?_)
    · refine wa_iconst X dL_does_182 kc0 ?_
      refine wa_lv (lv' := []) [] rfl ?_
      exact wa_wid (Nat.le_of_ble_eq_true rfl) (Nat.le_of_ble_eq_true rfl) (k8 _  (by rw [if_neg c10]))
    · refine wa_iconst X dL_does_178 kc1 ?_
      refine wa_goto X (tgt := 183) dL_does_179 (by decide) ?_
      refine wa_lv (lv' := []) [] rfl ?_
      exact wa_wid (Nat.le_of_ble_eq_true rfl) (Nat.le_of_ble_eq_true rfl) (k8 _  (by rw [if_pos c10]))
  replace hv := hv.2
  by_cases c11 : a2 = (2 : Int32)
  · replace hv := hv.1 c11
    refine wa_tableIn X (tgt := 187) dL_does_1 (by rw [c11]; decide) (by rw [c11]; decide) (off := 186) (by rw [c11]; rfl) (by decide) ?_
    refine wa_aload_n X 0 rfl dL_does_187 rfl ?_
    refine wa_iload_n X 2 rfl dL_does_188 rfl ?_
    refine wa_iload_n X 3 rfl dL_does_189 rfl ?_
    refine wa_iload X 4 rfl dL_does_190 ?_
    refine wa_callV X (As := [.inl a3, .inl a4, .inl a5]) (hv hw) hk_10 hc_10 rfl kw_570 kw_21 kw_567 kw_568 kw_569 nd_X10_word rfl rfl (Nat.le_of_ble_eq_true rfl) dL_does_192 hs_1ne ⟨⟨Nat.le_of_ble_eq_true rfl, Nat.le_of_ble_eq_true rfl⟩, Nat.le_of_ble_eq_true rfl, Nat.le_of_ble_eq_true rfl⟩ (fun v S12 h => ?_) (fun _ _ h => wx_out X E N (Nat.le_of_ble_eq_true rfl) (Nat.le_of_ble_eq_true rfl) h)
    obtain ⟨hw, r13, rfl, hv⟩ := h
    exact wa_ireturn X E dL_does_195 (Nat.le_of_ble_eq_true rfl) (Nat.le_of_ble_eq_true rfl) (Or.inl rfl) ⟨hw, _, rfl, hv⟩
  replace hv := hv.2
  by_cases c14 : a2 = (3 : Int32)
  · replace hv := hv.1 c14
    refine wa_tableIn X (tgt := 196) dL_does_1 (by rw [c14]; decide) (by rw [c14]; decide) (off := 195) (by rw [c14]; rfl) (by decide) ?_
    refine wa_aload_n X 0 rfl dL_does_196 rfl ?_
    refine wa_iload_n X 2 rfl dL_does_197 rfl ?_
    refine wa_iload_n X 3 rfl dL_does_198 rfl ?_
    refine wa_iload X 4 rfl dL_does_199 ?_
    refine wa_callV X (As := [.inl a3, .inl a4, .inl a5]) (hv hw) hk_10 hc_10 rfl kw_588 kw_21 kw_585 kw_586 kw_587 nd_X10_enter rfl rfl (Nat.le_of_ble_eq_true rfl) dL_does_201 hs_1ne ⟨⟨Nat.le_of_ble_eq_true rfl, Nat.le_of_ble_eq_true rfl⟩, Nat.le_of_ble_eq_true rfl, Nat.le_of_ble_eq_true rfl⟩ (fun v S15 h => ?_) (fun _ _ h => wx_out X E N (Nat.le_of_ble_eq_true rfl) (Nat.le_of_ble_eq_true rfl) h)
    obtain ⟨hw, r16, rfl, hv⟩ := h
    exact wa_ireturn X E dL_does_204 (Nat.le_of_ble_eq_true rfl) (Nat.le_of_ble_eq_true rfl) (Or.inl rfl) ⟨hw, _, rfl, hv⟩
  replace hv := hv.2
  by_cases c17 : a2 = (4 : Int32)
  · replace hv := hv.1 c17
    refine wa_tableIn X (tgt := 205) dL_does_1 (by rw [c17]; decide) (by rw [c17]; decide) (off := 204) (by rw [c17]; rfl) (by decide) ?_
    refine wa_aload_n X 0 rfl dL_does_205 rfl ?_
    refine wa_iload_n X 2 rfl dL_does_206 rfl ?_
    refine wa_iload_n X 3 rfl dL_does_207 rfl ?_
    refine wa_iload X 4 rfl dL_does_208 ?_
    refine wa_callV X (As := [.inl a3, .inl a4, .inl a5]) (hv hw) hk_10 hc_10 rfl kw_715 kw_21 kw_712 kw_713 kw_714 nd_X10_empty rfl rfl (Nat.le_of_ble_eq_true rfl) dL_does_210 hs_1ne ⟨⟨Nat.le_of_ble_eq_true rfl, Nat.le_of_ble_eq_true rfl⟩, Nat.le_of_ble_eq_true rfl, Nat.le_of_ble_eq_true rfl⟩ (fun v S18 h => ?_) (fun _ _ h => wx_out X E N (Nat.le_of_ble_eq_true rfl) (Nat.le_of_ble_eq_true rfl) h)
    obtain ⟨hw, r19, rfl, hv⟩ := h
    exact wa_ireturn X E dL_does_213 (Nat.le_of_ble_eq_true rfl) (Nat.le_of_ble_eq_true rfl) (Or.inl rfl) ⟨hw, _, rfl, hv⟩
  replace hv := hv.2
  by_cases c20 : a2 = (5 : Int32)
  · replace hv := hv.1 c20
    refine wa_tableIn X (tgt := 214) dL_does_1 (by rw [c20]; decide) (by rw [c20]; decide) (off := 213) (by rw [c20]; rfl) (by decide) ?_
    refine wa_aload_n X 0 rfl dL_does_214 rfl ?_
    refine wa_iload_n X 2 rfl dL_does_215 rfl ?_
    refine wa_iload_n X 3 rfl dL_does_216 rfl ?_
    refine wa_callV X (As := [.inl a3, .inl a4]) (hv hw) hk_10 hc_10 rfl kw_719 kw_21 kw_716 kw_717 kw_718 nd_X10_notice rfl rfl (Nat.le_of_ble_eq_true rfl) dL_does_217 hs_1ne ⟨⟨Nat.le_of_ble_eq_true rfl, Nat.le_of_ble_eq_true rfl⟩, Nat.le_of_ble_eq_true rfl, Nat.le_of_ble_eq_true rfl⟩ (fun v S21 h => ?_) (fun _ _ h => wx_out X E N (Nat.le_of_ble_eq_true rfl) (Nat.le_of_ble_eq_true rfl) h)
    obtain ⟨hw, r22, rfl, hv⟩ := h
    exact wa_ireturn X E dL_does_220 (Nat.le_of_ble_eq_true rfl) (Nat.le_of_ble_eq_true rfl) (Or.inl rfl) ⟨hw, _, rfl, hv⟩
  replace hv := hv.2
  by_cases c23 : a2 = (6 : Int32)
  · replace hv := hv.1 c23
    refine wa_tableIn X (tgt := 221) dL_does_1 (by rw [c23]; decide) (by rw [c23]; decide) (off := 220) (by rw [c23]; rfl) (by decide) ?_
    refine wa_aload_n X 0 rfl dL_does_221 rfl ?_
    refine wa_iload_n X 2 rfl dL_does_222 rfl ?_
    refine wa_iload_n X 3 rfl dL_does_223 rfl ?_
    refine wa_iload X 4 rfl dL_does_224 ?_
    refine wa_callV X (As := [.inl a3, .inl a4, .inl a5]) (hv hw) hk_10 hc_10 rfl kw_724 kw_21 kw_721 kw_722 kw_723 nd_X10_value rfl rfl (Nat.le_of_ble_eq_true rfl) dL_does_226 hs_1ne ⟨⟨Nat.le_of_ble_eq_true rfl, Nat.le_of_ble_eq_true rfl⟩, Nat.le_of_ble_eq_true rfl, Nat.le_of_ble_eq_true rfl⟩ (fun v S24 h => ?_) (fun _ _ h => wx_out X E N (Nat.le_of_ble_eq_true rfl) (Nat.le_of_ble_eq_true rfl) h)
    obtain ⟨hw, r25, rfl, hv⟩ := h
    exact wa_ireturn X E dL_does_229 (Nat.le_of_ble_eq_true rfl) (Nat.le_of_ble_eq_true rfl) (Or.inl rfl) ⟨hw, _, rfl, hv⟩
  replace hv := hv.2
  by_cases c26 : a2 = (7 : Int32)
  · replace hv := hv.1 c26
    refine wa_tableIn X (tgt := 230) dL_does_1 (by rw [c26]; decide) (by rw [c26]; decide) (off := 229) (by rw [c26]; rfl) (by decide) ?_
    refine wa_aload_n X 0 rfl dL_does_230 rfl ?_
    refine wa_iload_n X 2 rfl dL_does_231 rfl ?_
    refine wa_iload_n X 3 rfl dL_does_232 rfl ?_
    refine wa_iload X 4 rfl dL_does_233 ?_
    refine wa_callV X (As := [.inl a3, .inl a4, .inl a5]) (hv hw) hk_10 hc_10 rfl kw_786 kw_21 kw_783 kw_784 kw_785 nd_X10_fault rfl rfl (Nat.le_of_ble_eq_true rfl) dL_does_235 hs_1ne ⟨⟨Nat.le_of_ble_eq_true rfl, Nat.le_of_ble_eq_true rfl⟩, Nat.le_of_ble_eq_true rfl, Nat.le_of_ble_eq_true rfl⟩ (fun v S27 h => ?_) (fun _ _ h => wx_out X E N (Nat.le_of_ble_eq_true rfl) (Nat.le_of_ble_eq_true rfl) h)
    obtain ⟨hw, r28, rfl, hv⟩ := h
    exact wa_ireturn X E dL_does_238 (Nat.le_of_ble_eq_true rfl) (Nat.le_of_ble_eq_true rfl) (Or.inl rfl) ⟨hw, _, rfl, hv⟩
  replace hv := hv.2
  by_cases c29 : a2 = (8 : Int32)
  · replace hv := hv.1 c29
    refine wa_tableIn X (tgt := 239) dL_does_1 (by rw [c29]; decide) (by rw [c29]; decide) (off := 238) (by rw [c29]; rfl) (by decide) ?_
    refine wa_aload_n X 0 rfl dL_does_239 rfl ?_
    refine wa_iload_n X 2 rfl dL_does_240 rfl ?_
    refine wa_iload_n X 3 rfl dL_does_241 rfl ?_
    refine wa_callV X (As := [.inl a3, .inl a4]) (hv hw) hk_10 hc_10 rfl kw_349 kw_21 kw_346 kw_347 kw_348 nd_X10_edits rfl rfl (Nat.le_of_ble_eq_true rfl) dL_does_242 hs_1ne ⟨⟨Nat.le_of_ble_eq_true rfl, Nat.le_of_ble_eq_true rfl⟩, Nat.le_of_ble_eq_true rfl, Nat.le_of_ble_eq_true rfl⟩ (fun v S30 h => ?_) (fun _ _ h => wx_out X E N (Nat.le_of_ble_eq_true rfl) (Nat.le_of_ble_eq_true rfl) h)
    obtain ⟨hw, r31, rfl, hv⟩ := h
    exact wa_ireturn X E dL_does_245 (Nat.le_of_ble_eq_true rfl) (Nat.le_of_ble_eq_true rfl) (Or.inl rfl) ⟨hw, _, rfl, hv⟩
  replace hv := hv.2
  by_cases c32 : a2 = (9 : Int32)
  · replace hv := hv.1 c32
    refine wa_tableIn X (tgt := 246) dL_does_1 (by rw [c32]; decide) (by rw [c32]; decide) (off := 245) (by rw [c32]; rfl) (by decide) ?_
    refine wa_aload_n X 0 rfl dL_does_246 rfl ?_
    refine wa_iload_n X 2 rfl dL_does_247 rfl ?_
    refine wa_iload_n X 3 rfl dL_does_248 rfl ?_
    refine wa_iload X 4 rfl dL_does_249 ?_
    refine wa_bipush X dL_does_251 kb16 ?_
    refine wa_idiv X dL_does_253 (by decide) ?_
    refine wa_iconst X dL_does_254 kc2 ?_
    refine wa_isub X dL_does_255 ?_
    refine wa_iload X 4 rfl dL_does_256 ?_
    refine wa_bipush X dL_does_258 kb16 ?_
    refine wa_irem X dL_does_260 (by decide) ?_
    refine wa_iconst X dL_does_261 kc2 ?_
    refine wa_isub X dL_does_262 ?_
    refine wa_callV X (As := [.inl a3, .inl a4, .inl ((a5 / (16 : Int32)) - (2 : Int32)), .inl ((a5 - a5 / (16 : Int32) * (16 : Int32)) - (2 : Int32))]) (hv hw) hk_10 hc_10 rfl kw_794 kw_21 kw_791 kw_792 kw_793 nd_X10_edit rfl rfl (Nat.le_of_ble_eq_true rfl) dL_does_263 hs_1ne ⟨⟨Nat.le_of_ble_eq_true rfl, Nat.le_of_ble_eq_true rfl⟩, Nat.le_of_ble_eq_true rfl, Nat.le_of_ble_eq_true rfl⟩ (fun v S33 h => ?_) (fun _ _ h => wx_out X E N (Nat.le_of_ble_eq_true rfl) (Nat.le_of_ble_eq_true rfl) h)
    obtain ⟨hw, r34, rfl, hv⟩ := h
    exact wa_ireturn X E dL_does_266 (Nat.le_of_ble_eq_true rfl) (Nat.le_of_ble_eq_true rfl) (Or.inl rfl) ⟨hw, _, rfl, hv⟩
  replace hv := hv.2
  by_cases c35 : a2 = (10 : Int32)
  · replace hv := hv.1 c35
    refine wa_tableIn X (tgt := 267) dL_does_1 (by rw [c35]; decide) (by rw [c35]; decide) (off := 266) (by rw [c35]; rfl) (by decide) ?_
    refine wa_aload_n X 0 rfl dL_does_267 rfl ?_
    refine wa_iload_n X 2 rfl dL_does_268 rfl ?_
    refine wa_iload_n X 3 rfl dL_does_269 rfl ?_
    refine wa_iconst X dL_does_270 kc2 ?_
    refine wa_idiv X dL_does_271 (by decide) ?_
    refine wa_iload_n X 3 rfl dL_does_272 rfl ?_
    refine wa_iconst X dL_does_273 kc2 ?_
    refine wa_irem X dL_does_274 (by decide) ?_
    refine wa_iconst X dL_does_275 kc1 ?_
    have k39 : ∀ (x36 : Int32), x36 = (if (a4 - a4 / (2 : Int32) * (2 : Int32)) = (1 : Int32) then (1 : Int32) else (0 : Int32)) → wa Z 0 0 S 284 [(4, .inl a5)] [.inl x36, .inl (a4 / (2 : Int32)), .inl a3, .inr (.inr (10, 1))] := by
      intro x36 hE
      replace hv := hv _ hE
      refine wa_iload X 0 rfl dL_does_284 ?_
      refine wa_sipush X dL_does_286 ks16384 ?_
      refine wa_idiv X dL_does_289 (by decide) ?_
      refine wa_iconst X dL_does_290 kc2 ?_
      refine wa_isub X dL_does_291 ?_
      refine wa_iload X 0 rfl dL_does_292 ?_
      refine wa_sipush X dL_does_294 ks16384 ?_
      refine wa_irem X dL_does_297 (by decide) ?_
      refine wa_iconst X dL_does_298 kc2 ?_
      refine wa_isub X dL_does_299 ?_
      refine wa_callV X (As := [.inl a3, .inl (a4 / (2 : Int32)), .inl x36, .inl ((a5 / (16384 : Int32)) - (2 : Int32)), .inl ((a5 - a5 / (16384 : Int32) * (16384 : Int32)) - (2 : Int32))]) (hv hw) hk_10 hc_10 rfl kw_809 kw_21 kw_806 kw_807 kw_808 nd_X10_bid rfl rfl (Nat.le_of_ble_eq_true rfl) dL_does_300 hs_1ne ⟨⟨Nat.le_of_ble_eq_true rfl, Nat.le_of_ble_eq_true rfl⟩, Nat.le_of_ble_eq_true rfl, Nat.le_of_ble_eq_true rfl⟩ (fun v S37 h => ?_) (fun _ _ h => wx_out X E N (Nat.le_of_ble_eq_true rfl) (Nat.le_of_ble_eq_true rfl) h)
      obtain ⟨hw, r38, rfl, hv⟩ := h
      exact wa_ireturn X E dL_does_303 (Nat.le_of_ble_eq_true rfl) (Nat.le_of_ble_eq_true rfl) (Or.inl rfl) ⟨hw, _, rfl, hv⟩
    clear hv
    refine wa_icmp_ne X (tgt := 283) dL_does_276 (by decide) (fun c41 => ?_) (fun c41 => ?_)
    · refine wa_iconst X dL_does_283 kc0 ?_
      refine wa_lv (lv' := [(4, .inl a5)]) [4] rfl ?_
      exact wa_wid (Nat.le_of_ble_eq_true rfl) (Nat.le_of_ble_eq_true rfl) (k39 _  (by rw [if_neg c41]))
    · refine wa_iconst X dL_does_279 kc1 ?_
      refine wa_goto X (tgt := 284) dL_does_280 (by decide) ?_
      refine wa_lv (lv' := [(4, .inl a5)]) [4] rfl ?_
      exact wa_wid (Nat.le_of_ble_eq_true rfl) (Nat.le_of_ble_eq_true rfl) (k39 _  (by rw [if_pos c41]))
  replace hv := hv.2
  by_cases c42 : a2 = (11 : Int32)
  · replace hv := hv.1 c42
    refine wa_tableIn X (tgt := 304) dL_does_1 (by rw [c42]; decide) (by rw [c42]; decide) (off := 303) (by rw [c42]; rfl) (by decide) ?_
    refine wa_aload_n X 0 rfl dL_does_304 rfl ?_
    refine wa_iload_n X 2 rfl dL_does_305 rfl ?_
    refine wa_iload_n X 3 rfl dL_does_306 rfl ?_
    refine wa_callV X (As := [.inl a3, .inl a4]) (hv hw) hk_10 hc_10 rfl kw_893 kw_21 kw_890 kw_891 kw_892 nd_X10_withdraw rfl rfl (Nat.le_of_ble_eq_true rfl) dL_does_307 hs_1ne ⟨⟨Nat.le_of_ble_eq_true rfl, Nat.le_of_ble_eq_true rfl⟩, Nat.le_of_ble_eq_true rfl, Nat.le_of_ble_eq_true rfl⟩ (fun v S43 h => ?_) (fun _ _ h => wx_out X E N (Nat.le_of_ble_eq_true rfl) (Nat.le_of_ble_eq_true rfl) h)
    obtain ⟨hw, r44, rfl, hv⟩ := h
    exact wa_ireturn X E dL_does_310 (Nat.le_of_ble_eq_true rfl) (Nat.le_of_ble_eq_true rfl) (Or.inl rfl) ⟨hw, _, rfl, hv⟩
  replace hv := hv.2
  by_cases c45 : a2 = (12 : Int32)
  · replace hv := hv.1 c45
    refine wa_tableIn X (tgt := 311) dL_does_1 (by rw [c45]; decide) (by rw [c45]; decide) (off := 310) (by rw [c45]; rfl) (by decide) ?_
    refine wa_aload_n X 0 rfl dL_does_311 rfl ?_
    refine wa_iload_n X 2 rfl dL_does_312 rfl ?_
    refine wa_iload_n X 3 rfl dL_does_313 rfl ?_
    refine wa_iconst X dL_does_314 kc1 ?_
    have k50 : ∀ (x46 : Int32), x46 = (if a4 = (1 : Int32) then (1 : Int32) else (0 : Int32)) → wa Z 0 0 S 323 [] [.inl x46, .inl a3, .inr (.inr (10, 1))] := by
      intro x46 hE
      replace hv := hv _ hE
      refine wa_callV X (As := [.inl a3, .inl x46]) (hv hw) hk_10 hc_10 rfl kw_910 kw_21 kw_907 kw_908 kw_909 nd_X10_share rfl rfl (Nat.le_of_ble_eq_true rfl) dL_does_323 hs_1ne ⟨⟨Nat.le_of_ble_eq_true rfl, Nat.le_of_ble_eq_true rfl⟩, Nat.le_of_ble_eq_true rfl, Nat.le_of_ble_eq_true rfl⟩ (fun v S47 h => ?_) (fun _ _ h => wx_out X E N (Nat.le_of_ble_eq_true rfl) (Nat.le_of_ble_eq_true rfl) h)
      obtain ⟨hw, r48, rfl, hv⟩ := h
      refine wa_if_eq X (tgt := 333) dL_does_326 (by decide) (fun c49 => ?_) (fun c49 => ?_)
      · replace hv := hv.1 c49
        refine wa_iconst X dL_does_333 kc0 ?_
        exact wa_ireturn X E dL_does_334 (Nat.le_of_ble_eq_true rfl) (Nat.le_of_ble_eq_true rfl) (Or.inl rfl) ⟨hw, _, rfl, hv⟩
      · replace hv := hv.2 c49
        refine wa_iconst X dL_does_329 kc1 ?_
        refine wa_goto X (tgt := 334) dL_does_330 (by decide) ?_
        exact wa_ireturn X E dL_does_334 (Nat.le_of_ble_eq_true rfl) (Nat.le_of_ble_eq_true rfl) (Or.inl rfl) ⟨hw, _, rfl, hv⟩
    clear hv
    refine wa_icmp_ne X (tgt := 322) dL_does_315 (by decide) (fun c52 => ?_) (fun c52 => ?_)
    · refine wa_iconst X dL_does_322 kc0 ?_
      refine wa_lv (lv' := []) [] rfl ?_
      exact wa_wid (Nat.le_of_ble_eq_true rfl) (Nat.le_of_ble_eq_true rfl) (k50 _  (by rw [if_neg c52]))
    · refine wa_iconst X dL_does_318 kc1 ?_
      refine wa_goto X (tgt := 323) dL_does_319 (by decide) ?_
      refine wa_lv (lv' := []) [] rfl ?_
      exact wa_wid (Nat.le_of_ble_eq_true rfl) (Nat.le_of_ble_eq_true rfl) (k50 _  (by rw [if_pos c52]))
  replace hv := hv.2
  by_cases c53 : a2 = (13 : Int32)
  · replace hv := hv.1 c53
    refine wa_tableIn X (tgt := 335) dL_does_1 (by rw [c53]; decide) (by rw [c53]; decide) (off := 334) (by rw [c53]; rfl) (by decide) ?_
    refine wa_aload_n X 0 rfl dL_does_335 rfl ?_
    refine wa_iload_n X 2 rfl dL_does_336 rfl ?_
    refine wa_callV X (As := [.inl a3]) (hv hw) hk_10 hc_10 rfl kw_914 kw_21 kw_911 kw_912 kw_913 nd_X10_bell rfl rfl (Nat.le_of_ble_eq_true rfl) dL_does_337 hs_1ne ⟨⟨Nat.le_of_ble_eq_true rfl, Nat.le_of_ble_eq_true rfl⟩, Nat.le_of_ble_eq_true rfl, Nat.le_of_ble_eq_true rfl⟩ (fun v S54 h => ?_) (fun _ _ h => wx_out X E N (Nat.le_of_ble_eq_true rfl) (Nat.le_of_ble_eq_true rfl) h)
    obtain ⟨hw, r55, rfl, hv⟩ := h
    exact wa_ireturn X E dL_does_340 (Nat.le_of_ble_eq_true rfl) (Nat.le_of_ble_eq_true rfl) (Or.inl rfl) ⟨hw, _, rfl, hv⟩
  replace hv := hv.2
  by_cases c56 : a2 = (14 : Int32)
  · replace hv := hv.1 c56
    refine wa_tableIn X (tgt := 341) dL_does_1 (by rw [c56]; decide) (by rw [c56]; decide) (off := 340) (by rw [c56]; rfl) (by decide) ?_
    refine wa_aload_n X 0 rfl dL_does_341 rfl ?_
    refine wa_iload_n X 2 rfl dL_does_342 rfl ?_
    refine wa_callV X (As := [.inl a3]) (hv hw) hk_10 hc_10 rfl kw_983 kw_21 kw_980 kw_981 kw_982 nd_X10_isFrozen rfl rfl (Nat.le_of_ble_eq_true rfl) dL_does_343 hs_1ne ⟨⟨Nat.le_of_ble_eq_true rfl, Nat.le_of_ble_eq_true rfl⟩, Nat.le_of_ble_eq_true rfl, Nat.le_of_ble_eq_true rfl⟩ (fun v S57 h => ?_) (fun _ _ h => wx_out X E N (Nat.le_of_ble_eq_true rfl) (Nat.le_of_ble_eq_true rfl) h)
    obtain ⟨hw, r58, rfl, hv⟩ := h
    refine wa_if_eq X (tgt := 353) dL_does_346 (by decide) (fun c59 => ?_) (fun c59 => ?_)
    · replace hv := hv.1 c59
      refine wa_iconst X dL_does_353 kc0 ?_
      exact wa_ireturn X E dL_does_354 (Nat.le_of_ble_eq_true rfl) (Nat.le_of_ble_eq_true rfl) (Or.inl rfl) ⟨hw, _, rfl, hv⟩
    · replace hv := hv.2 c59
      refine wa_iconst X dL_does_349 kc1 ?_
      refine wa_goto X (tgt := 354) dL_does_350 (by decide) ?_
      exact wa_ireturn X E dL_does_354 (Nat.le_of_ble_eq_true rfl) (Nat.le_of_ble_eq_true rfl) (Or.inl rfl) ⟨hw, _, rfl, hv⟩
  replace hv := hv.2
  by_cases c60 : a2 = (15 : Int32)
  · replace hv := hv.1 c60
    refine wa_tableIn X (tgt := 355) dL_does_1 (by rw [c60]; decide) (by rw [c60]; decide) (off := 354) (by rw [c60]; rfl) (by decide) ?_
    refine wa_aload_n X 0 rfl dL_does_355 rfl ?_
    refine wa_iload_n X 2 rfl dL_does_356 rfl ?_
    refine wa_iload_n X 3 rfl dL_does_357 rfl ?_
    refine wa_callV X (As := [.inl a3, .inl a4]) (hv hw) hk_10 hc_10 rfl kw_987 kw_21 kw_984 kw_985 kw_986 nd_X10_round rfl rfl (Nat.le_of_ble_eq_true rfl) dL_does_358 hs_1ne ⟨⟨Nat.le_of_ble_eq_true rfl, Nat.le_of_ble_eq_true rfl⟩, Nat.le_of_ble_eq_true rfl, Nat.le_of_ble_eq_true rfl⟩ (fun v S61 h => ?_) (fun _ _ h => wx_out X E N (Nat.le_of_ble_eq_true rfl) (Nat.le_of_ble_eq_true rfl) h)
    obtain ⟨hw, r62, rfl, hv⟩ := h
    exact wa_ireturn X E dL_does_361 (Nat.le_of_ble_eq_true rfl) (Nat.le_of_ble_eq_true rfl) (Or.inl rfl) ⟨hw, _, rfl, hv⟩
  replace hv := hv.2
  by_cases c63 : a2 = (16 : Int32)
  · replace hv := hv.1 c63
    refine wa_tableIn X (tgt := 362) dL_does_1 (by rw [c63]; decide) (by rw [c63]; decide) (off := 361) (by rw [c63]; rfl) (by decide) ?_
    refine wa_aload_n X 0 rfl dL_does_362 rfl ?_
    refine wa_iload_n X 2 rfl dL_does_363 rfl ?_
    refine wa_callV X (As := [.inl a3]) (hv hw) hk_10 hc_10 rfl kw_1001 kw_21 kw_998 kw_999 kw_1000 nd_X10_priceAnew rfl rfl (Nat.le_of_ble_eq_true rfl) dL_does_364 hs_1ne ⟨⟨Nat.le_of_ble_eq_true rfl, Nat.le_of_ble_eq_true rfl⟩, Nat.le_of_ble_eq_true rfl, Nat.le_of_ble_eq_true rfl⟩ (fun v S64 h => ?_) (fun _ _ h => wx_out X E N (Nat.le_of_ble_eq_true rfl) (Nat.le_of_ble_eq_true rfl) h)
    obtain ⟨hw, r65, rfl, hv⟩ := h
    exact wa_ireturn X E dL_does_367 (Nat.le_of_ble_eq_true rfl) (Nat.le_of_ble_eq_true rfl) (Or.inl rfl) ⟨hw, _, rfl, hv⟩
  replace hv := hv.2
  by_cases c66 : a2 = (17 : Int32)
  · replace hv := hv.1 c66
    refine wa_tableIn X (tgt := 368) dL_does_1 (by rw [c66]; decide) (by rw [c66]; decide) (off := 367) (by rw [c66]; rfl) (by decide) ?_
    refine wa_aload_n X 0 rfl dL_does_368 rfl ?_
    refine wa_iload_n X 2 rfl dL_does_369 rfl ?_
    refine wa_callV X (As := [.inl a3]) (hv hw) hk_10 hc_10 rfl kw_1005 kw_21 kw_1002 kw_1003 kw_1004 nd_X10_got rfl rfl (Nat.le_of_ble_eq_true rfl) dL_does_370 hs_1ne ⟨⟨Nat.le_of_ble_eq_true rfl, Nat.le_of_ble_eq_true rfl⟩, Nat.le_of_ble_eq_true rfl, Nat.le_of_ble_eq_true rfl⟩ (fun v S67 h => ?_) (fun _ _ h => wx_out X E N (Nat.le_of_ble_eq_true rfl) (Nat.le_of_ble_eq_true rfl) h)
    obtain ⟨hw, r68, rfl, hv⟩ := h
    exact wa_ireturn X E dL_does_373 (Nat.le_of_ble_eq_true rfl) (Nat.le_of_ble_eq_true rfl) (Or.inl rfl) ⟨hw, _, rfl, hv⟩
  replace hv := hv.2
  by_cases c69 : a2 = (18 : Int32)
  · replace hv := hv.1 c69
    refine wa_tableIn X (tgt := 374) dL_does_1 (by rw [c69]; decide) (by rw [c69]; decide) (off := 373) (by rw [c69]; rfl) (by decide) ?_
    refine wa_aload_n X 0 rfl dL_does_374 rfl ?_
    refine wa_iload_n X 2 rfl dL_does_375 rfl ?_
    refine wa_iload_n X 3 rfl dL_does_376 rfl ?_
    refine wa_callV X (As := [.inl a3, .inl a4]) (hv hw) hk_10 hc_10 rfl kw_462 kw_21 kw_459 kw_460 kw_461 nd_X10_due rfl rfl (Nat.le_of_ble_eq_true rfl) dL_does_377 hs_1ne ⟨⟨Nat.le_of_ble_eq_true rfl, Nat.le_of_ble_eq_true rfl⟩, Nat.le_of_ble_eq_true rfl, Nat.le_of_ble_eq_true rfl⟩ (fun v S70 h => ?_) (fun _ _ h => wx_out X E N (Nat.le_of_ble_eq_true rfl) (Nat.le_of_ble_eq_true rfl) h)
    obtain ⟨hw, r71, rfl, hv⟩ := h
    exact wa_ireturn X E dL_does_380 (Nat.le_of_ble_eq_true rfl) (Nat.le_of_ble_eq_true rfl) (Or.inl rfl) ⟨hw, _, rfl, hv⟩
  replace hv := hv.2
  by_cases c72 : a2 = (19 : Int32)
  · replace hv := hv.1 c72
    refine wa_tableIn X (tgt := 381) dL_does_1 (by rw [c72]; decide) (by rw [c72]; decide) (off := 380) (by rw [c72]; rfl) (by decide) ?_
    refine wa_aload_n X 0 rfl dL_does_381 rfl ?_
    refine wa_iload_n X 2 rfl dL_does_382 rfl ?_
    refine wa_callV X (As := [.inl a3]) (hv hw) hk_10 hc_10 rfl kw_1009 kw_21 kw_1006 kw_1007 kw_1008 nd_X10_settle rfl rfl (Nat.le_of_ble_eq_true rfl) dL_does_383 hs_1ne ⟨⟨Nat.le_of_ble_eq_true rfl, Nat.le_of_ble_eq_true rfl⟩, Nat.le_of_ble_eq_true rfl, Nat.le_of_ble_eq_true rfl⟩ (fun v S73 h => ?_) (fun _ _ h => wx_out X E N (Nat.le_of_ble_eq_true rfl) (Nat.le_of_ble_eq_true rfl) h)
    obtain ⟨hw, r74, rfl, hv⟩ := h
    exact wa_ireturn X E dL_does_386 (Nat.le_of_ble_eq_true rfl) (Nat.le_of_ble_eq_true rfl) (Or.inl rfl) ⟨hw, _, rfl, hv⟩
  replace hv := hv.2
  by_cases c75 : a2 = (20 : Int32)
  · replace hv := hv.1 c75
    refine wa_tableIn X (tgt := 387) dL_does_1 (by rw [c75]; decide) (by rw [c75]; decide) (off := 386) (by rw [c75]; rfl) (by decide) ?_
    refine wa_aload_n X 0 rfl dL_does_387 rfl ?_
    refine wa_iload_n X 2 rfl dL_does_388 rfl ?_
    refine wa_callV X (As := [.inl a3]) (hv hw) hk_10 hc_10 rfl kw_1027 kw_21 kw_1024 kw_1025 kw_1026 nd_X10_cash rfl rfl (Nat.le_of_ble_eq_true rfl) dL_does_389 hs_1ne ⟨⟨Nat.le_of_ble_eq_true rfl, Nat.le_of_ble_eq_true rfl⟩, Nat.le_of_ble_eq_true rfl, Nat.le_of_ble_eq_true rfl⟩ (fun v S76 h => ?_) (fun _ _ h => wx_out X E N (Nat.le_of_ble_eq_true rfl) (Nat.le_of_ble_eq_true rfl) h)
    obtain ⟨hw, r77, rfl, hv⟩ := h
    exact wa_ireturn X E dL_does_392 (Nat.le_of_ble_eq_true rfl) (Nat.le_of_ble_eq_true rfl) (Or.inl rfl) ⟨hw, _, rfl, hv⟩
  replace hv := hv.2
  by_cases c78 : a2 = (21 : Int32)
  · replace hv := hv.1 c78
    refine wa_tableIn X (tgt := 393) dL_does_1 (by rw [c78]; decide) (by rw [c78]; decide) (off := 392) (by rw [c78]; rfl) (by decide) ?_
    refine wa_aload_n X 0 rfl dL_does_393 rfl ?_
    refine wa_iload_n X 2 rfl dL_does_394 rfl ?_
    refine wa_iload_n X 3 rfl dL_does_395 rfl ?_
    refine wa_callV X (As := [.inl a3, .inl a4]) (hv hw) hk_10 hc_10 rfl kw_1031 kw_21 kw_1028 kw_1029 kw_1030 nd_X10_limit rfl rfl (Nat.le_of_ble_eq_true rfl) dL_does_396 hs_1ne ⟨⟨Nat.le_of_ble_eq_true rfl, Nat.le_of_ble_eq_true rfl⟩, Nat.le_of_ble_eq_true rfl, Nat.le_of_ble_eq_true rfl⟩ (fun v S79 h => ?_) (fun _ _ h => wx_out X E N (Nat.le_of_ble_eq_true rfl) (Nat.le_of_ble_eq_true rfl) h)
    obtain ⟨hw, r80, rfl, hv⟩ := h
    exact wa_ireturn X E dL_does_399 (Nat.le_of_ble_eq_true rfl) (Nat.le_of_ble_eq_true rfl) (Or.inl rfl) ⟨hw, _, rfl, hv⟩
  replace hv := hv.2
  by_cases c81 : a2 = (22 : Int32)
  · replace hv := hv.1 c81
    refine wa_tableIn X (tgt := 400) dL_does_1 (by rw [c81]; decide) (by rw [c81]; decide) (off := 399) (by rw [c81]; rfl) (by decide) ?_
    refine wa_aload_n X 0 rfl dL_does_400 rfl ?_
    refine wa_iload_n X 2 rfl dL_does_401 rfl ?_
    refine wa_callV X (As := [.inl a3]) (hv hw) hk_10 hc_10 rfl kw_1036 kw_21 kw_1033 kw_1034 kw_1035 nd_X10_exposure rfl rfl (Nat.le_of_ble_eq_true rfl) dL_does_402 hs_1ne ⟨⟨Nat.le_of_ble_eq_true rfl, Nat.le_of_ble_eq_true rfl⟩, Nat.le_of_ble_eq_true rfl, Nat.le_of_ble_eq_true rfl⟩ (fun v S82 h => ?_) (fun _ _ h => wx_out X E N (Nat.le_of_ble_eq_true rfl) (Nat.le_of_ble_eq_true rfl) h)
    obtain ⟨hw, r83, rfl, hv⟩ := h
    exact wa_ireturn X E dL_does_405 (Nat.le_of_ble_eq_true rfl) (Nat.le_of_ble_eq_true rfl) (Or.inl rfl) ⟨hw, _, rfl, hv⟩
  replace hv := hv.2
  by_cases c84 : a2 = (23 : Int32)
  · replace hv := hv.1 c84
    refine wa_tableIn X (tgt := 406) dL_does_1 (by rw [c84]; decide) (by rw [c84]; decide) (off := 405) (by rw [c84]; rfl) (by decide) ?_
    refine wa_aload_n X 0 rfl dL_does_406 rfl ?_
    refine wa_iload_n X 2 rfl dL_does_407 rfl ?_
    refine wa_callV X (As := [.inl a3]) (hv hw) hk_10 hc_10 rfl kw_1040 kw_21 kw_1037 kw_1038 kw_1039 nd_X10_strikeBid rfl rfl (Nat.le_of_ble_eq_true rfl) dL_does_408 hs_1ne ⟨⟨Nat.le_of_ble_eq_true rfl, Nat.le_of_ble_eq_true rfl⟩, Nat.le_of_ble_eq_true rfl, Nat.le_of_ble_eq_true rfl⟩ (fun v S85 h => ?_) (fun _ _ h => wx_out X E N (Nat.le_of_ble_eq_true rfl) (Nat.le_of_ble_eq_true rfl) h)
    obtain ⟨hw, r86, rfl, hv⟩ := h
    exact wa_ireturn X E dL_does_411 (Nat.le_of_ble_eq_true rfl) (Nat.le_of_ble_eq_true rfl) (Or.inl rfl) ⟨hw, _, rfl, hv⟩
  replace hv := hv.2
  by_cases c87 : a2 = (24 : Int32)
  · replace hv := hv.1 c87
    refine wa_tableIn X (tgt := 412) dL_does_1 (by rw [c87]; decide) (by rw [c87]; decide) (off := 411) (by rw [c87]; rfl) (by decide) ?_
    refine wa_aload_n X 0 rfl dL_does_412 rfl ?_
    refine wa_iload_n X 2 rfl dL_does_413 rfl ?_
    refine wa_callV X (As := [.inl a3]) (hv hw) hk_10 hc_10 rfl kw_1052 kw_21 kw_1049 kw_1050 kw_1051 nd_X10_strikeEdit rfl rfl (Nat.le_of_ble_eq_true rfl) dL_does_414 hs_1ne ⟨⟨Nat.le_of_ble_eq_true rfl, Nat.le_of_ble_eq_true rfl⟩, Nat.le_of_ble_eq_true rfl, Nat.le_of_ble_eq_true rfl⟩ (fun v S88 h => ?_) (fun _ _ h => wx_out X E N (Nat.le_of_ble_eq_true rfl) (Nat.le_of_ble_eq_true rfl) h)
    obtain ⟨hw, r89, rfl, hv⟩ := h
    exact wa_ireturn X E dL_does_417 (Nat.le_of_ble_eq_true rfl) (Nat.le_of_ble_eq_true rfl) (Or.inl rfl) ⟨hw, _, rfl, hv⟩
  replace hv := hv.2
  by_cases c90 : a2 = (25 : Int32)
  · replace hv := hv.1 c90
    refine wa_tableIn X (tgt := 418) dL_does_1 (by rw [c90]; decide) (by rw [c90]; decide) (off := 417) (by rw [c90]; rfl) (by decide) ?_
    refine wa_aload_n X 0 rfl dL_does_418 rfl ?_
    refine wa_iload_n X 2 rfl dL_does_419 rfl ?_
    refine wa_iload_n X 3 rfl dL_does_420 rfl ?_
    refine wa_callV X (As := [.inl a3, .inl a4]) (hv hw) hk_10 hc_10 rfl kw_1058 kw_21 kw_1055 kw_1056 kw_1057 nd_X10_ownerOf rfl rfl (Nat.le_of_ble_eq_true rfl) dL_does_421 hs_1ne ⟨⟨Nat.le_of_ble_eq_true rfl, Nat.le_of_ble_eq_true rfl⟩, Nat.le_of_ble_eq_true rfl, Nat.le_of_ble_eq_true rfl⟩ (fun v S91 h => ?_) (fun _ _ h => wx_out X E N (Nat.le_of_ble_eq_true rfl) (Nat.le_of_ble_eq_true rfl) h)
    obtain ⟨hw, r92, rfl, hv⟩ := h
    exact wa_ireturn X E dL_does_424 (Nat.le_of_ble_eq_true rfl) (Nat.le_of_ble_eq_true rfl) (Or.inl rfl) ⟨hw, _, rfl, hv⟩
  replace hv := hv.2
  refine wa_tableOut X (tgt := 425) dL_does_1 (hs_swo0_25 c1 c4 c11 c14 c17 c20 c23 c26 c29 c32 c35 c42 c45 c53 c56 c60 c63 c66 c69 c72 c75 c78 c81 c84 c87 c90) (by decide) ?_
  replace hv := hv (hs_swo0_25 c1 c4 c11 c14 c17 c20 c23 c26 c29 c32 c35 c42 c45 c53 c56 c60 c63 c66 c69 c72 c75 c78 c81 c84 c87 c90)
  refine wa_aload_n X 0 rfl dL_does_425 rfl ?_
  refine wa_iload_n X 2 rfl dL_does_426 rfl ?_
  refine wa_iload_n X 3 rfl dL_does_427 rfl ?_
  refine wa_iload X 4 rfl dL_does_428 ?_
  refine wa_callV X (As := [.inl a3, .inl a4, .inl a5]) (hv hw) hk_10 hc_10 rfl kw_1062 kw_21 kw_1059 kw_1060 kw_1061 nd_X10_reads rfl rfl (Nat.le_of_ble_eq_true rfl) dL_does_430 hs_1ne ⟨⟨Nat.le_of_ble_eq_true rfl, Nat.le_of_ble_eq_true rfl⟩, Nat.le_of_ble_eq_true rfl, Nat.le_of_ble_eq_true rfl⟩ (fun v S93 h => ?_) (fun _ _ h => wx_out X E N (Nat.le_of_ble_eq_true rfl) (Nat.le_of_ble_eq_true rfl) h)
  obtain ⟨hw, r94, rfl, hv⟩ := h
  refine wa_if_eq X (tgt := 440) dL_does_433 (by decide) (fun c95 => ?_) (fun c95 => ?_)
  · replace hv := hv.1 c95
    refine wa_iconst X dL_does_440 kc0 ?_
    exact wa_ireturn X E dL_does_441 (Nat.le_of_ble_eq_true rfl) (Nat.le_of_ble_eq_true rfl) (Or.inl rfl) ⟨hw, _, rfl, hv⟩
  · replace hv := hv.2 c95
    refine wa_iconst X dL_does_436 kc1 ?_
    refine wa_goto X (tgt := 441) dL_does_437 (by decide) ?_
    exact wa_ireturn X E dL_does_441 (Nat.le_of_ble_eq_true rfl) (Nat.le_of_ble_eq_true rfl) (Or.inl rfl) ⟨hw, _, rfl, hv⟩

def m_L_call (a2 : Int32) (a3 : Int32) (a4 : Int32) (a5 : Int32) (S : hs_S) (Q : Int32 → hs_S → Prop) : Prop := hs_M 57 yL_call (.codeWith yL_call cL_call 6 (some FieldType.int) [(0, 9, 10, 15), (0, 9, 15, 18), (0, 9, 20, 21)]) [.inr (.inr (10, 1)), .inl a2, .inl a3, .inl a4, .inl a5] S 11 238 (hs_qI Q) hs_nX
def vc_L_call (a2 : Int32) (a3 : Int32) (a4 : Int32) (a5 : Int32) (S : hs_S) (Q : Int32 → hs_S → Prop) : Prop := (hs_Wi S → m_L_does a2 a3 a4 a5 S (fun r2 S1 => (Q r2 S1)) (fun E4 S3 => (E4 = "java/lang/IndexOutOfBoundsException" ∧ (Q (-2100000001 : Int32) S3)) ∨ (E4 = "java/lang/IllegalArgumentException" ∧ (Q (-2100000002 : Int32) S3)) ∨ (E4 = "java/lang/IllegalStateException" ∧ (Q (-2100000003 : Int32) S3))))
set_option maxRecDepth 100000 in
set_option maxHeartbeats 4000000 in
theorem ok_L_call {a2 : Int32} {a3 : Int32} {a4 : Int32} {a5 : Int32} {S : hs_S} {Q : Int32 → hs_S → Prop} (hw : hs_Wi S) (hv : vc_L_call a2 a3 a4 a5 S Q) : m_L_call a2 a3 a4 a5 S Q := by
  unfold vc_L_call at hv
  refine hs_bodyH (own := RL) rfl rfl (Nat.le_of_ble_eq_true rfl) (fun Z X E hH => ?_)
  show wa Z 0 0 S 0 [(0, .inr (.inr (10, 1))), (1, .inl a2), (2, .inl a3), (3, .inl a4), (4, .inl a5)] []
  refine wa_aload_n X 0 rfl dL_call_0 rfl ?_
  refine wa_iload_n X 1 rfl dL_call_1 rfl ?_
  refine wa_iload_n X 2 rfl dL_call_2 rfl ?_
  refine wa_iload_n X 3 rfl dL_call_3 rfl ?_
  refine wa_iload X 4 rfl dL_call_4 ?_
  refine wa_callS X (As := [.inr (.inr (10, 1)), .inl a2, .inl a3, .inl a4, .inl a5]) (hv hw) kw_513 kw_20 kw_511 kw_512 nd_L_does rfl rfl (Nat.le_of_ble_eq_true rfl) dL_call_6 ⟨⟨Nat.le_of_ble_eq_true rfl, Nat.le_of_ble_eq_true rfl⟩, Nat.le_of_ble_eq_true rfl, Nat.le_of_ble_eq_true rfl⟩ (fun v S1 h => ?_) (fun E4 S3 h => ?_)
  obtain ⟨hw, r2, rfl, hv⟩ := h
  exact wa_ireturn X E dL_call_9 (Nat.le_of_ble_eq_true rfl) (Nat.le_of_ble_eq_true rfl) (Or.inl rfl) ⟨hw, _, rfl, hv⟩
  obtain ⟨hw, h⟩ := h
  rcases h with ⟨rfl, hv⟩ | ⟨rfl, hv⟩ | ⟨rfl, hv⟩
  · refine wx_catch X hH [] ⟨0, 9, 10, 15⟩ [⟨0, 9, 15, 18⟩, ⟨0, 9, 20, 21⟩] rfl (fun _ h => nomatch h) (by decide) (by decide) kw_508 kw_358 dL_call_10 (by decide) ?_
    refine wa_lv (lv' := []) [] rfl ?_
    refine wa_ldc X kw_1063 dL_call_12 ?_
    exact wa_ireturn X E dL_call_14 (Nat.le_of_ble_eq_true rfl) (Nat.le_of_ble_eq_true rfl) (Or.inl rfl) ⟨hw, _, rfl, hv⟩
  · refine wx_catch X hH [⟨0, 9, 10, 15⟩] ⟨0, 9, 15, 18⟩ [⟨0, 9, 20, 21⟩] rfl (List.forall_mem_cons.mpr ⟨⟨by decide, _, kw_508, by simp [hs_nc]⟩, fun _ h => nomatch h⟩) (by decide) (by decide) kw_509 kw_548 dL_call_15 (by decide) ?_
    refine wa_lv (lv' := []) [] rfl ?_
    refine wa_ldc X kw_1064 dL_call_17 ?_
    exact wa_ireturn X E dL_call_19 (Nat.le_of_ble_eq_true rfl) (Nat.le_of_ble_eq_true rfl) (Or.inl rfl) ⟨hw, _, rfl, hv⟩
  · refine wx_catch X hH [⟨0, 9, 10, 15⟩, ⟨0, 9, 15, 18⟩] ⟨0, 9, 20, 21⟩ [] rfl (List.forall_mem_cons.mpr ⟨⟨by decide, _, kw_508, by simp [hs_nc]⟩, List.forall_mem_cons.mpr ⟨⟨by decide, _, kw_509, by simp [hs_nc]⟩, fun _ h => nomatch h⟩⟩) (by decide) (by decide) kw_510 kw_524 dL_call_20 (by decide) ?_
    refine wa_lv (lv' := []) [] rfl ?_
    refine wa_ldc X kw_1065 dL_call_22 ?_
    exact wa_ireturn X E dL_call_24 (Nat.le_of_ble_eq_true rfl) (Nat.le_of_ble_eq_true rfl) (Or.inl rfl) ⟨hw, _, rfl, hv⟩

def m_L_all (a2 : Int32) (a3 : Int32) (S : hs_S) (Q : Int64 → hs_S → Prop) : Prop := hs_M 53 yL_all (.code yL_all cL_all 8 (some FieldType.long)) [.inr (.inr (10, 1)), .inl a2, .inl a3] S 0 0 (hs_qL Q) hs_nX
def vc_L_all (a2 : Int32) (a3 : Int32) (S : hs_S) (Q : Int64 → hs_S → Prop) : Prop := (∃ I3 : Nat → Int64 → Int32 → Prop, (∃ n7, I3 n7 (F_C_events S).toInt64 (0 : Int32)) ∧ (∀ N4 : Nat, ∀ x1 : Int64, ∀ x2 : Int32, I3 N4 x1 x2 → (((6 : Int32) ≤ x2 → (∃ I14 : Nat → Int64 → Int32 → Prop, (∃ n18, I14 n18 x1 (0 : Int32)) ∧ (∀ N15 : Nat, ∀ x12 : Int64, ∀ x13 : Int32, I14 N15 x12 x13 → ((a2 ≤ x13 → (∃ I25 : Nat → Int64 → Int32 → Prop, (∃ n29, I25 n29 x12 (0 : Int32)) ∧ (∀ N26 : Nat, ∀ x23 : Int64, ∀ x24 : Int32, I25 N26 x23 x24 → ((a3 ≤ x24 → (∃ I36 : Nat → Int64 → Int32 → hs_S → Prop, (∃ n41, I36 n41 x23 (0 : Int32) S) ∧ (∀ N37 : Nat, ∀ x34 : Int64, ∀ x35 : Int32, ∀ S38 : hs_S, I36 N37 x34 x35 S38 → (((24 : Int32) ≤ x35 → (Q x34 S38)) ∧ (¬ (24 : Int32) ≤ x35 → ((P_Cq_ownerOf (x35 / (6 : Int32)) (x35 - x35 / (6 : Int32) * (6 : Int32)) S38) ∧ ((P_Cq_value (F_Cq_ownerOf (x35 / (6 : Int32)) (x35 - x35 / (6 : Int32) * (6 : Int32)) S38) (x35 / (6 : Int32)) (x35 - x35 / (6 : Int32) * (6 : Int32)) S38) ∧ (∀ r49 : Int32, ∀ S48 : hs_S, R_Cq_value (F_Cq_ownerOf (x35 / (6 : Int32)) (x35 - x35 / (6 : Int32) * (6 : Int32)) S38) (x35 / (6 : Int32)) (x35 - x35 / (6 : Int32) * (6 : Int32)) S38 r49 S48 → ((P_Cq_fault (F_Cq_ownerOf (x35 / (6 : Int32)) (x35 - x35 / (6 : Int32) * (6 : Int32)) S38) (x35 / (6 : Int32)) (x35 - x35 / (6 : Int32) * (6 : Int32)) S48) ∧ (∀ r53 : Int32, ∀ S52 : hs_S, R_Cq_fault (F_Cq_ownerOf (x35 / (6 : Int32)) (x35 - x35 / (6 : Int32) * (6 : Int32)) S38) (x35 / (6 : Int32)) (x35 - x35 / (6 : Int32) * (6 : Int32)) S48 r53 S52 → (∃ I57 : Nat → Int64 → Int32 → Prop, (∃ n61, I57 n61 ((((((x34 * (7 : Int64)) + (F_Cq_ownerOf (x35 / (6 : Int32)) (x35 - x35 / (6 : Int32) * (6 : Int32)) S38).toInt64) * (1000003 : Int64)) + r49.toInt64) * (7 : Int64)) + r53.toInt64) (0 : Int32)) ∧ (∀ N58 : Nat, ∀ x55 : Int64, ∀ x56 : Int32, I57 N58 x55 x56 → (((6 : Int32) ≤ x56 → (∃ q66, q66 < N37 ∧ I36 q66 x55 (x35 + 1) S52)) ∧ (¬ (6 : Int32) ≤ x56 → ((P_Cq_reads x56 (x35 / (6 : Int32)) (x35 - x35 / (6 : Int32) * (6 : Int32)) S52) ∧ (((F_Cq_reads x56 (x35 / (6 : Int32)) (x35 - x35 / (6 : Int32) * (6 : Int32)) S52) = 0 → (∃ q70, q70 < N58 ∧ I57 q70 ((x55 * (3 : Int64)) + (0 : Int32).toInt64) (x56 + 1))) ∧ (¬ (F_Cq_reads x56 (x35 / (6 : Int32)) (x35 - x35 / (6 : Int32) * (6 : Int32)) S52) = 0 → (∃ q72, q72 < N58 ∧ I57 q72 ((x55 * (3 : Int64)) + (1 : Int32).toInt64) (x56 + 1))))))))))))))))))) ∧ (¬ a3 ≤ x24 → ((P_Cq_round x24 (1 : Int32) S) ∧ ((P_Cq_round x24 (2 : Int32) S) ∧ ((P_Cq_round x24 (3 : Int32) S) ∧ ((P_Cq_round x24 (4 : Int32) S) ∧ (∃ q78, q78 < N26 ∧ I25 q78 (((((((x23 * (1000003 : Int64)) + (F_Cq_round x24 (1 : Int32) S).toInt64) * (10007 : Int64)) + (F_Cq_round x24 (2 : Int32) S).toInt64) * (1009 : Int64)) + (F_Cq_round x24 (3 : Int32) S).toInt64) + (F_Cq_round x24 (4 : Int32) S).toInt64) (x24 + 1))))))))))) ∧ (¬ a2 ≤ x13 → ((P_Cq_got x13 S) ∧ (∃ q81, q81 < N15 ∧ I14 q81 ((x12 * (103 : Int64)) + (F_Cq_got x13 S).toInt64) (x13 + 1)))))))) ∧ (¬ (6 : Int32) ≤ x2 → ((P_Cq_cash x2 S) ∧ ((P_Cq_exposure x2 S) ∧ (∃ I87 : Nat → Int64 → Int32 → Prop, (∃ n91, I87 n91 ((((x1 * (1000003 : Int64)) + (F_Cq_cash x2 S).toInt64) * (1000003 : Int64)) + (F_Ldg_exposureOf x2 S).toInt64) (0 : Int32)) ∧ (∀ N88 : Nat, ∀ x85 : Int64, ∀ x86 : Int32, I87 N88 x85 x86 → (((4 : Int32) ≤ x86 → (∃ q96, q96 < N4 ∧ I3 q96 x85 (x2 + 1))) ∧ (¬ (4 : Int32) ≤ x86 → ((P_Cq_due x2 x86 S) ∧ (∃ q99, q99 < N88 ∧ I87 q99 ((x85 * (1000003 : Int64)) + (F_Ldg_dueOf x2 x86 S).toInt64) (x86 + 1)))))))))))))
set_option maxRecDepth 100000 in
set_option maxHeartbeats 4000000 in
theorem ok_L_all {a2 : Int32} {a3 : Int32} {S : hs_S} {Q : Int64 → hs_S → Prop} (hw : hs_Wi S) (hv : vc_L_all a2 a3 S Q) : m_L_all a2 a3 S Q := by
  unfold vc_L_all at hv
  refine hs_body (own := RL) rfl rfl (Nat.le_of_ble_eq_true rfl) (fun Z X E N J0 => ?_)
  show wa Z 0 0 S 0 [(0, .inr (.inr (10, 1))), (1, .inl a2), (2, .inl a3)] []
  refine wa_aload_n X 0 rfl dL_all_0 rfl ?_
  refine wa_callV X (As := []) (f_C_events hw) hk_10 hc_10 rfl kw_1072 kw_21 kw_1069 kw_1070 kw_1071 nd_X10_events rfl rfl (Nat.le_of_ble_eq_true rfl) dL_all_1 hs_1ne ⟨⟨Nat.le_of_ble_eq_true rfl, Nat.le_of_ble_eq_true rfl⟩, Nat.le_of_ble_eq_true rfl, Nat.le_of_ble_eq_true rfl⟩ (hs_pdk0 ?_) (fun _ _ h => h.elim)
  refine wa_i2l X dL_all_4 ?_
  refine wa_lstore_n X (lv' := [(3, .inr (.inl (F_C_events S).toInt64)), (0, .inr (.inr (10, 1))), (1, .inl a2), (2, .inl a3)]) dL_all_5 rfl (by decide) rfl ?_
  refine wa_iconst X dL_all_6 kc0 ?_
  refine wa_istore X (lv' := [(5, .inl (0 : Int32)), (3, .inr (.inl (F_C_events S).toInt64)), (0, .inr (.inr (10, 1))), (1, .inl a2), (2, .inl a3)]) dL_all_7 (by decide) rfl ?_
  obtain ⟨I3, ⟨n7, i5⟩, b6⟩ := hv
  refine wa_lv (lv' := [(0, .inr (.inr (10, 1))), (1, .inl a2), (2, .inl a3), (3, .inr (.inl (F_C_events S).toInt64)), (5, .inl (0 : Int32))]) [2, 3, 4, 1, 0] rfl ?_
  suffices L8 : ∀ N4 : Nat, ∀ x1 : Int64, ∀ x2 : Int32, I3 N4 x1 x2 → wa Z 0 0 S 9 [(0, .inr (.inr (10, 1))), (1, .inl a2), (2, .inl a3), (3, .inr (.inl x1)), (5, .inl x2)] [] from L8 _ _ _ i5
  clear i5
  intro N4
  induction N4 using Nat.strongRecOn with
  | _ N4 h9 =>
    intro x1 x2 j10
    have hv := b6 N4 x1 x2 j10
    refine wa_iload X 4 rfl dL_all_9 ?_
    refine wa_bipush X dL_all_11 kb6 ?_
    refine wa_icmp_ge X (tgt := 79) dL_all_13 (by decide) (fun c11 => ?_) (fun c11 => ?_)
    · replace hv := hv.1 c11
      refine wa_iconst X dL_all_79 kc0 ?_
      refine wa_istore X (lv' := [(5, .inl (0 : Int32)), (0, .inr (.inr (10, 1))), (1, .inl a2), (2, .inl a3), (3, .inr (.inl x1))]) dL_all_80 (by decide) rfl ?_
      obtain ⟨I14, ⟨n18, i16⟩, b17⟩ := hv
      refine wa_lv (lv' := [(0, .inr (.inr (10, 1))), (1, .inl a2), (2, .inl a3), (3, .inr (.inl x1)), (5, .inl (0 : Int32))]) [1, 2, 3, 4, 0] rfl ?_
      suffices L19 : ∀ N15 : Nat, ∀ x12 : Int64, ∀ x13 : Int32, I14 N15 x12 x13 → wa Z 0 0 S 82 [(0, .inr (.inr (10, 1))), (1, .inl a2), (2, .inl a3), (3, .inr (.inl x12)), (5, .inl x13)] [] from L19 _ _ _ i16
      clear i16
      intro N15
      induction N15 using Nat.strongRecOn with
      | _ N15 h20 =>
        intro x12 x13 j21
        have hv := b17 N15 x12 x13 j21
        refine wa_iload X 4 rfl dL_all_82 ?_
        refine wa_iload_n X 1 rfl dL_all_84 rfl ?_
        refine wa_icmp_ge X (tgt := 108) dL_all_85 (by decide) (fun c22 => ?_) (fun c22 => ?_)
        · replace hv := hv.1 c22
          refine wa_iconst X dL_all_108 kc0 ?_
          refine wa_istore X (lv' := [(5, .inl (0 : Int32)), (0, .inr (.inr (10, 1))), (1, .inl a2), (2, .inl a3), (3, .inr (.inl x12))]) dL_all_109 (by decide) rfl ?_
          obtain ⟨I25, ⟨n29, i27⟩, b28⟩ := hv
          refine wa_lv (lv' := [(0, .inr (.inr (10, 1))), (2, .inl a3), (3, .inr (.inl x12)), (5, .inl (0 : Int32))]) [1, 3, 4, 0] rfl ?_
          suffices L30 : ∀ N26 : Nat, ∀ x23 : Int64, ∀ x24 : Int32, I25 N26 x23 x24 → wa Z 0 0 S 111 [(0, .inr (.inr (10, 1))), (2, .inl a3), (3, .inr (.inl x23)), (5, .inl x24)] [] from L30 _ _ _ i27
          clear i27
          intro N26
          induction N26 using Nat.strongRecOn with
          | _ N26 h31 =>
            intro x23 x24 j32
            have hv := b28 N26 x23 x24 j32
            refine wa_iload X 3 rfl dL_all_111 ?_
            refine wa_iload_n X 1 rfl dL_all_113 rfl ?_
            refine wa_icmp_ge X (tgt := 173) dL_all_114 (by decide) (fun c33 => ?_) (fun c33 => ?_)
            · replace hv := hv.1 c33
              refine wa_iconst X dL_all_173 kc0 ?_
              refine wa_istore X (lv' := [(5, .inl (0 : Int32)), (0, .inr (.inr (10, 1))), (2, .inl a3), (3, .inr (.inl x23))]) dL_all_174 (by decide) rfl ?_
              obtain ⟨I36, ⟨n41, i39⟩, b40⟩ := hv
              refine wa_lv (lv' := [(0, .inr (.inr (10, 1))), (3, .inr (.inl x23)), (5, .inl (0 : Int32))]) [1, 3, 0] rfl ?_
              suffices L42 : ∀ N37 : Nat, ∀ x34 : Int64, ∀ x35 : Int32, ∀ S38 : hs_S, hs_Wi S38 → I36 N37 x34 x35 S38 → wa Z 0 0 S38 176 [(0, .inr (.inr (10, 1))), (3, .inr (.inl x34)), (5, .inl x35)] [] from L42 _ _ _ _ hw i39
              clear hw
              clear i39
              intro N37
              induction N37 using Nat.strongRecOn with
              | _ N37 h43 =>
                intro x34 x35 S38 hw j44
                have hv := b40 N37 x34 x35 S38 j44
                refine wa_iload X 2 rfl dL_all_176 ?_
                refine wa_bipush X dL_all_178 kb24 ?_
                refine wa_icmp_ge X (tgt := 307) dL_all_180 (by decide) (fun c45 => ?_) (fun c45 => ?_)
                · replace hv := hv.1 c45
                  refine wa_lload_n X 1 rfl dL_all_307 rfl ?_
                  exact wa_lreturn X E dL_all_308 (Nat.le_of_ble_eq_true rfl) (Nat.le_of_ble_eq_true rfl) ⟨hw, _, rfl, hv⟩
                · replace hv := hv.2 c45
                  refine wa_aload_n X 0 rfl dL_all_183 rfl ?_
                  refine wa_iload X 2 rfl dL_all_184 ?_
                  refine wa_bipush X dL_all_186 kb6 ?_
                  refine wa_idiv X dL_all_188 (by decide) ?_
                  refine wa_iload X 2 rfl dL_all_189 ?_
                  refine wa_bipush X dL_all_191 kb6 ?_
                  refine wa_irem X dL_all_193 (by decide) ?_
                  obtain ⟨o46, hv⟩ := hv
                  refine wa_callV X (As := [.inl (x35 / (6 : Int32)), .inl (x35 - x35 / (6 : Int32) * (6 : Int32))]) (f_Cq_ownerOf hw o46) hk_10 hc_10 rfl kw_1058 kw_21 kw_1055 kw_1056 kw_1057 nd_X10_ownerOf rfl rfl (Nat.le_of_ble_eq_true rfl) dL_all_194 hs_1ne ⟨⟨Nat.le_of_ble_eq_true rfl, Nat.le_of_ble_eq_true rfl⟩, Nat.le_of_ble_eq_true rfl, Nat.le_of_ble_eq_true rfl⟩ (hs_pdk0 ?_) (fun _ _ h => h.elim)
                  refine wa_istore X (lv' := [(6, .inl (F_Cq_ownerOf (x35 / (6 : Int32)) (x35 - x35 / (6 : Int32) * (6 : Int32)) S38)), (0, .inr (.inr (10, 1))), (3, .inr (.inl x34)), (5, .inl x35)]) dL_all_197 (by decide) rfl ?_
                  refine wa_lload_n X 2 rfl dL_all_199 rfl ?_
                  refine wa_ldc2 X kw_1077 dL_all_200 ?_
                  refine wa_lmul X dL_all_203 ?_
                  refine wa_iload X 0 rfl dL_all_204 ?_
                  refine wa_i2l X dL_all_206 ?_
                  refine wa_ladd X dL_all_207 ?_
                  refine wa_ldc2 X kw_1073 dL_all_208 ?_
                  refine wa_lmul X dL_all_211 ?_
                  refine wa_aload_n X 1 rfl dL_all_212 rfl ?_
                  refine wa_iload X 0 rfl dL_all_213 ?_
                  refine wa_iload X 3 rfl dL_all_215 ?_
                  refine wa_bipush X dL_all_217 kb6 ?_
                  refine wa_idiv X dL_all_219 (by decide) ?_
                  refine wa_iload X 3 rfl dL_all_220 ?_
                  refine wa_bipush X dL_all_222 kb6 ?_
                  refine wa_irem X dL_all_224 (by decide) ?_
                  obtain ⟨o47, hv⟩ := hv
                  refine wa_callV X (As := [.inl (F_Cq_ownerOf (x35 / (6 : Int32)) (x35 - x35 / (6 : Int32) * (6 : Int32)) S38), .inl (x35 / (6 : Int32)), .inl (x35 - x35 / (6 : Int32) * (6 : Int32))]) (ok_Cq_value hw (v_Cq_value o47)) hk_10 hc_10 rfl kw_724 kw_21 kw_721 kw_722 kw_723 nd_X10_value rfl rfl (Nat.le_of_ble_eq_true rfl) dL_all_225 hs_1ne ⟨⟨Nat.le_of_ble_eq_true rfl, Nat.le_of_ble_eq_true rfl⟩, Nat.le_of_ble_eq_true rfl, Nat.le_of_ble_eq_true rfl⟩ (fun _ S48 h => ?_) (fun _ _ h => h.elim)
                  obtain ⟨hw, r49, rfl, g50⟩ := h
                  replace hv := hv r49 S48 g50
                  refine wa_i2l X dL_all_228 ?_
                  refine wa_ladd X dL_all_229 ?_
                  refine wa_ldc2 X kw_1077 dL_all_230 ?_
                  refine wa_lmul X dL_all_233 ?_
                  refine wa_aload_n X 1 rfl dL_all_234 rfl ?_
                  refine wa_iload X 0 rfl dL_all_235 ?_
                  refine wa_iload X 3 rfl dL_all_237 ?_
                  refine wa_bipush X dL_all_239 kb6 ?_
                  refine wa_idiv X dL_all_241 (by decide) ?_
                  refine wa_iload X 3 rfl dL_all_242 ?_
                  refine wa_bipush X dL_all_244 kb6 ?_
                  refine wa_irem X dL_all_246 (by decide) ?_
                  obtain ⟨o51, hv⟩ := hv
                  refine wa_callV X (As := [.inl (F_Cq_ownerOf (x35 / (6 : Int32)) (x35 - x35 / (6 : Int32) * (6 : Int32)) S38), .inl (x35 / (6 : Int32)), .inl (x35 - x35 / (6 : Int32) * (6 : Int32))]) (ok_Cq_fault hw (v_Cq_fault o51)) hk_10 hc_10 rfl kw_786 kw_21 kw_783 kw_784 kw_785 nd_X10_fault rfl rfl (Nat.le_of_ble_eq_true rfl) dL_all_247 hs_1ne ⟨⟨Nat.le_of_ble_eq_true rfl, Nat.le_of_ble_eq_true rfl⟩, Nat.le_of_ble_eq_true rfl, Nat.le_of_ble_eq_true rfl⟩ (fun _ S52 h => ?_) (fun _ _ h => h.elim)
                  obtain ⟨hw, r53, rfl, g54⟩ := h
                  replace hv := hv r53 S52 g54
                  refine wa_i2l X dL_all_250 ?_
                  refine wa_ladd X dL_all_251 ?_
                  refine wa_lstore_n X (lv' := [(3, .inr (.inl ((((((x34 * (7 : Int64)) + (F_Cq_ownerOf (x35 / (6 : Int32)) (x35 - x35 / (6 : Int32) * (6 : Int32)) S38).toInt64) * (1000003 : Int64)) + r49.toInt64) * (7 : Int64)) + r53.toInt64))), (6, .inl (F_Cq_ownerOf (x35 / (6 : Int32)) (x35 - x35 / (6 : Int32) * (6 : Int32)) S38)), (0, .inr (.inr (10, 1))), (5, .inl x35)]) dL_all_252 rfl (by decide) rfl ?_
                  refine wa_iconst X dL_all_253 kc0 ?_
                  refine wa_istore X (lv' := [(7, .inl (0 : Int32)), (3, .inr (.inl ((((((x34 * (7 : Int64)) + (F_Cq_ownerOf (x35 / (6 : Int32)) (x35 - x35 / (6 : Int32) * (6 : Int32)) S38).toInt64) * (1000003 : Int64)) + r49.toInt64) * (7 : Int64)) + r53.toInt64))), (6, .inl (F_Cq_ownerOf (x35 / (6 : Int32)) (x35 - x35 / (6 : Int32) * (6 : Int32)) S38)), (0, .inr (.inr (10, 1))), (5, .inl x35)]) dL_all_254 (by decide) rfl ?_
                  obtain ⟨I57, ⟨n61, i59⟩, b60⟩ := hv
                  refine wa_lv (lv' := [(0, .inr (.inr (10, 1))), (3, .inr (.inl ((((((x34 * (7 : Int64)) + (F_Cq_ownerOf (x35 / (6 : Int32)) (x35 - x35 / (6 : Int32) * (6 : Int32)) S38).toInt64) * (1000003 : Int64)) + r49.toInt64) * (7 : Int64)) + r53.toInt64))), (5, .inl x35), (7, .inl (0 : Int32))]) [3, 1, 4, 0] rfl ?_
                  suffices L62 : ∀ N58 : Nat, ∀ x55 : Int64, ∀ x56 : Int32, I57 N58 x55 x56 → wa Z 0 0 S52 256 [(0, .inr (.inr (10, 1))), (3, .inr (.inl x55)), (5, .inl x35), (7, .inl x56)] [] from L62 _ _ _ i59
                  clear i59
                  intro N58
                  induction N58 using Nat.strongRecOn with
                  | _ N58 h63 =>
                    intro x55 x56 j64
                    have hv := b60 N58 x55 x56 j64
                    refine wa_iload X 3 rfl dL_all_256 ?_
                    refine wa_bipush X dL_all_258 kb6 ?_
                    refine wa_icmp_ge X (tgt := 301) dL_all_260 (by decide) (fun c65 => ?_) (fun c65 => ?_)
                    · replace hv := hv.1 c65
                      refine wa_iinc X (v := (x35 + 1)) (lv' := [(5, .inl (x35 + 1)), (0, .inr (.inr (10, 1))), (3, .inr (.inl x55)), (7, .inl x56)]) 2 rfl dL_all_301 rfl (by decide) rfl ?_
                      refine wa_goto X (tgt := 176) dL_all_304 (by decide) ?_
                      obtain ⟨q66, p67, hv⟩ := hv
                      refine wa_lv (lv' := [(0, .inr (.inr (10, 1))), (3, .inr (.inl x55)), (5, .inl (x35 + 1))]) [1, 2, 0] rfl ?_
                      exact h43 q66 p67 _ _ _ hw hv
                    · replace hv := hv.2 c65
                      refine wa_lload_n X 1 rfl dL_all_263 rfl ?_
                      refine wa_ldc2 X kw_1078 dL_all_264 ?_
                      refine wa_lmul X dL_all_267 ?_
                      refine wa_aload_n X 0 rfl dL_all_268 rfl ?_
                      refine wa_iload X 3 rfl dL_all_269 ?_
                      refine wa_iload X 2 rfl dL_all_271 ?_
                      refine wa_bipush X dL_all_273 kb6 ?_
                      refine wa_idiv X dL_all_275 (by decide) ?_
                      refine wa_iload X 2 rfl dL_all_276 ?_
                      refine wa_bipush X dL_all_278 kb6 ?_
                      refine wa_irem X dL_all_280 (by decide) ?_
                      obtain ⟨o68, hv⟩ := hv
                      refine wa_callV X (As := [.inl x56, .inl (x35 / (6 : Int32)), .inl (x35 - x35 / (6 : Int32) * (6 : Int32))]) (f_Cq_reads hw o68) hk_10 hc_10 rfl kw_1062 kw_21 kw_1059 kw_1060 kw_1061 nd_X10_reads rfl rfl (Nat.le_of_ble_eq_true rfl) dL_all_281 hs_1ne ⟨⟨Nat.le_of_ble_eq_true rfl, Nat.le_of_ble_eq_true rfl⟩, Nat.le_of_ble_eq_true rfl, Nat.le_of_ble_eq_true rfl⟩ (hs_pdk0 ?_) (fun _ _ h => h.elim)
                      refine wa_if_eq X (tgt := 291) dL_all_284 (by decide) (fun c69 => ?_) (fun c69 => ?_)
                      · replace hv := hv.1 c69
                        refine wa_iconst X dL_all_291 kc0 ?_
                        refine wa_i2l X dL_all_292 ?_
                        refine wa_ladd X dL_all_293 ?_
                        refine wa_lstore_n X (lv' := [(3, .inr (.inl ((x55 * (3 : Int64)) + (0 : Int32).toInt64))), (0, .inr (.inr (10, 1))), (5, .inl x35), (7, .inl x56)]) dL_all_294 rfl (by decide) rfl ?_
                        refine wa_iinc X (v := (x56 + 1)) (lv' := [(7, .inl (x56 + 1)), (3, .inr (.inl ((x55 * (3 : Int64)) + (0 : Int32).toInt64))), (0, .inr (.inr (10, 1))), (5, .inl x35)]) 3 rfl dL_all_295 rfl (by decide) rfl ?_
                        refine wa_goto X (tgt := 256) dL_all_298 (by decide) ?_
                        obtain ⟨q70, p71, hv⟩ := hv
                        refine wa_lv (lv' := [(0, .inr (.inr (10, 1))), (3, .inr (.inl ((x55 * (3 : Int64)) + (0 : Int32).toInt64))), (5, .inl x35), (7, .inl (x56 + 1))]) [2, 1, 3, 0] rfl ?_
                        exact h63 q70 p71 _ _ hv
                      · replace hv := hv.2 c69
                        refine wa_iconst X dL_all_287 kc1 ?_
                        refine wa_goto X (tgt := 292) dL_all_288 (by decide) ?_
                        refine wa_i2l X dL_all_292 ?_
                        refine wa_ladd X dL_all_293 ?_
                        refine wa_lstore_n X (lv' := [(3, .inr (.inl ((x55 * (3 : Int64)) + (1 : Int32).toInt64))), (0, .inr (.inr (10, 1))), (5, .inl x35), (7, .inl x56)]) dL_all_294 rfl (by decide) rfl ?_
                        refine wa_iinc X (v := (x56 + 1)) (lv' := [(7, .inl (x56 + 1)), (3, .inr (.inl ((x55 * (3 : Int64)) + (1 : Int32).toInt64))), (0, .inr (.inr (10, 1))), (5, .inl x35)]) 3 rfl dL_all_295 rfl (by decide) rfl ?_
                        refine wa_goto X (tgt := 256) dL_all_298 (by decide) ?_
                        obtain ⟨q72, p73, hv⟩ := hv
                        refine wa_lv (lv' := [(0, .inr (.inr (10, 1))), (3, .inr (.inl ((x55 * (3 : Int64)) + (1 : Int32).toInt64))), (5, .inl x35), (7, .inl (x56 + 1))]) [2, 1, 3, 0] rfl ?_
                        exact h63 q72 p73 _ _ hv
            · replace hv := hv.2 c33
              refine wa_lload_n X 2 rfl dL_all_117 rfl ?_
              refine wa_ldc2 X kw_1073 dL_all_118 ?_
              refine wa_lmul X dL_all_121 ?_
              refine wa_aload_n X 0 rfl dL_all_122 rfl ?_
              refine wa_iload X 3 rfl dL_all_123 ?_
              refine wa_iconst X dL_all_125 kc1 ?_
              obtain ⟨o74, hv⟩ := hv
              refine wa_callV X (As := [.inl x24, .inl (1 : Int32)]) (f_Cq_round hw o74) hk_10 hc_10 rfl kw_987 kw_21 kw_984 kw_985 kw_986 nd_X10_round rfl rfl (Nat.le_of_ble_eq_true rfl) dL_all_126 hs_1ne ⟨⟨Nat.le_of_ble_eq_true rfl, Nat.le_of_ble_eq_true rfl⟩, Nat.le_of_ble_eq_true rfl, Nat.le_of_ble_eq_true rfl⟩ (hs_pdk0 ?_) (fun _ _ h => h.elim)
              refine wa_i2l X dL_all_129 ?_
              refine wa_ladd X dL_all_130 ?_
              refine wa_ldc2 X kw_1075 dL_all_131 ?_
              refine wa_lmul X dL_all_134 ?_
              refine wa_aload_n X 0 rfl dL_all_135 rfl ?_
              refine wa_iload X 3 rfl dL_all_136 ?_
              refine wa_iconst X dL_all_138 kc2 ?_
              obtain ⟨o75, hv⟩ := hv
              refine wa_callV X (As := [.inl x24, .inl (2 : Int32)]) (f_Cq_round hw o75) hk_10 hc_10 rfl kw_987 kw_21 kw_984 kw_985 kw_986 nd_X10_round rfl rfl (Nat.le_of_ble_eq_true rfl) dL_all_139 hs_1ne ⟨⟨Nat.le_of_ble_eq_true rfl, Nat.le_of_ble_eq_true rfl⟩, Nat.le_of_ble_eq_true rfl, Nat.le_of_ble_eq_true rfl⟩ (hs_pdk0 ?_) (fun _ _ h => h.elim)
              refine wa_i2l X dL_all_142 ?_
              refine wa_ladd X dL_all_143 ?_
              refine wa_ldc2 X kw_1076 dL_all_144 ?_
              refine wa_lmul X dL_all_147 ?_
              refine wa_aload_n X 0 rfl dL_all_148 rfl ?_
              refine wa_iload X 3 rfl dL_all_149 ?_
              refine wa_iconst X dL_all_151 kc3 ?_
              obtain ⟨o76, hv⟩ := hv
              refine wa_callV X (As := [.inl x24, .inl (3 : Int32)]) (f_Cq_round hw o76) hk_10 hc_10 rfl kw_987 kw_21 kw_984 kw_985 kw_986 nd_X10_round rfl rfl (Nat.le_of_ble_eq_true rfl) dL_all_152 hs_1ne ⟨⟨Nat.le_of_ble_eq_true rfl, Nat.le_of_ble_eq_true rfl⟩, Nat.le_of_ble_eq_true rfl, Nat.le_of_ble_eq_true rfl⟩ (hs_pdk0 ?_) (fun _ _ h => h.elim)
              refine wa_i2l X dL_all_155 ?_
              refine wa_ladd X dL_all_156 ?_
              refine wa_aload_n X 0 rfl dL_all_157 rfl ?_
              refine wa_iload X 3 rfl dL_all_158 ?_
              refine wa_iconst X dL_all_160 kc4 ?_
              obtain ⟨o77, hv⟩ := hv
              refine wa_callV X (As := [.inl x24, .inl (4 : Int32)]) (f_Cq_round hw o77) hk_10 hc_10 rfl kw_987 kw_21 kw_984 kw_985 kw_986 nd_X10_round rfl rfl (Nat.le_of_ble_eq_true rfl) dL_all_161 hs_1ne ⟨⟨Nat.le_of_ble_eq_true rfl, Nat.le_of_ble_eq_true rfl⟩, Nat.le_of_ble_eq_true rfl, Nat.le_of_ble_eq_true rfl⟩ (hs_pdk0 ?_) (fun _ _ h => h.elim)
              refine wa_i2l X dL_all_164 ?_
              refine wa_ladd X dL_all_165 ?_
              refine wa_lstore_n X (lv' := [(3, .inr (.inl (((((((x23 * (1000003 : Int64)) + (F_Cq_round x24 (1 : Int32) S).toInt64) * (10007 : Int64)) + (F_Cq_round x24 (2 : Int32) S).toInt64) * (1009 : Int64)) + (F_Cq_round x24 (3 : Int32) S).toInt64) + (F_Cq_round x24 (4 : Int32) S).toInt64))), (0, .inr (.inr (10, 1))), (2, .inl a3), (5, .inl x24)]) dL_all_166 rfl (by decide) rfl ?_
              refine wa_iinc X (v := (x24 + 1)) (lv' := [(5, .inl (x24 + 1)), (3, .inr (.inl (((((((x23 * (1000003 : Int64)) + (F_Cq_round x24 (1 : Int32) S).toInt64) * (10007 : Int64)) + (F_Cq_round x24 (2 : Int32) S).toInt64) * (1009 : Int64)) + (F_Cq_round x24 (3 : Int32) S).toInt64) + (F_Cq_round x24 (4 : Int32) S).toInt64))), (0, .inr (.inr (10, 1))), (2, .inl a3)]) 3 rfl dL_all_167 rfl (by decide) rfl ?_
              refine wa_goto X (tgt := 111) dL_all_170 (by decide) ?_
              obtain ⟨q78, p79, hv⟩ := hv
              refine wa_lv (lv' := [(0, .inr (.inr (10, 1))), (2, .inl a3), (3, .inr (.inl (((((((x23 * (1000003 : Int64)) + (F_Cq_round x24 (1 : Int32) S).toInt64) * (10007 : Int64)) + (F_Cq_round x24 (2 : Int32) S).toInt64) * (1009 : Int64)) + (F_Cq_round x24 (3 : Int32) S).toInt64) + (F_Cq_round x24 (4 : Int32) S).toInt64))), (5, .inl (x24 + 1))]) [2, 3, 1, 0] rfl ?_
              exact h31 q78 p79 _ _ hv
        · replace hv := hv.2 c22
          refine wa_lload_n X 3 rfl dL_all_88 rfl ?_
          refine wa_ldc2 X kw_1074 dL_all_89 ?_
          refine wa_lmul X dL_all_92 ?_
          refine wa_aload_n X 0 rfl dL_all_93 rfl ?_
          refine wa_iload X 4 rfl dL_all_94 ?_
          obtain ⟨o80, hv⟩ := hv
          refine wa_callV X (As := [.inl x13]) (f_Cq_got hw o80) hk_10 hc_10 rfl kw_1005 kw_21 kw_1002 kw_1003 kw_1004 nd_X10_got rfl rfl (Nat.le_of_ble_eq_true rfl) dL_all_96 hs_1ne ⟨⟨Nat.le_of_ble_eq_true rfl, Nat.le_of_ble_eq_true rfl⟩, Nat.le_of_ble_eq_true rfl, Nat.le_of_ble_eq_true rfl⟩ (hs_pdk0 ?_) (fun _ _ h => h.elim)
          refine wa_i2l X dL_all_99 ?_
          refine wa_ladd X dL_all_100 ?_
          refine wa_lstore_n X (lv' := [(3, .inr (.inl ((x12 * (103 : Int64)) + (F_Cq_got x13 S).toInt64))), (0, .inr (.inr (10, 1))), (1, .inl a2), (2, .inl a3), (5, .inl x13)]) dL_all_101 rfl (by decide) rfl ?_
          refine wa_iinc X (v := (x13 + 1)) (lv' := [(5, .inl (x13 + 1)), (3, .inr (.inl ((x12 * (103 : Int64)) + (F_Cq_got x13 S).toInt64))), (0, .inr (.inr (10, 1))), (1, .inl a2), (2, .inl a3)]) 4 rfl dL_all_102 rfl (by decide) rfl ?_
          refine wa_goto X (tgt := 82) dL_all_105 (by decide) ?_
          obtain ⟨q81, p82, hv⟩ := hv
          refine wa_lv (lv' := [(0, .inr (.inr (10, 1))), (1, .inl a2), (2, .inl a3), (3, .inr (.inl ((x12 * (103 : Int64)) + (F_Cq_got x13 S).toInt64))), (5, .inl (x13 + 1))]) [2, 3, 4, 1, 0] rfl ?_
          exact h20 q81 p82 _ _ hv
    · replace hv := hv.2 c11
      refine wa_lload_n X 3 rfl dL_all_16 rfl ?_
      refine wa_ldc2 X kw_1073 dL_all_17 ?_
      refine wa_lmul X dL_all_20 ?_
      refine wa_aload_n X 0 rfl dL_all_21 rfl ?_
      refine wa_iload X 4 rfl dL_all_22 ?_
      obtain ⟨o83, hv⟩ := hv
      refine wa_callV X (As := [.inl x2]) (f_Cq_cash hw o83) hk_10 hc_10 rfl kw_1027 kw_21 kw_1024 kw_1025 kw_1026 nd_X10_cash rfl rfl (Nat.le_of_ble_eq_true rfl) dL_all_24 hs_1ne ⟨⟨Nat.le_of_ble_eq_true rfl, Nat.le_of_ble_eq_true rfl⟩, Nat.le_of_ble_eq_true rfl, Nat.le_of_ble_eq_true rfl⟩ (hs_pdk0 ?_) (fun _ _ h => h.elim)
      refine wa_i2l X dL_all_27 ?_
      refine wa_ladd X dL_all_28 ?_
      refine wa_ldc2 X kw_1073 dL_all_29 ?_
      refine wa_lmul X dL_all_32 ?_
      refine wa_aload_n X 0 rfl dL_all_33 rfl ?_
      refine wa_iload X 4 rfl dL_all_34 ?_
      obtain ⟨o84, hv⟩ := hv
      refine wa_callV X (As := [.inl x2]) (f_Cq_exposure hw o84) hk_10 hc_10 rfl kw_1036 kw_21 kw_1033 kw_1034 kw_1035 nd_X10_exposure rfl rfl (Nat.le_of_ble_eq_true rfl) dL_all_36 hs_1ne ⟨⟨Nat.le_of_ble_eq_true rfl, Nat.le_of_ble_eq_true rfl⟩, Nat.le_of_ble_eq_true rfl, Nat.le_of_ble_eq_true rfl⟩ (hs_pdk0 ?_) (fun _ _ h => h.elim)
      refine wa_i2l X dL_all_39 ?_
      refine wa_ladd X dL_all_40 ?_
      refine wa_lstore_n X (lv' := [(3, .inr (.inl ((((x1 * (1000003 : Int64)) + (F_Cq_cash x2 S).toInt64) * (1000003 : Int64)) + (F_Ldg_exposureOf x2 S).toInt64))), (0, .inr (.inr (10, 1))), (1, .inl a2), (2, .inl a3), (5, .inl x2)]) dL_all_41 rfl (by decide) rfl ?_
      refine wa_iconst X dL_all_42 kc0 ?_
      refine wa_istore X (lv' := [(6, .inl (0 : Int32)), (3, .inr (.inl ((((x1 * (1000003 : Int64)) + (F_Cq_cash x2 S).toInt64) * (1000003 : Int64)) + (F_Ldg_exposureOf x2 S).toInt64))), (0, .inr (.inr (10, 1))), (1, .inl a2), (2, .inl a3), (5, .inl x2)]) dL_all_43 (by decide) rfl ?_
      obtain ⟨I87, ⟨n91, i89⟩, b90⟩ := hv
      refine wa_lv (lv' := [(0, .inr (.inr (10, 1))), (1, .inl a2), (2, .inl a3), (3, .inr (.inl ((((x1 * (1000003 : Int64)) + (F_Cq_cash x2 S).toInt64) * (1000003 : Int64)) + (F_Ldg_exposureOf x2 S).toInt64))), (5, .inl x2), (6, .inl (0 : Int32))]) [2, 3, 4, 1, 5, 0] rfl ?_
      suffices L92 : ∀ N88 : Nat, ∀ x85 : Int64, ∀ x86 : Int32, I87 N88 x85 x86 → wa Z 0 0 S 45 [(0, .inr (.inr (10, 1))), (1, .inl a2), (2, .inl a3), (3, .inr (.inl x85)), (5, .inl x2), (6, .inl x86)] [] from L92 _ _ _ i89
      clear i89
      intro N88
      induction N88 using Nat.strongRecOn with
      | _ N88 h93 =>
        intro x85 x86 j94
        have hv := b90 N88 x85 x86 j94
        refine wa_iload X 5 rfl dL_all_45 ?_
        refine wa_iconst X dL_all_47 kc4 ?_
        refine wa_icmp_ge X (tgt := 73) dL_all_48 (by decide) (fun c95 => ?_) (fun c95 => ?_)
        · replace hv := hv.1 c95
          refine wa_iinc X (v := (x2 + 1)) (lv' := [(5, .inl (x2 + 1)), (0, .inr (.inr (10, 1))), (1, .inl a2), (2, .inl a3), (3, .inr (.inl x85)), (6, .inl x86)]) 4 rfl dL_all_73 rfl (by decide) rfl ?_
          refine wa_goto X (tgt := 9) dL_all_76 (by decide) ?_
          obtain ⟨q96, p97, hv⟩ := hv
          refine wa_lv (lv' := [(0, .inr (.inr (10, 1))), (1, .inl a2), (2, .inl a3), (3, .inr (.inl x85)), (5, .inl (x2 + 1))]) [1, 2, 3, 4, 0] rfl ?_
          exact h9 q96 p97 _ _ hv
        · replace hv := hv.2 c95
          refine wa_lload_n X 3 rfl dL_all_51 rfl ?_
          refine wa_ldc2 X kw_1073 dL_all_52 ?_
          refine wa_lmul X dL_all_55 ?_
          refine wa_aload_n X 0 rfl dL_all_56 rfl ?_
          refine wa_iload X 4 rfl dL_all_57 ?_
          refine wa_iload X 5 rfl dL_all_59 ?_
          obtain ⟨o98, hv⟩ := hv
          refine wa_callV X (As := [.inl x2, .inl x86]) (f_Cq_due hw o98) hk_10 hc_10 rfl kw_462 kw_21 kw_459 kw_460 kw_461 nd_X10_due rfl rfl (Nat.le_of_ble_eq_true rfl) dL_all_61 hs_1ne ⟨⟨Nat.le_of_ble_eq_true rfl, Nat.le_of_ble_eq_true rfl⟩, Nat.le_of_ble_eq_true rfl, Nat.le_of_ble_eq_true rfl⟩ (hs_pdk0 ?_) (fun _ _ h => h.elim)
          refine wa_i2l X dL_all_64 ?_
          refine wa_ladd X dL_all_65 ?_
          refine wa_lstore_n X (lv' := [(3, .inr (.inl ((x85 * (1000003 : Int64)) + (F_Ldg_dueOf x2 x86 S).toInt64))), (0, .inr (.inr (10, 1))), (1, .inl a2), (2, .inl a3), (5, .inl x2), (6, .inl x86)]) dL_all_66 rfl (by decide) rfl ?_
          refine wa_iinc X (v := (x86 + 1)) (lv' := [(6, .inl (x86 + 1)), (3, .inr (.inl ((x85 * (1000003 : Int64)) + (F_Ldg_dueOf x2 x86 S).toInt64))), (0, .inr (.inr (10, 1))), (1, .inl a2), (2, .inl a3), (5, .inl x2)]) 5 rfl dL_all_67 rfl (by decide) rfl ?_
          refine wa_goto X (tgt := 45) dL_all_70 (by decide) ?_
          obtain ⟨q99, p100, hv⟩ := hv
          refine wa_lv (lv' := [(0, .inr (.inr (10, 1))), (1, .inl a2), (2, .inl a3), (3, .inr (.inl ((x85 * (1000003 : Int64)) + (F_Ldg_dueOf x2 x86 S).toInt64))), (5, .inl x2), (6, .inl (x86 + 1))]) [2, 3, 4, 1, 5, 0] rfl ?_
          exact h93 q99 p100 _ _ hv

def m_L_refused (a2 : Int32) (a3 : Int32) (a4 : Int32) (S : hs_S) (Q : Int32 → hs_S → Prop) : Prop := hs_M 58 yL_refused (.code yL_refused cL_refused 7 (some FieldType.boolean)) [.inr (.inr (10, 1)), .inl a2, .inl a3, .inl a4] S 319 6902 (hs_qI Q) hs_nX
def vc_L_refused (a2 : Int32) (a3 : Int32) (a4 : Int32) (S : hs_S) (Q : Int32 → hs_S → Prop) : Prop := (hs_Wi S → (m_L_all a3 a4 S (fun r2 S1 => (hs_Wi S1 → (m_L_call (0 : Int32) (-1 : Int32) (17 : Int32) (0 : Int32) S1 (fun r4 S3 => (r4 = (-2100000001 : Int32) ∧ (hs_Wi S3 → (m_L_call (1 : Int32) (0 : Int32) (10 : Int32) (18 : Int32) S3 (fun r7 S6 => (r7 = (-2100000001 : Int32) ∧ (hs_Wi S6 → (m_L_call (1 : Int32) (0 : Int32) (26 : Int32) (114 : Int32) S6 (fun r10 S9 => (r10 = (-2100000001 : Int32) ∧ (hs_Wi S9 → (m_L_call (2 : Int32) (1 : Int32) (4 : Int32) (0 : Int32) S9 (fun r13 S12 => (r13 = (-2100000002 : Int32) ∧ (hs_Wi S12 → (m_L_call (3 : Int32) (0 : Int32) (4 : Int32) (0 : Int32) S12 (fun r16 S15 => (r16 = (-2100000001 : Int32) ∧ (hs_Wi S15 → (m_L_call (4 : Int32) (0 : Int32) (0 : Int32) (6 : Int32) S15 (fun r19 S18 => (r19 = (-2100000001 : Int32) ∧ (hs_Wi S18 → (m_L_call (5 : Int32) (-1 : Int32) (0 : Int32) (0 : Int32) S18 (fun r22 S21 => (r22 = (-2100000001 : Int32) ∧ (hs_Wi S21 → (m_L_call (5 : Int32) (0 : Int32) (-1 : Int32) (0 : Int32) S21 (fun r25 S24 => (r25 = (-2100000002 : Int32) ∧ (hs_Wi S24 → (m_L_call (6 : Int32) (0 : Int32) (0 : Int32) (-1 : Int32) S24 (fun r28 S27 => (r28 = (-2100000001 : Int32) ∧ (hs_Wi S27 → (m_L_call (7 : Int32) (-1 : Int32) (0 : Int32) (0 : Int32) S27 (fun r31 S30 => (r31 = (-2100000001 : Int32) ∧ (hs_Wi S30 → (m_L_call (8 : Int32) (4 : Int32) (0 : Int32) (0 : Int32) S30 (fun r34 S33 => (r34 = (-2100000001 : Int32) ∧ (hs_Wi S33 → (m_L_call (9 : Int32) (0 : Int32) (0 : Int32) (18 : Int32) S33 (fun r37 S36 => (r37 = (-2100000001 : Int32) ∧ (hs_Wi S36 → (m_L_call (10 : Int32) (0 : Int32) (8 : Int32) (49155 : Int32) S36 (fun r40 S39 => (r40 = (-2100000001 : Int32) ∧ (hs_Wi S39 → (m_L_call (11 : Int32) (0 : Int32) a3 (0 : Int32) S39 (fun r44 S43 => (r44 = (-2100000001 : Int32) ∧ (hs_Wi S43 → (m_L_call (12 : Int32) (4 : Int32) (0 : Int32) (0 : Int32) S43 (fun r47 S46 => (r47 = (-2100000001 : Int32) ∧ (hs_Wi S46 → (m_L_call (13 : Int32) (-1 : Int32) (0 : Int32) (0 : Int32) S46 (fun r50 S49 => (r50 = (-2100000001 : Int32) ∧ (hs_Wi S49 → (m_L_call (14 : Int32) (-1 : Int32) (0 : Int32) (0 : Int32) S49 (fun r53 S52 => (r53 = (-2100000001 : Int32) ∧ (hs_Wi S52 → (m_L_call (15 : Int32) a4 (0 : Int32) (0 : Int32) S52 (fun r56 S55 => (r56 = (-2100000001 : Int32) ∧ (hs_Wi S55 → (m_L_call (16 : Int32) a4 (0 : Int32) (0 : Int32) S55 (fun r59 S58 => (r59 = (-2100000001 : Int32) ∧ (hs_Wi S58 → (m_L_call (17 : Int32) (-1 : Int32) (0 : Int32) (0 : Int32) S58 (fun r62 S61 => (r62 = (-2100000001 : Int32) ∧ (hs_Wi S61 → (m_L_call (18 : Int32) (6 : Int32) (0 : Int32) (0 : Int32) S61 (fun r65 S64 => (r65 = (-2100000001 : Int32) ∧ (hs_Wi S64 → (m_L_call (19 : Int32) (4 : Int32) (0 : Int32) (0 : Int32) S64 (fun r68 S67 => (r68 = (-2100000001 : Int32) ∧ (hs_Wi S67 → (m_L_call (20 : Int32) (-1 : Int32) (0 : Int32) (0 : Int32) S67 (fun r71 S70 => (r71 = (-2100000001 : Int32) ∧ (hs_Wi S70 → (m_L_call (21 : Int32) (0 : Int32) (-1 : Int32) (0 : Int32) S70 (fun r74 S73 => (r74 = (-2100000002 : Int32) ∧ (hs_Wi S73 → (m_L_call (22 : Int32) (6 : Int32) (0 : Int32) (0 : Int32) S73 (fun r77 S76 => (r77 = (-2100000001 : Int32) ∧ (hs_Wi S76 → (m_L_call (23 : Int32) (-1 : Int32) (0 : Int32) (0 : Int32) S76 (fun r80 S79 => (r80 = (-2100000001 : Int32) ∧ (hs_Wi S79 → (m_L_call (24 : Int32) a2 (0 : Int32) (0 : Int32) S79 (fun r83 S82 => (r83 = (-2100000001 : Int32) ∧ (hs_Wi S82 → (m_L_call (25 : Int32) (0 : Int32) (6 : Int32) (0 : Int32) S82 (fun r86 S85 => (r86 = (-2100000001 : Int32) ∧ (hs_Wi S85 → (m_L_call (26 : Int32) (0 : Int32) (-1 : Int32) (0 : Int32) S85 (fun r89 S88 => (r89 = (-2100000001 : Int32) ∧ (hs_Wi S88 → (m_L_all a3 a4 S88 (fun r92 S91 => ((lg_cmp r92 r2) = 0 ∧ (Q (1 : Int32) S91))))))))))))))))))))))))))))))))))))))))))))))))))))))))))))))))))))))))))))))))))))))))))))))))))))))))))))))))))))))))))))
set_option maxRecDepth 100000 in
set_option maxHeartbeats 4000000 in
theorem ok_L_refused {a2 : Int32} {a3 : Int32} {a4 : Int32} {S : hs_S} {Q : Int32 → hs_S → Prop} (hw : hs_Wi S) (hv : vc_L_refused a2 a3 a4 S Q) : m_L_refused a2 a3 a4 S Q := by
  unfold vc_L_refused at hv
  refine hs_body (own := RL) rfl rfl (Nat.le_of_ble_eq_true rfl) (fun Z X E N J0 => ?_)
  show wa Z 0 0 S 0 [(0, .inr (.inr (10, 1))), (1, .inl a2), (2, .inl a3), (3, .inl a4)] []
  refine wa_aload_n X 0 rfl dL_refused_0 rfl ?_
  refine wa_iload_n X 2 rfl dL_refused_1 rfl ?_
  refine wa_iload_n X 3 rfl dL_refused_2 rfl ?_
  refine wa_callS X (As := [.inr (.inr (10, 1)), .inl a3, .inl a4]) (hv hw) kw_1068 kw_20 kw_1066 kw_1067 nd_L_all rfl rfl (Nat.le_of_ble_eq_true rfl) dL_refused_3 ⟨⟨Nat.le_of_ble_eq_true rfl, Nat.le_of_ble_eq_true rfl⟩, Nat.le_of_ble_eq_true rfl, Nat.le_of_ble_eq_true rfl⟩ (fun v S1 h => ?_) (fun _ _ h => h.elim)
  obtain ⟨hw, r2, rfl, hv⟩ := h
  refine wa_lstore X (lv' := [(4, .inr (.inl r2)), (0, .inr (.inr (10, 1))), (1, .inl a2), (2, .inl a3), (3, .inl a4)]) dL_refused_6 (by decide) rfl ?_
  refine wa_aload_n X 1 rfl dL_refused_8 rfl ?_
  refine wa_iconst X dL_refused_9 kc0 ?_
  refine wa_iconst X dL_refused_10 kcm1 ?_
  refine wa_bipush X dL_refused_11 kb17 ?_
  refine wa_iconst X dL_refused_13 kc0 ?_
  refine wa_callSW X (As := [.inr (.inr (10, 1)), .inl (0 : Int32), .inl (-1 : Int32), .inl (17 : Int32), .inl (0 : Int32)]) (hv hw) kw_507 kw_20 kw_505 kw_506 nd_L_call rfl rfl (Nat.le_of_ble_eq_true rfl) dL_refused_14 ⟨⟨Nat.le_of_ble_eq_true rfl, Nat.le_of_ble_eq_true rfl⟩, Nat.le_of_ble_eq_true rfl, Nat.le_of_ble_eq_true rfl⟩ (fun v S3 h => ?_) (fun _ _ h => h.elim)
  obtain ⟨hw, r4, rfl, hv⟩ := h
  refine wa_ldc X kw_1063 dL_refused_17 ?_
  obtain ⟨c5, hv⟩ := hv
  refine wa_icmp_ne X (tgt := 195) dL_refused_19 (by decide) (fun c => absurd c5 c) (fun _ => ?_)
  refine wa_aload_n X 1 rfl dL_refused_22 rfl ?_
  refine wa_iconst X dL_refused_23 kc1 ?_
  refine wa_iconst X dL_refused_24 kc0 ?_
  refine wa_bipush X dL_refused_25 kb10 ?_
  refine wa_bipush X dL_refused_27 kb18 ?_
  refine wa_callSW X (As := [.inr (.inr (10, 1)), .inl (1 : Int32), .inl (0 : Int32), .inl (10 : Int32), .inl (18 : Int32)]) (hv hw) kw_507 kw_20 kw_505 kw_506 nd_L_call rfl rfl (Nat.le_of_ble_eq_true rfl) dL_refused_29 ⟨⟨Nat.le_of_ble_eq_true rfl, Nat.le_of_ble_eq_true rfl⟩, Nat.le_of_ble_eq_true rfl, Nat.le_of_ble_eq_true rfl⟩ (fun v S6 h => ?_) (fun _ _ h => h.elim)
  obtain ⟨hw, r7, rfl, hv⟩ := h
  refine wa_ldc X kw_1063 dL_refused_32 ?_
  obtain ⟨c8, hv⟩ := hv
  refine wa_icmp_ne X (tgt := 195) dL_refused_34 (by decide) (fun c => absurd c8 c) (fun _ => ?_)
  refine wa_aload_n X 1 rfl dL_refused_37 rfl ?_
  refine wa_iconst X dL_refused_38 kc1 ?_
  refine wa_iconst X dL_refused_39 kc0 ?_
  refine wa_bipush X dL_refused_40 kb26 ?_
  refine wa_bipush X dL_refused_42 kb114 ?_
  refine wa_callSW X (As := [.inr (.inr (10, 1)), .inl (1 : Int32), .inl (0 : Int32), .inl (26 : Int32), .inl (114 : Int32)]) (hv hw) kw_507 kw_20 kw_505 kw_506 nd_L_call rfl rfl (Nat.le_of_ble_eq_true rfl) dL_refused_44 ⟨⟨Nat.le_of_ble_eq_true rfl, Nat.le_of_ble_eq_true rfl⟩, Nat.le_of_ble_eq_true rfl, Nat.le_of_ble_eq_true rfl⟩ (fun v S9 h => ?_) (fun _ _ h => h.elim)
  obtain ⟨hw, r10, rfl, hv⟩ := h
  refine wa_ldc X kw_1063 dL_refused_47 ?_
  obtain ⟨c11, hv⟩ := hv
  refine wa_icmp_ne X (tgt := 195) dL_refused_49 (by decide) (fun c => absurd c11 c) (fun _ => ?_)
  refine wa_aload_n X 1 rfl dL_refused_52 rfl ?_
  refine wa_iconst X dL_refused_53 kc2 ?_
  refine wa_iconst X dL_refused_54 kc1 ?_
  refine wa_iconst X dL_refused_55 kc4 ?_
  refine wa_iconst X dL_refused_56 kc0 ?_
  refine wa_callSW X (As := [.inr (.inr (10, 1)), .inl (2 : Int32), .inl (1 : Int32), .inl (4 : Int32), .inl (0 : Int32)]) (hv hw) kw_507 kw_20 kw_505 kw_506 nd_L_call rfl rfl (Nat.le_of_ble_eq_true rfl) dL_refused_57 ⟨⟨Nat.le_of_ble_eq_true rfl, Nat.le_of_ble_eq_true rfl⟩, Nat.le_of_ble_eq_true rfl, Nat.le_of_ble_eq_true rfl⟩ (fun v S12 h => ?_) (fun _ _ h => h.elim)
  obtain ⟨hw, r13, rfl, hv⟩ := h
  refine wa_ldc X kw_1064 dL_refused_60 ?_
  obtain ⟨c14, hv⟩ := hv
  refine wa_icmp_ne X (tgt := 195) dL_refused_62 (by decide) (fun c => absurd c14 c) (fun _ => ?_)
  refine wa_aload_n X 1 rfl dL_refused_65 rfl ?_
  refine wa_iconst X dL_refused_66 kc3 ?_
  refine wa_iconst X dL_refused_67 kc0 ?_
  refine wa_iconst X dL_refused_68 kc4 ?_
  refine wa_iconst X dL_refused_69 kc0 ?_
  refine wa_callSW X (As := [.inr (.inr (10, 1)), .inl (3 : Int32), .inl (0 : Int32), .inl (4 : Int32), .inl (0 : Int32)]) (hv hw) kw_507 kw_20 kw_505 kw_506 nd_L_call rfl rfl (Nat.le_of_ble_eq_true rfl) dL_refused_70 ⟨⟨Nat.le_of_ble_eq_true rfl, Nat.le_of_ble_eq_true rfl⟩, Nat.le_of_ble_eq_true rfl, Nat.le_of_ble_eq_true rfl⟩ (fun v S15 h => ?_) (fun _ _ h => h.elim)
  obtain ⟨hw, r16, rfl, hv⟩ := h
  refine wa_ldc X kw_1063 dL_refused_73 ?_
  obtain ⟨c17, hv⟩ := hv
  refine wa_icmp_ne X (tgt := 195) dL_refused_75 (by decide) (fun c => absurd c17 c) (fun _ => ?_)
  refine wa_aload_n X 1 rfl dL_refused_78 rfl ?_
  refine wa_iconst X dL_refused_79 kc4 ?_
  refine wa_iconst X dL_refused_80 kc0 ?_
  refine wa_iconst X dL_refused_81 kc0 ?_
  refine wa_bipush X dL_refused_82 kb6 ?_
  refine wa_callSW X (As := [.inr (.inr (10, 1)), .inl (4 : Int32), .inl (0 : Int32), .inl (0 : Int32), .inl (6 : Int32)]) (hv hw) kw_507 kw_20 kw_505 kw_506 nd_L_call rfl rfl (Nat.le_of_ble_eq_true rfl) dL_refused_84 ⟨⟨Nat.le_of_ble_eq_true rfl, Nat.le_of_ble_eq_true rfl⟩, Nat.le_of_ble_eq_true rfl, Nat.le_of_ble_eq_true rfl⟩ (fun v S18 h => ?_) (fun _ _ h => h.elim)
  obtain ⟨hw, r19, rfl, hv⟩ := h
  refine wa_ldc X kw_1063 dL_refused_87 ?_
  obtain ⟨c20, hv⟩ := hv
  refine wa_icmp_ne X (tgt := 195) dL_refused_89 (by decide) (fun c => absurd c20 c) (fun _ => ?_)
  refine wa_aload_n X 1 rfl dL_refused_92 rfl ?_
  refine wa_iconst X dL_refused_93 kc5 ?_
  refine wa_iconst X dL_refused_94 kcm1 ?_
  refine wa_iconst X dL_refused_95 kc0 ?_
  refine wa_iconst X dL_refused_96 kc0 ?_
  refine wa_callSW X (As := [.inr (.inr (10, 1)), .inl (5 : Int32), .inl (-1 : Int32), .inl (0 : Int32), .inl (0 : Int32)]) (hv hw) kw_507 kw_20 kw_505 kw_506 nd_L_call rfl rfl (Nat.le_of_ble_eq_true rfl) dL_refused_97 ⟨⟨Nat.le_of_ble_eq_true rfl, Nat.le_of_ble_eq_true rfl⟩, Nat.le_of_ble_eq_true rfl, Nat.le_of_ble_eq_true rfl⟩ (fun v S21 h => ?_) (fun _ _ h => h.elim)
  obtain ⟨hw, r22, rfl, hv⟩ := h
  refine wa_ldc X kw_1063 dL_refused_100 ?_
  obtain ⟨c23, hv⟩ := hv
  refine wa_icmp_ne X (tgt := 195) dL_refused_102 (by decide) (fun c => absurd c23 c) (fun _ => ?_)
  refine wa_aload_n X 1 rfl dL_refused_105 rfl ?_
  refine wa_iconst X dL_refused_106 kc5 ?_
  refine wa_iconst X dL_refused_107 kc0 ?_
  refine wa_iconst X dL_refused_108 kcm1 ?_
  refine wa_iconst X dL_refused_109 kc0 ?_
  refine wa_callSW X (As := [.inr (.inr (10, 1)), .inl (5 : Int32), .inl (0 : Int32), .inl (-1 : Int32), .inl (0 : Int32)]) (hv hw) kw_507 kw_20 kw_505 kw_506 nd_L_call rfl rfl (Nat.le_of_ble_eq_true rfl) dL_refused_110 ⟨⟨Nat.le_of_ble_eq_true rfl, Nat.le_of_ble_eq_true rfl⟩, Nat.le_of_ble_eq_true rfl, Nat.le_of_ble_eq_true rfl⟩ (fun v S24 h => ?_) (fun _ _ h => h.elim)
  obtain ⟨hw, r25, rfl, hv⟩ := h
  refine wa_ldc X kw_1064 dL_refused_113 ?_
  obtain ⟨c26, hv⟩ := hv
  refine wa_icmp_ne X (tgt := 195) dL_refused_115 (by decide) (fun c => absurd c26 c) (fun _ => ?_)
  refine wa_aload_n X 1 rfl dL_refused_118 rfl ?_
  refine wa_bipush X dL_refused_119 kb6 ?_
  refine wa_iconst X dL_refused_121 kc0 ?_
  refine wa_iconst X dL_refused_122 kc0 ?_
  refine wa_iconst X dL_refused_123 kcm1 ?_
  refine wa_callSW X (As := [.inr (.inr (10, 1)), .inl (6 : Int32), .inl (0 : Int32), .inl (0 : Int32), .inl (-1 : Int32)]) (hv hw) kw_507 kw_20 kw_505 kw_506 nd_L_call rfl rfl (Nat.le_of_ble_eq_true rfl) dL_refused_124 ⟨⟨Nat.le_of_ble_eq_true rfl, Nat.le_of_ble_eq_true rfl⟩, Nat.le_of_ble_eq_true rfl, Nat.le_of_ble_eq_true rfl⟩ (fun v S27 h => ?_) (fun _ _ h => h.elim)
  obtain ⟨hw, r28, rfl, hv⟩ := h
  refine wa_ldc X kw_1063 dL_refused_127 ?_
  obtain ⟨c29, hv⟩ := hv
  refine wa_icmp_ne X (tgt := 195) dL_refused_129 (by decide) (fun c => absurd c29 c) (fun _ => ?_)
  refine wa_aload_n X 1 rfl dL_refused_132 rfl ?_
  refine wa_bipush X dL_refused_133 kb7 ?_
  refine wa_iconst X dL_refused_135 kcm1 ?_
  refine wa_iconst X dL_refused_136 kc0 ?_
  refine wa_iconst X dL_refused_137 kc0 ?_
  refine wa_callSW X (As := [.inr (.inr (10, 1)), .inl (7 : Int32), .inl (-1 : Int32), .inl (0 : Int32), .inl (0 : Int32)]) (hv hw) kw_507 kw_20 kw_505 kw_506 nd_L_call rfl rfl (Nat.le_of_ble_eq_true rfl) dL_refused_138 ⟨⟨Nat.le_of_ble_eq_true rfl, Nat.le_of_ble_eq_true rfl⟩, Nat.le_of_ble_eq_true rfl, Nat.le_of_ble_eq_true rfl⟩ (fun v S30 h => ?_) (fun _ _ h => h.elim)
  obtain ⟨hw, r31, rfl, hv⟩ := h
  refine wa_ldc X kw_1063 dL_refused_141 ?_
  obtain ⟨c32, hv⟩ := hv
  refine wa_icmp_ne X (tgt := 195) dL_refused_143 (by decide) (fun c => absurd c32 c) (fun _ => ?_)
  refine wa_aload_n X 1 rfl dL_refused_146 rfl ?_
  refine wa_bipush X dL_refused_147 kb8 ?_
  refine wa_iconst X dL_refused_149 kc4 ?_
  refine wa_iconst X dL_refused_150 kc0 ?_
  refine wa_iconst X dL_refused_151 kc0 ?_
  refine wa_callSW X (As := [.inr (.inr (10, 1)), .inl (8 : Int32), .inl (4 : Int32), .inl (0 : Int32), .inl (0 : Int32)]) (hv hw) kw_507 kw_20 kw_505 kw_506 nd_L_call rfl rfl (Nat.le_of_ble_eq_true rfl) dL_refused_152 ⟨⟨Nat.le_of_ble_eq_true rfl, Nat.le_of_ble_eq_true rfl⟩, Nat.le_of_ble_eq_true rfl, Nat.le_of_ble_eq_true rfl⟩ (fun v S33 h => ?_) (fun _ _ h => h.elim)
  obtain ⟨hw, r34, rfl, hv⟩ := h
  refine wa_ldc X kw_1063 dL_refused_155 ?_
  obtain ⟨c35, hv⟩ := hv
  refine wa_icmp_ne X (tgt := 195) dL_refused_157 (by decide) (fun c => absurd c35 c) (fun _ => ?_)
  refine wa_aload_n X 1 rfl dL_refused_160 rfl ?_
  refine wa_bipush X dL_refused_161 kb9 ?_
  refine wa_iconst X dL_refused_163 kc0 ?_
  refine wa_iconst X dL_refused_164 kc0 ?_
  refine wa_bipush X dL_refused_165 kb18 ?_
  refine wa_callSW X (As := [.inr (.inr (10, 1)), .inl (9 : Int32), .inl (0 : Int32), .inl (0 : Int32), .inl (18 : Int32)]) (hv hw) kw_507 kw_20 kw_505 kw_506 nd_L_call rfl rfl (Nat.le_of_ble_eq_true rfl) dL_refused_167 ⟨⟨Nat.le_of_ble_eq_true rfl, Nat.le_of_ble_eq_true rfl⟩, Nat.le_of_ble_eq_true rfl, Nat.le_of_ble_eq_true rfl⟩ (fun v S36 h => ?_) (fun _ _ h => h.elim)
  obtain ⟨hw, r37, rfl, hv⟩ := h
  refine wa_ldc X kw_1063 dL_refused_170 ?_
  obtain ⟨c38, hv⟩ := hv
  refine wa_icmp_ne X (tgt := 195) dL_refused_172 (by decide) (fun c => absurd c38 c) (fun _ => ?_)
  refine wa_aload_n X 1 rfl dL_refused_175 rfl ?_
  refine wa_bipush X dL_refused_176 kb10 ?_
  refine wa_iconst X dL_refused_178 kc0 ?_
  refine wa_bipush X dL_refused_179 kb8 ?_
  refine wa_ldc X kw_1103 dL_refused_181 ?_
  refine wa_callSW X (As := [.inr (.inr (10, 1)), .inl (10 : Int32), .inl (0 : Int32), .inl (8 : Int32), .inl (49155 : Int32)]) (hv hw) kw_507 kw_20 kw_505 kw_506 nd_L_call rfl rfl (Nat.le_of_ble_eq_true rfl) dL_refused_183 ⟨⟨Nat.le_of_ble_eq_true rfl, Nat.le_of_ble_eq_true rfl⟩, Nat.le_of_ble_eq_true rfl, Nat.le_of_ble_eq_true rfl⟩ (fun v S39 h => ?_) (fun _ _ h => h.elim)
  obtain ⟨hw, r40, rfl, hv⟩ := h
  refine wa_ldc X kw_1063 dL_refused_186 ?_
  obtain ⟨c41, hv⟩ := hv
  refine wa_icmp_ne X (tgt := 195) dL_refused_188 (by decide) (fun c => absurd c41 c) (fun _ => ?_)
  refine wa_iconst X dL_refused_191 kc1 ?_
  refine wa_goto X (tgt := 196) dL_refused_192 (by decide) ?_
  refine wa_istore X (lv' := [(6, .inl (1 : Int32)), (4, .inr (.inl r2)), (0, .inr (.inr (10, 1))), (1, .inl a2), (2, .inl a3), (3, .inl a4)]) dL_refused_196 (by decide) rfl ?_
  refine wa_iload X 0 rfl dL_refused_198 ?_
  refine wa_if_eq X (tgt := 446) dL_refused_200 (by decide) (fun c => absurd c (by decide)) (fun _ => ?_)
  refine wa_aload_n X 2 rfl dL_refused_203 rfl ?_
  refine wa_bipush X dL_refused_204 kb11 ?_
  refine wa_iconst X dL_refused_206 kc0 ?_
  refine wa_iload_n X 4 rfl dL_refused_207 rfl ?_
  refine wa_iconst X dL_refused_208 kc0 ?_
  refine wa_callSW X (As := [.inr (.inr (10, 1)), .inl (11 : Int32), .inl (0 : Int32), .inl a3, .inl (0 : Int32)]) (hv hw) kw_507 kw_20 kw_505 kw_506 nd_L_call rfl rfl (Nat.le_of_ble_eq_true rfl) dL_refused_209 ⟨⟨Nat.le_of_ble_eq_true rfl, Nat.le_of_ble_eq_true rfl⟩, Nat.le_of_ble_eq_true rfl, Nat.le_of_ble_eq_true rfl⟩ (fun v S43 h => ?_) (fun _ _ h => h.elim)
  obtain ⟨hw, r44, rfl, hv⟩ := h
  refine wa_ldc X kw_1063 dL_refused_212 ?_
  obtain ⟨c45, hv⟩ := hv
  refine wa_icmp_ne X (tgt := 446) dL_refused_214 (by decide) (fun c => absurd c45 c) (fun _ => ?_)
  refine wa_aload_n X 2 rfl dL_refused_217 rfl ?_
  refine wa_bipush X dL_refused_218 kb12 ?_
  refine wa_iconst X dL_refused_220 kc4 ?_
  refine wa_iconst X dL_refused_221 kc0 ?_
  refine wa_iconst X dL_refused_222 kc0 ?_
  refine wa_callSW X (As := [.inr (.inr (10, 1)), .inl (12 : Int32), .inl (4 : Int32), .inl (0 : Int32), .inl (0 : Int32)]) (hv hw) kw_507 kw_20 kw_505 kw_506 nd_L_call rfl rfl (Nat.le_of_ble_eq_true rfl) dL_refused_223 ⟨⟨Nat.le_of_ble_eq_true rfl, Nat.le_of_ble_eq_true rfl⟩, Nat.le_of_ble_eq_true rfl, Nat.le_of_ble_eq_true rfl⟩ (fun v S46 h => ?_) (fun _ _ h => h.elim)
  obtain ⟨hw, r47, rfl, hv⟩ := h
  refine wa_ldc X kw_1063 dL_refused_226 ?_
  obtain ⟨c48, hv⟩ := hv
  refine wa_icmp_ne X (tgt := 446) dL_refused_228 (by decide) (fun c => absurd c48 c) (fun _ => ?_)
  refine wa_aload_n X 2 rfl dL_refused_231 rfl ?_
  refine wa_bipush X dL_refused_232 kb13 ?_
  refine wa_iconst X dL_refused_234 kcm1 ?_
  refine wa_iconst X dL_refused_235 kc0 ?_
  refine wa_iconst X dL_refused_236 kc0 ?_
  refine wa_callSW X (As := [.inr (.inr (10, 1)), .inl (13 : Int32), .inl (-1 : Int32), .inl (0 : Int32), .inl (0 : Int32)]) (hv hw) kw_507 kw_20 kw_505 kw_506 nd_L_call rfl rfl (Nat.le_of_ble_eq_true rfl) dL_refused_237 ⟨⟨Nat.le_of_ble_eq_true rfl, Nat.le_of_ble_eq_true rfl⟩, Nat.le_of_ble_eq_true rfl, Nat.le_of_ble_eq_true rfl⟩ (fun v S49 h => ?_) (fun _ _ h => h.elim)
  obtain ⟨hw, r50, rfl, hv⟩ := h
  refine wa_ldc X kw_1063 dL_refused_240 ?_
  obtain ⟨c51, hv⟩ := hv
  refine wa_icmp_ne X (tgt := 446) dL_refused_242 (by decide) (fun c => absurd c51 c) (fun _ => ?_)
  refine wa_aload_n X 2 rfl dL_refused_245 rfl ?_
  refine wa_bipush X dL_refused_246 kb14 ?_
  refine wa_iconst X dL_refused_248 kcm1 ?_
  refine wa_iconst X dL_refused_249 kc0 ?_
  refine wa_iconst X dL_refused_250 kc0 ?_
  refine wa_callSW X (As := [.inr (.inr (10, 1)), .inl (14 : Int32), .inl (-1 : Int32), .inl (0 : Int32), .inl (0 : Int32)]) (hv hw) kw_507 kw_20 kw_505 kw_506 nd_L_call rfl rfl (Nat.le_of_ble_eq_true rfl) dL_refused_251 ⟨⟨Nat.le_of_ble_eq_true rfl, Nat.le_of_ble_eq_true rfl⟩, Nat.le_of_ble_eq_true rfl, Nat.le_of_ble_eq_true rfl⟩ (fun v S52 h => ?_) (fun _ _ h => h.elim)
  obtain ⟨hw, r53, rfl, hv⟩ := h
  refine wa_ldc X kw_1063 dL_refused_254 ?_
  obtain ⟨c54, hv⟩ := hv
  refine wa_icmp_ne X (tgt := 446) dL_refused_256 (by decide) (fun c => absurd c54 c) (fun _ => ?_)
  refine wa_aload_n X 2 rfl dL_refused_259 rfl ?_
  refine wa_bipush X dL_refused_260 kb15 ?_
  refine wa_iload_n X 5 rfl dL_refused_262 rfl ?_
  refine wa_iconst X dL_refused_263 kc0 ?_
  refine wa_iconst X dL_refused_264 kc0 ?_
  refine wa_callSW X (As := [.inr (.inr (10, 1)), .inl (15 : Int32), .inl a4, .inl (0 : Int32), .inl (0 : Int32)]) (hv hw) kw_507 kw_20 kw_505 kw_506 nd_L_call rfl rfl (Nat.le_of_ble_eq_true rfl) dL_refused_265 ⟨⟨Nat.le_of_ble_eq_true rfl, Nat.le_of_ble_eq_true rfl⟩, Nat.le_of_ble_eq_true rfl, Nat.le_of_ble_eq_true rfl⟩ (fun v S55 h => ?_) (fun _ _ h => h.elim)
  obtain ⟨hw, r56, rfl, hv⟩ := h
  refine wa_ldc X kw_1063 dL_refused_268 ?_
  obtain ⟨c57, hv⟩ := hv
  refine wa_icmp_ne X (tgt := 446) dL_refused_270 (by decide) (fun c => absurd c57 c) (fun _ => ?_)
  refine wa_aload_n X 2 rfl dL_refused_273 rfl ?_
  refine wa_bipush X dL_refused_274 kb16 ?_
  refine wa_iload_n X 5 rfl dL_refused_276 rfl ?_
  refine wa_iconst X dL_refused_277 kc0 ?_
  refine wa_iconst X dL_refused_278 kc0 ?_
  refine wa_callSW X (As := [.inr (.inr (10, 1)), .inl (16 : Int32), .inl a4, .inl (0 : Int32), .inl (0 : Int32)]) (hv hw) kw_507 kw_20 kw_505 kw_506 nd_L_call rfl rfl (Nat.le_of_ble_eq_true rfl) dL_refused_279 ⟨⟨Nat.le_of_ble_eq_true rfl, Nat.le_of_ble_eq_true rfl⟩, Nat.le_of_ble_eq_true rfl, Nat.le_of_ble_eq_true rfl⟩ (fun v S58 h => ?_) (fun _ _ h => h.elim)
  obtain ⟨hw, r59, rfl, hv⟩ := h
  refine wa_ldc X kw_1063 dL_refused_282 ?_
  obtain ⟨c60, hv⟩ := hv
  refine wa_icmp_ne X (tgt := 446) dL_refused_284 (by decide) (fun c => absurd c60 c) (fun _ => ?_)
  refine wa_aload_n X 2 rfl dL_refused_287 rfl ?_
  refine wa_bipush X dL_refused_288 kb17 ?_
  refine wa_iconst X dL_refused_290 kcm1 ?_
  refine wa_iconst X dL_refused_291 kc0 ?_
  refine wa_iconst X dL_refused_292 kc0 ?_
  refine wa_callSW X (As := [.inr (.inr (10, 1)), .inl (17 : Int32), .inl (-1 : Int32), .inl (0 : Int32), .inl (0 : Int32)]) (hv hw) kw_507 kw_20 kw_505 kw_506 nd_L_call rfl rfl (Nat.le_of_ble_eq_true rfl) dL_refused_293 ⟨⟨Nat.le_of_ble_eq_true rfl, Nat.le_of_ble_eq_true rfl⟩, Nat.le_of_ble_eq_true rfl, Nat.le_of_ble_eq_true rfl⟩ (fun v S61 h => ?_) (fun _ _ h => h.elim)
  obtain ⟨hw, r62, rfl, hv⟩ := h
  refine wa_ldc X kw_1063 dL_refused_296 ?_
  obtain ⟨c63, hv⟩ := hv
  refine wa_icmp_ne X (tgt := 446) dL_refused_298 (by decide) (fun c => absurd c63 c) (fun _ => ?_)
  refine wa_aload_n X 2 rfl dL_refused_301 rfl ?_
  refine wa_bipush X dL_refused_302 kb18 ?_
  refine wa_bipush X dL_refused_304 kb6 ?_
  refine wa_iconst X dL_refused_306 kc0 ?_
  refine wa_iconst X dL_refused_307 kc0 ?_
  refine wa_callSW X (As := [.inr (.inr (10, 1)), .inl (18 : Int32), .inl (6 : Int32), .inl (0 : Int32), .inl (0 : Int32)]) (hv hw) kw_507 kw_20 kw_505 kw_506 nd_L_call rfl rfl (Nat.le_of_ble_eq_true rfl) dL_refused_308 ⟨⟨Nat.le_of_ble_eq_true rfl, Nat.le_of_ble_eq_true rfl⟩, Nat.le_of_ble_eq_true rfl, Nat.le_of_ble_eq_true rfl⟩ (fun v S64 h => ?_) (fun _ _ h => h.elim)
  obtain ⟨hw, r65, rfl, hv⟩ := h
  refine wa_ldc X kw_1063 dL_refused_311 ?_
  obtain ⟨c66, hv⟩ := hv
  refine wa_icmp_ne X (tgt := 446) dL_refused_313 (by decide) (fun c => absurd c66 c) (fun _ => ?_)
  refine wa_aload_n X 2 rfl dL_refused_316 rfl ?_
  refine wa_bipush X dL_refused_317 kb19 ?_
  refine wa_iconst X dL_refused_319 kc4 ?_
  refine wa_iconst X dL_refused_320 kc0 ?_
  refine wa_iconst X dL_refused_321 kc0 ?_
  refine wa_callSW X (As := [.inr (.inr (10, 1)), .inl (19 : Int32), .inl (4 : Int32), .inl (0 : Int32), .inl (0 : Int32)]) (hv hw) kw_507 kw_20 kw_505 kw_506 nd_L_call rfl rfl (Nat.le_of_ble_eq_true rfl) dL_refused_322 ⟨⟨Nat.le_of_ble_eq_true rfl, Nat.le_of_ble_eq_true rfl⟩, Nat.le_of_ble_eq_true rfl, Nat.le_of_ble_eq_true rfl⟩ (fun v S67 h => ?_) (fun _ _ h => h.elim)
  obtain ⟨hw, r68, rfl, hv⟩ := h
  refine wa_ldc X kw_1063 dL_refused_325 ?_
  obtain ⟨c69, hv⟩ := hv
  refine wa_icmp_ne X (tgt := 446) dL_refused_327 (by decide) (fun c => absurd c69 c) (fun _ => ?_)
  refine wa_aload_n X 2 rfl dL_refused_330 rfl ?_
  refine wa_bipush X dL_refused_331 kb20 ?_
  refine wa_iconst X dL_refused_333 kcm1 ?_
  refine wa_iconst X dL_refused_334 kc0 ?_
  refine wa_iconst X dL_refused_335 kc0 ?_
  refine wa_callSW X (As := [.inr (.inr (10, 1)), .inl (20 : Int32), .inl (-1 : Int32), .inl (0 : Int32), .inl (0 : Int32)]) (hv hw) kw_507 kw_20 kw_505 kw_506 nd_L_call rfl rfl (Nat.le_of_ble_eq_true rfl) dL_refused_336 ⟨⟨Nat.le_of_ble_eq_true rfl, Nat.le_of_ble_eq_true rfl⟩, Nat.le_of_ble_eq_true rfl, Nat.le_of_ble_eq_true rfl⟩ (fun v S70 h => ?_) (fun _ _ h => h.elim)
  obtain ⟨hw, r71, rfl, hv⟩ := h
  refine wa_ldc X kw_1063 dL_refused_339 ?_
  obtain ⟨c72, hv⟩ := hv
  refine wa_icmp_ne X (tgt := 446) dL_refused_341 (by decide) (fun c => absurd c72 c) (fun _ => ?_)
  refine wa_aload_n X 2 rfl dL_refused_344 rfl ?_
  refine wa_bipush X dL_refused_345 kb21 ?_
  refine wa_iconst X dL_refused_347 kc0 ?_
  refine wa_iconst X dL_refused_348 kcm1 ?_
  refine wa_iconst X dL_refused_349 kc0 ?_
  refine wa_callSW X (As := [.inr (.inr (10, 1)), .inl (21 : Int32), .inl (0 : Int32), .inl (-1 : Int32), .inl (0 : Int32)]) (hv hw) kw_507 kw_20 kw_505 kw_506 nd_L_call rfl rfl (Nat.le_of_ble_eq_true rfl) dL_refused_350 ⟨⟨Nat.le_of_ble_eq_true rfl, Nat.le_of_ble_eq_true rfl⟩, Nat.le_of_ble_eq_true rfl, Nat.le_of_ble_eq_true rfl⟩ (fun v S73 h => ?_) (fun _ _ h => h.elim)
  obtain ⟨hw, r74, rfl, hv⟩ := h
  refine wa_ldc X kw_1064 dL_refused_353 ?_
  obtain ⟨c75, hv⟩ := hv
  refine wa_icmp_ne X (tgt := 446) dL_refused_355 (by decide) (fun c => absurd c75 c) (fun _ => ?_)
  refine wa_aload_n X 2 rfl dL_refused_358 rfl ?_
  refine wa_bipush X dL_refused_359 kb22 ?_
  refine wa_bipush X dL_refused_361 kb6 ?_
  refine wa_iconst X dL_refused_363 kc0 ?_
  refine wa_iconst X dL_refused_364 kc0 ?_
  refine wa_callSW X (As := [.inr (.inr (10, 1)), .inl (22 : Int32), .inl (6 : Int32), .inl (0 : Int32), .inl (0 : Int32)]) (hv hw) kw_507 kw_20 kw_505 kw_506 nd_L_call rfl rfl (Nat.le_of_ble_eq_true rfl) dL_refused_365 ⟨⟨Nat.le_of_ble_eq_true rfl, Nat.le_of_ble_eq_true rfl⟩, Nat.le_of_ble_eq_true rfl, Nat.le_of_ble_eq_true rfl⟩ (fun v S76 h => ?_) (fun _ _ h => h.elim)
  obtain ⟨hw, r77, rfl, hv⟩ := h
  refine wa_ldc X kw_1063 dL_refused_368 ?_
  obtain ⟨c78, hv⟩ := hv
  refine wa_icmp_ne X (tgt := 446) dL_refused_370 (by decide) (fun c => absurd c78 c) (fun _ => ?_)
  refine wa_aload_n X 2 rfl dL_refused_373 rfl ?_
  refine wa_bipush X dL_refused_374 kb23 ?_
  refine wa_iconst X dL_refused_376 kcm1 ?_
  refine wa_iconst X dL_refused_377 kc0 ?_
  refine wa_iconst X dL_refused_378 kc0 ?_
  refine wa_callSW X (As := [.inr (.inr (10, 1)), .inl (23 : Int32), .inl (-1 : Int32), .inl (0 : Int32), .inl (0 : Int32)]) (hv hw) kw_507 kw_20 kw_505 kw_506 nd_L_call rfl rfl (Nat.le_of_ble_eq_true rfl) dL_refused_379 ⟨⟨Nat.le_of_ble_eq_true rfl, Nat.le_of_ble_eq_true rfl⟩, Nat.le_of_ble_eq_true rfl, Nat.le_of_ble_eq_true rfl⟩ (fun v S79 h => ?_) (fun _ _ h => h.elim)
  obtain ⟨hw, r80, rfl, hv⟩ := h
  refine wa_ldc X kw_1063 dL_refused_382 ?_
  obtain ⟨c81, hv⟩ := hv
  refine wa_icmp_ne X (tgt := 446) dL_refused_384 (by decide) (fun c => absurd c81 c) (fun _ => ?_)
  refine wa_aload_n X 2 rfl dL_refused_387 rfl ?_
  refine wa_bipush X dL_refused_388 kb24 ?_
  refine wa_iload_n X 3 rfl dL_refused_390 rfl ?_
  refine wa_iconst X dL_refused_391 kc0 ?_
  refine wa_iconst X dL_refused_392 kc0 ?_
  refine wa_callSW X (As := [.inr (.inr (10, 1)), .inl (24 : Int32), .inl a2, .inl (0 : Int32), .inl (0 : Int32)]) (hv hw) kw_507 kw_20 kw_505 kw_506 nd_L_call rfl rfl (Nat.le_of_ble_eq_true rfl) dL_refused_393 ⟨⟨Nat.le_of_ble_eq_true rfl, Nat.le_of_ble_eq_true rfl⟩, Nat.le_of_ble_eq_true rfl, Nat.le_of_ble_eq_true rfl⟩ (fun v S82 h => ?_) (fun _ _ h => h.elim)
  obtain ⟨hw, r83, rfl, hv⟩ := h
  refine wa_ldc X kw_1063 dL_refused_396 ?_
  obtain ⟨c84, hv⟩ := hv
  refine wa_icmp_ne X (tgt := 446) dL_refused_398 (by decide) (fun c => absurd c84 c) (fun _ => ?_)
  refine wa_aload_n X 2 rfl dL_refused_401 rfl ?_
  refine wa_bipush X dL_refused_402 kb25 ?_
  refine wa_iconst X dL_refused_404 kc0 ?_
  refine wa_bipush X dL_refused_405 kb6 ?_
  refine wa_iconst X dL_refused_407 kc0 ?_
  refine wa_callSW X (As := [.inr (.inr (10, 1)), .inl (25 : Int32), .inl (0 : Int32), .inl (6 : Int32), .inl (0 : Int32)]) (hv hw) kw_507 kw_20 kw_505 kw_506 nd_L_call rfl rfl (Nat.le_of_ble_eq_true rfl) dL_refused_408 ⟨⟨Nat.le_of_ble_eq_true rfl, Nat.le_of_ble_eq_true rfl⟩, Nat.le_of_ble_eq_true rfl, Nat.le_of_ble_eq_true rfl⟩ (fun v S85 h => ?_) (fun _ _ h => h.elim)
  obtain ⟨hw, r86, rfl, hv⟩ := h
  refine wa_ldc X kw_1063 dL_refused_411 ?_
  obtain ⟨c87, hv⟩ := hv
  refine wa_icmp_ne X (tgt := 446) dL_refused_413 (by decide) (fun c => absurd c87 c) (fun _ => ?_)
  refine wa_aload_n X 2 rfl dL_refused_416 rfl ?_
  refine wa_bipush X dL_refused_417 kb26 ?_
  refine wa_iconst X dL_refused_419 kc0 ?_
  refine wa_iconst X dL_refused_420 kcm1 ?_
  refine wa_iconst X dL_refused_421 kc0 ?_
  refine wa_callSW X (As := [.inr (.inr (10, 1)), .inl (26 : Int32), .inl (0 : Int32), .inl (-1 : Int32), .inl (0 : Int32)]) (hv hw) kw_507 kw_20 kw_505 kw_506 nd_L_call rfl rfl (Nat.le_of_ble_eq_true rfl) dL_refused_422 ⟨⟨Nat.le_of_ble_eq_true rfl, Nat.le_of_ble_eq_true rfl⟩, Nat.le_of_ble_eq_true rfl, Nat.le_of_ble_eq_true rfl⟩ (fun v S88 h => ?_) (fun _ _ h => h.elim)
  obtain ⟨hw, r89, rfl, hv⟩ := h
  refine wa_ldc X kw_1063 dL_refused_425 ?_
  obtain ⟨c90, hv⟩ := hv
  refine wa_icmp_ne X (tgt := 446) dL_refused_427 (by decide) (fun c => absurd c90 c) (fun _ => ?_)
  refine wa_aload_n X 2 rfl dL_refused_430 rfl ?_
  refine wa_iload_n X 4 rfl dL_refused_431 rfl ?_
  refine wa_iload_n X 5 rfl dL_refused_432 rfl ?_
  refine wa_callS X (As := [.inr (.inr (10, 1)), .inl a3, .inl a4]) (hv hw) kw_1068 kw_20 kw_1066 kw_1067 nd_L_all rfl rfl (Nat.le_of_ble_eq_true rfl) dL_refused_433 ⟨⟨Nat.le_of_ble_eq_true rfl, Nat.le_of_ble_eq_true rfl⟩, Nat.le_of_ble_eq_true rfl, Nat.le_of_ble_eq_true rfl⟩ (fun v S91 h => ?_) (fun _ _ h => h.elim)
  obtain ⟨hw, r92, rfl, hv⟩ := h
  refine wa_lload X 1 rfl dL_refused_436 ?_
  refine wa_lcmp X dL_refused_438 ?_
  obtain ⟨c93, hv⟩ := hv
  refine wa_if_ne X (tgt := 446) dL_refused_439 (by decide) (fun c => absurd c93 c) (fun _ => ?_)
  refine wa_iconst X dL_refused_442 kc1 ?_
  refine wa_goto X (tgt := 447) dL_refused_443 (by decide) ?_
  exact wa_ireturn X E dL_refused_447 (Nat.le_of_ble_eq_true rfl) (Nat.le_of_ble_eq_true rfl) (Or.inr ⟨rfl, Or.inr rfl⟩) ⟨hw, _, rfl, hv⟩

