def m_M_thrown (S : hs_S) (Q : Int32 → hs_S → Prop) : Prop := hs_M 1 yX11_thrown (.code yX11_thrown cX11_thrown 1 (some FieldType.int)) [.inr (.inr (11, 1))] S 0 0 (hs_qI Q) hs_nX
def vc_M_thrown (S : hs_S) (Q : Int32 → hs_S → Prop) : Prop := (Q (S.1 11 1 59) S)
set_option maxRecDepth 100000 in
set_option maxHeartbeats 4000000 in
theorem ok_M_thrown {S : hs_S} {Q : Int32 → hs_S → Prop} (hw : hs_Wi S) (hv : vc_M_thrown S Q) : m_M_thrown S Q := by
  unfold vc_M_thrown at hv
  refine hs_body (own := RX11) rfl rfl (Nat.le_of_ble_eq_true rfl) (fun Z X E N J0 => ?_)
  show wa Z 0 0 S 0 [(0, .inr (.inr (11, 1)))] []
  refine wa_aload_n X 0 rfl dX11_thrown_0 rfl ?_
  refine wa_getI X (j := 59) hk_11 hc_11 i_11 (by decide) kw_1243 rfl dX11_thrown_1 hs_1ne ?_
  exact wa_ireturn X E dX11_thrown_4 (Nat.le_of_ble_eq_true rfl) (Nat.le_of_ble_eq_true rfl) (Or.inl rfl) ⟨hw, _, rfl, hv⟩
def m_M_fails (a1 : Int32) (S : hs_S) (Q : Int32 → hs_S → Prop) : Prop := hs_M 1 yX11_fails (.code yX11_fails cX11_fails 2 (some FieldType.int)) [.inr (.inr (11, 1)), .inl a1] S 0 0 (hs_qI Q) hs_nX
def vc_M_fails (a1 : Int32) (S : hs_S) (Q : Int32 → hs_S → Prop) : Prop := (∀ S1 : hs_S, S1 = (hs_wI S 11 1 59 a1) → (Q (0 : Int32) S1))
set_option maxRecDepth 100000 in
set_option maxHeartbeats 4000000 in
theorem ok_M_fails {a1 : Int32} {S : hs_S} {Q : Int32 → hs_S → Prop} (hw : hs_Wi S) (hv : vc_M_fails a1 S Q) : m_M_fails a1 S Q := by
  unfold vc_M_fails at hv
  refine hs_body (own := RX11) rfl rfl (Nat.le_of_ble_eq_true rfl) (fun Z X E N J0 => ?_)
  show wa Z 0 0 S 0 [(0, .inr (.inr (11, 1))), (1, .inl a1)] []
  refine wa_aload_n X 0 rfl dX11_fails_0 rfl ?_
  refine wa_iload_n X 1 rfl dX11_fails_1 rfl ?_
  refine wa_putI X (j := 59) hk_11 hc_11 i_11 tyX11 tyX11_ok nmX11 (by decide) kw_1243 rfl rfl dX11_fails_2 hs_1ne ⟨rfl, Or.inl rfl⟩ (hs_eqS fun S1 hS1 => ?_)
  replace hv := hv S1 hS1
  replace hw : hs_Wi S1 := hS1 ▸ hs_Wi_I hw
  refine wa_iconst X dX11_fails_5 kc0 ?_
  exact wa_ireturn X E dX11_fails_6 (Nat.le_of_ble_eq_true rfl) (Nat.le_of_ble_eq_true rfl) (Or.inl rfl) ⟨hw, _, rfl, hv⟩
def m_M_asks (a1 : Int32) (S : hs_S) (Q : Int32 → hs_S → Prop) : Prop := hs_M 1 yX11_asks (.code yX11_asks cX11_asks 2 (some FieldType.boolean)) [.inr (.inr (11, 1)), .inl a1] S 0 0 (hs_qI Q) hs_nX
def vc_M_asks (a1 : Int32) (S : hs_S) (Q : Int32 → hs_S → Prop) : Prop := ((a1 = 0 → (∀ S2 : hs_S, S2 = (hs_wI S 11 1 59 (1 : Int32)) → ((a1 = 0 ∨ a1 = 1) ∧ (Q a1 S2)))) ∧ (¬ a1 = 0 → (∀ S4 : hs_S, S4 = (hs_wI S 11 1 59 (0 : Int32)) → ((a1 = 0 ∨ a1 = 1) ∧ (Q a1 S4)))))
set_option maxRecDepth 100000 in
set_option maxHeartbeats 4000000 in
theorem ok_M_asks {a1 : Int32} {S : hs_S} {Q : Int32 → hs_S → Prop} (hw : hs_Wi S) (hv : vc_M_asks a1 S Q) : m_M_asks a1 S Q := by
  unfold vc_M_asks at hv
  refine hs_body (own := RX11) rfl rfl (Nat.le_of_ble_eq_true rfl) (fun Z X E N J0 => ?_)
  show wa Z 0 0 S 0 [(0, .inr (.inr (11, 1))), (1, .inl a1)] []
  refine wa_aload_n X 0 rfl dX11_asks_0 rfl ?_
  refine wa_iload_n X 1 rfl dX11_asks_1 rfl ?_
  refine wa_if_eq X (tgt := 9) dX11_asks_2 (by decide) (fun c1 => ?_) (fun c1 => ?_)
  · replace hv := hv.1 c1
    refine wa_iconst X dX11_asks_9 kc1 ?_
    refine wa_putI X (j := 59) hk_11 hc_11 i_11 tyX11 tyX11_ok nmX11 (by decide) kw_1243 rfl rfl dX11_asks_10 hs_1ne ⟨rfl, Or.inl rfl⟩ (hs_eqS fun S2 hS2 => ?_)
    replace hv := hv S2 hS2
    replace hw : hs_Wi S2 := hS2 ▸ hs_Wi_I hw
    refine wa_iload_n X 1 rfl dX11_asks_13 rfl ?_
    obtain ⟨o3, hv⟩ := hv
    exact wa_ireturn X E dX11_asks_14 (Nat.le_of_ble_eq_true rfl) (Nat.le_of_ble_eq_true rfl) (Or.inr ⟨rfl, o3⟩) ⟨hw, _, rfl, hv⟩
  · replace hv := hv.2 c1
    refine wa_iconst X dX11_asks_5 kc0 ?_
    refine wa_goto X (tgt := 10) dX11_asks_6 (by decide) ?_
    refine wa_putI X (j := 59) hk_11 hc_11 i_11 tyX11 tyX11_ok nmX11 (by decide) kw_1243 rfl rfl dX11_asks_10 hs_1ne ⟨rfl, Or.inl rfl⟩ (hs_eqS fun S4 hS4 => ?_)
    replace hv := hv S4 hS4
    replace hw : hs_Wi S4 := hS4 ▸ hs_Wi_I hw
    refine wa_iload_n X 1 rfl dX11_asks_13 rfl ?_
    obtain ⟨o5, hv⟩ := hv
    exact wa_ireturn X E dX11_asks_14 (Nat.le_of_ble_eq_true rfl) (Nat.le_of_ble_eq_true rfl) (Or.inr ⟨rfl, o5⟩) ⟨hw, _, rfl, hv⟩
def m_M_act (a1 : Int32) (S : hs_S) (Q : Int32 → hs_S → Prop) : Prop := hs_M 1 yX11_act (.code yX11_act cX11_act 2 (some FieldType.int)) [.inr (.inr (11, 1)), .inl a1] S 0 0 (hs_qI Q) hs_nX
def vc_M_act (a1 : Int32) (S : hs_S) (Q : Int32 → hs_S → Prop) : Prop := (∀ S1 : hs_S, S1 = (hs_wI S 11 1 0 ((S.1 11 1 0) + (1 : Int32))) → (Q a1 S1))
set_option maxRecDepth 100000 in
set_option maxHeartbeats 4000000 in
theorem ok_M_act {a1 : Int32} {S : hs_S} {Q : Int32 → hs_S → Prop} (hw : hs_Wi S) (hv : vc_M_act a1 S Q) : m_M_act a1 S Q := by
  unfold vc_M_act at hv
  refine hs_body (own := RX11) rfl rfl (Nat.le_of_ble_eq_true rfl) (fun Z X E N J0 => ?_)
  show wa Z 0 0 S 0 [(0, .inr (.inr (11, 1))), (1, .inl a1)] []
  refine wa_aload_n X 0 rfl dX11_act_0 rfl ?_
  refine wa_dup X dX11_act_1 rfl ?_
  refine wa_getI X (j := 0) hk_11 hc_11 i_11 (by decide) kw_1184 rfl dX11_act_2 hs_1ne ?_
  refine wa_iconst X dX11_act_5 kc1 ?_
  refine wa_iadd X dX11_act_6 ?_
  refine wa_putI X (j := 0) hk_11 hc_11 i_11 tyX11 tyX11_ok nmX11 (by decide) kw_1184 rfl rfl dX11_act_7 hs_1ne ⟨rfl, Or.inl rfl⟩ (hs_eqS fun S1 hS1 => ?_)
  replace hv := hv S1 hS1
  replace hw : hs_Wi S1 := hS1 ▸ hs_Wi_I hw
  refine wa_iload_n X 1 rfl dX11_act_10 rfl ?_
  exact wa_ireturn X E dX11_act_11 (Nat.le_of_ble_eq_true rfl) (Nat.le_of_ble_eq_true rfl) (Or.inl rfl) ⟨hw, _, rfl, hv⟩
def m_M_in (a1 : Int32) (a2 : Int32) (a3 : Int32) (S : hs_S) (Q : Int32 → hs_S → Prop) : Prop := hs_M 1 yX11_in (.code yX11_in cX11_in 3 (some FieldType.boolean)) [.inl a1, .inl a2, .inl a3] S 0 0 (hs_qI Q) hs_nX
def vc_M_in (a1 : Int32) (a2 : Int32) (a3 : Int32) (S : hs_S) (Q : Int32 → hs_S → Prop) : Prop := ((a1 < a2 → (Q (0 : Int32) S)) ∧ (¬ a1 < a2 → ((a3 < a1 → (Q (0 : Int32) S)) ∧ (¬ a3 < a1 → (Q (1 : Int32) S)))))
set_option maxRecDepth 100000 in
set_option maxHeartbeats 4000000 in
theorem ok_M_in {a1 : Int32} {a2 : Int32} {a3 : Int32} {S : hs_S} {Q : Int32 → hs_S → Prop} (hw : hs_Wi S) (hv : vc_M_in a1 a2 a3 S Q) : m_M_in a1 a2 a3 S Q := by
  unfold vc_M_in at hv
  refine hs_body (own := RX11) rfl rfl (Nat.le_of_ble_eq_true rfl) (fun Z X E N J0 => ?_)
  show wa Z 0 0 S 0 [(0, .inl a1), (1, .inl a2), (2, .inl a3)] []
  refine wa_iload_n X 0 rfl dX11_in_0 rfl ?_
  refine wa_iload_n X 1 rfl dX11_in_1 rfl ?_
  refine wa_icmp_lt X (tgt := 14) dX11_in_2 (by decide) (fun c1 => ?_) (fun c1 => ?_)
  · replace hv := hv.1 c1
    refine wa_iconst X dX11_in_14 kc0 ?_
    exact wa_ireturn X E dX11_in_15 (Nat.le_of_ble_eq_true rfl) (Nat.le_of_ble_eq_true rfl) (Or.inr ⟨rfl, Or.inl rfl⟩) ⟨hw, _, rfl, hv⟩
  · replace hv := hv.2 c1
    refine wa_iload_n X 0 rfl dX11_in_5 rfl ?_
    refine wa_iload_n X 2 rfl dX11_in_6 rfl ?_
    refine wa_icmp_gt X (tgt := 14) dX11_in_7 (by decide) (fun c2 => ?_) (fun c2 => ?_)
    · replace hv := hv.1 c2
      refine wa_iconst X dX11_in_14 kc0 ?_
      exact wa_ireturn X E dX11_in_15 (Nat.le_of_ble_eq_true rfl) (Nat.le_of_ble_eq_true rfl) (Or.inr ⟨rfl, Or.inl rfl⟩) ⟨hw, _, rfl, hv⟩
    · replace hv := hv.2 c2
      refine wa_iconst X dX11_in_10 kc1 ?_
      refine wa_goto X (tgt := 15) dX11_in_11 (by decide) ?_
      exact wa_ireturn X E dX11_in_15 (Nat.le_of_ble_eq_true rfl) (Nat.le_of_ble_eq_true rfl) (Or.inr ⟨rfl, Or.inr rfl⟩) ⟨hw, _, rfl, hv⟩
def m_M_isOwner (a1 : Int32) (S : hs_S) (Q : Int32 → hs_S → Prop) : Prop := hs_M 1 yX11_isOwner (.code yX11_isOwner cX11_isOwner 1 (some FieldType.boolean)) [.inl a1] S 0 0 (hs_qI Q) hs_nX
def vc_M_isOwner (a1 : Int32) (S : hs_S) (Q : Int32 → hs_S → Prop) : Prop := ((a1 < 0 → (Q (0 : Int32) S)) ∧ (¬ a1 < 0 → (((6 : Int32) ≤ a1 → (Q (0 : Int32) S)) ∧ (¬ (6 : Int32) ≤ a1 → (Q (1 : Int32) S)))))
set_option maxRecDepth 100000 in
set_option maxHeartbeats 4000000 in
theorem ok_M_isOwner {a1 : Int32} {S : hs_S} {Q : Int32 → hs_S → Prop} (hw : hs_Wi S) (hv : vc_M_isOwner a1 S Q) : m_M_isOwner a1 S Q := by
  unfold vc_M_isOwner at hv
  refine hs_body (own := RX11) rfl rfl (Nat.le_of_ble_eq_true rfl) (fun Z X E N J0 => ?_)
  show wa Z 0 0 S 0 [(0, .inl a1)] []
  refine wa_iload_n X 0 rfl dX11_isOwner_0 rfl ?_
  refine wa_if_lt X (tgt := 14) dX11_isOwner_1 (by decide) (fun c1 => ?_) (fun c1 => ?_)
  · replace hv := hv.1 c1
    refine wa_iconst X dX11_isOwner_14 kc0 ?_
    exact wa_ireturn X E dX11_isOwner_15 (Nat.le_of_ble_eq_true rfl) (Nat.le_of_ble_eq_true rfl) (Or.inr ⟨rfl, Or.inl rfl⟩) ⟨hw, _, rfl, hv⟩
  · replace hv := hv.2 c1
    refine wa_iload_n X 0 rfl dX11_isOwner_4 rfl ?_
    refine wa_bipush X dX11_isOwner_5 kb6 ?_
    refine wa_icmp_ge X (tgt := 14) dX11_isOwner_7 (by decide) (fun c2 => ?_) (fun c2 => ?_)
    · replace hv := hv.1 c2
      refine wa_iconst X dX11_isOwner_14 kc0 ?_
      exact wa_ireturn X E dX11_isOwner_15 (Nat.le_of_ble_eq_true rfl) (Nat.le_of_ble_eq_true rfl) (Or.inr ⟨rfl, Or.inl rfl⟩) ⟨hw, _, rfl, hv⟩
    · replace hv := hv.2 c2
      refine wa_iconst X dX11_isOwner_10 kc1 ?_
      refine wa_goto X (tgt := 15) dX11_isOwner_11 (by decide) ?_
      exact wa_ireturn X E dX11_isOwner_15 (Nat.le_of_ble_eq_true rfl) (Nat.le_of_ble_eq_true rfl) (Or.inr ⟨rfl, Or.inr rfl⟩) ⟨hw, _, rfl, hv⟩
def m_M_isCell (a1 : Int32) (a2 : Int32) (S : hs_S) (Q : Int32 → hs_S → Prop) : Prop := hs_M 1 yX11_isCell (.code yX11_isCell cX11_isCell 2 (some FieldType.boolean)) [.inl a1, .inl a2] S 0 0 (hs_qI Q) hs_nX
def vc_M_isCell (a1 : Int32) (a2 : Int32) (S : hs_S) (Q : Int32 → hs_S → Prop) : Prop := ((a1 < 0 → (Q (0 : Int32) S)) ∧ (¬ a1 < 0 → (((4 : Int32) ≤ a1 → (Q (0 : Int32) S)) ∧ (¬ (4 : Int32) ≤ a1 → ((a2 < 0 → (Q (0 : Int32) S)) ∧ (¬ a2 < 0 → (((6 : Int32) ≤ a2 → (Q (0 : Int32) S)) ∧ (¬ (6 : Int32) ≤ a2 → (Q (1 : Int32) S)))))))))
set_option maxRecDepth 100000 in
set_option maxHeartbeats 4000000 in
theorem ok_M_isCell {a1 : Int32} {a2 : Int32} {S : hs_S} {Q : Int32 → hs_S → Prop} (hw : hs_Wi S) (hv : vc_M_isCell a1 a2 S Q) : m_M_isCell a1 a2 S Q := by
  unfold vc_M_isCell at hv
  refine hs_body (own := RX11) rfl rfl (Nat.le_of_ble_eq_true rfl) (fun Z X E N J0 => ?_)
  show wa Z 0 0 S 0 [(0, .inl a1), (1, .inl a2)] []
  refine wa_iload_n X 0 rfl dX11_isCell_0 rfl ?_
  refine wa_if_lt X (tgt := 23) dX11_isCell_1 (by decide) (fun c1 => ?_) (fun c1 => ?_)
  · replace hv := hv.1 c1
    refine wa_iconst X dX11_isCell_23 kc0 ?_
    exact wa_ireturn X E dX11_isCell_24 (Nat.le_of_ble_eq_true rfl) (Nat.le_of_ble_eq_true rfl) (Or.inr ⟨rfl, Or.inl rfl⟩) ⟨hw, _, rfl, hv⟩
  · replace hv := hv.2 c1
    refine wa_iload_n X 0 rfl dX11_isCell_4 rfl ?_
    refine wa_iconst X dX11_isCell_5 kc4 ?_
    refine wa_icmp_ge X (tgt := 23) dX11_isCell_6 (by decide) (fun c2 => ?_) (fun c2 => ?_)
    · replace hv := hv.1 c2
      refine wa_iconst X dX11_isCell_23 kc0 ?_
      exact wa_ireturn X E dX11_isCell_24 (Nat.le_of_ble_eq_true rfl) (Nat.le_of_ble_eq_true rfl) (Or.inr ⟨rfl, Or.inl rfl⟩) ⟨hw, _, rfl, hv⟩
    · replace hv := hv.2 c2
      refine wa_iload_n X 1 rfl dX11_isCell_9 rfl ?_
      refine wa_if_lt X (tgt := 23) dX11_isCell_10 (by decide) (fun c3 => ?_) (fun c3 => ?_)
      · replace hv := hv.1 c3
        refine wa_iconst X dX11_isCell_23 kc0 ?_
        exact wa_ireturn X E dX11_isCell_24 (Nat.le_of_ble_eq_true rfl) (Nat.le_of_ble_eq_true rfl) (Or.inr ⟨rfl, Or.inl rfl⟩) ⟨hw, _, rfl, hv⟩
      · replace hv := hv.2 c3
        refine wa_iload_n X 1 rfl dX11_isCell_13 rfl ?_
        refine wa_bipush X dX11_isCell_14 kb6 ?_
        refine wa_icmp_ge X (tgt := 23) dX11_isCell_16 (by decide) (fun c4 => ?_) (fun c4 => ?_)
        · replace hv := hv.1 c4
          refine wa_iconst X dX11_isCell_23 kc0 ?_
          exact wa_ireturn X E dX11_isCell_24 (Nat.le_of_ble_eq_true rfl) (Nat.le_of_ble_eq_true rfl) (Or.inr ⟨rfl, Or.inl rfl⟩) ⟨hw, _, rfl, hv⟩
        · replace hv := hv.2 c4
          refine wa_iconst X dX11_isCell_19 kc1 ?_
          refine wa_goto X (tgt := 24) dX11_isCell_20 (by decide) ?_
          exact wa_ireturn X E dX11_isCell_24 (Nat.le_of_ble_eq_true rfl) (Nat.le_of_ble_eq_true rfl) (Or.inr ⟨rfl, Or.inr rfl⟩) ⟨hw, _, rfl, hv⟩
def m_M_ownerAt (a1 : Int32) (a2 : Int32) (S : hs_S) (Q : Int32 → hs_S → Prop) : Prop := hs_M 1 yX11_ownerAt (.code yX11_ownerAt cX11_ownerAt 5 (some FieldType.int)) [.inr (.inr (11, 1)), .inl a1, .inl a2] S 0 0 (hs_qI Q) hs_nX
def vc_M_ownerAt (a1 : Int32) (a2 : Int32) (S : hs_S) (Q : Int32 → hs_S → Prop) : Prop := (∃ I3 : Nat → Int32 → Int32 → Prop, (∃ n7, I3 n7 (a1 / (6 : Int32)) (0 : Int32)) ∧ (∀ N4 : Nat, ∀ x1 : Int32, ∀ x2 : Int32, I3 N4 x1 x2 → (((S.1 11 1 1) ≤ x2 → (Q x1 S)) ∧ (¬ (S.1 11 1 1) ≤ x2 → ((0 ≤ x2.toInt ∧ x2.toInt < 1200) ∧ ((¬ (S.1 43 1 x2.toNatClampNeg) = a1 → (∃ q14, q14 < N4 ∧ I3 q14 x1 (x2 + 1))) ∧ ((S.1 43 1 x2.toNatClampNeg) = a1 → ((0 ≤ x2.toInt ∧ x2.toInt < 1200) ∧ ((a2 ≤ (S.1 42 1 x2.toNatClampNeg) → (∃ q18, q18 < N4 ∧ I3 q18 x1 (x2 + 1))) ∧ (¬ a2 ≤ (S.1 42 1 x2.toNatClampNeg) → ((0 ≤ x2.toInt ∧ x2.toInt < 1200) ∧ (∃ q21, q21 < N4 ∧ I3 q21 (S.1 44 1 x2.toNatClampNeg) (x2 + 1)))))))))))))
set_option maxRecDepth 100000 in
set_option maxHeartbeats 4000000 in
theorem ok_M_ownerAt {a1 : Int32} {a2 : Int32} {S : hs_S} {Q : Int32 → hs_S → Prop} (hw : hs_Wi S) (hv : vc_M_ownerAt a1 a2 S Q) : m_M_ownerAt a1 a2 S Q := by
  unfold vc_M_ownerAt at hv
  refine hs_body (own := RX11) rfl rfl (Nat.le_of_ble_eq_true rfl) (fun Z X E N J0 => ?_)
  show wa Z 0 0 S 0 [(0, .inr (.inr (11, 1))), (1, .inl a1), (2, .inl a2)] []
  refine wa_iload_n X 1 rfl dX11_ownerAt_0 rfl ?_
  refine wa_bipush X dX11_ownerAt_1 kb6 ?_
  refine wa_idiv X dX11_ownerAt_3 (by decide) ?_
  refine wa_istore_n X (lv' := [(3, .inl (a1 / (6 : Int32))), (0, .inr (.inr (11, 1))), (1, .inl a1), (2, .inl a2)]) dX11_ownerAt_4 rfl (by decide) rfl ?_
  refine wa_iconst X dX11_ownerAt_5 kc0 ?_
  refine wa_istore X (lv' := [(4, .inl (0 : Int32)), (3, .inl (a1 / (6 : Int32))), (0, .inr (.inr (11, 1))), (1, .inl a1), (2, .inl a2)]) dX11_ownerAt_6 (by decide) rfl ?_
  obtain ⟨I3, ⟨n7, i5⟩, b6⟩ := hv
  refine wa_lv (lv' := [(0, .inr (.inr (11, 1))), (1, .inl a1), (2, .inl a2), (3, .inl (a1 / (6 : Int32))), (4, .inl (0 : Int32))]) [2, 3, 4, 1, 0] rfl ?_
  suffices L8 : ∀ N4 : Nat, ∀ x1 : Int32, ∀ x2 : Int32, I3 N4 x1 x2 → wa Z 0 0 S 8 [(0, .inr (.inr (11, 1))), (1, .inl a1), (2, .inl a2), (3, .inl x1), (4, .inl x2)] [] from L8 _ _ _ i5
  clear i5
  intro N4
  induction N4 using Nat.strongRecOn with
  | _ N4 h9 =>
    intro x1 x2 j10
    have hv := b6 N4 x1 x2 j10
    refine wa_iload X 4 rfl dX11_ownerAt_8 ?_
    refine wa_aload_n X 0 rfl dX11_ownerAt_10 rfl ?_
    refine wa_getI X (j := 1) hk_11 hc_11 i_11 (by decide) kw_1185 rfl dX11_ownerAt_11 hs_1ne ?_
    refine wa_icmp_ge X (tgt := 57) dX11_ownerAt_14 (by decide) (fun c11 => ?_) (fun c11 => ?_)
    · replace hv := hv.1 c11
      refine wa_iload_n X 3 rfl dX11_ownerAt_57 rfl ?_
      exact wa_ireturn X E dX11_ownerAt_58 (Nat.le_of_ble_eq_true rfl) (Nat.le_of_ble_eq_true rfl) (Or.inl rfl) ⟨hw, _, rfl, hv⟩
    · replace hv := hv.2 c11
      refine wa_aload_n X 0 rfl dX11_ownerAt_17 rfl ?_
      refine wa_getfw X hw (j := 3) (r := 1) hk_11 hc_11 i_11 (by decide) kw_1187 rfl rfl (by decide) rfl dX11_ownerAt_18 hs_1ne ?_
      refine wa_iload X 4 rfl dX11_ownerAt_21 ?_
      obtain ⟨o12, hv⟩ := hv
      refine wa_iald X hk_43 dX11_ownerAt_23 hs_1ne o12 ?_
      refine wa_iload_n X 1 rfl dX11_ownerAt_24 rfl ?_
      refine wa_icmp_ne X (tgt := 49) dX11_ownerAt_25 (by decide) (fun c13 => ?_) (fun c13 => ?_)
      · replace hv := hv.1 c13
        refine wa_iload_n X 3 rfl dX11_ownerAt_49 rfl ?_
        refine wa_istore_n X (lv' := [(3, .inl x1), (0, .inr (.inr (11, 1))), (1, .inl a1), (2, .inl a2), (4, .inl x2)]) dX11_ownerAt_50 rfl (by decide) rfl ?_
        refine wa_iinc X (v := (x2 + 1)) (lv' := [(4, .inl (x2 + 1)), (3, .inl x1), (0, .inr (.inr (11, 1))), (1, .inl a1), (2, .inl a2)]) 4 rfl dX11_ownerAt_51 rfl (by decide) rfl ?_
        refine wa_goto X (tgt := 8) dX11_ownerAt_54 (by decide) ?_
        obtain ⟨q14, p15, hv⟩ := hv
        refine wa_lv (lv' := [(0, .inr (.inr (11, 1))), (1, .inl a1), (2, .inl a2), (3, .inl x1), (4, .inl (x2 + 1))]) [2, 3, 4, 1, 0] rfl ?_
        exact h9 q14 p15 _ _ hv
      · replace hv := hv.2 c13
        refine wa_aload_n X 0 rfl dX11_ownerAt_28 rfl ?_
        refine wa_getfw X hw (j := 2) (r := 1) hk_11 hc_11 i_11 (by decide) kw_1186 rfl rfl (by decide) rfl dX11_ownerAt_29 hs_1ne ?_
        refine wa_iload X 4 rfl dX11_ownerAt_32 ?_
        obtain ⟨o16, hv⟩ := hv
        refine wa_iald X hk_42 dX11_ownerAt_34 hs_1ne o16 ?_
        refine wa_iload_n X 2 rfl dX11_ownerAt_35 rfl ?_
        refine wa_icmp_ge X (tgt := 49) dX11_ownerAt_36 (by decide) (fun c17 => ?_) (fun c17 => ?_)
        · replace hv := hv.1 c17
          refine wa_iload_n X 3 rfl dX11_ownerAt_49 rfl ?_
          refine wa_istore_n X (lv' := [(3, .inl x1), (0, .inr (.inr (11, 1))), (1, .inl a1), (2, .inl a2), (4, .inl x2)]) dX11_ownerAt_50 rfl (by decide) rfl ?_
          refine wa_iinc X (v := (x2 + 1)) (lv' := [(4, .inl (x2 + 1)), (3, .inl x1), (0, .inr (.inr (11, 1))), (1, .inl a1), (2, .inl a2)]) 4 rfl dX11_ownerAt_51 rfl (by decide) rfl ?_
          refine wa_goto X (tgt := 8) dX11_ownerAt_54 (by decide) ?_
          obtain ⟨q18, p19, hv⟩ := hv
          refine wa_lv (lv' := [(0, .inr (.inr (11, 1))), (1, .inl a1), (2, .inl a2), (3, .inl x1), (4, .inl (x2 + 1))]) [2, 3, 4, 1, 0] rfl ?_
          exact h9 q18 p19 _ _ hv
        · replace hv := hv.2 c17
          refine wa_aload_n X 0 rfl dX11_ownerAt_39 rfl ?_
          refine wa_getfw X hw (j := 4) (r := 1) hk_11 hc_11 i_11 (by decide) kw_1188 rfl rfl (by decide) rfl dX11_ownerAt_40 hs_1ne ?_
          refine wa_iload X 4 rfl dX11_ownerAt_43 ?_
          obtain ⟨o20, hv⟩ := hv
          refine wa_iald X hk_44 dX11_ownerAt_45 hs_1ne o20 ?_
          refine wa_goto X (tgt := 50) dX11_ownerAt_46 (by decide) ?_
          refine wa_istore_n X (lv' := [(3, .inl (S.1 44 1 x2.toNatClampNeg)), (0, .inr (.inr (11, 1))), (1, .inl a1), (2, .inl a2), (4, .inl x2)]) dX11_ownerAt_50 rfl (by decide) rfl ?_
          refine wa_iinc X (v := (x2 + 1)) (lv' := [(4, .inl (x2 + 1)), (3, .inl (S.1 44 1 x2.toNatClampNeg)), (0, .inr (.inr (11, 1))), (1, .inl a1), (2, .inl a2)]) 4 rfl dX11_ownerAt_51 rfl (by decide) rfl ?_
          refine wa_goto X (tgt := 8) dX11_ownerAt_54 (by decide) ?_
          obtain ⟨q21, p22, hv⟩ := hv
          refine wa_lv (lv' := [(0, .inr (.inr (11, 1))), (1, .inl a1), (2, .inl a2), (3, .inl (S.1 44 1 x2.toNatClampNeg)), (4, .inl (x2 + 1))]) [2, 3, 4, 1, 0] rfl ?_
          exact h9 q21 p22 _ _ hv
def m_M_readsAt (a1 : Int32) (a2 : Int32) (a3 : Int32) (S : hs_S) (Q : Int32 → hs_S → Prop) : Prop := hs_M 2 yX11_readsAt (.code yX11_readsAt cX11_readsAt 7 (some FieldType.boolean)) [.inr (.inr (11, 1)), .inl a1, .inl a2, .inl a3] S 0 0 (hs_qI Q) hs_nX
def vc_M_readsAt (a1 : Int32) (a2 : Int32) (a3 : Int32) (S : hs_S) (Q : Int32 → hs_S → Prop) : Prop := ((P_ownerAt a2 a3 S) ∧ ((¬ (F_ownerAt a2 a3 S) = a1 → (∃ I5 : Nat → Int32 → Int32 → Prop, (∃ n9, I5 n9 (0 : Int32) (0 : Int32)) ∧ (∀ N6 : Nat, ∀ x3 : Int32, ∀ x4 : Int32, I5 N6 x3 x4 → (((S.1 11 1 5) ≤ x4 → ((x3 = 0 ∨ x3 = 1) ∧ (Q x3 S))) ∧ (¬ (S.1 11 1 5) ≤ x4 → ((0 ≤ x4.toInt ∧ x4.toInt < 1200) ∧ (((a3 ≤ (S.1 46 1 x4.toNatClampNeg) → True) ∧ (¬ a3 ≤ (S.1 46 1 x4.toNatClampNeg) → ((0 ≤ x4.toInt ∧ x4.toInt < 1200) ∧ ((¬ (S.1 48 1 x4.toNatClampNeg) = a1 → True) ∧ ((S.1 48 1 x4.toNatClampNeg) = a1 → ((0 ≤ x4.toInt ∧ x4.toInt < 1200) ∧ ((¬ ((S.1 49 1 x4.toNatClampNeg) - (S.1 49 1 x4.toNatClampNeg) / (4 : Int32) * (4 : Int32)) = (a2 / (6 : Int32)) → True) ∧ (((S.1 49 1 x4.toNatClampNeg) - (S.1 49 1 x4.toNatClampNeg) / (4 : Int32) * (4 : Int32)) = (a2 / (6 : Int32)) → ((0 ≤ x4.toInt ∧ x4.toInt < 1200) ∧ (((a2 - a2 / (6 : Int32) * (6 : Int32)) < (((S.1 49 1 x4.toNatClampNeg) / (4 : Int32)) - ((S.1 49 1 x4.toNatClampNeg) / (4 : Int32)) / (8 : Int32) * (8 : Int32)) → True) ∧ (¬ (a2 - a2 / (6 : Int32) * (6 : Int32)) < (((S.1 49 1 x4.toNatClampNeg) / (4 : Int32)) - ((S.1 49 1 x4.toNatClampNeg) / (4 : Int32)) / (8 : Int32) * (8 : Int32)) → ((0 ≤ x4.toInt ∧ x4.toInt < 1200) ∧ (((((S.1 49 1 x4.toNatClampNeg) / (32 : Int32)) - ((S.1 49 1 x4.toNatClampNeg) / (32 : Int32)) / (8 : Int32) * (8 : Int32)) < (a2 - a2 / (6 : Int32) * (6 : Int32)) → True) ∧ (¬ (((S.1 49 1 x4.toNatClampNeg) / (32 : Int32)) - ((S.1 49 1 x4.toNatClampNeg) / (32 : Int32)) / (8 : Int32) * (8 : Int32)) < (a2 - a2 / (6 : Int32) * (6 : Int32)) → True)))))))))))))) ∧ (∀ x16 : Int32, x16 = (if a3 ≤ (S.1 46 1 x4.toNatClampNeg) then (0 : Int32) else (if (S.1 48 1 x4.toNatClampNeg) = a1 then (if ((S.1 49 1 x4.toNatClampNeg) - (S.1 49 1 x4.toNatClampNeg) / (4 : Int32) * (4 : Int32)) = (a2 / (6 : Int32)) then (if (a2 - a2 / (6 : Int32) * (6 : Int32)) < (((S.1 49 1 x4.toNatClampNeg) / (4 : Int32)) - ((S.1 49 1 x4.toNatClampNeg) / (4 : Int32)) / (8 : Int32) * (8 : Int32)) then (0 : Int32) else (if (((S.1 49 1 x4.toNatClampNeg) / (32 : Int32)) - ((S.1 49 1 x4.toNatClampNeg) / (32 : Int32)) / (8 : Int32) * (8 : Int32)) < (a2 - a2 / (6 : Int32) * (6 : Int32)) then (0 : Int32) else (1 : Int32))) else (0 : Int32)) else (0 : Int32))) → ((x16 = 0 → (∃ q18, q18 < N6 ∧ I5 q18 x3 (x4 + 1))) ∧ (¬ x16 = 0 → ((0 ≤ x4.toInt ∧ x4.toInt < 1200) ∧ ((P_ownerAt a2 (S.1 46 1 x4.toNatClampNeg) S) ∧ ((0 ≤ x4.toInt ∧ x4.toInt < 1200) ∧ ((¬ (F_ownerAt a2 (S.1 46 1 x4.toNatClampNeg) S) = (S.1 47 1 x4.toNatClampNeg) → (∃ q24, q24 < N6 ∧ I5 q24 x3 (x4 + 1))) ∧ ((F_ownerAt a2 (S.1 46 1 x4.toNatClampNeg) S) = (S.1 47 1 x4.toNatClampNeg) → ((0 ≤ x4.toInt ∧ x4.toInt < 1200) ∧ ((¬ ((S.1 49 1 x4.toNatClampNeg) / (256 : Int32)) = (1 : Int32) → (∃ q28, q28 < N6 ∧ I5 q28 (0 : Int32) (x4 + 1))) ∧ (((S.1 49 1 x4.toNatClampNeg) / (256 : Int32)) = (1 : Int32) → (∃ q30, q30 < N6 ∧ I5 q30 (1 : Int32) (x4 + 1)))))))))))))))))))) ∧ ((F_ownerAt a2 a3 S) = a1 → (Q (1 : Int32) S))))
set_option maxRecDepth 100000 in
set_option maxHeartbeats 4000000 in
theorem ok_M_readsAt {a1 : Int32} {a2 : Int32} {a3 : Int32} {S : hs_S} {Q : Int32 → hs_S → Prop} (hw : hs_Wi S) (hv : vc_M_readsAt a1 a2 a3 S Q) : m_M_readsAt a1 a2 a3 S Q := by
  unfold vc_M_readsAt at hv
  refine hs_body (own := RX11) rfl rfl (Nat.le_of_ble_eq_true rfl) (fun Z X E N J0 => ?_)
  show wa Z 0 0 S 0 [(0, .inr (.inr (11, 1))), (1, .inl a1), (2, .inl a2), (3, .inl a3)] []
  refine wa_aload_n X 0 rfl dX11_readsAt_0 rfl ?_
  refine wa_iload_n X 2 rfl dX11_readsAt_1 rfl ?_
  refine wa_iload_n X 3 rfl dX11_readsAt_2 rfl ?_
  obtain ⟨o1, hv⟩ := hv
  refine wa_callV X (As := [.inl a2, .inl a3]) (f_M_ownerAt hw o1) hk_11 hc_11 rfl kw_1387 kw_66 kw_1384 kw_1386 kw_21 nd_X11_ownerAt rfl rfl (Nat.le_of_ble_eq_true rfl) dX11_readsAt_3 hs_1ne ⟨⟨Nat.le_of_ble_eq_true rfl, Nat.le_of_ble_eq_true rfl⟩, Nat.le_of_ble_eq_true rfl, Nat.le_of_ble_eq_true rfl⟩ (hs_pdk fun _ hS0 _ => hS0 ▸ ?_) (fun _ _ h => h.elim)
  refine wa_iload_n X 1 rfl dX11_readsAt_6 rfl ?_
  refine wa_icmp_ne X (tgt := 12) dX11_readsAt_7 (by decide) (fun c2 => ?_) (fun c2 => ?_)
  · replace hv := hv.1 c2
    refine wa_iconst X dX11_readsAt_12 kc0 ?_
    refine wa_istore X (lv' := [(4, .inl (0 : Int32)), (0, .inr (.inr (11, 1))), (1, .inl a1), (2, .inl a2), (3, .inl a3)]) dX11_readsAt_13 (by decide) rfl ?_
    refine wa_iconst X dX11_readsAt_15 kc0 ?_
    refine wa_istore X (lv' := [(5, .inl (0 : Int32)), (4, .inl (0 : Int32)), (0, .inr (.inr (11, 1))), (1, .inl a1), (2, .inl a2), (3, .inl a3)]) dX11_readsAt_16 (by decide) rfl ?_
    obtain ⟨I5, ⟨n9, i7⟩, b8⟩ := hv
    refine wa_lv (lv' := [(0, .inr (.inr (11, 1))), (1, .inl a1), (2, .inl a2), (3, .inl a3), (4, .inl (0 : Int32)), (5, .inl (0 : Int32))]) [2, 3, 4, 5, 1, 0] rfl ?_
    suffices L10 : ∀ N6 : Nat, ∀ x3 : Int32, ∀ x4 : Int32, I5 N6 x3 x4 → wa Z 0 0 S 18 [(0, .inr (.inr (11, 1))), (1, .inl a1), (2, .inl a2), (3, .inl a3), (4, .inl x3), (5, .inl x4)] [] from L10 _ _ _ i7
    clear i7
    intro N6
    induction N6 using Nat.strongRecOn with
    | _ N6 h11 =>
      intro x3 x4 j12
      have hv := b8 N6 x3 x4 j12
      refine wa_iload X 5 rfl dX11_readsAt_18 ?_
      refine wa_aload_n X 0 rfl dX11_readsAt_20 rfl ?_
      refine wa_getI X (j := 5) hk_11 hc_11 i_11 (by decide) kw_1189 rfl dX11_readsAt_21 hs_1ne ?_
      refine wa_icmp_ge X (tgt := 171) dX11_readsAt_24 (by decide) (fun c13 => ?_) (fun c13 => ?_)
      · replace hv := hv.1 c13
        refine wa_iload X 4 rfl dX11_readsAt_171 ?_
        obtain ⟨o14, hv⟩ := hv
        exact wa_ireturn X E dX11_readsAt_173 (Nat.le_of_ble_eq_true rfl) (Nat.le_of_ble_eq_true rfl) (Or.inr ⟨rfl, o14⟩) ⟨hw, _, rfl, hv⟩
      · replace hv := hv.2 c13
        refine wa_aload_n X 0 rfl dX11_readsAt_27 rfl ?_
        refine wa_getfw X hw (j := 6) (r := 1) hk_11 hc_11 i_11 (by decide) kw_1190 rfl rfl (by decide) rfl dX11_readsAt_28 hs_1ne ?_
        refine wa_iload X 5 rfl dX11_readsAt_31 ?_
        obtain ⟨o15, hv⟩ := hv
        refine wa_iald X hk_46 dX11_readsAt_33 hs_1ne o15 ?_
        refine wa_iload_n X 3 rfl dX11_readsAt_34 rfl ?_
        obtain ⟨o33, hv⟩ := hv
        have k32 : ∀ (x16 : Int32), x16 = (if a3 ≤ (S.1 46 1 x4.toNatClampNeg) then (0 : Int32) else (if (S.1 48 1 x4.toNatClampNeg) = a1 then (if ((S.1 49 1 x4.toNatClampNeg) - (S.1 49 1 x4.toNatClampNeg) / (4 : Int32) * (4 : Int32)) = (a2 / (6 : Int32)) then (if (a2 - a2 / (6 : Int32) * (6 : Int32)) < (((S.1 49 1 x4.toNatClampNeg) / (4 : Int32)) - ((S.1 49 1 x4.toNatClampNeg) / (4 : Int32)) / (8 : Int32) * (8 : Int32)) then (0 : Int32) else (if (((S.1 49 1 x4.toNatClampNeg) / (32 : Int32)) - ((S.1 49 1 x4.toNatClampNeg) / (32 : Int32)) / (8 : Int32) * (8 : Int32)) < (a2 - a2 / (6 : Int32) * (6 : Int32)) then (0 : Int32) else (1 : Int32))) else (0 : Int32)) else (0 : Int32))) → wa Z 0 0 _ 109 [(0, .inr (.inr (11, 1))), (1, .inl a1), (2, .inl a2), (3, .inl a3), (4, .inl x3), (5, .inl x4)] [] := by
          intro x16 hE
          replace hv := hv _ hE
          refine wa_istore X (lv' := [(6, .inl x16), (0, .inr (.inr (11, 1))), (1, .inl a1), (2, .inl a2), (3, .inl a3), (4, .inl x3), (5, .inl x4)]) dX11_readsAt_109 (by decide) rfl ?_
          refine wa_iload X 0 rfl dX11_readsAt_111 ?_
          refine wa_if_eq X (tgt := 161) dX11_readsAt_113 (by decide) (fun c17 => ?_) (fun c17 => ?_)
          · replace hv := hv.1 c17
            refine wa_iload X 5 rfl dX11_readsAt_161 ?_
            refine wa_istore X (lv' := [(4, .inl x3), (6, .inl x16), (0, .inr (.inr (11, 1))), (1, .inl a1), (2, .inl a2), (3, .inl a3), (5, .inl x4)]) dX11_readsAt_163 (by decide) rfl ?_
            refine wa_iinc X (v := (x4 + 1)) (lv' := [(5, .inl (x4 + 1)), (4, .inl x3), (6, .inl x16), (0, .inr (.inr (11, 1))), (1, .inl a1), (2, .inl a2), (3, .inl a3)]) 6 rfl dX11_readsAt_165 rfl (by decide) rfl ?_
            refine wa_goto X (tgt := 18) dX11_readsAt_168 (by decide) ?_
            obtain ⟨q18, p19, hv⟩ := hv
            refine wa_lv (lv' := [(0, .inr (.inr (11, 1))), (1, .inl a1), (2, .inl a2), (3, .inl a3), (4, .inl x3), (5, .inl (x4 + 1))]) [3, 4, 5, 6, 1, 0] rfl ?_
            exact h11 q18 p19 _ _ hv
          · replace hv := hv.2 c17
            refine wa_aload_n X 1 rfl dX11_readsAt_116 rfl ?_
            refine wa_iload_n X 3 rfl dX11_readsAt_117 rfl ?_
            refine wa_aload_n X 1 rfl dX11_readsAt_118 rfl ?_
            refine wa_getfw X hw (j := 6) (r := 1) hk_11 hc_11 i_11 (by decide) kw_1190 rfl rfl (by decide) rfl dX11_readsAt_119 hs_1ne ?_
            refine wa_iload X 6 rfl dX11_readsAt_122 ?_
            obtain ⟨o20, hv⟩ := hv
            refine wa_iald X hk_46 dX11_readsAt_124 hs_1ne o20 ?_
            obtain ⟨o21, hv⟩ := hv
            refine wa_callV X (As := [.inl a2, .inl (S.1 46 1 x4.toNatClampNeg)]) (f_M_ownerAt hw o21) hk_11 hc_11 rfl kw_1387 kw_66 kw_1384 kw_1386 kw_21 nd_X11_ownerAt rfl rfl (Nat.le_of_ble_eq_true rfl) dX11_readsAt_125 hs_1ne ⟨⟨Nat.le_of_ble_eq_true rfl, Nat.le_of_ble_eq_true rfl⟩, Nat.le_of_ble_eq_true rfl, Nat.le_of_ble_eq_true rfl⟩ (hs_pdk fun _ hS0 _ => hS0 ▸ ?_) (fun _ _ h => h.elim)
            refine wa_aload_n X 1 rfl dX11_readsAt_128 rfl ?_
            refine wa_getfw X hw (j := 7) (r := 1) hk_11 hc_11 i_11 (by decide) kw_1191 rfl rfl (by decide) rfl dX11_readsAt_129 hs_1ne ?_
            refine wa_iload X 6 rfl dX11_readsAt_132 ?_
            obtain ⟨o22, hv⟩ := hv
            refine wa_iald X hk_47 dX11_readsAt_134 hs_1ne o22 ?_
            refine wa_icmp_ne X (tgt := 161) dX11_readsAt_135 (by decide) (fun c23 => ?_) (fun c23 => ?_)
            · replace hv := hv.1 c23
              refine wa_iload X 5 rfl dX11_readsAt_161 ?_
              refine wa_istore X (lv' := [(4, .inl x3), (6, .inl x16), (0, .inr (.inr (11, 1))), (1, .inl a1), (2, .inl a2), (3, .inl a3), (5, .inl x4)]) dX11_readsAt_163 (by decide) rfl ?_
              refine wa_iinc X (v := (x4 + 1)) (lv' := [(5, .inl (x4 + 1)), (4, .inl x3), (6, .inl x16), (0, .inr (.inr (11, 1))), (1, .inl a1), (2, .inl a2), (3, .inl a3)]) 6 rfl dX11_readsAt_165 rfl (by decide) rfl ?_
              refine wa_goto X (tgt := 18) dX11_readsAt_168 (by decide) ?_
              obtain ⟨q24, p25, hv⟩ := hv
              refine wa_lv (lv' := [(0, .inr (.inr (11, 1))), (1, .inl a1), (2, .inl a2), (3, .inl a3), (4, .inl x3), (5, .inl (x4 + 1))]) [3, 4, 5, 6, 1, 0] rfl ?_
              exact h11 q24 p25 _ _ hv
            · replace hv := hv.2 c23
              refine wa_aload_n X 1 rfl dX11_readsAt_138 rfl ?_
              refine wa_getfw X hw (j := 9) (r := 1) hk_11 hc_11 i_11 (by decide) kw_1193 rfl rfl (by decide) rfl dX11_readsAt_139 hs_1ne ?_
              refine wa_iload X 6 rfl dX11_readsAt_142 ?_
              obtain ⟨o26, hv⟩ := hv
              refine wa_iald X hk_49 dX11_readsAt_144 hs_1ne o26 ?_
              refine wa_sipush X dX11_readsAt_145 ks256 ?_
              refine wa_idiv X dX11_readsAt_148 (by decide) ?_
              refine wa_iconst X dX11_readsAt_149 kc1 ?_
              refine wa_icmp_ne X (tgt := 157) dX11_readsAt_150 (by decide) (fun c27 => ?_) (fun c27 => ?_)
              · replace hv := hv.1 c27
                refine wa_iconst X dX11_readsAt_157 kc0 ?_
                refine wa_goto X (tgt := 163) dX11_readsAt_158 (by decide) ?_
                refine wa_istore X (lv' := [(4, .inl (0 : Int32)), (6, .inl x16), (0, .inr (.inr (11, 1))), (1, .inl a1), (2, .inl a2), (3, .inl a3), (5, .inl x4)]) dX11_readsAt_163 (by decide) rfl ?_
                refine wa_iinc X (v := (x4 + 1)) (lv' := [(5, .inl (x4 + 1)), (4, .inl (0 : Int32)), (6, .inl x16), (0, .inr (.inr (11, 1))), (1, .inl a1), (2, .inl a2), (3, .inl a3)]) 6 rfl dX11_readsAt_165 rfl (by decide) rfl ?_
                refine wa_goto X (tgt := 18) dX11_readsAt_168 (by decide) ?_
                obtain ⟨q28, p29, hv⟩ := hv
                refine wa_lv (lv' := [(0, .inr (.inr (11, 1))), (1, .inl a1), (2, .inl a2), (3, .inl a3), (4, .inl (0 : Int32)), (5, .inl (x4 + 1))]) [3, 4, 5, 6, 1, 0] rfl ?_
                exact h11 q28 p29 _ _ hv
              · replace hv := hv.2 c27
                refine wa_iconst X dX11_readsAt_153 kc1 ?_
                refine wa_goto X (tgt := 163) dX11_readsAt_154 (by decide) ?_
                refine wa_istore X (lv' := [(4, .inl (1 : Int32)), (6, .inl x16), (0, .inr (.inr (11, 1))), (1, .inl a1), (2, .inl a2), (3, .inl a3), (5, .inl x4)]) dX11_readsAt_163 (by decide) rfl ?_
                refine wa_iinc X (v := (x4 + 1)) (lv' := [(5, .inl (x4 + 1)), (4, .inl (1 : Int32)), (6, .inl x16), (0, .inr (.inr (11, 1))), (1, .inl a1), (2, .inl a2), (3, .inl a3)]) 6 rfl dX11_readsAt_165 rfl (by decide) rfl ?_
                refine wa_goto X (tgt := 18) dX11_readsAt_168 (by decide) ?_
                obtain ⟨q30, p31, hv⟩ := hv
                refine wa_lv (lv' := [(0, .inr (.inr (11, 1))), (1, .inl a1), (2, .inl a2), (3, .inl a3), (4, .inl (1 : Int32)), (5, .inl (x4 + 1))]) [3, 4, 5, 6, 1, 0] rfl ?_
                exact h11 q30 p31 _ _ hv
        replace hv := o33
        refine wa_icmp_ge X (tgt := 108) dX11_readsAt_35 (by decide) (fun c35 => ?_) (fun c35 => ?_)
        · replace hv := hv.1 c35
          refine wa_iconst X dX11_readsAt_108 kc0 ?_
          refine wa_lv (lv' := [(0, .inr (.inr (11, 1))), (1, .inl a1), (2, .inl a2), (3, .inl a3), (4, .inl x3), (5, .inl x4)]) [0, 1, 2, 3, 4, 5] rfl ?_
          exact wa_wid (Nat.le_of_ble_eq_true rfl) (Nat.le_of_ble_eq_true rfl) (k32 _  (by rw [if_pos c35]))
        · replace hv := hv.2 c35
          refine wa_aload_n X 0 rfl dX11_readsAt_38 rfl ?_
          refine wa_getfw X hw (j := 8) (r := 1) hk_11 hc_11 i_11 (by decide) kw_1192 rfl rfl (by decide) rfl dX11_readsAt_39 hs_1ne ?_
          refine wa_iload X 5 rfl dX11_readsAt_42 ?_
          obtain ⟨o36, hv⟩ := hv
          refine wa_iald X hk_48 dX11_readsAt_44 hs_1ne o36 ?_
          refine wa_iload_n X 1 rfl dX11_readsAt_45 rfl ?_
          refine wa_icmp_ne X (tgt := 108) dX11_readsAt_46 (by decide) (fun c37 => ?_) (fun c37 => ?_)
          · replace hv := hv.1 c37
            refine wa_iconst X dX11_readsAt_108 kc0 ?_
            refine wa_lv (lv' := [(0, .inr (.inr (11, 1))), (1, .inl a1), (2, .inl a2), (3, .inl a3), (4, .inl x3), (5, .inl x4)]) [0, 1, 2, 3, 4, 5] rfl ?_
            exact wa_wid (Nat.le_of_ble_eq_true rfl) (Nat.le_of_ble_eq_true rfl) (k32 _  (by rw [if_neg c35, if_neg c37]))
          · replace hv := hv.2 c37
            refine wa_aload_n X 0 rfl dX11_readsAt_49 rfl ?_
            refine wa_getfw X hw (j := 9) (r := 1) hk_11 hc_11 i_11 (by decide) kw_1193 rfl rfl (by decide) rfl dX11_readsAt_50 hs_1ne ?_
            refine wa_iload X 5 rfl dX11_readsAt_53 ?_
            obtain ⟨o38, hv⟩ := hv
            refine wa_iald X hk_49 dX11_readsAt_55 hs_1ne o38 ?_
            refine wa_iconst X dX11_readsAt_56 kc4 ?_
            refine wa_irem X dX11_readsAt_57 (by decide) ?_
            refine wa_iload_n X 2 rfl dX11_readsAt_58 rfl ?_
            refine wa_bipush X dX11_readsAt_59 kb6 ?_
            refine wa_idiv X dX11_readsAt_61 (by decide) ?_
            refine wa_icmp_ne X (tgt := 108) dX11_readsAt_62 (by decide) (fun c39 => ?_) (fun c39 => ?_)
            · replace hv := hv.1 c39
              refine wa_iconst X dX11_readsAt_108 kc0 ?_
              refine wa_lv (lv' := [(0, .inr (.inr (11, 1))), (1, .inl a1), (2, .inl a2), (3, .inl a3), (4, .inl x3), (5, .inl x4)]) [0, 1, 2, 3, 4, 5] rfl ?_
              exact wa_wid (Nat.le_of_ble_eq_true rfl) (Nat.le_of_ble_eq_true rfl) (k32 _  (by rw [if_neg c35, if_pos c37, if_neg c39]))
            · replace hv := hv.2 c39
              refine wa_aload_n X 0 rfl dX11_readsAt_65 rfl ?_
              refine wa_getfw X hw (j := 9) (r := 1) hk_11 hc_11 i_11 (by decide) kw_1193 rfl rfl (by decide) rfl dX11_readsAt_66 hs_1ne ?_
              refine wa_iload X 5 rfl dX11_readsAt_69 ?_
              obtain ⟨o40, hv⟩ := hv
              refine wa_iald X hk_49 dX11_readsAt_71 hs_1ne o40 ?_
              refine wa_iconst X dX11_readsAt_72 kc4 ?_
              refine wa_idiv X dX11_readsAt_73 (by decide) ?_
              refine wa_bipush X dX11_readsAt_74 kb8 ?_
              refine wa_irem X dX11_readsAt_76 (by decide) ?_
              refine wa_iload_n X 2 rfl dX11_readsAt_77 rfl ?_
              refine wa_bipush X dX11_readsAt_78 kb6 ?_
              refine wa_irem X dX11_readsAt_80 (by decide) ?_
              refine wa_icmp_gt X (tgt := 108) dX11_readsAt_81 (by decide) (fun c41 => ?_) (fun c41 => ?_)
              · replace hv := hv.1 c41
                refine wa_iconst X dX11_readsAt_108 kc0 ?_
                refine wa_lv (lv' := [(0, .inr (.inr (11, 1))), (1, .inl a1), (2, .inl a2), (3, .inl a3), (4, .inl x3), (5, .inl x4)]) [0, 1, 2, 3, 4, 5] rfl ?_
                exact wa_wid (Nat.le_of_ble_eq_true rfl) (Nat.le_of_ble_eq_true rfl) (k32 _  (by rw [if_neg c35, if_pos c37, if_pos c39, if_pos c41]))
              · replace hv := hv.2 c41
                refine wa_aload_n X 0 rfl dX11_readsAt_84 rfl ?_
                refine wa_getfw X hw (j := 9) (r := 1) hk_11 hc_11 i_11 (by decide) kw_1193 rfl rfl (by decide) rfl dX11_readsAt_85 hs_1ne ?_
                refine wa_iload X 5 rfl dX11_readsAt_88 ?_
                obtain ⟨o42, hv⟩ := hv
                refine wa_iald X hk_49 dX11_readsAt_90 hs_1ne o42 ?_
                refine wa_bipush X dX11_readsAt_91 kb32 ?_
                refine wa_idiv X dX11_readsAt_93 (by decide) ?_
                refine wa_bipush X dX11_readsAt_94 kb8 ?_
                refine wa_irem X dX11_readsAt_96 (by decide) ?_
                refine wa_iload_n X 2 rfl dX11_readsAt_97 rfl ?_
                refine wa_bipush X dX11_readsAt_98 kb6 ?_
                refine wa_irem X dX11_readsAt_100 (by decide) ?_
                refine wa_icmp_lt X (tgt := 108) dX11_readsAt_101 (by decide) (fun c43 => ?_) (fun c43 => ?_)
                · replace hv := hv.1 c43
                  refine wa_iconst X dX11_readsAt_108 kc0 ?_
                  refine wa_lv (lv' := [(0, .inr (.inr (11, 1))), (1, .inl a1), (2, .inl a2), (3, .inl a3), (4, .inl x3), (5, .inl x4)]) [0, 1, 2, 3, 4, 5] rfl ?_
                  exact wa_wid (Nat.le_of_ble_eq_true rfl) (Nat.le_of_ble_eq_true rfl) (k32 _  (by rw [if_neg c35, if_pos c37, if_pos c39, if_neg c41, if_pos c43]))
                · replace hv := hv.2 c43
                  refine wa_iconst X dX11_readsAt_104 kc1 ?_
                  refine wa_goto X (tgt := 109) dX11_readsAt_105 (by decide) ?_
                  refine wa_lv (lv' := [(0, .inr (.inr (11, 1))), (1, .inl a1), (2, .inl a2), (3, .inl a3), (4, .inl x3), (5, .inl x4)]) [0, 1, 2, 3, 4, 5] rfl ?_
                  exact wa_wid (Nat.le_of_ble_eq_true rfl) (Nat.le_of_ble_eq_true rfl) (k32 _  (by rw [if_neg c35, if_pos c37, if_pos c39, if_neg c41, if_neg c43]))
  · replace hv := hv.2 c2
    refine wa_iconst X dX11_readsAt_10 kc1 ?_
    exact wa_ireturn X E dX11_readsAt_11 (Nat.le_of_ble_eq_true rfl) (Nat.le_of_ble_eq_true rfl) (Or.inr ⟨rfl, Or.inr rfl⟩) ⟨hw, _, rfl, hv⟩
def m_M_takes (a1 : Int32) (S : hs_S) (Q : Int32 → hs_S → Prop) : Prop := hs_M 1 yX11_takes (.code yX11_takes cX11_takes 1 (some FieldType.int)) [.inl a1] S 0 0 (hs_qI Q) hs_nX
def vc_M_takes (a1 : Int32) (S : hs_S) (Q : Int32 → hs_S → Prop) : Prop := (((8 : Int32) ≤ a1 → ((¬ a1 = (14 : Int32) → (Q (2 : Int32) S)) ∧ (a1 = (14 : Int32) → (Q (3 : Int32) S)))) ∧ (¬ (8 : Int32) ≤ a1 → (Q (0 : Int32) S)))
set_option maxRecDepth 100000 in
set_option maxHeartbeats 4000000 in
theorem ok_M_takes {a1 : Int32} {S : hs_S} {Q : Int32 → hs_S → Prop} (hw : hs_Wi S) (hv : vc_M_takes a1 S Q) : m_M_takes a1 S Q := by
  unfold vc_M_takes at hv
  refine hs_body (own := RX11) rfl rfl (Nat.le_of_ble_eq_true rfl) (fun Z X E N J0 => ?_)
  show wa Z 0 0 S 0 [(0, .inl a1)] []
  refine wa_iload_n X 0 rfl dX11_takes_0 rfl ?_
  refine wa_bipush X dX11_takes_1 kb8 ?_
  refine wa_icmp_ge X (tgt := 10) dX11_takes_3 (by decide) (fun c1 => ?_) (fun c1 => ?_)
  · replace hv := hv.1 c1
    refine wa_iload_n X 0 rfl dX11_takes_10 rfl ?_
    refine wa_bipush X dX11_takes_11 kb14 ?_
    refine wa_icmp_ne X (tgt := 20) dX11_takes_13 (by decide) (fun c2 => ?_) (fun c2 => ?_)
    · replace hv := hv.1 c2
      refine wa_iconst X dX11_takes_20 kc2 ?_
      exact wa_ireturn X E dX11_takes_21 (Nat.le_of_ble_eq_true rfl) (Nat.le_of_ble_eq_true rfl) (Or.inl rfl) ⟨hw, _, rfl, hv⟩
    · replace hv := hv.2 c2
      refine wa_iconst X dX11_takes_16 kc3 ?_
      refine wa_goto X (tgt := 21) dX11_takes_17 (by decide) ?_
      exact wa_ireturn X E dX11_takes_21 (Nat.le_of_ble_eq_true rfl) (Nat.le_of_ble_eq_true rfl) (Or.inl rfl) ⟨hw, _, rfl, hv⟩
  · replace hv := hv.2 c1
    refine wa_iconst X dX11_takes_6 kc0 ?_
    refine wa_goto X (tgt := 21) dX11_takes_7 (by decide) ?_
    exact wa_ireturn X E dX11_takes_21 (Nat.le_of_ble_eq_true rfl) (Nat.le_of_ble_eq_true rfl) (Or.inl rfl) ⟨hw, _, rfl, hv⟩
def m_M_pileOfDraft (S : hs_S) (Q : Int32 → hs_S → Prop) : Prop := hs_M 2 yX11_pileOfDraft (.code yX11_pileOfDraft cX11_pileOfDraft 3 (some FieldType.int)) [.inr (.inr (11, 1))] S 0 0 (hs_qI Q) hs_nX
def vc_M_pileOfDraft (S : hs_S) (Q : Int32 → hs_S → Prop) : Prop := (∃ I3 : Nat → Int32 → Int32 → Prop, (∃ n7, I3 n7 (0 : Int32) (0 : Int32)) ∧ (∀ N4 : Nat, ∀ x1 : Int32, ∀ x2 : Int32, I3 N4 x1 x2 → (((S.1 11 1 10) ≤ x2 → (Q x1 S)) ∧ (¬ (S.1 11 1 10) ≤ x2 → ((0 ≤ ((3 : Int32) * x2).toInt ∧ ((3 : Int32) * x2).toInt < 36) ∧ (∃ q13, q13 < N4 ∧ I3 q13 (x1 + ((1 : Int32) - (F_takes (S.1 51 1 ((3 : Int32) * x2).toNatClampNeg)))) (x2 + 1)))))))
set_option maxRecDepth 100000 in
set_option maxHeartbeats 4000000 in
theorem ok_M_pileOfDraft {S : hs_S} {Q : Int32 → hs_S → Prop} (hw : hs_Wi S) (hv : vc_M_pileOfDraft S Q) : m_M_pileOfDraft S Q := by
  unfold vc_M_pileOfDraft at hv
  refine hs_body (own := RX11) rfl rfl (Nat.le_of_ble_eq_true rfl) (fun Z X E N J0 => ?_)
  show wa Z 0 0 S 0 [(0, .inr (.inr (11, 1)))] []
  refine wa_iconst X dX11_pileOfDraft_0 kc0 ?_
  refine wa_istore_n X (lv' := [(1, .inl (0 : Int32)), (0, .inr (.inr (11, 1)))]) dX11_pileOfDraft_1 rfl (by decide) rfl ?_
  refine wa_iconst X dX11_pileOfDraft_2 kc0 ?_
  refine wa_istore_n X (lv' := [(2, .inl (0 : Int32)), (1, .inl (0 : Int32)), (0, .inr (.inr (11, 1)))]) dX11_pileOfDraft_3 rfl (by decide) rfl ?_
  obtain ⟨I3, ⟨n7, i5⟩, b6⟩ := hv
  refine wa_lv (lv' := [(0, .inr (.inr (11, 1))), (1, .inl (0 : Int32)), (2, .inl (0 : Int32))]) [2, 1, 0] rfl ?_
  suffices L8 : ∀ N4 : Nat, ∀ x1 : Int32, ∀ x2 : Int32, I3 N4 x1 x2 → wa Z 0 0 S 4 [(0, .inr (.inr (11, 1))), (1, .inl x1), (2, .inl x2)] [] from L8 _ _ _ i5
  clear i5
  intro N4
  induction N4 using Nat.strongRecOn with
  | _ N4 h9 =>
    intro x1 x2 j10
    have hv := b6 N4 x1 x2 j10
    refine wa_iload_n X 2 rfl dX11_pileOfDraft_4 rfl ?_
    refine wa_aload_n X 0 rfl dX11_pileOfDraft_5 rfl ?_
    refine wa_getI X (j := 10) hk_11 hc_11 i_11 (by decide) kw_1194 rfl dX11_pileOfDraft_6 hs_1ne ?_
    refine wa_icmp_ge X (tgt := 34) dX11_pileOfDraft_9 (by decide) (fun c11 => ?_) (fun c11 => ?_)
    · replace hv := hv.1 c11
      refine wa_iload_n X 1 rfl dX11_pileOfDraft_34 rfl ?_
      exact wa_ireturn X E dX11_pileOfDraft_35 (Nat.le_of_ble_eq_true rfl) (Nat.le_of_ble_eq_true rfl) (Or.inl rfl) ⟨hw, _, rfl, hv⟩
    · replace hv := hv.2 c11
      refine wa_iload_n X 1 rfl dX11_pileOfDraft_12 rfl ?_
      refine wa_iconst X dX11_pileOfDraft_13 kc1 ?_
      refine wa_aload_n X 0 rfl dX11_pileOfDraft_14 rfl ?_
      refine wa_getfw X hw (j := 11) (r := 1) hk_11 hc_11 i_11 (by decide) kw_1195 rfl rfl (by decide) rfl dX11_pileOfDraft_15 hs_1ne ?_
      refine wa_iconst X dX11_pileOfDraft_18 kc3 ?_
      refine wa_iload_n X 2 rfl dX11_pileOfDraft_19 rfl ?_
      refine wa_imul X dX11_pileOfDraft_20 ?_
      obtain ⟨o12, hv⟩ := hv
      refine wa_iald X hk_51 dX11_pileOfDraft_21 hs_1ne o12 ?_
      refine wa_callS X (As := [.inl (S.1 51 1 ((3 : Int32) * x2).toNatClampNeg)]) (f_M_takes) kw_1427 kw_66 kw_1425 kw_1426 nd_X11_takes rfl rfl (Nat.le_of_ble_eq_true rfl) dX11_pileOfDraft_22 ⟨⟨Nat.le_of_ble_eq_true rfl, Nat.le_of_ble_eq_true rfl⟩, Nat.le_of_ble_eq_true rfl, Nat.le_of_ble_eq_true rfl⟩ (hs_pdk fun _ hS0 _ => hS0 ▸ ?_) (fun _ _ h => h.elim)
      refine wa_isub X dX11_pileOfDraft_25 ?_
      refine wa_iadd X dX11_pileOfDraft_26 ?_
      refine wa_istore_n X (lv' := [(1, .inl (x1 + ((1 : Int32) - (F_takes (S.1 51 1 ((3 : Int32) * x2).toNatClampNeg))))), (0, .inr (.inr (11, 1))), (2, .inl x2)]) dX11_pileOfDraft_27 rfl (by decide) rfl ?_
      refine wa_iinc X (v := (x2 + 1)) (lv' := [(2, .inl (x2 + 1)), (1, .inl (x1 + ((1 : Int32) - (F_takes (S.1 51 1 ((3 : Int32) * x2).toNatClampNeg))))), (0, .inr (.inr (11, 1)))]) 2 rfl dX11_pileOfDraft_28 rfl (by decide) rfl ?_
      refine wa_goto X (tgt := 4) dX11_pileOfDraft_31 (by decide) ?_
      obtain ⟨q13, p14, hv⟩ := hv
      refine wa_lv (lv' := [(0, .inr (.inr (11, 1))), (1, .inl (x1 + ((1 : Int32) - (F_takes (S.1 51 1 ((3 : Int32) * x2).toNatClampNeg))))), (2, .inl (x2 + 1))]) [2, 1, 0] rfl ?_
      exact h9 q13 p14 _ _ hv
def m_M_editAt (a1 : Int32) (a2 : Int32) (S : hs_S) (Q : Int32 → hs_S → Prop) : Prop := hs_M 1 yX11_editAt (.code yX11_editAt cX11_editAt 5 (some FieldType.int)) [.inr (.inr (11, 1)), .inl a1, .inl a2] S 0 0 (hs_qI Q) hs_nX
def vc_M_editAt (a1 : Int32) (a2 : Int32) (S : hs_S) (Q : Int32 → hs_S → Prop) : Prop := (∃ I3 : Nat → Int32 → Int32 → Prop, (∃ n7, I3 n7 (-1 : Int32) (0 : Int32)) ∧ (∀ N4 : Nat, ∀ x1 : Int32, ∀ x2 : Int32, I3 N4 x1 x2 → (((S.1 11 1 12) ≤ x2 → (Q x1 S)) ∧ (¬ (S.1 11 1 12) ≤ x2 → ((0 ≤ x2.toInt ∧ x2.toInt < 60) ∧ ((¬ (S.1 53 1 x2.toNatClampNeg) = a1 → (∃ q14, q14 < N4 ∧ I3 q14 x1 (x2 + 1))) ∧ ((S.1 53 1 x2.toNatClampNeg) = a1 → ((0 ≤ x2.toInt ∧ x2.toInt < 60) ∧ ((a2 < (S.1 56 1 x2.toNatClampNeg) → (∃ q18, q18 < N4 ∧ I3 q18 x1 (x2 + 1))) ∧ (¬ a2 < (S.1 56 1 x2.toNatClampNeg) → ((0 ≤ x2.toInt ∧ x2.toInt < 60) ∧ ((¬ (S.1 58 1 x2.toNatClampNeg) = 0 → (∃ q22, q22 < N4 ∧ I3 q22 x1 (x2 + 1))) ∧ ((S.1 58 1 x2.toNatClampNeg) = 0 → (∃ q24, q24 < N4 ∧ I3 q24 x2 (x2 + 1)))))))))))))))
set_option maxRecDepth 100000 in
set_option maxHeartbeats 4000000 in
theorem ok_M_editAt {a1 : Int32} {a2 : Int32} {S : hs_S} {Q : Int32 → hs_S → Prop} (hw : hs_Wi S) (hv : vc_M_editAt a1 a2 S Q) : m_M_editAt a1 a2 S Q := by
  unfold vc_M_editAt at hv
  refine hs_body (own := RX11) rfl rfl (Nat.le_of_ble_eq_true rfl) (fun Z X E N J0 => ?_)
  show wa Z 0 0 S 0 [(0, .inr (.inr (11, 1))), (1, .inl a1), (2, .inl a2)] []
  refine wa_iconst X dX11_editAt_0 kcm1 ?_
  refine wa_istore_n X (lv' := [(3, .inl (-1 : Int32)), (0, .inr (.inr (11, 1))), (1, .inl a1), (2, .inl a2)]) dX11_editAt_1 rfl (by decide) rfl ?_
  refine wa_iconst X dX11_editAt_2 kc0 ?_
  refine wa_istore X (lv' := [(4, .inl (0 : Int32)), (3, .inl (-1 : Int32)), (0, .inr (.inr (11, 1))), (1, .inl a1), (2, .inl a2)]) dX11_editAt_3 (by decide) rfl ?_
  obtain ⟨I3, ⟨n7, i5⟩, b6⟩ := hv
  refine wa_lv (lv' := [(0, .inr (.inr (11, 1))), (1, .inl a1), (2, .inl a2), (3, .inl (-1 : Int32)), (4, .inl (0 : Int32))]) [2, 3, 4, 1, 0] rfl ?_
  suffices L8 : ∀ N4 : Nat, ∀ x1 : Int32, ∀ x2 : Int32, I3 N4 x1 x2 → wa Z 0 0 S 5 [(0, .inr (.inr (11, 1))), (1, .inl a1), (2, .inl a2), (3, .inl x1), (4, .inl x2)] [] from L8 _ _ _ i5
  clear i5
  intro N4
  induction N4 using Nat.strongRecOn with
  | _ N4 h9 =>
    intro x1 x2 j10
    have hv := b6 N4 x1 x2 j10
    refine wa_iload X 4 rfl dX11_editAt_5 ?_
    refine wa_aload_n X 0 rfl dX11_editAt_7 rfl ?_
    refine wa_getI X (j := 12) hk_11 hc_11 i_11 (by decide) kw_1196 rfl dX11_editAt_8 hs_1ne ?_
    refine wa_icmp_ge X (tgt := 59) dX11_editAt_11 (by decide) (fun c11 => ?_) (fun c11 => ?_)
    · replace hv := hv.1 c11
      refine wa_iload_n X 3 rfl dX11_editAt_59 rfl ?_
      exact wa_ireturn X E dX11_editAt_60 (Nat.le_of_ble_eq_true rfl) (Nat.le_of_ble_eq_true rfl) (Or.inl rfl) ⟨hw, _, rfl, hv⟩
    · replace hv := hv.2 c11
      refine wa_aload_n X 0 rfl dX11_editAt_14 rfl ?_
      refine wa_getfw X hw (j := 13) (r := 1) hk_11 hc_11 i_11 (by decide) kw_1197 rfl rfl (by decide) rfl dX11_editAt_15 hs_1ne ?_
      refine wa_iload X 4 rfl dX11_editAt_18 ?_
      obtain ⟨o12, hv⟩ := hv
      refine wa_iald X hk_53 dX11_editAt_20 hs_1ne o12 ?_
      refine wa_iload_n X 1 rfl dX11_editAt_21 rfl ?_
      refine wa_icmp_ne X (tgt := 51) dX11_editAt_22 (by decide) (fun c13 => ?_) (fun c13 => ?_)
      · replace hv := hv.1 c13
        refine wa_iload_n X 3 rfl dX11_editAt_51 rfl ?_
        refine wa_istore_n X (lv' := [(3, .inl x1), (0, .inr (.inr (11, 1))), (1, .inl a1), (2, .inl a2), (4, .inl x2)]) dX11_editAt_52 rfl (by decide) rfl ?_
        refine wa_iinc X (v := (x2 + 1)) (lv' := [(4, .inl (x2 + 1)), (3, .inl x1), (0, .inr (.inr (11, 1))), (1, .inl a1), (2, .inl a2)]) 4 rfl dX11_editAt_53 rfl (by decide) rfl ?_
        refine wa_goto X (tgt := 5) dX11_editAt_56 (by decide) ?_
        obtain ⟨q14, p15, hv⟩ := hv
        refine wa_lv (lv' := [(0, .inr (.inr (11, 1))), (1, .inl a1), (2, .inl a2), (3, .inl x1), (4, .inl (x2 + 1))]) [2, 3, 4, 1, 0] rfl ?_
        exact h9 q14 p15 _ _ hv
      · replace hv := hv.2 c13
        refine wa_aload_n X 0 rfl dX11_editAt_25 rfl ?_
        refine wa_getfw X hw (j := 16) (r := 1) hk_11 hc_11 i_11 (by decide) kw_1200 rfl rfl (by decide) rfl dX11_editAt_26 hs_1ne ?_
        refine wa_iload X 4 rfl dX11_editAt_29 ?_
        obtain ⟨o16, hv⟩ := hv
        refine wa_iald X hk_56 dX11_editAt_31 hs_1ne o16 ?_
        refine wa_iload_n X 2 rfl dX11_editAt_32 rfl ?_
        refine wa_icmp_gt X (tgt := 51) dX11_editAt_33 (by decide) (fun c17 => ?_) (fun c17 => ?_)
        · replace hv := hv.1 c17
          refine wa_iload_n X 3 rfl dX11_editAt_51 rfl ?_
          refine wa_istore_n X (lv' := [(3, .inl x1), (0, .inr (.inr (11, 1))), (1, .inl a1), (2, .inl a2), (4, .inl x2)]) dX11_editAt_52 rfl (by decide) rfl ?_
          refine wa_iinc X (v := (x2 + 1)) (lv' := [(4, .inl (x2 + 1)), (3, .inl x1), (0, .inr (.inr (11, 1))), (1, .inl a1), (2, .inl a2)]) 4 rfl dX11_editAt_53 rfl (by decide) rfl ?_
          refine wa_goto X (tgt := 5) dX11_editAt_56 (by decide) ?_
          obtain ⟨q18, p19, hv⟩ := hv
          refine wa_lv (lv' := [(0, .inr (.inr (11, 1))), (1, .inl a1), (2, .inl a2), (3, .inl x1), (4, .inl (x2 + 1))]) [2, 3, 4, 1, 0] rfl ?_
          exact h9 q18 p19 _ _ hv
        · replace hv := hv.2 c17
          refine wa_aload_n X 0 rfl dX11_editAt_36 rfl ?_
          refine wa_getfw X hw (j := 18) (r := 1) hk_11 hc_11 i_11 (by decide) kw_1202 rfl rfl (by decide) rfl dX11_editAt_37 hs_1ne ?_
          refine wa_iload X 4 rfl dX11_editAt_40 ?_
          obtain ⟨o20, hv⟩ := hv
          refine wa_bald X hk_58 dX11_editAt_42 hs_1ne o20 ?_
          refine wa_if_ne X (tgt := 51) dX11_editAt_43 (by decide) (fun c21 => ?_) (fun c21 => ?_)
          · replace hv := hv.1 c21
            refine wa_iload_n X 3 rfl dX11_editAt_51 rfl ?_
            refine wa_istore_n X (lv' := [(3, .inl x1), (0, .inr (.inr (11, 1))), (1, .inl a1), (2, .inl a2), (4, .inl x2)]) dX11_editAt_52 rfl (by decide) rfl ?_
            refine wa_iinc X (v := (x2 + 1)) (lv' := [(4, .inl (x2 + 1)), (3, .inl x1), (0, .inr (.inr (11, 1))), (1, .inl a1), (2, .inl a2)]) 4 rfl dX11_editAt_53 rfl (by decide) rfl ?_
            refine wa_goto X (tgt := 5) dX11_editAt_56 (by decide) ?_
            obtain ⟨q22, p23, hv⟩ := hv
            refine wa_lv (lv' := [(0, .inr (.inr (11, 1))), (1, .inl a1), (2, .inl a2), (3, .inl x1), (4, .inl (x2 + 1))]) [2, 3, 4, 1, 0] rfl ?_
            exact h9 q22 p23 _ _ hv
          · replace hv := hv.2 c21
            refine wa_iload X 4 rfl dX11_editAt_46 ?_
            refine wa_goto X (tgt := 52) dX11_editAt_48 (by decide) ?_
            refine wa_istore_n X (lv' := [(3, .inl x2), (0, .inr (.inr (11, 1))), (1, .inl a1), (2, .inl a2), (4, .inl x2)]) dX11_editAt_52 rfl (by decide) rfl ?_
            refine wa_iinc X (v := (x2 + 1)) (lv' := [(4, .inl (x2 + 1)), (3, .inl x2), (0, .inr (.inr (11, 1))), (1, .inl a1), (2, .inl a2)]) 4 rfl dX11_editAt_53 rfl (by decide) rfl ?_
            refine wa_goto X (tgt := 5) dX11_editAt_56 (by decide) ?_
            obtain ⟨q24, p25, hv⟩ := hv
            refine wa_lv (lv' := [(0, .inr (.inr (11, 1))), (1, .inl a1), (2, .inl a2), (3, .inl x2), (4, .inl (x2 + 1))]) [2, 3, 4, 1, 0] rfl ?_
            exact h9 q24 p25 _ _ hv
def m_M_isEmptyAt (a1 : Int32) (a2 : Int32) (S : hs_S) (Q : Int32 → hs_S → Prop) : Prop := hs_M 2 yX11_isEmptyAt (.code yX11_isEmptyAt cX11_isEmptyAt 4 (some FieldType.boolean)) [.inr (.inr (11, 1)), .inl a1, .inl a2] S 0 0 (hs_qI Q) hs_nX
def vc_M_isEmptyAt (a1 : Int32) (a2 : Int32) (S : hs_S) (Q : Int32 → hs_S → Prop) : Prop := ((P_editAt a1 a2 S) ∧ (((F_editAt a1 a2 S) = (-1 : Int32) → (Q (1 : Int32) S)) ∧ (¬ (F_editAt a1 a2 S) = (-1 : Int32) → ((0 ≤ (F_editAt a1 a2 S).toInt ∧ (F_editAt a1 a2 S).toInt < 60) ∧ ((¬ (S.1 57 1 (F_editAt a1 a2 S).toNatClampNeg) = 0 → (Q (0 : Int32) S)) ∧ ((S.1 57 1 (F_editAt a1 a2 S).toNatClampNeg) = 0 → (Q (1 : Int32) S)))))))
set_option maxRecDepth 100000 in
set_option maxHeartbeats 4000000 in
theorem ok_M_isEmptyAt {a1 : Int32} {a2 : Int32} {S : hs_S} {Q : Int32 → hs_S → Prop} (hw : hs_Wi S) (hv : vc_M_isEmptyAt a1 a2 S Q) : m_M_isEmptyAt a1 a2 S Q := by
  unfold vc_M_isEmptyAt at hv
  refine hs_body (own := RX11) rfl rfl (Nat.le_of_ble_eq_true rfl) (fun Z X E N J0 => ?_)
  show wa Z 0 0 S 0 [(0, .inr (.inr (11, 1))), (1, .inl a1), (2, .inl a2)] []
  refine wa_aload_n X 0 rfl dX11_isEmptyAt_0 rfl ?_
  refine wa_iload_n X 1 rfl dX11_isEmptyAt_1 rfl ?_
  refine wa_iload_n X 2 rfl dX11_isEmptyAt_2 rfl ?_
  obtain ⟨o1, hv⟩ := hv
  refine wa_callV X (As := [.inl a1, .inl a2]) (f_M_editAt hw o1) hk_11 hc_11 rfl kw_1471 kw_66 kw_1468 kw_1470 kw_31 nd_X11_editAt rfl rfl (Nat.le_of_ble_eq_true rfl) dX11_isEmptyAt_3 hs_1ne ⟨⟨Nat.le_of_ble_eq_true rfl, Nat.le_of_ble_eq_true rfl⟩, Nat.le_of_ble_eq_true rfl, Nat.le_of_ble_eq_true rfl⟩ (hs_pdk fun _ hS0 _ => hS0 ▸ ?_) (fun _ _ h => h.elim)
  refine wa_istore_n X (lv' := [(3, .inl (F_editAt a1 a2 S)), (0, .inr (.inr (11, 1))), (1, .inl a1), (2, .inl a2)]) dX11_isEmptyAt_6 rfl (by decide) rfl ?_
  refine wa_iload_n X 0 rfl dX11_isEmptyAt_7 rfl ?_
  refine wa_iconst X dX11_isEmptyAt_8 kcm1 ?_
  refine wa_icmp_eq X (tgt := 21) dX11_isEmptyAt_9 (by decide) (fun c2 => ?_) (fun c2 => ?_)
  · replace hv := hv.1 c2
    refine wa_iconst X dX11_isEmptyAt_21 kc1 ?_
    refine wa_goto X (tgt := 26) dX11_isEmptyAt_22 (by decide) ?_
    exact wa_ireturn X E dX11_isEmptyAt_26 (Nat.le_of_ble_eq_true rfl) (Nat.le_of_ble_eq_true rfl) (Or.inr ⟨rfl, Or.inr rfl⟩) ⟨hw, _, rfl, hv⟩
  · replace hv := hv.2 c2
    refine wa_aload_n X 1 rfl dX11_isEmptyAt_12 rfl ?_
    refine wa_getfw X hw (j := 17) (r := 1) hk_11 hc_11 i_11 (by decide) kw_1201 rfl rfl (by decide) rfl dX11_isEmptyAt_13 hs_1ne ?_
    refine wa_iload_n X 0 rfl dX11_isEmptyAt_16 rfl ?_
    obtain ⟨o3, hv⟩ := hv
    refine wa_iald X hk_57 dX11_isEmptyAt_17 hs_1ne o3 ?_
    refine wa_if_ne X (tgt := 25) dX11_isEmptyAt_18 (by decide) (fun c4 => ?_) (fun c4 => ?_)
    · replace hv := hv.1 c4
      refine wa_iconst X dX11_isEmptyAt_25 kc0 ?_
      exact wa_ireturn X E dX11_isEmptyAt_26 (Nat.le_of_ble_eq_true rfl) (Nat.le_of_ble_eq_true rfl) (Or.inr ⟨rfl, Or.inl rfl⟩) ⟨hw, _, rfl, hv⟩
    · replace hv := hv.2 c4
      refine wa_iconst X dX11_isEmptyAt_21 kc1 ?_
      refine wa_goto X (tgt := 26) dX11_isEmptyAt_22 (by decide) ?_
      exact wa_ireturn X E dX11_isEmptyAt_26 (Nat.le_of_ble_eq_true rfl) (Nat.le_of_ble_eq_true rfl) (Or.inr ⟨rfl, Or.inr rfl⟩) ⟨hw, _, rfl, hv⟩
def m_M_isFinding (a1 : Int32) (S : hs_S) (Q : Int32 → hs_S → Prop) : Prop := hs_M 1 yX11_isFinding (.code yX11_isFinding cX11_isFinding 4 (some FieldType.boolean)) [.inr (.inr (11, 1)), .inl a1] S 0 0 (hs_qI Q) hs_nX
def vc_M_isFinding (a1 : Int32) (S : hs_S) (Q : Int32 → hs_S → Prop) : Prop := (∃ I3 : Nat → Int32 → Int32 → Prop, (∃ n7, I3 n7 (0 : Int32) (0 : Int32)) ∧ (∀ N4 : Nat, ∀ x1 : Int32, ∀ x2 : Int32, I3 N4 x1 x2 → (((S.1 11 1 53) ≤ x2 → ((x1 = 0 ∨ x1 = 1) ∧ (Q x1 S))) ∧ (¬ (S.1 11 1 53) ≤ x2 → ((¬ x1 = 0 → (∃ q14, q14 < N4 ∧ I3 q14 (1 : Int32) (x2 + 1))) ∧ (x1 = 0 → ((0 ≤ x2.toInt ∧ x2.toInt < 25) ∧ ((¬ (S.1 89 1 x2.toNatClampNeg) = a1 → (∃ q18, q18 < N4 ∧ I3 q18 (0 : Int32) (x2 + 1))) ∧ ((S.1 89 1 x2.toNatClampNeg) = a1 → (∃ q20, q20 < N4 ∧ I3 q20 (1 : Int32) (x2 + 1)))))))))))
set_option maxRecDepth 100000 in
set_option maxHeartbeats 4000000 in
theorem ok_M_isFinding {a1 : Int32} {S : hs_S} {Q : Int32 → hs_S → Prop} (hw : hs_Wi S) (hv : vc_M_isFinding a1 S Q) : m_M_isFinding a1 S Q := by
  unfold vc_M_isFinding at hv
  refine hs_body (own := RX11) rfl rfl (Nat.le_of_ble_eq_true rfl) (fun Z X E N J0 => ?_)
  show wa Z 0 0 S 0 [(0, .inr (.inr (11, 1))), (1, .inl a1)] []
  refine wa_iconst X dX11_isFinding_0 kc0 ?_
  refine wa_istore_n X (lv' := [(2, .inl (0 : Int32)), (0, .inr (.inr (11, 1))), (1, .inl a1)]) dX11_isFinding_1 rfl (by decide) rfl ?_
  refine wa_iconst X dX11_isFinding_2 kc0 ?_
  refine wa_istore_n X (lv' := [(3, .inl (0 : Int32)), (2, .inl (0 : Int32)), (0, .inr (.inr (11, 1))), (1, .inl a1)]) dX11_isFinding_3 rfl (by decide) rfl ?_
  obtain ⟨I3, ⟨n7, i5⟩, b6⟩ := hv
  refine wa_lv (lv' := [(0, .inr (.inr (11, 1))), (1, .inl a1), (2, .inl (0 : Int32)), (3, .inl (0 : Int32))]) [2, 3, 1, 0] rfl ?_
  suffices L8 : ∀ N4 : Nat, ∀ x1 : Int32, ∀ x2 : Int32, I3 N4 x1 x2 → wa Z 0 0 S 4 [(0, .inr (.inr (11, 1))), (1, .inl a1), (2, .inl x1), (3, .inl x2)] [] from L8 _ _ _ i5
  clear i5
  intro N4
  induction N4 using Nat.strongRecOn with
  | _ N4 h9 =>
    intro x1 x2 j10
    have hv := b6 N4 x1 x2 j10
    refine wa_iload_n X 3 rfl dX11_isFinding_4 rfl ?_
    refine wa_aload_n X 0 rfl dX11_isFinding_5 rfl ?_
    refine wa_getI X (j := 53) hk_11 hc_11 i_11 (by decide) kw_1237 rfl dX11_isFinding_6 hs_1ne ?_
    refine wa_icmp_ge X (tgt := 38) dX11_isFinding_9 (by decide) (fun c11 => ?_) (fun c11 => ?_)
    · replace hv := hv.1 c11
      refine wa_iload_n X 2 rfl dX11_isFinding_38 rfl ?_
      obtain ⟨o12, hv⟩ := hv
      exact wa_ireturn X E dX11_isFinding_39 (Nat.le_of_ble_eq_true rfl) (Nat.le_of_ble_eq_true rfl) (Or.inr ⟨rfl, o12⟩) ⟨hw, _, rfl, hv⟩
    · replace hv := hv.2 c11
      refine wa_iload_n X 2 rfl dX11_isFinding_12 rfl ?_
      refine wa_if_ne X (tgt := 26) dX11_isFinding_13 (by decide) (fun c13 => ?_) (fun c13 => ?_)
      · replace hv := hv.1 c13
        refine wa_iconst X dX11_isFinding_26 kc1 ?_
        refine wa_goto X (tgt := 31) dX11_isFinding_27 (by decide) ?_
        refine wa_istore_n X (lv' := [(2, .inl (1 : Int32)), (0, .inr (.inr (11, 1))), (1, .inl a1), (3, .inl x2)]) dX11_isFinding_31 rfl (by decide) rfl ?_
        refine wa_iinc X (v := (x2 + 1)) (lv' := [(3, .inl (x2 + 1)), (2, .inl (1 : Int32)), (0, .inr (.inr (11, 1))), (1, .inl a1)]) 3 rfl dX11_isFinding_32 rfl (by decide) rfl ?_
        refine wa_goto X (tgt := 4) dX11_isFinding_35 (by decide) ?_
        obtain ⟨q14, p15, hv⟩ := hv
        refine wa_lv (lv' := [(0, .inr (.inr (11, 1))), (1, .inl a1), (2, .inl (1 : Int32)), (3, .inl (x2 + 1))]) [2, 3, 1, 0] rfl ?_
        exact h9 q14 p15 _ _ hv
      · replace hv := hv.2 c13
        refine wa_aload_n X 0 rfl dX11_isFinding_16 rfl ?_
        refine wa_getfw X hw (j := 49) (r := 1) hk_11 hc_11 i_11 (by decide) kw_1233 rfl rfl (by decide) rfl dX11_isFinding_17 hs_1ne ?_
        refine wa_iload_n X 3 rfl dX11_isFinding_20 rfl ?_
        obtain ⟨o16, hv⟩ := hv
        refine wa_iald X hk_89 dX11_isFinding_21 hs_1ne o16 ?_
        refine wa_iload_n X 1 rfl dX11_isFinding_22 rfl ?_
        refine wa_icmp_ne X (tgt := 30) dX11_isFinding_23 (by decide) (fun c17 => ?_) (fun c17 => ?_)
        · replace hv := hv.1 c17
          refine wa_iconst X dX11_isFinding_30 kc0 ?_
          refine wa_istore_n X (lv' := [(2, .inl (0 : Int32)), (0, .inr (.inr (11, 1))), (1, .inl a1), (3, .inl x2)]) dX11_isFinding_31 rfl (by decide) rfl ?_
          refine wa_iinc X (v := (x2 + 1)) (lv' := [(3, .inl (x2 + 1)), (2, .inl (0 : Int32)), (0, .inr (.inr (11, 1))), (1, .inl a1)]) 3 rfl dX11_isFinding_32 rfl (by decide) rfl ?_
          refine wa_goto X (tgt := 4) dX11_isFinding_35 (by decide) ?_
          obtain ⟨q18, p19, hv⟩ := hv
          refine wa_lv (lv' := [(0, .inr (.inr (11, 1))), (1, .inl a1), (2, .inl (0 : Int32)), (3, .inl (x2 + 1))]) [2, 3, 1, 0] rfl ?_
          exact h9 q18 p19 _ _ hv
        · replace hv := hv.2 c17
          refine wa_iconst X dX11_isFinding_26 kc1 ?_
          refine wa_goto X (tgt := 31) dX11_isFinding_27 (by decide) ?_
          refine wa_istore_n X (lv' := [(2, .inl (1 : Int32)), (0, .inr (.inr (11, 1))), (1, .inl a1), (3, .inl x2)]) dX11_isFinding_31 rfl (by decide) rfl ?_
          refine wa_iinc X (v := (x2 + 1)) (lv' := [(3, .inl (x2 + 1)), (2, .inl (1 : Int32)), (0, .inr (.inr (11, 1))), (1, .inl a1)]) 3 rfl dX11_isFinding_32 rfl (by decide) rfl ?_
          refine wa_goto X (tgt := 4) dX11_isFinding_35 (by decide) ?_
          obtain ⟨q20, p21, hv⟩ := hv
          refine wa_lv (lv' := [(0, .inr (.inr (11, 1))), (1, .inl a1), (2, .inl (1 : Int32)), (3, .inl (x2 + 1))]) [2, 3, 1, 0] rfl ?_
          exact h9 q20 p21 _ _ hv
