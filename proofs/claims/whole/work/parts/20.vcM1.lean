def F_thrown (S : hs_S) : Int32 := S.1 11 1 59
def m_M_thrown (S : hs_S) (Q : Int32 → hs_S → Prop) : Prop := hs_M 1 yX11_thrown (.code yX11_thrown cX11_thrown 1 (some FieldType.int)) [.inr (.inr (11, 1))] S 0 0 (hs_qI Q) hs_nX
def vc_M_thrown (S : hs_S) (Q : Int32 → hs_S → Prop) : Prop := (Q (S.1 11 1 59) S)
set_option maxRecDepth 100000 in
set_option maxHeartbeats 4000000 in
theorem ok_M_thrown {S : hs_S} {Q : Int32 → hs_S → Prop} (hw : hs_Wi S) (hv : vc_M_thrown S Q) : m_M_thrown S Q := by
  unfold vc_M_thrown at hv
  refine hs_body (own := RX11) rfl rfl (Nat.le_of_ble_eq_true rfl) (fun Z X E N J0 => ?_)
  show wa Z 0 0 S 0 [(0, .inr (.inr (11, 1)))] []
  refine wa_aload_n X 0 rfl dX11_thrown_0 rfl ?_
  refine wa_getI X (j := 59) hk_11 hc_11 i_11 (by decide) kw_1243 rfl dX11_thrown_1 hs_1ne ?_
  exact wa_ireturn X E dX11_thrown_4 (Nat.le_of_ble_eq_true rfl) (Nat.le_of_ble_eq_true rfl) (Or.inl rfl) ⟨hw, _, rfl, hv⟩
theorem v_M_thrown {S : hs_S} : vc_M_thrown S (fun r S' => r = F_thrown S ∧ S' = S) := ⟨rfl, rfl⟩
theorem f_M_thrown {S : hs_S} (hw : hs_Wi S) : hs_M 1 yX11_thrown (.code yX11_thrown cX11_thrown 1 (some FieldType.int)) [.inr (.inr (11, 1))] S 0 0 (hs_pd (some (.inl (F_thrown S))) S) hs_nX := hs_pdI (ok_M_thrown hw (v_M_thrown))

def E_fails (a1 : Int32) (S : hs_S) : hs_S := hs_wI S 11 1 59 a1
def m_M_fails (a1 : Int32) (S : hs_S) (Q : Int32 → hs_S → Prop) : Prop := hs_M 1 yX11_fails (.code yX11_fails cX11_fails 2 (some FieldType.int)) [.inr (.inr (11, 1)), .inl a1] S 0 0 (hs_qI Q) hs_nX
def vc_M_fails (a1 : Int32) (S : hs_S) (Q : Int32 → hs_S → Prop) : Prop := (∀ S1 : hs_S, S1 = (hs_wI S 11 1 59 a1) → (Q (0 : Int32) S1))
set_option maxRecDepth 100000 in
set_option maxHeartbeats 4000000 in
theorem ok_M_fails {a1 : Int32} {S : hs_S} {Q : Int32 → hs_S → Prop} (hw : hs_Wi S) (hv : vc_M_fails a1 S Q) : m_M_fails a1 S Q := by
  unfold vc_M_fails at hv
  refine hs_body (own := RX11) rfl rfl (Nat.le_of_ble_eq_true rfl) (fun Z X E N J0 => ?_)
  show wa Z 0 0 S 0 [(0, .inr (.inr (11, 1))), (1, .inl a1)] []
  refine wa_aload_n X 0 rfl dX11_fails_0 rfl ?_
  refine wa_iload_n X 1 rfl dX11_fails_1 rfl ?_
  refine wa_putI X (j := 59) hk_11 hc_11 i_11 tyX11 tyX11_ok nmX11 (by decide) kw_1243 rfl rfl dX11_fails_2 hs_1ne ⟨rfl, Or.inl rfl⟩ (hs_eqS fun S1 hS1 => ?_)
  replace hv := hv S1 hS1
  replace hw : hs_Wi S1 := hS1 ▸ hs_Wi_I hw
  refine wa_iconst X dX11_fails_5 kc0 ?_
  exact wa_ireturn X E dX11_fails_6 (Nat.le_of_ble_eq_true rfl) (Nat.le_of_ble_eq_true rfl) (Or.inl rfl) ⟨hw, _, rfl, hv⟩
theorem v_M_fails {a1 : Int32} {S : hs_S} : vc_M_fails a1 S (fun r S' => r = 0 ∧ S' = E_fails a1 S) := fun _ h => ⟨rfl, h⟩
theorem f_M_fails {a1 : Int32} {S : hs_S} (hw : hs_Wi S) : hs_M 1 yX11_fails (.code yX11_fails cX11_fails 2 (some FieldType.int)) [.inr (.inr (11, 1)), .inl a1] S 0 0 (hs_pd (some (.inl (0 : Int32))) (E_fails a1 S)) hs_nX := hs_pdI (ok_M_fails hw (v_M_fails))

def P_asks (a1 : Int32) (S : hs_S) : Prop := a1 = 0 ∨ a1 = 1
def E_asks (a1 : Int32) (S : hs_S) : hs_S := hs_wI S 11 1 59 (if a1 = 0 then 1 else 0)
def m_M_asks (a1 : Int32) (S : hs_S) (Q : Int32 → hs_S → Prop) : Prop := hs_M 1 yX11_asks (.code yX11_asks cX11_asks 2 (some FieldType.boolean)) [.inr (.inr (11, 1)), .inl a1] S 0 0 (hs_qI Q) hs_nX
def vc_M_asks (a1 : Int32) (S : hs_S) (Q : Int32 → hs_S → Prop) : Prop := ((a1 = 0 → (∀ S2 : hs_S, S2 = (hs_wI S 11 1 59 (1 : Int32)) → ((a1 = 0 ∨ a1 = 1) ∧ (Q a1 S2)))) ∧ (¬ a1 = 0 → (∀ S4 : hs_S, S4 = (hs_wI S 11 1 59 (0 : Int32)) → ((a1 = 0 ∨ a1 = 1) ∧ (Q a1 S4)))))
set_option maxRecDepth 100000 in
set_option maxHeartbeats 4000000 in
theorem ok_M_asks {a1 : Int32} {S : hs_S} {Q : Int32 → hs_S → Prop} (hw : hs_Wi S) (hv : vc_M_asks a1 S Q) : m_M_asks a1 S Q := by
  unfold vc_M_asks at hv
  refine hs_body (own := RX11) rfl rfl (Nat.le_of_ble_eq_true rfl) (fun Z X E N J0 => ?_)
  show wa Z 0 0 S 0 [(0, .inr (.inr (11, 1))), (1, .inl a1)] []
  refine wa_aload_n X 0 rfl dX11_asks_0 rfl ?_
  refine wa_iload_n X 1 rfl dX11_asks_1 rfl ?_
  refine wa_if_eq X (tgt := 9) dX11_asks_2 (by decide) (fun c1 => ?_) (fun c1 => ?_)
  · replace hv := hv.1 c1
    refine wa_iconst X dX11_asks_9 kc1 ?_
    refine wa_putI X (j := 59) hk_11 hc_11 i_11 tyX11 tyX11_ok nmX11 (by decide) kw_1243 rfl rfl dX11_asks_10 hs_1ne ⟨rfl, Or.inl rfl⟩ (hs_eqS fun S2 hS2 => ?_)
    replace hv := hv S2 hS2
    replace hw : hs_Wi S2 := hS2 ▸ hs_Wi_I hw
    refine wa_iload_n X 1 rfl dX11_asks_13 rfl ?_
    obtain ⟨o3, hv⟩ := hv
    exact wa_ireturn X E dX11_asks_14 (Nat.le_of_ble_eq_true rfl) (Nat.le_of_ble_eq_true rfl) (Or.inr ⟨rfl, o3⟩) ⟨hw, _, rfl, hv⟩
  · replace hv := hv.2 c1
    refine wa_iconst X dX11_asks_5 kc0 ?_
    refine wa_goto X (tgt := 10) dX11_asks_6 (by decide) ?_
    refine wa_putI X (j := 59) hk_11 hc_11 i_11 tyX11 tyX11_ok nmX11 (by decide) kw_1243 rfl rfl dX11_asks_10 hs_1ne ⟨rfl, Or.inl rfl⟩ (hs_eqS fun S4 hS4 => ?_)
    replace hv := hv S4 hS4
    replace hw : hs_Wi S4 := hS4 ▸ hs_Wi_I hw
    refine wa_iload_n X 1 rfl dX11_asks_13 rfl ?_
    obtain ⟨o5, hv⟩ := hv
    exact wa_ireturn X E dX11_asks_14 (Nat.le_of_ble_eq_true rfl) (Nat.le_of_ble_eq_true rfl) (Or.inr ⟨rfl, o5⟩) ⟨hw, _, rfl, hv⟩
theorem v_M_asks {a1 : Int32} {S : hs_S} (hP : P_asks a1 S) : vc_M_asks a1 S (fun r S' => r = a1 ∧ S' = E_asks a1 S) := by
  unfold vc_M_asks E_asks
  refine ⟨fun h S2 h2 => ⟨hP, rfl, by rw [h2, if_pos h]⟩, fun h S2 h2 => ⟨hP, rfl, by rw [h2, if_neg h]⟩⟩
theorem f_M_asks {a1 : Int32} {S : hs_S} (hw : hs_Wi S) (hP : P_asks a1 S) : hs_M 1 yX11_asks (.code yX11_asks cX11_asks 2 (some FieldType.boolean)) [.inr (.inr (11, 1)), .inl a1] S 0 0 (hs_pd (some (.inl a1)) (E_asks a1 S)) hs_nX := hs_pdI (ok_M_asks hw (v_M_asks hP))

def E_act (a1 : Int32) (S : hs_S) : hs_S := hs_wI S 11 1 0 (S.1 11 1 0 + 1)
def m_M_act (a1 : Int32) (S : hs_S) (Q : Int32 → hs_S → Prop) : Prop := hs_M 1 yX11_act (.code yX11_act cX11_act 2 (some FieldType.int)) [.inr (.inr (11, 1)), .inl a1] S 0 0 (hs_qI Q) hs_nX
def vc_M_act (a1 : Int32) (S : hs_S) (Q : Int32 → hs_S → Prop) : Prop := (∀ S1 : hs_S, S1 = (hs_wI S 11 1 0 ((S.1 11 1 0) + (1 : Int32))) → (Q a1 S1))
set_option maxRecDepth 100000 in
set_option maxHeartbeats 4000000 in
theorem ok_M_act {a1 : Int32} {S : hs_S} {Q : Int32 → hs_S → Prop} (hw : hs_Wi S) (hv : vc_M_act a1 S Q) : m_M_act a1 S Q := by
  unfold vc_M_act at hv
  refine hs_body (own := RX11) rfl rfl (Nat.le_of_ble_eq_true rfl) (fun Z X E N J0 => ?_)
  show wa Z 0 0 S 0 [(0, .inr (.inr (11, 1))), (1, .inl a1)] []
  refine wa_aload_n X 0 rfl dX11_act_0 rfl ?_
  refine wa_dup X dX11_act_1 rfl ?_
  refine wa_getI X (j := 0) hk_11 hc_11 i_11 (by decide) kw_1184 rfl dX11_act_2 hs_1ne ?_
  refine wa_iconst X dX11_act_5 kc1 ?_
  refine wa_iadd X dX11_act_6 ?_
  refine wa_putI X (j := 0) hk_11 hc_11 i_11 tyX11 tyX11_ok nmX11 (by decide) kw_1184 rfl rfl dX11_act_7 hs_1ne ⟨rfl, Or.inl rfl⟩ (hs_eqS fun S1 hS1 => ?_)
  replace hv := hv S1 hS1
  replace hw : hs_Wi S1 := hS1 ▸ hs_Wi_I hw
  refine wa_iload_n X 1 rfl dX11_act_10 rfl ?_
  exact wa_ireturn X E dX11_act_11 (Nat.le_of_ble_eq_true rfl) (Nat.le_of_ble_eq_true rfl) (Or.inl rfl) ⟨hw, _, rfl, hv⟩
theorem v_M_act {a1 : Int32} {S : hs_S} : vc_M_act a1 S (fun r S' => r = a1 ∧ S' = E_act a1 S) := fun _ h => ⟨rfl, h⟩
theorem f_M_act {a1 : Int32} {S : hs_S} (hw : hs_Wi S) : hs_M 1 yX11_act (.code yX11_act cX11_act 2 (some FieldType.int)) [.inr (.inr (11, 1)), .inl a1] S 0 0 (hs_pd (some (.inl a1)) (E_act a1 S)) hs_nX := hs_pdI (ok_M_act hw (v_M_act))

def F_in (a1 a2 a3 : Int32) : Int32 := bI (a2 ≤ a1 ∧ a1 ≤ a3)
def m_M_in (a1 : Int32) (a2 : Int32) (a3 : Int32) (S : hs_S) (Q : Int32 → hs_S → Prop) : Prop := hs_M 1 yX11_in (.code yX11_in cX11_in 3 (some FieldType.boolean)) [.inl a1, .inl a2, .inl a3] S 0 0 (hs_qI Q) hs_nX
def vc_M_in (a1 : Int32) (a2 : Int32) (a3 : Int32) (S : hs_S) (Q : Int32 → hs_S → Prop) : Prop := ((a1 < a2 → (Q (0 : Int32) S)) ∧ (¬ a1 < a2 → ((a3 < a1 → (Q (0 : Int32) S)) ∧ (¬ a3 < a1 → (Q (1 : Int32) S)))))
set_option maxRecDepth 100000 in
set_option maxHeartbeats 4000000 in
theorem ok_M_in {a1 : Int32} {a2 : Int32} {a3 : Int32} {S : hs_S} {Q : Int32 → hs_S → Prop} (hw : hs_Wi S) (hv : vc_M_in a1 a2 a3 S Q) : m_M_in a1 a2 a3 S Q := by
  unfold vc_M_in at hv
  refine hs_body (own := RX11) rfl rfl (Nat.le_of_ble_eq_true rfl) (fun Z X E N J0 => ?_)
  show wa Z 0 0 S 0 [(0, .inl a1), (1, .inl a2), (2, .inl a3)] []
  refine wa_iload_n X 0 rfl dX11_in_0 rfl ?_
  refine wa_iload_n X 1 rfl dX11_in_1 rfl ?_
  refine wa_icmp_lt X (tgt := 14) dX11_in_2 (by decide) (fun c1 => ?_) (fun c1 => ?_)
  · replace hv := hv.1 c1
    refine wa_iconst X dX11_in_14 kc0 ?_
    exact wa_ireturn X E dX11_in_15 (Nat.le_of_ble_eq_true rfl) (Nat.le_of_ble_eq_true rfl) (Or.inr ⟨rfl, Or.inl rfl⟩) ⟨hw, _, rfl, hv⟩
  · replace hv := hv.2 c1
    refine wa_iload_n X 0 rfl dX11_in_5 rfl ?_
    refine wa_iload_n X 2 rfl dX11_in_6 rfl ?_
    refine wa_icmp_gt X (tgt := 14) dX11_in_7 (by decide) (fun c2 => ?_) (fun c2 => ?_)
    · replace hv := hv.1 c2
      refine wa_iconst X dX11_in_14 kc0 ?_
      exact wa_ireturn X E dX11_in_15 (Nat.le_of_ble_eq_true rfl) (Nat.le_of_ble_eq_true rfl) (Or.inr ⟨rfl, Or.inl rfl⟩) ⟨hw, _, rfl, hv⟩
    · replace hv := hv.2 c2
      refine wa_iconst X dX11_in_10 kc1 ?_
      refine wa_goto X (tgt := 15) dX11_in_11 (by decide) ?_
      exact wa_ireturn X E dX11_in_15 (Nat.le_of_ble_eq_true rfl) (Nat.le_of_ble_eq_true rfl) (Or.inr ⟨rfl, Or.inr rfl⟩) ⟨hw, _, rfl, hv⟩
theorem v_M_in {a1 a2 a3 : Int32} {S : hs_S} : vc_M_in a1 a2 a3 S (fun r S' => r = F_in a1 a2 a3 ∧ S' = S) := by
  unfold vc_M_in F_in
  refine ⟨fun h => ⟨(bI_f fun q => ?_).symm, rfl⟩, fun h => ⟨fun h2 => ⟨(bI_f fun q => ?_).symm, rfl⟩, fun h2 => ⟨(bI_t ⟨?_, ?_⟩).symm, rfl⟩⟩⟩
  all_goals (simp only [i32_lt, i32_le] at *; omega)
theorem f_M_in {a1 : Int32} {a2 : Int32} {a3 : Int32} {S : hs_S} (hw : hs_Wi S) : hs_M 1 yX11_in (.code yX11_in cX11_in 3 (some FieldType.boolean)) [.inl a1, .inl a2, .inl a3] S 0 0 (hs_pd (some (.inl (F_in a1 a2 a3))) S) hs_nX := hs_pdI (ok_M_in hw (v_M_in))

def F_isOwner (a1 : Int32) : Int32 := bI (0 ≤ a1 ∧ a1 < 6)
def m_M_isOwner (a1 : Int32) (S : hs_S) (Q : Int32 → hs_S → Prop) : Prop := hs_M 1 yX11_isOwner (.code yX11_isOwner cX11_isOwner 1 (some FieldType.boolean)) [.inl a1] S 0 0 (hs_qI Q) hs_nX
def vc_M_isOwner (a1 : Int32) (S : hs_S) (Q : Int32 → hs_S → Prop) : Prop := ((a1 < 0 → (Q (0 : Int32) S)) ∧ (¬ a1 < 0 → (((6 : Int32) ≤ a1 → (Q (0 : Int32) S)) ∧ (¬ (6 : Int32) ≤ a1 → (Q (1 : Int32) S)))))
set_option maxRecDepth 100000 in
set_option maxHeartbeats 4000000 in
theorem ok_M_isOwner {a1 : Int32} {S : hs_S} {Q : Int32 → hs_S → Prop} (hw : hs_Wi S) (hv : vc_M_isOwner a1 S Q) : m_M_isOwner a1 S Q := by
  unfold vc_M_isOwner at hv
  refine hs_body (own := RX11) rfl rfl (Nat.le_of_ble_eq_true rfl) (fun Z X E N J0 => ?_)
  show wa Z 0 0 S 0 [(0, .inl a1)] []
  refine wa_iload_n X 0 rfl dX11_isOwner_0 rfl ?_
  refine wa_if_lt X (tgt := 14) dX11_isOwner_1 (by decide) (fun c1 => ?_) (fun c1 => ?_)
  · replace hv := hv.1 c1
    refine wa_iconst X dX11_isOwner_14 kc0 ?_
    exact wa_ireturn X E dX11_isOwner_15 (Nat.le_of_ble_eq_true rfl) (Nat.le_of_ble_eq_true rfl) (Or.inr ⟨rfl, Or.inl rfl⟩) ⟨hw, _, rfl, hv⟩
  · replace hv := hv.2 c1
    refine wa_iload_n X 0 rfl dX11_isOwner_4 rfl ?_
    refine wa_bipush X dX11_isOwner_5 kb6 ?_
    refine wa_icmp_ge X (tgt := 14) dX11_isOwner_7 (by decide) (fun c2 => ?_) (fun c2 => ?_)
    · replace hv := hv.1 c2
      refine wa_iconst X dX11_isOwner_14 kc0 ?_
      exact wa_ireturn X E dX11_isOwner_15 (Nat.le_of_ble_eq_true rfl) (Nat.le_of_ble_eq_true rfl) (Or.inr ⟨rfl, Or.inl rfl⟩) ⟨hw, _, rfl, hv⟩
    · replace hv := hv.2 c2
      refine wa_iconst X dX11_isOwner_10 kc1 ?_
      refine wa_goto X (tgt := 15) dX11_isOwner_11 (by decide) ?_
      exact wa_ireturn X E dX11_isOwner_15 (Nat.le_of_ble_eq_true rfl) (Nat.le_of_ble_eq_true rfl) (Or.inr ⟨rfl, Or.inr rfl⟩) ⟨hw, _, rfl, hv⟩
theorem v_M_isOwner {a1 : Int32} {S : hs_S} : vc_M_isOwner a1 S (fun r S' => r = F_isOwner a1 ∧ S' = S) := by
  unfold vc_M_isOwner F_isOwner
  refine ⟨fun h => ⟨(bI_f fun q => ?_).symm, rfl⟩, fun h => ⟨fun h2 => ⟨(bI_f fun q => ?_).symm, rfl⟩, fun h2 => ⟨(bI_t ⟨?_, ?_⟩).symm, rfl⟩⟩⟩
  all_goals (simp only [i32_lt, i32_le] at *; omega)
theorem f_M_isOwner {a1 : Int32} {S : hs_S} (hw : hs_Wi S) : hs_M 1 yX11_isOwner (.code yX11_isOwner cX11_isOwner 1 (some FieldType.boolean)) [.inl a1] S 0 0 (hs_pd (some (.inl (F_isOwner a1))) S) hs_nX := hs_pdI (ok_M_isOwner hw (v_M_isOwner))

def F_isCell (a1 a2 : Int32) : Int32 := bI ((0 ≤ a1 ∧ a1 < 4) ∧ 0 ≤ a2 ∧ a2 < 6)
def m_M_isCell (a1 : Int32) (a2 : Int32) (S : hs_S) (Q : Int32 → hs_S → Prop) : Prop := hs_M 1 yX11_isCell (.code yX11_isCell cX11_isCell 2 (some FieldType.boolean)) [.inl a1, .inl a2] S 0 0 (hs_qI Q) hs_nX
def vc_M_isCell (a1 : Int32) (a2 : Int32) (S : hs_S) (Q : Int32 → hs_S → Prop) : Prop := ((a1 < 0 → (Q (0 : Int32) S)) ∧ (¬ a1 < 0 → (((4 : Int32) ≤ a1 → (Q (0 : Int32) S)) ∧ (¬ (4 : Int32) ≤ a1 → ((a2 < 0 → (Q (0 : Int32) S)) ∧ (¬ a2 < 0 → (((6 : Int32) ≤ a2 → (Q (0 : Int32) S)) ∧ (¬ (6 : Int32) ≤ a2 → (Q (1 : Int32) S)))))))))
set_option maxRecDepth 100000 in
set_option maxHeartbeats 4000000 in
theorem ok_M_isCell {a1 : Int32} {a2 : Int32} {S : hs_S} {Q : Int32 → hs_S → Prop} (hw : hs_Wi S) (hv : vc_M_isCell a1 a2 S Q) : m_M_isCell a1 a2 S Q := by
  unfold vc_M_isCell at hv
  refine hs_body (own := RX11) rfl rfl (Nat.le_of_ble_eq_true rfl) (fun Z X E N J0 => ?_)
  show wa Z 0 0 S 0 [(0, .inl a1), (1, .inl a2)] []
  refine wa_iload_n X 0 rfl dX11_isCell_0 rfl ?_
  refine wa_if_lt X (tgt := 23) dX11_isCell_1 (by decide) (fun c1 => ?_) (fun c1 => ?_)
  · replace hv := hv.1 c1
    refine wa_iconst X dX11_isCell_23 kc0 ?_
    exact wa_ireturn X E dX11_isCell_24 (Nat.le_of_ble_eq_true rfl) (Nat.le_of_ble_eq_true rfl) (Or.inr ⟨rfl, Or.inl rfl⟩) ⟨hw, _, rfl, hv⟩
  · replace hv := hv.2 c1
    refine wa_iload_n X 0 rfl dX11_isCell_4 rfl ?_
    refine wa_iconst X dX11_isCell_5 kc4 ?_
    refine wa_icmp_ge X (tgt := 23) dX11_isCell_6 (by decide) (fun c2 => ?_) (fun c2 => ?_)
    · replace hv := hv.1 c2
      refine wa_iconst X dX11_isCell_23 kc0 ?_
      exact wa_ireturn X E dX11_isCell_24 (Nat.le_of_ble_eq_true rfl) (Nat.le_of_ble_eq_true rfl) (Or.inr ⟨rfl, Or.inl rfl⟩) ⟨hw, _, rfl, hv⟩
    · replace hv := hv.2 c2
      refine wa_iload_n X 1 rfl dX11_isCell_9 rfl ?_
      refine wa_if_lt X (tgt := 23) dX11_isCell_10 (by decide) (fun c3 => ?_) (fun c3 => ?_)
      · replace hv := hv.1 c3
        refine wa_iconst X dX11_isCell_23 kc0 ?_
        exact wa_ireturn X E dX11_isCell_24 (Nat.le_of_ble_eq_true rfl) (Nat.le_of_ble_eq_true rfl) (Or.inr ⟨rfl, Or.inl rfl⟩) ⟨hw, _, rfl, hv⟩
      · replace hv := hv.2 c3
        refine wa_iload_n X 1 rfl dX11_isCell_13 rfl ?_
        refine wa_bipush X dX11_isCell_14 kb6 ?_
        refine wa_icmp_ge X (tgt := 23) dX11_isCell_16 (by decide) (fun c4 => ?_) (fun c4 => ?_)
        · replace hv := hv.1 c4
          refine wa_iconst X dX11_isCell_23 kc0 ?_
          exact wa_ireturn X E dX11_isCell_24 (Nat.le_of_ble_eq_true rfl) (Nat.le_of_ble_eq_true rfl) (Or.inr ⟨rfl, Or.inl rfl⟩) ⟨hw, _, rfl, hv⟩
        · replace hv := hv.2 c4
          refine wa_iconst X dX11_isCell_19 kc1 ?_
          refine wa_goto X (tgt := 24) dX11_isCell_20 (by decide) ?_
          exact wa_ireturn X E dX11_isCell_24 (Nat.le_of_ble_eq_true rfl) (Nat.le_of_ble_eq_true rfl) (Or.inr ⟨rfl, Or.inr rfl⟩) ⟨hw, _, rfl, hv⟩
theorem v_M_isCell {a1 a2 : Int32} {S : hs_S} : vc_M_isCell a1 a2 S (fun r S' => r = F_isCell a1 a2 ∧ S' = S) := by
  unfold vc_M_isCell F_isCell
  refine ⟨fun h => ⟨(bI_f fun q => ?_).symm, rfl⟩, fun h => ⟨fun h2 => ⟨(bI_f fun q => ?_).symm, rfl⟩, fun h2 => ⟨fun h3 => ⟨(bI_f fun q => ?_).symm, rfl⟩, fun h3 => ⟨fun h4 => ⟨(bI_f fun q => ?_).symm, rfl⟩, fun h4 => ⟨(bI_t ⟨⟨?_, ?_⟩, ?_, ?_⟩).symm, rfl⟩⟩⟩⟩⟩
  all_goals (simp only [i32_lt, i32_le] at *; omega)
theorem f_M_isCell {a1 : Int32} {a2 : Int32} {S : hs_S} (hw : hs_Wi S) : hs_M 1 yX11_isCell (.code yX11_isCell cX11_isCell 2 (some FieldType.boolean)) [.inl a1, .inl a2] S 0 0 (hs_pd (some (.inl (F_isCell a1 a2))) S) hs_nX := hs_pdI (ok_M_isCell hw (v_M_isCell))

def F_takes (a1 : Int32) : Int32 := if a1 < 8 then 0 else if a1 = 14 then 3 else 2
def m_M_takes (a1 : Int32) (S : hs_S) (Q : Int32 → hs_S → Prop) : Prop := hs_M 1 yX11_takes (.code yX11_takes cX11_takes 1 (some FieldType.int)) [.inl a1] S 0 0 (hs_qI Q) hs_nX
def vc_M_takes (a1 : Int32) (S : hs_S) (Q : Int32 → hs_S → Prop) : Prop := (((8 : Int32) ≤ a1 → ((¬ a1 = (14 : Int32) → (Q (2 : Int32) S)) ∧ (a1 = (14 : Int32) → (Q (3 : Int32) S)))) ∧ (¬ (8 : Int32) ≤ a1 → (Q (0 : Int32) S)))
set_option maxRecDepth 100000 in
set_option maxHeartbeats 4000000 in
theorem ok_M_takes {a1 : Int32} {S : hs_S} {Q : Int32 → hs_S → Prop} (hw : hs_Wi S) (hv : vc_M_takes a1 S Q) : m_M_takes a1 S Q := by
  unfold vc_M_takes at hv
  refine hs_body (own := RX11) rfl rfl (Nat.le_of_ble_eq_true rfl) (fun Z X E N J0 => ?_)
  show wa Z 0 0 S 0 [(0, .inl a1)] []
  refine wa_iload_n X 0 rfl dX11_takes_0 rfl ?_
  refine wa_bipush X dX11_takes_1 kb8 ?_
  refine wa_icmp_ge X (tgt := 10) dX11_takes_3 (by decide) (fun c1 => ?_) (fun c1 => ?_)
  · replace hv := hv.1 c1
    refine wa_iload_n X 0 rfl dX11_takes_10 rfl ?_
    refine wa_bipush X dX11_takes_11 kb14 ?_
    refine wa_icmp_ne X (tgt := 20) dX11_takes_13 (by decide) (fun c2 => ?_) (fun c2 => ?_)
    · replace hv := hv.1 c2
      refine wa_iconst X dX11_takes_20 kc2 ?_
      exact wa_ireturn X E dX11_takes_21 (Nat.le_of_ble_eq_true rfl) (Nat.le_of_ble_eq_true rfl) (Or.inl rfl) ⟨hw, _, rfl, hv⟩
    · replace hv := hv.2 c2
      refine wa_iconst X dX11_takes_16 kc3 ?_
      refine wa_goto X (tgt := 21) dX11_takes_17 (by decide) ?_
      exact wa_ireturn X E dX11_takes_21 (Nat.le_of_ble_eq_true rfl) (Nat.le_of_ble_eq_true rfl) (Or.inl rfl) ⟨hw, _, rfl, hv⟩
  · replace hv := hv.2 c1
    refine wa_iconst X dX11_takes_6 kc0 ?_
    refine wa_goto X (tgt := 21) dX11_takes_7 (by decide) ?_
    exact wa_ireturn X E dX11_takes_21 (Nat.le_of_ble_eq_true rfl) (Nat.le_of_ble_eq_true rfl) (Or.inl rfl) ⟨hw, _, rfl, hv⟩
theorem v_M_takes {a1 : Int32} {S : hs_S} : vc_M_takes a1 S (fun r S' => r = F_takes a1 ∧ S' = S) := by
  unfold vc_M_takes F_takes
  refine ⟨fun h => ⟨fun h2 => ⟨?_, rfl⟩, fun h2 => ⟨?_, rfl⟩⟩, fun h => ⟨?_, rfl⟩⟩
  · rw [if_neg (by simp only [i32_lt, i32_le] at *; omega), if_neg h2]
  · rw [if_neg (by simp only [i32_lt, i32_le] at *; omega), if_pos h2]
  · rw [if_pos (by simp only [i32_lt, i32_le] at *; omega)]
theorem f_M_takes {a1 : Int32} {S : hs_S} (hw : hs_Wi S) : hs_M 1 yX11_takes (.code yX11_takes cX11_takes 1 (some FieldType.int)) [.inl a1] S 0 0 (hs_pd (some (.inl (F_takes a1))) S) hs_nX := hs_pdI (ok_M_takes hw (v_M_takes))

def mOwn (S : hs_S) (cell event : Int32) : Nat → Int32
  | 0 => cell / 6
  | k + 1 => if S.1 43 1 k = cell ∧ S.1 42 1 k < event then S.1 44 1 k else mOwn S cell event k
def F_ownerAt (a1 a2 : Int32) (S : hs_S) : Int32 := mOwn S a1 a2 (S.1 11 1 1).toNatClampNeg
def P_ownerAt (a1 a2 : Int32) (S : hs_S) : Prop := cN (S.1 11 1 1) 1200
theorem F_ownerAt_e {a1 a2 : Int32} {S : hs_S} {g : Nat} (hg : g ≤ 1200) (e : S.1 11 1 1 = nI g) : F_ownerAt a1 a2 S = mOwn S a1 a2 g := by
  unfold F_ownerAt
  rw [e, hl_cl (by omega)]
def m_M_ownerAt (a1 : Int32) (a2 : Int32) (S : hs_S) (Q : Int32 → hs_S → Prop) : Prop := hs_M 1 yX11_ownerAt (.code yX11_ownerAt cX11_ownerAt 5 (some FieldType.int)) [.inr (.inr (11, 1)), .inl a1, .inl a2] S 0 0 (hs_qI Q) hs_nX
def vc_M_ownerAt (a1 : Int32) (a2 : Int32) (S : hs_S) (Q : Int32 → hs_S → Prop) : Prop := (∃ I3 : Nat → Int32 → Int32 → Prop, (∃ n7, I3 n7 (a1 / (6 : Int32)) (0 : Int32)) ∧ (∀ N4 : Nat, ∀ x1 : Int32, ∀ x2 : Int32, I3 N4 x1 x2 → (((S.1 11 1 1) ≤ x2 → (Q x1 S)) ∧ (¬ (S.1 11 1 1) ≤ x2 → ((0 ≤ x2.toInt ∧ x2.toInt < 1200) ∧ ((¬ (S.1 43 1 x2.toNatClampNeg) = a1 → (∃ q14, q14 < N4 ∧ I3 q14 x1 (x2 + 1))) ∧ ((S.1 43 1 x2.toNatClampNeg) = a1 → ((a2 ≤ (S.1 42 1 x2.toNatClampNeg) → (∃ q17, q17 < N4 ∧ I3 q17 x1 (x2 + 1))) ∧ (¬ a2 ≤ (S.1 42 1 x2.toNatClampNeg) → (∃ q19, q19 < N4 ∧ I3 q19 (S.1 44 1 x2.toNatClampNeg) (x2 + 1)))))))))))
set_option maxRecDepth 100000 in
set_option maxHeartbeats 4000000 in
theorem ok_M_ownerAt {a1 : Int32} {a2 : Int32} {S : hs_S} {Q : Int32 → hs_S → Prop} (hw : hs_Wi S) (hv : vc_M_ownerAt a1 a2 S Q) : m_M_ownerAt a1 a2 S Q := by
  unfold vc_M_ownerAt at hv
  refine hs_body (own := RX11) rfl rfl (Nat.le_of_ble_eq_true rfl) (fun Z X E N J0 => ?_)
  show wa Z 0 0 S 0 [(0, .inr (.inr (11, 1))), (1, .inl a1), (2, .inl a2)] []
  refine wa_iload_n X 1 rfl dX11_ownerAt_0 rfl ?_
  refine wa_bipush X dX11_ownerAt_1 kb6 ?_
  refine wa_idiv X dX11_ownerAt_3 (by decide) ?_
  refine wa_istore_n X (lv' := [(3, .inl (a1 / (6 : Int32))), (0, .inr (.inr (11, 1))), (1, .inl a1), (2, .inl a2)]) dX11_ownerAt_4 rfl (by decide) rfl ?_
  refine wa_iconst X dX11_ownerAt_5 kc0 ?_
  refine wa_istore X (lv' := [(4, .inl (0 : Int32)), (3, .inl (a1 / (6 : Int32))), (0, .inr (.inr (11, 1))), (1, .inl a1), (2, .inl a2)]) dX11_ownerAt_6 (by decide) rfl ?_
  obtain ⟨I3, ⟨n7, i5⟩, b6⟩ := hv
  refine wa_lv (lv' := [(0, .inr (.inr (11, 1))), (1, .inl a1), (2, .inl a2), (3, .inl (a1 / (6 : Int32))), (4, .inl (0 : Int32))]) [2, 3, 4, 1, 0] rfl ?_
  suffices L8 : ∀ N4 : Nat, ∀ x1 : Int32, ∀ x2 : Int32, I3 N4 x1 x2 → wa Z 0 0 S 8 [(0, .inr (.inr (11, 1))), (1, .inl a1), (2, .inl a2), (3, .inl x1), (4, .inl x2)] [] from L8 _ _ _ i5
  clear i5
  intro N4
  induction N4 using Nat.strongRecOn with
  | _ N4 h9 =>
    intro x1 x2 j10
    have hv := b6 N4 x1 x2 j10
    refine wa_iload X 4 rfl dX11_ownerAt_8 ?_
    refine wa_aload_n X 0 rfl dX11_ownerAt_10 rfl ?_
    refine wa_getI X (j := 1) hk_11 hc_11 i_11 (by decide) kw_1185 rfl dX11_ownerAt_11 hs_1ne ?_
    refine wa_icmp_ge X (tgt := 57) dX11_ownerAt_14 (by decide) (fun c11 => ?_) (fun c11 => ?_)
    · replace hv := hv.1 c11
      refine wa_iload_n X 3 rfl dX11_ownerAt_57 rfl ?_
      exact wa_ireturn X E dX11_ownerAt_58 (Nat.le_of_ble_eq_true rfl) (Nat.le_of_ble_eq_true rfl) (Or.inl rfl) ⟨hw, _, rfl, hv⟩
    · replace hv := hv.2 c11
      refine wa_aload_n X 0 rfl dX11_ownerAt_17 rfl ?_
      refine wa_getfw X hw (j := 3) (r := 1) hk_11 hc_11 i_11 (by decide) kw_1187 rfl rfl (by decide) rfl dX11_ownerAt_18 hs_1ne ?_
      refine wa_iload X 4 rfl dX11_ownerAt_21 ?_
      obtain ⟨o12, hv⟩ := hv
      refine wa_iald X hk_43 dX11_ownerAt_23 hs_1ne o12 ?_
      refine wa_iload_n X 1 rfl dX11_ownerAt_24 rfl ?_
      refine wa_icmp_ne X (tgt := 49) dX11_ownerAt_25 (by decide) (fun c13 => ?_) (fun c13 => ?_)
      · replace hv := hv.1 c13
        refine wa_iload_n X 3 rfl dX11_ownerAt_49 rfl ?_
        refine wa_istore_n X (lv' := [(3, .inl x1), (0, .inr (.inr (11, 1))), (1, .inl a1), (2, .inl a2), (4, .inl x2)]) dX11_ownerAt_50 rfl (by decide) rfl ?_
        refine wa_iinc X (v := (x2 + 1)) (lv' := [(4, .inl (x2 + 1)), (3, .inl x1), (0, .inr (.inr (11, 1))), (1, .inl a1), (2, .inl a2)]) 4 rfl dX11_ownerAt_51 rfl (by decide) rfl ?_
        refine wa_goto X (tgt := 8) dX11_ownerAt_54 (by decide) ?_
        obtain ⟨q14, p15, hv⟩ := hv
        refine wa_lv (lv' := [(0, .inr (.inr (11, 1))), (1, .inl a1), (2, .inl a2), (3, .inl x1), (4, .inl (x2 + 1))]) [2, 3, 4, 1, 0] rfl ?_
        exact h9 q14 p15 _ _ hv
      · replace hv := hv.2 c13
        refine wa_aload_n X 0 rfl dX11_ownerAt_28 rfl ?_
        refine wa_getfw X hw (j := 2) (r := 1) hk_11 hc_11 i_11 (by decide) kw_1186 rfl rfl (by decide) rfl dX11_ownerAt_29 hs_1ne ?_
        refine wa_iload X 4 rfl dX11_ownerAt_32 ?_
        refine wa_iald X hk_42 dX11_ownerAt_34 hs_1ne o12 ?_
        refine wa_iload_n X 2 rfl dX11_ownerAt_35 rfl ?_
        refine wa_icmp_ge X (tgt := 49) dX11_ownerAt_36 (by decide) (fun c16 => ?_) (fun c16 => ?_)
        · replace hv := hv.1 c16
          refine wa_iload_n X 3 rfl dX11_ownerAt_49 rfl ?_
          refine wa_istore_n X (lv' := [(3, .inl x1), (0, .inr (.inr (11, 1))), (1, .inl a1), (2, .inl a2), (4, .inl x2)]) dX11_ownerAt_50 rfl (by decide) rfl ?_
          refine wa_iinc X (v := (x2 + 1)) (lv' := [(4, .inl (x2 + 1)), (3, .inl x1), (0, .inr (.inr (11, 1))), (1, .inl a1), (2, .inl a2)]) 4 rfl dX11_ownerAt_51 rfl (by decide) rfl ?_
          refine wa_goto X (tgt := 8) dX11_ownerAt_54 (by decide) ?_
          obtain ⟨q17, p18, hv⟩ := hv
          refine wa_lv (lv' := [(0, .inr (.inr (11, 1))), (1, .inl a1), (2, .inl a2), (3, .inl x1), (4, .inl (x2 + 1))]) [2, 3, 4, 1, 0] rfl ?_
          exact h9 q17 p18 _ _ hv
        · replace hv := hv.2 c16
          refine wa_aload_n X 0 rfl dX11_ownerAt_39 rfl ?_
          refine wa_getfw X hw (j := 4) (r := 1) hk_11 hc_11 i_11 (by decide) kw_1188 rfl rfl (by decide) rfl dX11_ownerAt_40 hs_1ne ?_
          refine wa_iload X 4 rfl dX11_ownerAt_43 ?_
          refine wa_iald X hk_44 dX11_ownerAt_45 hs_1ne o12 ?_
          refine wa_goto X (tgt := 50) dX11_ownerAt_46 (by decide) ?_
          refine wa_istore_n X (lv' := [(3, .inl (S.1 44 1 x2.toNatClampNeg)), (0, .inr (.inr (11, 1))), (1, .inl a1), (2, .inl a2), (4, .inl x2)]) dX11_ownerAt_50 rfl (by decide) rfl ?_
          refine wa_iinc X (v := (x2 + 1)) (lv' := [(4, .inl (x2 + 1)), (3, .inl (S.1 44 1 x2.toNatClampNeg)), (0, .inr (.inr (11, 1))), (1, .inl a1), (2, .inl a2)]) 4 rfl dX11_ownerAt_51 rfl (by decide) rfl ?_
          refine wa_goto X (tgt := 8) dX11_ownerAt_54 (by decide) ?_
          obtain ⟨q19, p20, hv⟩ := hv
          refine wa_lv (lv' := [(0, .inr (.inr (11, 1))), (1, .inl a1), (2, .inl a2), (3, .inl (S.1 44 1 x2.toNatClampNeg)), (4, .inl (x2 + 1))]) [2, 3, 4, 1, 0] rfl ?_
          exact h9 q19 p20 _ _ hv
theorem v_M_ownerAt {a1 a2 : Int32} {S : hs_S} (hP : P_ownerAt a1 a2 S) : vc_M_ownerAt a1 a2 S (fun r S' => r = F_ownerAt a1 a2 S ∧ S' = S) := by
  obtain ⟨g, hg, eg⟩ := hP
  unfold vc_M_ownerAt
  rw [F_ownerAt_e hg eg, eg]
  refine ⟨fun N x1 x2 => ∃ k, k ≤ g ∧ x2 = nI k ∧ x1 = mOwn S a1 a2 k ∧ N = g - k, ⟨g, 0, Nat.zero_le _, rfl, rfl, rfl⟩, ?_⟩
  rintro N x1 x2 ⟨k, hk, rfl, rfl, rfl⟩
  refine ⟨fun h => ?_, fun h => ?_⟩
  · have := hl_end (by omega) hk h
    subst this
    exact ⟨rfl, rfl⟩
  · have hk1 := hl_go (by omega) hk h
    rw [hl_cl (by omega)]
    refine ⟨hl_ix (by omega) (by omega), fun h1 => hl_nx hk1 ?_, fun h1 => ⟨fun h2 => hl_nx hk1 ?_, fun h2 => hl_nx hk1 ?_⟩⟩
    · exact (if_neg fun q => h1 q.1).symm
    · exact (if_neg fun q => by have := q.2; simp only [i32_lt, i32_le] at *; omega).symm
    · exact (if_pos ⟨h1, by simp only [i32_lt, i32_le] at *; omega⟩).symm
theorem f_M_ownerAt {a1 : Int32} {a2 : Int32} {S : hs_S} (hw : hs_Wi S) (hP : P_ownerAt a1 a2 S) : hs_M 1 yX11_ownerAt (.code yX11_ownerAt cX11_ownerAt 5 (some FieldType.int)) [.inr (.inr (11, 1)), .inl a1, .inl a2] S 0 0 (hs_pd (some (.inl (F_ownerAt a1 a2 S))) S) hs_nX := hs_pdI (ok_M_ownerAt hw (v_M_ownerAt hP))

