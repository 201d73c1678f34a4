def F_Edit_countsAt (i0 : Nat) (a1 : Int32) (S : hs_S) : Int32 := bI (S.1 3 i0 6 = 0 ∧ ¬ a1 < S.1 3 i0 4)
def m_Edit_countsAt (i0 : Nat) (a1 : Int32) (S : hs_S) (Q : Int32 → hs_S → Prop) : Prop := hs_M 1 yX3_countsAt (.code yX3_countsAt cX3_countsAt 2 (some FieldType.boolean)) [.inr (.inr (3, i0)), .inl a1] S 0 0 (hs_qI Q) hs_nX
def vc_Edit_countsAt (i0 : Nat) (a1 : Int32) (S : hs_S) (Q : Int32 → hs_S → Prop) : Prop := ((¬ (S.1 3 i0 6) = 0 → (Q (0 : Int32) S)) ∧ ((S.1 3 i0 6) = 0 → ((a1 < (S.1 3 i0 4) → (Q (0 : Int32) S)) ∧ (¬ a1 < (S.1 3 i0 4) → (Q (1 : Int32) S)))))
set_option maxRecDepth 100000 in
set_option maxHeartbeats 4000000 in
theorem ok_Edit_countsAt {i0 : Nat} {a1 : Int32} {S : hs_S} {Q : Int32 → hs_S → Prop} (hi0 : i0 ≠ 0) (hw : hs_Wi S) (hv : vc_Edit_countsAt i0 a1 S Q) : m_Edit_countsAt i0 a1 S Q := by
  unfold vc_Edit_countsAt at hv
  refine hs_body (own := RX3) rfl rfl (Nat.le_of_ble_eq_true rfl) (fun Z X E N J0 => ?_)
  show wa Z 0 0 S 0 [(0, .inr (.inr (3, i0))), (1, .inl a1)] []
  refine wa_aload_n X 0 rfl dX3_countsAt_0 rfl ?_
  refine wa_getI X (j := 6) hk_3 hc_3 i_3 (by decide) kw_628 rfl dX3_countsAt_1 hi0 ?_
  refine wa_if_ne X (tgt := 19) dX3_countsAt_4 (by decide) (fun c1 => ?_) (fun c1 => ?_)
  · replace hv := hv.1 c1
    refine wa_iconst X dX3_countsAt_19 kc0 ?_
    exact wa_ireturn X E dX3_countsAt_20 (Nat.le_of_ble_eq_true rfl) (Nat.le_of_ble_eq_true rfl) (Or.inr ⟨rfl, Or.inl rfl⟩) ⟨hw, _, rfl, hv⟩
  · replace hv := hv.2 c1
    refine wa_aload_n X 0 rfl dX3_countsAt_7 rfl ?_
    refine wa_getI X (j := 4) hk_3 hc_3 i_3 (by decide) kw_623 rfl dX3_countsAt_8 hi0 ?_
    refine wa_iload_n X 1 rfl dX3_countsAt_11 rfl ?_
    refine wa_icmp_gt X (tgt := 19) dX3_countsAt_12 (by decide) (fun c2 => ?_) (fun c2 => ?_)
    · replace hv := hv.1 c2
      refine wa_iconst X dX3_countsAt_19 kc0 ?_
      exact wa_ireturn X E dX3_countsAt_20 (Nat.le_of_ble_eq_true rfl) (Nat.le_of_ble_eq_true rfl) (Or.inr ⟨rfl, Or.inl rfl⟩) ⟨hw, _, rfl, hv⟩
    · replace hv := hv.2 c2
      refine wa_iconst X dX3_countsAt_15 kc1 ?_
      refine wa_goto X (tgt := 20) dX3_countsAt_16 (by decide) ?_
      exact wa_ireturn X E dX3_countsAt_20 (Nat.le_of_ble_eq_true rfl) (Nat.le_of_ble_eq_true rfl) (Or.inr ⟨rfl, Or.inr rfl⟩) ⟨hw, _, rfl, hv⟩
theorem v_Edit_countsAt {i0 : Nat} {a1 : Int32} {S : hs_S} : vc_Edit_countsAt i0 a1 S (fun r S' => r = F_Edit_countsAt i0 a1 S ∧ S' = S) :=
  ⟨fun h => ⟨(bI_f fun z => h z.1).symm, rfl⟩, fun h => ⟨fun q => ⟨(bI_f fun z => z.2 q).symm, rfl⟩, fun q => ⟨(bI_t ⟨h, q⟩).symm, rfl⟩⟩⟩
theorem f_Edit_countsAt {i0 : Nat} {a1 : Int32} {S : hs_S} (hi0 : i0 ≠ 0) (hw : hs_Wi S) : hs_M 1 yX3_countsAt (.code yX3_countsAt cX3_countsAt 2 (some FieldType.boolean)) [.inr (.inr (3, i0)), .inl a1] S 0 0 (hs_pd (some (.inl (F_Edit_countsAt i0 a1 S))) S) hs_nX := hs_pdI (ok_Edit_countsAt hi0 hw (v_Edit_countsAt))

def F_Rnd_feeOwner (i0 : Nat) (S : hs_S) : Int32 := S.1 20 (i0 + 1) (S.1 8 i0 0 * 6 + 1).toNatClampNeg
def P_Rnd_feeOwner (i0 : Nat) (S : hs_S) : Prop := 0 ≤ (S.1 8 i0 0 * 6 + 1).toInt ∧ (S.1 8 i0 0 * 6 + 1).toInt < 24
def m_Rnd_feeOwner (i0 : Nat) (S : hs_S) (Q : Int32 → hs_S → Prop) : Prop := hs_M 1 yX8_feeOwner (.code yX8_feeOwner cX8_feeOwner 1 (some FieldType.int)) [.inr (.inr (8, i0))] S 0 0 (hs_qI Q) hs_nX
def vc_Rnd_feeOwner (i0 : Nat) (S : hs_S) (Q : Int32 → hs_S → Prop) : Prop := ((0 ≤ (((S.1 8 i0 0) * (6 : Int32)) + (1 : Int32)).toInt ∧ (((S.1 8 i0 0) * (6 : Int32)) + (1 : Int32)).toInt < 24) ∧ (Q (S.1 20 (i0 + 1) (((S.1 8 i0 0) * (6 : Int32)) + (1 : Int32)).toNatClampNeg) S))
set_option maxRecDepth 100000 in
set_option maxHeartbeats 4000000 in
theorem ok_Rnd_feeOwner {i0 : Nat} {S : hs_S} {Q : Int32 → hs_S → Prop} (hi0 : i0 ≠ 0) (hw : hs_Wi S) (hv : vc_Rnd_feeOwner i0 S Q) : m_Rnd_feeOwner i0 S Q := by
  unfold vc_Rnd_feeOwner at hv
  refine hs_body (own := RX8) rfl rfl (Nat.le_of_ble_eq_true rfl) (fun Z X E N J0 => ?_)
  show wa Z 0 0 S 0 [(0, .inr (.inr (8, i0)))] []
  refine wa_aload_n X 0 rfl dX8_feeOwner_0 rfl ?_
  refine wa_getfw X hw (j := 4) (r := (i0 + 1)) hk_8 hc_8 i_8 (by decide) kw_187 rfl rfl (by decide) rfl dX8_feeOwner_1 hi0 ?_
  refine wa_getfw X hw (j := 0) (r := (i0 + 1)) hk_7 hc_7 i_7 (by decide) kw_69 rfl rfl (by decide) rfl dX8_feeOwner_4 (hs_sne _) ?_
  refine wa_aload_n X 0 rfl dX8_feeOwner_7 rfl ?_
  refine wa_getI X (j := 0) hk_8 hc_8 i_8 (by decide) kw_174 rfl dX8_feeOwner_8 hi0 ?_
  refine wa_bipush X dX8_feeOwner_11 kb6 ?_
  refine wa_imul X dX8_feeOwner_13 ?_
  refine wa_iconst X dX8_feeOwner_14 kc1 ?_
  refine wa_iadd X dX8_feeOwner_15 ?_
  obtain ⟨o1, hv⟩ := hv
  refine wa_iald X hk_20 dX8_feeOwner_16 (hs_sne _) o1 ?_
  exact wa_ireturn X E dX8_feeOwner_17 (Nat.le_of_ble_eq_true rfl) (Nat.le_of_ble_eq_true rfl) (Or.inl rfl) ⟨hw, _, rfl, hv⟩
theorem v_Rnd_feeOwner {i0 : Nat} {S : hs_S} (hP : P_Rnd_feeOwner i0 S) : vc_Rnd_feeOwner i0 S (fun r S' => r = F_Rnd_feeOwner i0 S ∧ S' = S) := ⟨hP, rfl, rfl⟩
theorem f_Rnd_feeOwner {i0 : Nat} {S : hs_S} (hi0 : i0 ≠ 0) (hw : hs_Wi S) (hP : P_Rnd_feeOwner i0 S) : hs_M 1 yX8_feeOwner (.code yX8_feeOwner cX8_feeOwner 1 (some FieldType.int)) [.inr (.inr (8, i0))] S 0 0 (hs_pd (some (.inl (F_Rnd_feeOwner i0 S))) S) hs_nX := hs_pdI (ok_Rnd_feeOwner hi0 hw (v_Rnd_feeOwner hP))

