def F_Rts_canRead (i0 : Nat) (a1 a2 : Int32) (S : hs_S) : Int32 := bI (S.1 20 i0 a2.toNatClampNeg = a1 ∨ (S.1 21 i0 a2.toNatClampNeg >>> (a1 &&& 31)) &&& 1 = 1)
def P_Rts_canRead (i0 : Nat) (a1 a2 : Int32) (S : hs_S) : Prop := 0 ≤ a2.toInt ∧ a2.toInt < 24
def m_Rts_canRead (i0 : Nat) (a1 : Int32) (a2 : Int32) (S : hs_S) (Q : Int32 → hs_S → Prop) : Prop := hs_M 1 yX7_canRead (.code yX7_canRead cX7_canRead 3 (some FieldType.boolean)) [.inr (.inr (7, i0)), .inl a1, .inl a2] S 0 0 (hs_qI Q) hs_nX
def vc_Rts_canRead (i0 : Nat) (a1 : Int32) (a2 : Int32) (S : hs_S) (Q : Int32 → hs_S → Prop) : Prop := ((0 ≤ a2.toInt ∧ a2.toInt < 24) ∧ (((S.1 20 i0 a2.toNatClampNeg) = a1 → (Q (1 : Int32) S)) ∧ (¬ (S.1 20 i0 a2.toNatClampNeg) = a1 → ((¬ (((S.1 21 i0 a2.toNatClampNeg) >>> (a1 &&& 31)) &&& (1 : Int32)) = (1 : Int32) → (Q (0 : Int32) S)) ∧ ((((S.1 21 i0 a2.toNatClampNeg) >>> (a1 &&& 31)) &&& (1 : Int32)) = (1 : Int32) → (Q (1 : Int32) S))))))
set_option maxRecDepth 100000 in
set_option maxHeartbeats 4000000 in
theorem ok_Rts_canRead {i0 : Nat} {a1 : Int32} {a2 : Int32} {S : hs_S} {Q : Int32 → hs_S → Prop} (hi0 : i0 ≠ 0) (hw : hs_Wi S) (hv : vc_Rts_canRead i0 a1 a2 S Q) : m_Rts_canRead i0 a1 a2 S Q := by
  unfold vc_Rts_canRead at hv
  refine hs_body (own := RX7) rfl rfl (Nat.le_of_ble_eq_true rfl) (fun Z X E N J0 => ?_)
  show wa Z 0 0 S 0 [(0, .inr (.inr (7, i0))), (1, .inl a1), (2, .inl a2)] []
  refine wa_aload_n X 0 rfl dX7_canRead_0 rfl ?_
  refine wa_getfw X hw (j := 0) (r := i0) hk_7 hc_7 i_7 (by decide) kw_67 rfl rfl (by decide) rfl dX7_canRead_1 hi0 ?_
  refine wa_iload_n X 2 rfl dX7_canRead_4 rfl ?_
  obtain ⟨o1, hv⟩ := hv
  refine wa_iald X hk_20 dX7_canRead_5 hi0 o1 ?_
  refine wa_iload_n X 1 rfl dX7_canRead_6 rfl ?_
  refine wa_icmp_eq X (tgt := 24) dX7_canRead_7 (by decide) (fun c2 => ?_) (fun c2 => ?_)
  · replace hv := hv.1 c2
    refine wa_iconst X dX7_canRead_24 kc1 ?_
    refine wa_goto X (tgt := 29) dX7_canRead_25 (by decide) ?_
    exact wa_ireturn X E dX7_canRead_29 (Nat.le_of_ble_eq_true rfl) (Nat.le_of_ble_eq_true rfl) (Or.inr ⟨rfl, Or.inr rfl⟩) ⟨hw, _, rfl, hv⟩
  · replace hv := hv.2 c2
    refine wa_aload_n X 0 rfl dX7_canRead_10 rfl ?_
    refine wa_getfw X hw (j := 1) (r := i0) hk_7 hc_7 i_7 (by decide) kw_71 rfl rfl (by decide) rfl dX7_canRead_11 hi0 ?_
    refine wa_iload_n X 2 rfl dX7_canRead_14 rfl ?_
    refine wa_iald X hk_21 dX7_canRead_15 hi0 o1 ?_
    refine wa_iload_n X 1 rfl dX7_canRead_16 rfl ?_
    refine wa_ishr X dX7_canRead_17 ?_
    refine wa_iconst X dX7_canRead_18 kc1 ?_
    refine wa_iand X dX7_canRead_19 ?_
    refine wa_iconst X dX7_canRead_20 kc1 ?_
    refine wa_icmp_ne X (tgt := 28) dX7_canRead_21 (by decide) (fun c3 => ?_) (fun c3 => ?_)
    · replace hv := hv.1 c3
      refine wa_iconst X dX7_canRead_28 kc0 ?_
      exact wa_ireturn X E dX7_canRead_29 (Nat.le_of_ble_eq_true rfl) (Nat.le_of_ble_eq_true rfl) (Or.inr ⟨rfl, Or.inl rfl⟩) ⟨hw, _, rfl, hv⟩
    · replace hv := hv.2 c3
      refine wa_iconst X dX7_canRead_24 kc1 ?_
      refine wa_goto X (tgt := 29) dX7_canRead_25 (by decide) ?_
      exact wa_ireturn X E dX7_canRead_29 (Nat.le_of_ble_eq_true rfl) (Nat.le_of_ble_eq_true rfl) (Or.inr ⟨rfl, Or.inr rfl⟩) ⟨hw, _, rfl, hv⟩
theorem v_Rts_canRead {i0 : Nat} {a1 a2 : Int32} {S : hs_S} (hP : P_Rts_canRead i0 a1 a2 S) : vc_Rts_canRead i0 a1 a2 S (fun r S' => r = F_Rts_canRead i0 a1 a2 S ∧ S' = S) := by
  unfold vc_Rts_canRead F_Rts_canRead
  exact ⟨hP, fun h => ⟨(bI_t (Or.inl h)).symm, rfl⟩, fun h => ⟨fun q => ⟨(bI_f fun z => z.elim h q).symm, rfl⟩, fun q => ⟨(bI_t (Or.inr q)).symm, rfl⟩⟩⟩
theorem f_Rts_canRead {i0 : Nat} {a1 : Int32} {a2 : Int32} {S : hs_S} (hi0 : i0 ≠ 0) (hw : hs_Wi S) (hP : P_Rts_canRead i0 a1 a2 S) : hs_M 1 yX7_canRead (.code yX7_canRead cX7_canRead 3 (some FieldType.boolean)) [.inr (.inr (7, i0)), .inl a1, .inl a2] S 0 0 (hs_pd (some (.inl (F_Rts_canRead i0 a1 a2 S))) S) hs_nX := hs_pdI (ok_Rts_canRead hi0 hw (v_Rts_canRead hP))

def F_Rnd_wasFrozen (i0 : Nat) (S : hs_S) : Int32 := bI (¬ S.1 8 i0 1 = 2147483647)
def m_Rnd_wasFrozen (i0 : Nat) (S : hs_S) (Q : Int32 → hs_S → Prop) : Prop := hs_M 1 yX8_wasFrozen (.code yX8_wasFrozen cX8_wasFrozen 1 (some FieldType.boolean)) [.inr (.inr (8, i0))] S 0 0 (hs_qI Q) hs_nX
def vc_Rnd_wasFrozen (i0 : Nat) (S : hs_S) (Q : Int32 → hs_S → Prop) : Prop := (((S.1 8 i0 1) = (2147483647 : Int32) → (Q (0 : Int32) S)) ∧ (¬ (S.1 8 i0 1) = (2147483647 : Int32) → (Q (1 : Int32) S)))
set_option maxRecDepth 100000 in
set_option maxHeartbeats 4000000 in
theorem ok_Rnd_wasFrozen {i0 : Nat} {S : hs_S} {Q : Int32 → hs_S → Prop} (hi0 : i0 ≠ 0) (hw : hs_Wi S) (hv : vc_Rnd_wasFrozen i0 S Q) : m_Rnd_wasFrozen i0 S Q := by
  unfold vc_Rnd_wasFrozen at hv
  refine hs_body (own := RX8) rfl rfl (Nat.le_of_ble_eq_true rfl) (fun Z X E N J0 => ?_)
  show wa Z 0 0 S 0 [(0, .inr (.inr (8, i0)))] []
  refine wa_aload_n X 0 rfl dX8_wasFrozen_0 rfl ?_
  refine wa_getI X (j := 1) hk_8 hc_8 i_8 (by decide) kw_179 rfl dX8_wasFrozen_1 hi0 ?_
  refine wa_ldc X kw_171 dX8_wasFrozen_4 ?_
  refine wa_icmp_eq X (tgt := 13) dX8_wasFrozen_6 (by decide) (fun c1 => ?_) (fun c1 => ?_)
  · replace hv := hv.1 c1
    refine wa_iconst X dX8_wasFrozen_13 kc0 ?_
    exact wa_ireturn X E dX8_wasFrozen_14 (Nat.le_of_ble_eq_true rfl) (Nat.le_of_ble_eq_true rfl) (Or.inr ⟨rfl, Or.inl rfl⟩) ⟨hw, _, rfl, hv⟩
  · replace hv := hv.2 c1
    refine wa_iconst X dX8_wasFrozen_9 kc1 ?_
    refine wa_goto X (tgt := 14) dX8_wasFrozen_10 (by decide) ?_
    exact wa_ireturn X E dX8_wasFrozen_14 (Nat.le_of_ble_eq_true rfl) (Nat.le_of_ble_eq_true rfl) (Or.inr ⟨rfl, Or.inr rfl⟩) ⟨hw, _, rfl, hv⟩
theorem v_Rnd_wasFrozen {i0 : Nat} {S : hs_S} : vc_Rnd_wasFrozen i0 S (fun r S' => r = F_Rnd_wasFrozen i0 S ∧ S' = S) :=
  ⟨fun h => ⟨(bI_f fun z => z h).symm, rfl⟩, fun h => ⟨(bI_t h).symm, rfl⟩⟩
theorem f_Rnd_wasFrozen {i0 : Nat} {S : hs_S} (hi0 : i0 ≠ 0) (hw : hs_Wi S) : hs_M 1 yX8_wasFrozen (.code yX8_wasFrozen cX8_wasFrozen 1 (some FieldType.boolean)) [.inr (.inr (8, i0))] S 0 0 (hs_pd (some (.inl (F_Rnd_wasFrozen i0 S))) S) hs_nX := hs_pdI (ok_Rnd_wasFrozen hi0 hw (v_Rnd_wasFrozen))

def F_Rnd_isCleared (i0 : Nat) (S : hs_S) : Int32 := bI (¬ S.1 8 i0 2 = 2147483647)
def m_Rnd_isCleared (i0 : Nat) (S : hs_S) (Q : Int32 → hs_S → Prop) : Prop := hs_M 1 yX8_isCleared (.code yX8_isCleared cX8_isCleared 1 (some FieldType.boolean)) [.inr (.inr (8, i0))] S 0 0 (hs_qI Q) hs_nX
def vc_Rnd_isCleared (i0 : Nat) (S : hs_S) (Q : Int32 → hs_S → Prop) : Prop := (((S.1 8 i0 2) = (2147483647 : Int32) → (Q (0 : Int32) S)) ∧ (¬ (S.1 8 i0 2) = (2147483647 : Int32) → (Q (1 : Int32) S)))
set_option maxRecDepth 100000 in
set_option maxHeartbeats 4000000 in
theorem ok_Rnd_isCleared {i0 : Nat} {S : hs_S} {Q : Int32 → hs_S → Prop} (hi0 : i0 ≠ 0) (hw : hs_Wi S) (hv : vc_Rnd_isCleared i0 S Q) : m_Rnd_isCleared i0 S Q := by
  unfold vc_Rnd_isCleared at hv
  refine hs_body (own := RX8) rfl rfl (Nat.le_of_ble_eq_true rfl) (fun Z X E N J0 => ?_)
  show wa Z 0 0 S 0 [(0, .inr (.inr (8, i0)))] []
  refine wa_aload_n X 0 rfl dX8_isCleared_0 rfl ?_
  refine wa_getI X (j := 2) hk_8 hc_8 i_8 (by decide) kw_181 rfl dX8_isCleared_1 hi0 ?_
  refine wa_ldc X kw_171 dX8_isCleared_4 ?_
  refine wa_icmp_eq X (tgt := 13) dX8_isCleared_6 (by decide) (fun c1 => ?_) (fun c1 => ?_)
  · replace hv := hv.1 c1
    refine wa_iconst X dX8_isCleared_13 kc0 ?_
    exact wa_ireturn X E dX8_isCleared_14 (Nat.le_of_ble_eq_true rfl) (Nat.le_of_ble_eq_true rfl) (Or.inr ⟨rfl, Or.inl rfl⟩) ⟨hw, _, rfl, hv⟩
  · replace hv := hv.2 c1
    refine wa_iconst X dX8_isCleared_9 kc1 ?_
    refine wa_goto X (tgt := 14) dX8_isCleared_10 (by decide) ?_
    exact wa_ireturn X E dX8_isCleared_14 (Nat.le_of_ble_eq_true rfl) (Nat.le_of_ble_eq_true rfl) (Or.inr ⟨rfl, Or.inr rfl⟩) ⟨hw, _, rfl, hv⟩
theorem v_Rnd_isCleared {i0 : Nat} {S : hs_S} : vc_Rnd_isCleared i0 S (fun r S' => r = F_Rnd_isCleared i0 S ∧ S' = S) :=
  ⟨fun h => ⟨(bI_f fun z => z h).symm, rfl⟩, fun h => ⟨(bI_t h).symm, rfl⟩⟩
theorem f_Rnd_isCleared {i0 : Nat} {S : hs_S} (hi0 : i0 ≠ 0) (hw : hs_Wi S) : hs_M 1 yX8_isCleared (.code yX8_isCleared cX8_isCleared 1 (some FieldType.boolean)) [.inr (.inr (8, i0))] S 0 0 (hs_pd (some (.inl (F_Rnd_isCleared i0 S))) S) hs_nX := hs_pdI (ok_Rnd_isCleared hi0 hw (v_Rnd_isCleared))

def m_C_taken (a1 : Int32) (S : hs_S) (Q : Int32 → hs_S → Prop) : Prop := hs_M 1 yX10_taken (.code yX10_taken cX10_taken 1 (some FieldType.int)) [.inl a1] S 0 0 (hs_qI Q) hs_nX
def vc_C_taken (a1 : Int32) (S : hs_S) (Q : Int32 → hs_S → Prop) : Prop := ((¬ a1 = (14 : Int32) → ((a1 < (8 : Int32) → (Q (0 : Int32) S)) ∧ (¬ a1 < (8 : Int32) → (Q (2 : Int32) S)))) ∧ (a1 = (14 : Int32) → (Q (3 : Int32) S)))
set_option maxRecDepth 100000 in
set_option maxHeartbeats 4000000 in
theorem ok_C_taken {a1 : Int32} {S : hs_S} {Q : Int32 → hs_S → Prop} (hw : hs_Wi S) (hv : vc_C_taken a1 S Q) : m_C_taken a1 S Q := by
  unfold vc_C_taken at hv
  refine hs_body (own := RX10) rfl rfl (Nat.le_of_ble_eq_true rfl) (fun Z X E N J0 => ?_)
  show wa Z 0 0 S 0 [(0, .inl a1)] []
  refine wa_iload_n X 0 rfl dX10_taken_0 rfl ?_
  refine wa_bipush X dX10_taken_1 kb14 ?_
  refine wa_icmp_ne X (tgt := 8) dX10_taken_3 (by decide) (fun c1 => ?_) (fun c1 => ?_)
  · replace hv := hv.1 c1
    refine wa_iload_n X 0 rfl dX10_taken_8 rfl ?_
    refine wa_bipush X dX10_taken_9 kb8 ?_
    refine wa_icmp_lt X (tgt := 18) dX10_taken_11 (by decide) (fun c2 => ?_) (fun c2 => ?_)
    · replace hv := hv.1 c2
      refine wa_iconst X dX10_taken_18 kc0 ?_
      exact wa_ireturn X E dX10_taken_19 (Nat.le_of_ble_eq_true rfl) (Nat.le_of_ble_eq_true rfl) (Or.inl rfl) ⟨hw, _, rfl, hv⟩
    · replace hv := hv.2 c2
      refine wa_iconst X dX10_taken_14 kc2 ?_
      refine wa_goto X (tgt := 19) dX10_taken_15 (by decide) ?_
      exact wa_ireturn X E dX10_taken_19 (Nat.le_of_ble_eq_true rfl) (Nat.le_of_ble_eq_true rfl) (Or.inl rfl) ⟨hw, _, rfl, hv⟩
  · replace hv := hv.2 c1
    refine wa_iconst X dX10_taken_6 kc3 ?_
    exact wa_ireturn X E dX10_taken_7 (Nat.le_of_ble_eq_true rfl) (Nat.le_of_ble_eq_true rfl) (Or.inl rfl) ⟨hw, _, rfl, hv⟩
theorem v_C_taken {a1 : Int32} {S : hs_S} : vc_C_taken a1 S (fun r S' => r = F_takes a1 ∧ S' = S) := by
  unfold vc_C_taken F_takes
  refine ⟨fun h => ⟨fun q => ⟨(if_pos q).symm, rfl⟩, fun q => ⟨?_, rfl⟩⟩, fun h => ⟨?_, rfl⟩⟩
  · rw [if_neg q, if_neg h]
  · rw [h]; rfl
theorem f_C_taken {a1 : Int32} {S : hs_S} (hw : hs_Wi S) : hs_M 1 yX10_taken (.code yX10_taken cX10_taken 1 (some FieldType.int)) [.inl a1] S 0 0 (hs_pd (some (.inl (F_takes a1))) S) hs_nX := hs_pdI (ok_C_taken hw (v_C_taken))

