def F_Bid_worth (i0 : Nat) (S : hs_S) : Int32 := if S.1 0 i0 9 = 0 then 0 else S.1 8 (S.2.1 0 i0 2) 5 * S.1 0 i0 9
def P_Bid_worth (i0 : Nat) (S : hs_S) : Prop := S.2.1 0 i0 2 ≠ 0
def m_Bid_worth (i0 : Nat) (S : hs_S) (Q : Int32 → hs_S → Prop) : Prop := hs_M 1 yX0_worth (.code yX0_worth cX0_worth 1 (some FieldType.int)) [.inr (.inr (0, i0))] S 0 0 (hs_qI Q) hs_nX
def vc_Bid_worth (i0 : Nat) (S : hs_S) (Q : Int32 → hs_S → Prop) : Prop := ((¬ (S.1 0 i0 9) = 0 → (((S.2.1 0 i0 2) ≠ 0) ∧ (Q ((S.1 8 (S.2.1 0 i0 2) 5) * (S.1 0 i0 9)) S))) ∧ ((S.1 0 i0 9) = 0 → (Q (0 : Int32) S)))
set_option maxRecDepth 100000 in
set_option maxHeartbeats 4000000 in
theorem ok_Bid_worth {i0 : Nat} {S : hs_S} {Q : Int32 → hs_S → Prop} (hi0 : i0 ≠ 0) (hw : hs_Wi S) (hv : vc_Bid_worth i0 S Q) : m_Bid_worth i0 S Q := by
  unfold vc_Bid_worth at hv
  refine hs_body (own := RX0) rfl rfl (Nat.le_of_ble_eq_true rfl) (fun Z X E N J0 => ?_)
  show wa Z 0 0 S 0 [(0, .inr (.inr (0, i0)))] []
  refine wa_aload_n X 0 rfl dX0_worth_0 rfl ?_
  refine wa_getI X (j := 9) hk_0 hc_0 i_0 (by decide) kw_864 rfl dX0_worth_1 hi0 ?_
  refine wa_if_ne X (tgt := 11) dX0_worth_4 (by decide) (fun c1 => ?_) (fun c1 => ?_)
  · replace hv := hv.1 c1
    refine wa_aload_n X 0 rfl dX0_worth_11 rfl ?_
    refine wa_getR X (j := 2) hk_0 hc_0 i_0 (by decide) kw_841 rfl dX0_worth_12 hi0 ?_
    obtain ⟨o2, hv⟩ := hv
    refine wa_getI X (j := 5) hk_8 hc_8 i_8 (by decide) kw_192 rfl dX0_worth_15 o2 ?_
    refine wa_aload_n X 0 rfl dX0_worth_18 rfl ?_
    refine wa_getI X (j := 9) hk_0 hc_0 i_0 (by decide) kw_864 rfl dX0_worth_19 hi0 ?_
    refine wa_imul X dX0_worth_22 ?_
    exact wa_ireturn X E dX0_worth_23 (Nat.le_of_ble_eq_true rfl) (Nat.le_of_ble_eq_true rfl) (Or.inl rfl) ⟨hw, _, rfl, hv⟩
  · replace hv := hv.2 c1
    refine wa_iconst X dX0_worth_7 kc0 ?_
    refine wa_goto X (tgt := 23) dX0_worth_8 (by decide) ?_
    exact wa_ireturn X E dX0_worth_23 (Nat.le_of_ble_eq_true rfl) (Nat.le_of_ble_eq_true rfl) (Or.inl rfl) ⟨hw, _, rfl, hv⟩
theorem v_Bid_worth {i0 : Nat} {S : hs_S} (hP : P_Bid_worth i0 S) : vc_Bid_worth i0 S (fun r S' => r = F_Bid_worth i0 S ∧ S' = S) :=
  ⟨fun h => ⟨hP, (if_neg h).symm, rfl⟩, fun h => ⟨(if_pos h).symm, rfl⟩⟩
theorem f_Bid_worth {i0 : Nat} {S : hs_S} (hi0 : i0 ≠ 0) (hw : hs_Wi S) (hP : P_Bid_worth i0 S) : hs_M 1 yX0_worth (.code yX0_worth cX0_worth 1 (some FieldType.int)) [.inr (.inr (0, i0))] S 0 0 (hs_pd (some (.inl (F_Bid_worth i0 S))) S) hs_nX := hs_pdI (ok_Bid_worth hi0 hw (v_Bid_worth hP))

def F_Bid_standsAt (i0 : Nat) (a1 : Int32) (S : hs_S) : Int32 := bI (¬ a1 ≤ S.1 0 i0 6 ∧ ¬ S.1 0 i0 7 < a1 ∧ ¬ S.1 8 (S.2.1 0 i0 2) 2 < a1 ∧ S.1 0 i0 8 = 0)
def P_Bid_standsAt (i0 : Nat) (a1 : Int32) (S : hs_S) : Prop := S.2.1 0 i0 2 ≠ 0
def m_Bid_standsAt (i0 : Nat) (a1 : Int32) (S : hs_S) (Q : Int32 → hs_S → Prop) : Prop := hs_M 1 yX0_standsAt (.code yX0_standsAt cX0_standsAt 2 (some FieldType.boolean)) [.inr (.inr (0, i0)), .inl a1] S 0 0 (hs_qI Q) hs_nX
def vc_Bid_standsAt (i0 : Nat) (a1 : Int32) (S : hs_S) (Q : Int32 → hs_S → Prop) : Prop := ((a1 ≤ (S.1 0 i0 6) → (Q (0 : Int32) S)) ∧ (¬ a1 ≤ (S.1 0 i0 6) → (((S.1 0 i0 7) < a1 → (Q (0 : Int32) S)) ∧ (¬ (S.1 0 i0 7) < a1 → (((S.2.1 0 i0 2) ≠ 0) ∧ (((S.1 8 (S.2.1 0 i0 2) 2) < a1 → (Q (0 : Int32) S)) ∧ (¬ (S.1 8 (S.2.1 0 i0 2) 2) < a1 → ((¬ (S.1 0 i0 8) = 0 → (Q (0 : Int32) S)) ∧ ((S.1 0 i0 8) = 0 → (Q (1 : Int32) S))))))))))
set_option maxRecDepth 100000 in
set_option maxHeartbeats 4000000 in
theorem ok_Bid_standsAt {i0 : Nat} {a1 : Int32} {S : hs_S} {Q : Int32 → hs_S → Prop} (hi0 : i0 ≠ 0) (hw : hs_Wi S) (hv : vc_Bid_standsAt i0 a1 S Q) : m_Bid_standsAt i0 a1 S Q := by
  unfold vc_Bid_standsAt at hv
  refine hs_body (own := RX0) rfl rfl (Nat.le_of_ble_eq_true rfl) (fun Z X E N J0 => ?_)
  show wa Z 0 0 S 0 [(0, .inr (.inr (0, i0))), (1, .inl a1)] []
  refine wa_aload_n X 0 rfl dX0_standsAt_0 rfl ?_
  refine wa_getI X (j := 6) hk_0 hc_0 i_0 (by decide) kw_858 rfl dX0_standsAt_1 hi0 ?_
  refine wa_iload_n X 1 rfl dX0_standsAt_4 rfl ?_
  refine wa_icmp_ge X (tgt := 38) dX0_standsAt_5 (by decide) (fun c1 => ?_) (fun c1 => ?_)
  · replace hv := hv.1 c1
    refine wa_iconst X dX0_standsAt_38 kc0 ?_
    exact wa_ireturn X E dX0_standsAt_39 (Nat.le_of_ble_eq_true rfl) (Nat.le_of_ble_eq_true rfl) (Or.inr ⟨rfl, Or.inl rfl⟩) ⟨hw, _, rfl, hv⟩
  · replace hv := hv.2 c1
    refine wa_aload_n X 0 rfl dX0_standsAt_8 rfl ?_
    refine wa_getI X (j := 7) hk_0 hc_0 i_0 (by decide) kw_859 rfl dX0_standsAt_9 hi0 ?_
    refine wa_iload_n X 1 rfl dX0_standsAt_12 rfl ?_
    refine wa_icmp_lt X (tgt := 38) dX0_standsAt_13 (by decide) (fun c2 => ?_) (fun c2 => ?_)
    · replace hv := hv.1 c2
      refine wa_iconst X dX0_standsAt_38 kc0 ?_
      exact wa_ireturn X E dX0_standsAt_39 (Nat.le_of_ble_eq_true rfl) (Nat.le_of_ble_eq_true rfl) (Or.inr ⟨rfl, Or.inl rfl⟩) ⟨hw, _, rfl, hv⟩
    · replace hv := hv.2 c2
      refine wa_aload_n X 0 rfl dX0_standsAt_16 rfl ?_
      refine wa_getR X (j := 2) hk_0 hc_0 i_0 (by decide) kw_841 rfl dX0_standsAt_17 hi0 ?_
      obtain ⟨o3, hv⟩ := hv
      refine wa_getI X (j := 2) hk_8 hc_8 i_8 (by decide) kw_183 rfl dX0_standsAt_20 o3 ?_
      refine wa_iload_n X 1 rfl dX0_standsAt_23 rfl ?_
      refine wa_icmp_lt X (tgt := 38) dX0_standsAt_24 (by decide) (fun c4 => ?_) (fun c4 => ?_)
      · replace hv := hv.1 c4
        refine wa_iconst X dX0_standsAt_38 kc0 ?_
        exact wa_ireturn X E dX0_standsAt_39 (Nat.le_of_ble_eq_true rfl) (Nat.le_of_ble_eq_true rfl) (Or.inr ⟨rfl, Or.inl rfl⟩) ⟨hw, _, rfl, hv⟩
      · replace hv := hv.2 c4
        refine wa_aload_n X 0 rfl dX0_standsAt_27 rfl ?_
        refine wa_getI X (j := 8) hk_0 hc_0 i_0 (by decide) kw_862 rfl dX0_standsAt_28 hi0 ?_
        refine wa_if_ne X (tgt := 38) dX0_standsAt_31 (by decide) (fun c5 => ?_) (fun c5 => ?_)
        · replace hv := hv.1 c5
          refine wa_iconst X dX0_standsAt_38 kc0 ?_
          exact wa_ireturn X E dX0_standsAt_39 (Nat.le_of_ble_eq_true rfl) (Nat.le_of_ble_eq_true rfl) (Or.inr ⟨rfl, Or.inl rfl⟩) ⟨hw, _, rfl, hv⟩
        · replace hv := hv.2 c5
          refine wa_iconst X dX0_standsAt_34 kc1 ?_
          refine wa_goto X (tgt := 39) dX0_standsAt_35 (by decide) ?_
          exact wa_ireturn X E dX0_standsAt_39 (Nat.le_of_ble_eq_true rfl) (Nat.le_of_ble_eq_true rfl) (Or.inr ⟨rfl, Or.inr rfl⟩) ⟨hw, _, rfl, hv⟩
theorem v_Bid_standsAt {i0 : Nat} {a1 : Int32} {S : hs_S} (hP : P_Bid_standsAt i0 a1 S) : vc_Bid_standsAt i0 a1 S (fun r S' => r = F_Bid_standsAt i0 a1 S ∧ S' = S) :=
  ⟨fun h => ⟨(bI_f fun z => z.1 h).symm, rfl⟩, fun h => ⟨fun h2 => ⟨(bI_f fun z => z.2.1 h2).symm, rfl⟩, fun h2 => ⟨hP, fun h3 => ⟨(bI_f fun z => z.2.2.1 h3).symm, rfl⟩, fun h3 => ⟨fun h4 => ⟨(bI_f fun z => h4 z.2.2.2).symm, rfl⟩, fun h4 => ⟨(bI_t ⟨h, h2, h3, h4⟩).symm, rfl⟩⟩⟩⟩⟩
theorem f_Bid_standsAt {i0 : Nat} {a1 : Int32} {S : hs_S} (hi0 : i0 ≠ 0) (hw : hs_Wi S) (hP : P_Bid_standsAt i0 a1 S) : hs_M 1 yX0_standsAt (.code yX0_standsAt cX0_standsAt 2 (some FieldType.boolean)) [.inr (.inr (0, i0)), .inl a1] S 0 0 (hs_pd (some (.inl (F_Bid_standsAt i0 a1 S))) S) hs_nX := hs_pdI (ok_Bid_standsAt hi0 hw (v_Bid_standsAt hP))

