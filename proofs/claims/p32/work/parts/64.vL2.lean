def m_L_both (a3 : Int32) (a4 : Int32) (a5 : Int32) (a6 : Int32) (S U : hs_S) (Q : Int32 → hs_S → hs_S → Prop) : Prop := b_M 58 yL_both (.code yL_both cL_both 7 (some FieldType.int)) [.inr (.inr (10, 1)), .inr (.inr (210, 1)), .inl a3, .inl a4, .inl a5, .inl a6] (S, U) 22 476 (b_qI Q)
def vc_L_both (a3 : Int32) (a4 : Int32) (a5 : Int32) (a6 : Int32) (S U : hs_S) (Q : Int32 → hs_S → hs_S → Prop) : Prop := (hs_Wi S → m_L_call a3 a4 a5 a6 S (fun r2 S1 => (hs_Wi U → m_L_call a3 a4 a5 a6 U (fun r4 S3 => ((¬ r2 = r4 → (Q (-2100000099 : Int32) S1 S3)) ∧ (r2 = r4 → (Q r2 S1 S3)))))))
set_option maxRecDepth 100000 in
set_option maxHeartbeats 4000000 in
theorem ok_L_both {a3 : Int32} {a4 : Int32} {a5 : Int32} {a6 : Int32} {S U : hs_S} {Q : Int32 → hs_S → hs_S → Prop} (hw : hs_Wi S) (hu : hs_Wi U) (hv : vc_L_both a3 a4 a5 a6 S U Q) : m_L_both a3 a4 a5 a6 S U Q := by
  unfold vc_L_both at hv
  refine b_body (own := RL) rfl rfl (Nat.le_of_ble_eq_true rfl) (fun Z X E => ?_)
  show wb Z 0 0 (S, U) 0 [(0, .inr (.inr (10, 1))), (1, .inr (.inr (210, 1))), (2, .inl a3), (3, .inl a4), (4, .inl a5), (5, .inl a6)] []
  refine wb_aload_n X 0 rfl dL_both_0 rfl ?_
  refine wb_iload_n X 2 rfl dL_both_1 rfl ?_
  refine wb_iload_n X 3 rfl dL_both_2 rfl ?_
  refine wb_iload X 4 rfl dL_both_3 ?_
  refine wb_iload X 5 rfl dL_both_5 ?_
  refine wb_callW1 X (As := [.inr (.inr (10, 1)), .inl a3, .inl a4, .inl a5, .inl a6]) (hv hw) rfl b_nr_I kw_507 kw_20 kw_505 kw_506 nd_L_call rfl rfl (Nat.le_of_ble_eq_true rfl) dL_both_7 ⟨⟨Nat.le_of_ble_eq_true rfl, Nat.le_of_ble_eq_true rfl⟩, Nat.le_of_ble_eq_true rfl, Nat.le_of_ble_eq_true rfl⟩ (fun v S1 h => ?_)
  obtain ⟨hw, r2, rfl, hv⟩ := h
  refine wb_istore X (lv' := [(6, .inl r2), (0, .inr (.inr (10, 1))), (1, .inr (.inr (210, 1))), (2, .inl a3), (3, .inl a4), (4, .inl a5), (5, .inl a6)]) dL_both_10 (by decide) rfl ?_
  refine wb_iload X 0 rfl dL_both_12 ?_
  refine wb_aload_n X 2 rfl dL_both_14 rfl ?_
  refine wb_iload_n X 3 rfl dL_both_15 rfl ?_
  refine wb_iload_n X 4 rfl dL_both_16 rfl ?_
  refine wb_iload X 5 rfl dL_both_17 ?_
  refine wb_iload X 6 rfl dL_both_19 ?_
  refine wb_callW2 X (As := [.inr (.inr (10, 1)), .inl a3, .inl a4, .inl a5, .inl a6]) (hv hu) b_nr_I kw_507 kw_20 kw_505 kw_506 nd_L_call rfl rfl (Nat.le_of_ble_eq_true rfl) dL_both_21 ⟨⟨Nat.le_of_ble_eq_true rfl, Nat.le_of_ble_eq_true rfl⟩, Nat.le_of_ble_eq_true rfl, Nat.le_of_ble_eq_true rfl⟩ (fun v S3 h => ?_)
  obtain ⟨hu, r4, rfl, hv⟩ := h
  refine wb_icmp_ne X (tgt := 32) dL_both_24 (by decide) (fun c5 => ?_) (fun c5 => ?_)
  · replace hv := hv.1 c5
    refine wb_ldc X kw_1082 dL_both_32 ?_
    exact wb_ireturn X E dL_both_34 (Nat.le_of_ble_eq_true rfl) (Nat.le_of_ble_eq_true rfl) (Or.inl rfl) ⟨hw, hu, _, rfl, hv⟩
  · replace hv := hv.2 c5
    refine wb_iload X 0 rfl dL_both_27 ?_
    refine wb_goto X (tgt := 34) dL_both_29 (by decide) ?_
    exact wb_ireturn X E dL_both_34 (Nat.le_of_ble_eq_true rfl) (Nat.le_of_ble_eq_true rfl) (Or.inl rfl) ⟨hw, hu, _, rfl, hv⟩

def m_L_gives (a3 : Int32) (S U : hs_S) (Q : Int32 → hs_S → hs_S → Prop) : Prop := b_M 59 yL_gives (.code yL_gives cL_gives 11 (some FieldType.boolean)) [.inr (.inr (10, 1)), .inr (.inr (210, 1)), .inl a3] (S, U) 22 476 (b_qI Q)
def vc_L_gives (a3 : Int32) (S U : hs_S) (Q : Int32 → hs_S → hs_S → Prop) : Prop := ((P_L_some a3 (4 : Int32) S) ∧ ((P_L_some (a3 >>> ((3 : Int32) &&& 31)) (6 : Int32) S) ∧ ((P_Cq_ownerOf (F_L_some a3 (4 : Int32)) (F_L_some (a3 >>> ((3 : Int32) &&& 31)) (6 : Int32)) S) ∧ ((P_L_some (a3 >>> ((6 : Int32) &&& 31)) (6 : Int32) S) ∧ ((P_L_some (a3 >>> ((9 : Int32) &&& 31)) (6 : Int32) S) ∧ ((P_Cq_reads (F_L_some (a3 >>> ((9 : Int32) &&& 31)) (6 : Int32)) (F_L_some a3 (4 : Int32)) (F_L_some (a3 >>> ((3 : Int32) &&& 31)) (6 : Int32)) S) ∧ ((P_L_some (a3 >>> ((11 : Int32) &&& 31)) (2 : Int32) S) ∧ ((¬ (F_L_some (a3 >>> ((11 : Int32) &&& 31)) (2 : Int32)) = 0 → ((P_L_some (a3 >>> ((12 : Int32) &&& 31)) (3 : Int32) S) ∧ (∀ x10 : Int32, x10 = (if (F_L_some (a3 >>> ((12 : Int32) &&& 31)) (3 : Int32)) ≤ 0 then (0 : Int32) else (1 : Int32)) → ((¬ (F_L_some (a3 >>> ((9 : Int32) &&& 31)) (6 : Int32)) = (F_Cq_ownerOf (F_L_some a3 (4 : Int32)) (F_L_some (a3 >>> ((3 : Int32) &&& 31)) (6 : Int32)) S) → (hs_Wi S → hs_Wi U → m_L_both (1 : Int32) (F_Cq_ownerOf (F_L_some a3 (4 : Int32)) (F_L_some (a3 >>> ((3 : Int32) &&& 31)) (6 : Int32)) S) ((((8 : Int32) * ((F_L_some (a3 >>> ((9 : Int32) &&& 31)) (6 : Int32)) + (2 : Int32))) + (F_L_some a3 (4 : Int32))) + (2 : Int32)) ((((16 : Int32) * ((F_L_some (a3 >>> ((3 : Int32) &&& 31)) (6 : Int32)) + (1 : Int32))) + ((2 : Int32) * ((F_L_some (a3 >>> ((3 : Int32) &&& 31)) (6 : Int32)) + (1 : Int32)))) + x10) S U (fun r14 S12 U13 => (r14 = (1 : Int32) ∧ ((P_Cq_reads (F_L_some (a3 >>> ((9 : Int32) &&& 31)) (6 : Int32)) (F_L_some a3 (4 : Int32)) (F_L_some (a3 >>> ((3 : Int32) &&& 31)) (6 : Int32)) S12) ∧ (∀ x17 : Int32, x17 = (if x10 = (1 : Int32) then (1 : Int32) else (0 : Int32)) → ((F_Cq_reads (F_L_some (a3 >>> ((9 : Int32) &&& 31)) (6 : Int32)) (F_L_some a3 (4 : Int32)) (F_L_some (a3 >>> ((3 : Int32) &&& 31)) (6 : Int32)) S12) = x17 ∧ ((P_Cq_ownerOf (F_L_some a3 (4 : Int32)) (F_L_some (a3 >>> ((3 : Int32) &&& 31)) (6 : Int32)) S12) ∧ ((F_Cq_ownerOf (F_L_some a3 (4 : Int32)) (F_L_some (a3 >>> ((3 : Int32) &&& 31)) (6 : Int32)) S12) = (F_Cq_ownerOf (F_L_some a3 (4 : Int32)) (F_L_some (a3 >>> ((3 : Int32) &&& 31)) (6 : Int32)) S) ∧ (Q (1 : Int32) S12 U13)))))))))) ∧ ((F_L_some (a3 >>> ((9 : Int32) &&& 31)) (6 : Int32)) = (F_Cq_ownerOf (F_L_some a3 (4 : Int32)) (F_L_some (a3 >>> ((3 : Int32) &&& 31)) (6 : Int32)) S) → (hs_Wi S → hs_Wi U → m_L_both (1 : Int32) (F_Cq_ownerOf (F_L_some a3 (4 : Int32)) (F_L_some (a3 >>> ((3 : Int32) &&& 31)) (6 : Int32)) S) ((((8 : Int32) * ((F_L_some (a3 >>> ((9 : Int32) &&& 31)) (6 : Int32)) + (2 : Int32))) + (F_L_some a3 (4 : Int32))) + (2 : Int32)) ((((16 : Int32) * ((F_L_some (a3 >>> ((3 : Int32) &&& 31)) (6 : Int32)) + (1 : Int32))) + ((2 : Int32) * ((F_L_some (a3 >>> ((3 : Int32) &&& 31)) (6 : Int32)) + (1 : Int32)))) + x10) S U (fun r26 S24 U25 => (r26 = (-2100000002 : Int32) ∧ (Q (1 : Int32) S24 U25))))))))) ∧ ((F_L_some (a3 >>> ((11 : Int32) &&& 31)) (2 : Int32)) = 0 → (hs_Wi S → hs_Wi U → m_L_both (0 : Int32) (F_Cq_ownerOf (F_L_some a3 (4 : Int32)) (F_L_some (a3 >>> ((3 : Int32) &&& 31)) (6 : Int32)) S) ((((8 : Int32) * ((F_L_some a3 (4 : Int32)) + (2 : Int32))) + (F_L_some (a3 >>> ((3 : Int32) &&& 31)) (6 : Int32))) + (1 : Int32)) (F_L_some (a3 >>> ((6 : Int32) &&& 31)) (6 : Int32)) S U (fun r33 S31 U32 => (¬ r33 ≤ 0 ∧ (¬ (25 : Int32) ≤ r33 ∧ ((P_Cq_ownerOf (F_L_some a3 (4 : Int32)) (F_L_some (a3 >>> ((3 : Int32) &&& 31)) (6 : Int32)) S31) ∧ ((F_Cq_ownerOf (F_L_some a3 (4 : Int32)) (F_L_some (a3 >>> ((3 : Int32) &&& 31)) (6 : Int32)) S31) = (F_L_some (a3 >>> ((6 : Int32) &&& 31)) (6 : Int32)) ∧ ((P_Cq_reads (F_L_some (a3 >>> ((6 : Int32) &&& 31)) (6 : Int32)) (F_L_some a3 (4 : Int32)) (F_L_some (a3 >>> ((3 : Int32) &&& 31)) (6 : Int32)) S31) ∧ (¬ (F_Cq_reads (F_L_some (a3 >>> ((6 : Int32) &&& 31)) (6 : Int32)) (F_L_some a3 (4 : Int32)) (F_L_some (a3 >>> ((3 : Int32) &&& 31)) (6 : Int32)) S31) = 0 ∧ (((F_L_some (a3 >>> ((9 : Int32) &&& 31)) (6 : Int32)) = (F_Cq_ownerOf (F_L_some a3 (4 : Int32)) (F_L_some (a3 >>> ((3 : Int32) &&& 31)) (6 : Int32)) S) → (Q (1 : Int32) S31 U32)) ∧ (¬ (F_L_some (a3 >>> ((9 : Int32) &&& 31)) (6 : Int32)) = (F_Cq_ownerOf (F_L_some a3 (4 : Int32)) (F_L_some (a3 >>> ((3 : Int32) &&& 31)) (6 : Int32)) S) → ((P_Cq_reads (F_L_some (a3 >>> ((9 : Int32) &&& 31)) (6 : Int32)) (F_L_some a3 (4 : Int32)) (F_L_some (a3 >>> ((3 : Int32) &&& 31)) (6 : Int32)) S31) ∧ (∀ x43 : Int32, x43 = (if (F_Cq_reads (F_L_some (a3 >>> ((9 : Int32) &&& 31)) (6 : Int32)) (F_L_some a3 (4 : Int32)) (F_L_some (a3 >>> ((3 : Int32) &&& 31)) (6 : Int32)) S) = 0 then (if (F_L_some (a3 >>> ((9 : Int32) &&& 31)) (6 : Int32)) = (F_L_some (a3 >>> ((6 : Int32) &&& 31)) (6 : Int32)) then (1 : Int32) else (0 : Int32)) else (1 : Int32)) → ((F_Cq_reads (F_L_some (a3 >>> ((9 : Int32) &&& 31)) (6 : Int32)) (F_L_some a3 (4 : Int32)) (F_L_some (a3 >>> ((3 : Int32) &&& 31)) (6 : Int32)) S31) = x43 ∧ (Q (1 : Int32) S31 U32)))))))))))))))))))))))
set_option maxRecDepth 100000 in
set_option maxHeartbeats 4000000 in
theorem ok_L_gives {a3 : Int32} {S U : hs_S} {Q : Int32 → hs_S → hs_S → Prop} (hw : hs_Wi S) (hu : hs_Wi U) (hv : vc_L_gives a3 S U Q) : m_L_gives a3 S U Q := by
  unfold vc_L_gives at hv
  refine b_body (own := RL) rfl rfl (Nat.le_of_ble_eq_true rfl) (fun Z X E => ?_)
  show wb Z 0 0 (S, U) 0 [(0, .inr (.inr (10, 1))), (1, .inr (.inr (210, 1))), (2, .inl a3)] []
  refine wb_iload_n X 2 rfl dL_gives_0 rfl ?_
  refine wb_iconst X dL_gives_1 kc4 ?_
  obtain ⟨o1, hv⟩ := hv
  refine wb_callS1 X (As := [.inl a3, .inl (4 : Int32)]) (f_L_some hw o1) rfl b_nr_pI kw_504 kw_20 kw_502 kw_503 nd_L_some rfl rfl (Nat.le_of_ble_eq_true rfl) dL_gives_2 ⟨⟨Nat.le_of_ble_eq_true rfl, Nat.le_of_ble_eq_true rfl⟩, Nat.le_of_ble_eq_true rfl, Nat.le_of_ble_eq_true rfl⟩ (b_pdk1 ?_)
  refine wb_istore_n X (lv' := [(3, .inl (F_L_some a3 (4 : Int32))), (0, .inr (.inr (10, 1))), (1, .inr (.inr (210, 1))), (2, .inl a3)]) dL_gives_5 rfl (by decide) rfl ?_
  refine wb_iload_n X 3 rfl dL_gives_6 rfl ?_
  refine wb_iconst X dL_gives_7 kc3 ?_
  refine wb_ishr X dL_gives_8 ?_
  refine wb_bipush X dL_gives_9 kb6 ?_
  obtain ⟨o2, hv⟩ := hv
  refine wb_callS1 X (As := [.inl (a3 >>> ((3 : Int32) &&& 31)), .inl (6 : Int32)]) (f_L_some hw o2) rfl b_nr_pI kw_504 kw_20 kw_502 kw_503 nd_L_some rfl rfl (Nat.le_of_ble_eq_true rfl) dL_gives_11 ⟨⟨Nat.le_of_ble_eq_true rfl, Nat.le_of_ble_eq_true rfl⟩, Nat.le_of_ble_eq_true rfl, Nat.le_of_ble_eq_true rfl⟩ (b_pdk1 ?_)
  refine wb_istore X (lv' := [(4, .inl (F_L_some (a3 >>> ((3 : Int32) &&& 31)) (6 : Int32))), (3, .inl (F_L_some a3 (4 : Int32))), (0, .inr (.inr (10, 1))), (1, .inr (.inr (210, 1))), (2, .inl a3)]) dL_gives_14 (by decide) rfl ?_
  refine wb_aload_n X 2 rfl dL_gives_16 rfl ?_
  refine wb_iload_n X 1 rfl dL_gives_17 rfl ?_
  refine wb_iload X 0 rfl dL_gives_18 ?_
  obtain ⟨o3, hv⟩ := hv
  refine wb_callV1 X (As := [.inl (F_L_some a3 (4 : Int32)), .inl (F_L_some (a3 >>> ((3 : Int32) &&& 31)) (6 : Int32))]) (f_Cq_ownerOf hw o3) rfl b_nr_pI hk_10 hc_10 rfl kw_1058 kw_21 kw_1055 kw_1056 kw_1057 nd_X10_ownerOf rfl rfl (Nat.le_of_ble_eq_true rfl) dL_gives_20 hs_1ne (by decide) ⟨⟨Nat.le_of_ble_eq_true rfl, Nat.le_of_ble_eq_true rfl⟩, Nat.le_of_ble_eq_true rfl, Nat.le_of_ble_eq_true rfl⟩ (b_pdk1 ?_)
  refine wb_istore X (lv' := [(5, .inl (F_Cq_ownerOf (F_L_some a3 (4 : Int32)) (F_L_some (a3 >>> ((3 : Int32) &&& 31)) (6 : Int32)) S)), (4, .inl (F_L_some (a3 >>> ((3 : Int32) &&& 31)) (6 : Int32))), (3, .inl (F_L_some a3 (4 : Int32))), (0, .inr (.inr (10, 1))), (1, .inr (.inr (210, 1))), (2, .inl a3)]) dL_gives_23 (by decide) rfl ?_
  refine wb_iload_n X 5 rfl dL_gives_25 rfl ?_
  refine wb_bipush X dL_gives_26 kb6 ?_
  refine wb_ishr X dL_gives_28 ?_
  refine wb_bipush X dL_gives_29 kb6 ?_
  obtain ⟨o4, hv⟩ := hv
  refine wb_callS1 X (As := [.inl (a3 >>> ((6 : Int32) &&& 31)), .inl (6 : Int32)]) (f_L_some hw o4) rfl b_nr_pI kw_504 kw_20 kw_502 kw_503 nd_L_some rfl rfl (Nat.le_of_ble_eq_true rfl) dL_gives_31 ⟨⟨Nat.le_of_ble_eq_true rfl, Nat.le_of_ble_eq_true rfl⟩, Nat.le_of_ble_eq_true rfl, Nat.le_of_ble_eq_true rfl⟩ (b_pdk1 ?_)
  refine wb_istore X (lv' := [(6, .inl (F_L_some (a3 >>> ((6 : Int32) &&& 31)) (6 : Int32))), (5, .inl (F_Cq_ownerOf (F_L_some a3 (4 : Int32)) (F_L_some (a3 >>> ((3 : Int32) &&& 31)) (6 : Int32)) S)), (4, .inl (F_L_some (a3 >>> ((3 : Int32) &&& 31)) (6 : Int32))), (3, .inl (F_L_some a3 (4 : Int32))), (0, .inr (.inr (10, 1))), (1, .inr (.inr (210, 1))), (2, .inl a3)]) dL_gives_34 (by decide) rfl ?_
  refine wb_iload_n X 6 rfl dL_gives_36 rfl ?_
  refine wb_bipush X dL_gives_37 kb9 ?_
  refine wb_ishr X dL_gives_39 ?_
  refine wb_bipush X dL_gives_40 kb6 ?_
  obtain ⟨o5, hv⟩ := hv
  refine wb_callS1 X (As := [.inl (a3 >>> ((9 : Int32) &&& 31)), .inl (6 : Int32)]) (f_L_some hw o5) rfl b_nr_pI kw_504 kw_20 kw_502 kw_503 nd_L_some rfl rfl (Nat.le_of_ble_eq_true rfl) dL_gives_42 ⟨⟨Nat.le_of_ble_eq_true rfl, Nat.le_of_ble_eq_true rfl⟩, Nat.le_of_ble_eq_true rfl, Nat.le_of_ble_eq_true rfl⟩ (b_pdk1 ?_)
  refine wb_istore X (lv' := [(7, .inl (F_L_some (a3 >>> ((9 : Int32) &&& 31)) (6 : Int32))), (6, .inl (F_L_some (a3 >>> ((6 : Int32) &&& 31)) (6 : Int32))), (5, .inl (F_Cq_ownerOf (F_L_some a3 (4 : Int32)) (F_L_some (a3 >>> ((3 : Int32) &&& 31)) (6 : Int32)) S)), (4, .inl (F_L_some (a3 >>> ((3 : Int32) &&& 31)) (6 : Int32))), (3, .inl (F_L_some a3 (4 : Int32))), (0, .inr (.inr (10, 1))), (1, .inr (.inr (210, 1))), (2, .inl a3)]) dL_gives_45 (by decide) rfl ?_
  refine wb_aload_n X 5 rfl dL_gives_47 rfl ?_
  refine wb_iload X 0 rfl dL_gives_48 ?_
  refine wb_iload_n X 4 rfl dL_gives_50 rfl ?_
  refine wb_iload X 3 rfl dL_gives_51 ?_
  obtain ⟨o6, hv⟩ := hv
  refine wb_callV1 X (As := [.inl (F_L_some (a3 >>> ((9 : Int32) &&& 31)) (6 : Int32)), .inl (F_L_some a3 (4 : Int32)), .inl (F_L_some (a3 >>> ((3 : Int32) &&& 31)) (6 : Int32))]) (f_Cq_reads hw o6) rfl b_nr_pI hk_10 hc_10 rfl kw_1062 kw_21 kw_1059 kw_1060 kw_1061 nd_X10_reads rfl rfl (Nat.le_of_ble_eq_true rfl) dL_gives_53 hs_1ne (by decide) ⟨⟨Nat.le_of_ble_eq_true rfl, Nat.le_of_ble_eq_true rfl⟩, Nat.le_of_ble_eq_true rfl, Nat.le_of_ble_eq_true rfl⟩ (b_pdk1 ?_)
  refine wb_istore X (lv' := [(8, .inl (F_Cq_reads (F_L_some (a3 >>> ((9 : Int32) &&& 31)) (6 : Int32)) (F_L_some a3 (4 : Int32)) (F_L_some (a3 >>> ((3 : Int32) &&& 31)) (6 : Int32)) S)), (7, .inl (F_L_some (a3 >>> ((9 : Int32) &&& 31)) (6 : Int32))), (6, .inl (F_L_some (a3 >>> ((6 : Int32) &&& 31)) (6 : Int32))), (5, .inl (F_Cq_ownerOf (F_L_some a3 (4 : Int32)) (F_L_some (a3 >>> ((3 : Int32) &&& 31)) (6 : Int32)) S)), (4, .inl (F_L_some (a3 >>> ((3 : Int32) &&& 31)) (6 : Int32))), (3, .inl (F_L_some a3 (4 : Int32))), (0, .inr (.inr (10, 1))), (1, .inr (.inr (210, 1))), (2, .inl a3)]) dL_gives_56 (by decide) rfl ?_
  refine wb_iload_n X 8 rfl dL_gives_58 rfl ?_
  refine wb_bipush X dL_gives_59 kb11 ?_
  refine wb_ishr X dL_gives_61 ?_
  refine wb_iconst X dL_gives_62 kc2 ?_
  obtain ⟨o7, hv⟩ := hv
  refine wb_callS1 X (As := [.inl (a3 >>> ((11 : Int32) &&& 31)), .inl (2 : Int32)]) (f_L_some hw o7) rfl b_nr_pI kw_504 kw_20 kw_502 kw_503 nd_L_some rfl rfl (Nat.le_of_ble_eq_true rfl) dL_gives_63 ⟨⟨Nat.le_of_ble_eq_true rfl, Nat.le_of_ble_eq_true rfl⟩, Nat.le_of_ble_eq_true rfl, Nat.le_of_ble_eq_true rfl⟩ (b_pdk1 ?_)
  refine wb_if_ne X (tgt := 182) dL_gives_66 (by decide) (fun c8 => ?_) (fun c8 => ?_)
  · replace hv := hv.1 c8
    refine wb_iload_n X 8 rfl dL_gives_182 rfl ?_
    refine wb_bipush X dL_gives_183 kb12 ?_
    refine wb_ishr X dL_gives_185 ?_
    refine wb_iconst X dL_gives_186 kc3 ?_
    obtain ⟨o9, hv⟩ := hv
    refine wb_callS1 X (As := [.inl (a3 >>> ((12 : Int32) &&& 31)), .inl (3 : Int32)]) (f_L_some hw o9) rfl b_nr_pI kw_504 kw_20 kw_502 kw_503 nd_L_some rfl rfl (Nat.le_of_ble_eq_true rfl) dL_gives_187 ⟨⟨Nat.le_of_ble_eq_true rfl, Nat.le_of_ble_eq_true rfl⟩, Nat.le_of_ble_eq_true rfl, Nat.le_of_ble_eq_true rfl⟩ (b_pdk1 ?_)
    have k28 : ∀ (x10 : Int32), x10 = (if (F_L_some (a3 >>> ((12 : Int32) &&& 31)) (3 : Int32)) ≤ 0 then (0 : Int32) else (1 : Int32)) → wb Z 0 0 (S, U) 198 [(0, .inr (.inr (10, 1))), (1, .inr (.inr (210, 1))), (3, .inl (F_L_some a3 (4 : Int32))), (4, .inl (F_L_some (a3 >>> ((3 : Int32) &&& 31)) (6 : Int32))), (5, .inl (F_Cq_ownerOf (F_L_some a3 (4 : Int32)) (F_L_some (a3 >>> ((3 : Int32) &&& 31)) (6 : Int32)) S)), (7, .inl (F_L_some (a3 >>> ((9 : Int32) &&& 31)) (6 : Int32)))] [.inl x10] := by
      intro x10 hE
      replace hv := hv _ hE
      refine wb_istore X (lv' := [(9, .inl x10), (0, .inr (.inr (10, 1))), (1, .inr (.inr (210, 1))), (3, .inl (F_L_some a3 (4 : Int32))), (4, .inl (F_L_some (a3 >>> ((3 : Int32) &&& 31)) (6 : Int32))), (5, .inl (F_Cq_ownerOf (F_L_some a3 (4 : Int32)) (F_L_some (a3 >>> ((3 : Int32) &&& 31)) (6 : Int32)) S)), (7, .inl (F_L_some (a3 >>> ((9 : Int32) &&& 31)) (6 : Int32)))]) dL_gives_198 (by decide) rfl ?_
      refine wb_iload X 6 rfl dL_gives_200 ?_
      refine wb_iload X 5 rfl dL_gives_202 ?_
      refine wb_icmp_ne X (tgt := 254) dL_gives_204 (by decide) (fun c11 => ?_) (fun c11 => ?_)
      · replace hv := hv.1 c11
        refine wb_aload_n X 1 rfl dL_gives_254 rfl ?_
        refine wb_aload_n X 2 rfl dL_gives_255 rfl ?_
        refine wb_iconst X dL_gives_256 kc1 ?_
        refine wb_iload X 5 rfl dL_gives_257 ?_
        refine wb_bipush X dL_gives_259 kb8 ?_
        refine wb_iload X 6 rfl dL_gives_261 ?_
        refine wb_iconst X dL_gives_263 kc2 ?_
        refine wb_iadd X dL_gives_264 ?_
        refine wb_imul X dL_gives_265 ?_
        refine wb_iload_n X 3 rfl dL_gives_266 rfl ?_
        refine wb_iadd X dL_gives_267 ?_
        refine wb_iconst X dL_gives_268 kc2 ?_
        refine wb_iadd X dL_gives_269 ?_
        refine wb_bipush X dL_gives_270 kb16 ?_
        refine wb_iload X 4 rfl dL_gives_272 ?_
        refine wb_iconst X dL_gives_274 kc1 ?_
        refine wb_iadd X dL_gives_275 ?_
        refine wb_imul X dL_gives_276 ?_
        refine wb_iconst X dL_gives_277 kc2 ?_
        refine wb_iload X 4 rfl dL_gives_278 ?_
        refine wb_iconst X dL_gives_280 kc1 ?_
        refine wb_iadd X dL_gives_281 ?_
        refine wb_imul X dL_gives_282 ?_
        refine wb_iadd X dL_gives_283 ?_
        refine wb_iload X 0 rfl dL_gives_284 ?_
        refine wb_iadd X dL_gives_286 ?_
        refine wb_callB X (As := [.inr (.inr (10, 1)), .inr (.inr (210, 1)), .inl (1 : Int32), .inl (F_Cq_ownerOf (F_L_some a3 (4 : Int32)) (F_L_some (a3 >>> ((3 : Int32) &&& 31)) (6 : Int32)) S), .inl ((((8 : Int32) * ((F_L_some (a3 >>> ((9 : Int32) &&& 31)) (6 : Int32)) + (2 : Int32))) + (F_L_some a3 (4 : Int32))) + (2 : Int32)), .inl ((((16 : Int32) * ((F_L_some (a3 >>> ((3 : Int32) &&& 31)) (6 : Int32)) + (1 : Int32))) + ((2 : Int32) * ((F_L_some (a3 >>> ((3 : Int32) &&& 31)) (6 : Int32)) + (1 : Int32)))) + x10)]) (hv hw hu) kw_1081 kw_20 kw_1079 kw_1080 nd_L_both rfl rfl (Nat.le_of_ble_eq_true rfl) dL_gives_287 ⟨⟨Nat.le_of_ble_eq_true rfl, Nat.le_of_ble_eq_true rfl⟩, Nat.le_of_ble_eq_true rfl, Nat.le_of_ble_eq_true rfl⟩ (fun v SS12 h => ?_)
        obtain ⟨S12, U13⟩ := SS12
        obtain ⟨hw, hu, r14, rfl, hv⟩ := h
        refine wb_istore X (lv' := [(10, .inl r14), (9, .inl x10), (0, .inr (.inr (10, 1))), (1, .inr (.inr (210, 1))), (3, .inl (F_L_some a3 (4 : Int32))), (4, .inl (F_L_some (a3 >>> ((3 : Int32) &&& 31)) (6 : Int32))), (5, .inl (F_Cq_ownerOf (F_L_some a3 (4 : Int32)) (F_L_some (a3 >>> ((3 : Int32) &&& 31)) (6 : Int32)) S)), (7, .inl (F_L_some (a3 >>> ((9 : Int32) &&& 31)) (6 : Int32)))]) dL_gives_290 (by decide) rfl ?_
        refine wb_iload X 0 rfl dL_gives_292 ?_
        refine wb_iconst X dL_gives_294 kc1 ?_
        obtain ⟨c15, hv⟩ := hv
        refine wb_icmp_ne X (tgt := 337) dL_gives_295 (by decide) (fun c => absurd c15 c) (fun _ => ?_)
        refine wb_aload_n X 2 rfl dL_gives_298 rfl ?_
        refine wb_iload X 7 rfl dL_gives_299 ?_
        refine wb_iload_n X 4 rfl dL_gives_301 rfl ?_
        refine wb_iload X 5 rfl dL_gives_302 ?_
        obtain ⟨o16, hv⟩ := hv
        refine wb_callV1 X (As := [.inl (F_L_some (a3 >>> ((9 : Int32) &&& 31)) (6 : Int32)), .inl (F_L_some a3 (4 : Int32)), .inl (F_L_some (a3 >>> ((3 : Int32) &&& 31)) (6 : Int32))]) (f_Cq_reads hw o16) rfl b_nr_pI hk_10 hc_10 rfl kw_1062 kw_21 kw_1059 kw_1060 kw_1061 nd_X10_reads rfl rfl (Nat.le_of_ble_eq_true rfl) dL_gives_304 hs_1ne (by decide) ⟨⟨Nat.le_of_ble_eq_true rfl, Nat.le_of_ble_eq_true rfl⟩, Nat.le_of_ble_eq_true rfl, Nat.le_of_ble_eq_true rfl⟩ (b_pdk1 ?_)
        refine wb_iload X 1 rfl dL_gives_307 ?_
        refine wb_iconst X dL_gives_309 kc1 ?_
        have k21 : ∀ (x17 : Int32), x17 = (if x10 = (1 : Int32) then (1 : Int32) else (0 : Int32)) → wb Z 22 476 (S12, U13) 318 [(0, .inr (.inr (10, 1))), (3, .inl (F_L_some a3 (4 : Int32))), (4, .inl (F_L_some (a3 >>> ((3 : Int32) &&& 31)) (6 : Int32))), (5, .inl (F_Cq_ownerOf (F_L_some a3 (4 : Int32)) (F_L_some (a3 >>> ((3 : Int32) &&& 31)) (6 : Int32)) S))] [.inl x17, .inl (F_Cq_reads (F_L_some (a3 >>> ((9 : Int32) &&& 31)) (6 : Int32)) (F_L_some a3 (4 : Int32)) (F_L_some (a3 >>> ((3 : Int32) &&& 31)) (6 : Int32)) S12)] := by
          intro x17 hE
          replace hv := hv _ hE
          obtain ⟨c18, hv⟩ := hv
          refine wb_icmp_ne X (tgt := 337) dL_gives_318 (by decide) (fun c => absurd c18 c) (fun _ => ?_)
          refine wb_aload_n X 0 rfl dL_gives_321 rfl ?_
          refine wb_iload_n X 1 rfl dL_gives_322 rfl ?_
          refine wb_iload X 2 rfl dL_gives_323 ?_
          obtain ⟨o19, hv⟩ := hv
          refine wb_callV1 X (As := [.inl (F_L_some a3 (4 : Int32)), .inl (F_L_some (a3 >>> ((3 : Int32) &&& 31)) (6 : Int32))]) (f_Cq_ownerOf hw o19) rfl b_nr_pI hk_10 hc_10 rfl kw_1058 kw_21 kw_1055 kw_1056 kw_1057 nd_X10_ownerOf rfl rfl (Nat.le_of_ble_eq_true rfl) dL_gives_325 hs_1ne (by decide) ⟨⟨Nat.le_of_ble_eq_true rfl, Nat.le_of_ble_eq_true rfl⟩, Nat.le_of_ble_eq_true rfl, Nat.le_of_ble_eq_true rfl⟩ (b_pdk1 ?_)
          refine wb_iload X 3 rfl dL_gives_328 ?_
          obtain ⟨c20, hv⟩ := hv
          refine wb_icmp_ne X (tgt := 337) dL_gives_330 (by decide) (fun c => absurd c20 c) (fun _ => ?_)
          refine wb_iconst X dL_gives_333 kc1 ?_
          refine wb_goto X (tgt := 338) dL_gives_334 (by decide) ?_
          exact wb_ireturn X E dL_gives_338 (Nat.le_of_ble_eq_true rfl) (Nat.le_of_ble_eq_true rfl) (Or.inr ⟨rfl, Or.inr rfl⟩) ⟨hw, hu, _, rfl, hv⟩
        clear hv
        refine wb_icmp_ne X (tgt := 317) dL_gives_310 (by decide) (fun c23 => ?_) (fun c23 => ?_)
        · refine wb_iconst X dL_gives_317 kc0 ?_
          refine wb_lv (lv' := [(0, .inr (.inr (10, 1))), (3, .inl (F_L_some a3 (4 : Int32))), (4, .inl (F_L_some (a3 >>> ((3 : Int32) &&& 31)) (6 : Int32))), (5, .inl (F_Cq_ownerOf (F_L_some a3 (4 : Int32)) (F_L_some (a3 >>> ((3 : Int32) &&& 31)) (6 : Int32)) S))]) [2, 4, 5, 6] rfl ?_
          exact wb_wid (Nat.le_of_ble_eq_true rfl) (Nat.le_of_ble_eq_true rfl) (k21 _  (by rw [if_neg c23]))
        · refine wb_iconst X dL_gives_313 kc1 ?_
          refine wb_goto X (tgt := 318) dL_gives_314 (by decide) ?_
          refine wb_lv (lv' := [(0, .inr (.inr (10, 1))), (3, .inl (F_L_some a3 (4 : Int32))), (4, .inl (F_L_some (a3 >>> ((3 : Int32) &&& 31)) (6 : Int32))), (5, .inl (F_Cq_ownerOf (F_L_some a3 (4 : Int32)) (F_L_some (a3 >>> ((3 : Int32) &&& 31)) (6 : Int32)) S))]) [2, 4, 5, 6] rfl ?_
          exact wb_wid (Nat.le_of_ble_eq_true rfl) (Nat.le_of_ble_eq_true rfl) (k21 _  (by rw [if_pos c23]))
      · replace hv := hv.2 c11
        refine wb_aload_n X 1 rfl dL_gives_207 rfl ?_
        refine wb_aload_n X 2 rfl dL_gives_208 rfl ?_
        refine wb_iconst X dL_gives_209 kc1 ?_
        refine wb_iload X 5 rfl dL_gives_210 ?_
        refine wb_bipush X dL_gives_212 kb8 ?_
        refine wb_iload X 6 rfl dL_gives_214 ?_
        refine wb_iconst X dL_gives_216 kc2 ?_
        refine wb_iadd X dL_gives_217 ?_
        refine wb_imul X dL_gives_218 ?_
        refine wb_iload_n X 3 rfl dL_gives_219 rfl ?_
        refine wb_iadd X dL_gives_220 ?_
        refine wb_iconst X dL_gives_221 kc2 ?_
        refine wb_iadd X dL_gives_222 ?_
        refine wb_bipush X dL_gives_223 kb16 ?_
        refine wb_iload X 4 rfl dL_gives_225 ?_
        refine wb_iconst X dL_gives_227 kc1 ?_
        refine wb_iadd X dL_gives_228 ?_
        refine wb_imul X dL_gives_229 ?_
        refine wb_iconst X dL_gives_230 kc2 ?_
        refine wb_iload X 4 rfl dL_gives_231 ?_
        refine wb_iconst X dL_gives_233 kc1 ?_
        refine wb_iadd X dL_gives_234 ?_
        refine wb_imul X dL_gives_235 ?_
        refine wb_iadd X dL_gives_236 ?_
        refine wb_iload X 0 rfl dL_gives_237 ?_
        refine wb_iadd X dL_gives_239 ?_
        refine wb_callB X (As := [.inr (.inr (10, 1)), .inr (.inr (210, 1)), .inl (1 : Int32), .inl (F_Cq_ownerOf (F_L_some a3 (4 : Int32)) (F_L_some (a3 >>> ((3 : Int32) &&& 31)) (6 : Int32)) S), .inl ((((8 : Int32) * ((F_L_some (a3 >>> ((9 : Int32) &&& 31)) (6 : Int32)) + (2 : Int32))) + (F_L_some a3 (4 : Int32))) + (2 : Int32)), .inl ((((16 : Int32) * ((F_L_some (a3 >>> ((3 : Int32) &&& 31)) (6 : Int32)) + (1 : Int32))) + ((2 : Int32) * ((F_L_some (a3 >>> ((3 : Int32) &&& 31)) (6 : Int32)) + (1 : Int32)))) + x10)]) (hv hw hu) kw_1081 kw_20 kw_1079 kw_1080 nd_L_both rfl rfl (Nat.le_of_ble_eq_true rfl) dL_gives_240 ⟨⟨Nat.le_of_ble_eq_true rfl, Nat.le_of_ble_eq_true rfl⟩, Nat.le_of_ble_eq_true rfl, Nat.le_of_ble_eq_true rfl⟩ (fun v SS24 h => ?_)
        obtain ⟨S24, U25⟩ := SS24
        obtain ⟨hw, hu, r26, rfl, hv⟩ := h
        refine wb_ldc X kw_1064 dL_gives_243 ?_
        obtain ⟨c27, hv⟩ := hv
        refine wb_icmp_ne X (tgt := 252) dL_gives_245 (by decide) (fun c => absurd c27 c) (fun _ => ?_)
        refine wb_iconst X dL_gives_248 kc1 ?_
        refine wb_goto X (tgt := 253) dL_gives_249 (by decide) ?_
        exact wb_ireturn X E dL_gives_253 (Nat.le_of_ble_eq_true rfl) (Nat.le_of_ble_eq_true rfl) (Or.inr ⟨rfl, Or.inr rfl⟩) ⟨hw, hu, _, rfl, hv⟩
    clear hv
    refine wb_if_le X (tgt := 197) dL_gives_190 (by decide) (fun c30 => ?_) (fun c30 => ?_)
    · refine wb_iconst X dL_gives_197 kc0 ?_
      refine wb_lv (lv' := [(0, .inr (.inr (10, 1))), (1, .inr (.inr (210, 1))), (3, .inl (F_L_some a3 (4 : Int32))), (4, .inl (F_L_some (a3 >>> ((3 : Int32) &&& 31)) (6 : Int32))), (5, .inl (F_Cq_ownerOf (F_L_some a3 (4 : Int32)) (F_L_some (a3 >>> ((3 : Int32) &&& 31)) (6 : Int32)) S)), (7, .inl (F_L_some (a3 >>> ((9 : Int32) &&& 31)) (6 : Int32)))]) [6, 7, 5, 4, 3, 1] rfl ?_
      exact wb_wid (Nat.le_of_ble_eq_true rfl) (Nat.le_of_ble_eq_true rfl) (k28 _  (by rw [if_pos c30]))
    · refine wb_iconst X dL_gives_193 kc1 ?_
      refine wb_goto X (tgt := 198) dL_gives_194 (by decide) ?_
      refine wb_lv (lv' := [(0, .inr (.inr (10, 1))), (1, .inr (.inr (210, 1))), (3, .inl (F_L_some a3 (4 : Int32))), (4, .inl (F_L_some (a3 >>> ((3 : Int32) &&& 31)) (6 : Int32))), (5, .inl (F_Cq_ownerOf (F_L_some a3 (4 : Int32)) (F_L_some (a3 >>> ((3 : Int32) &&& 31)) (6 : Int32)) S)), (7, .inl (F_L_some (a3 >>> ((9 : Int32) &&& 31)) (6 : Int32)))]) [6, 7, 5, 4, 3, 1] rfl ?_
      exact wb_wid (Nat.le_of_ble_eq_true rfl) (Nat.le_of_ble_eq_true rfl) (k28 _  (by rw [if_neg c30]))
  · replace hv := hv.2 c8
    refine wb_aload_n X 6 rfl dL_gives_69 rfl ?_
    refine wb_aload_n X 7 rfl dL_gives_70 rfl ?_
    refine wb_iconst X dL_gives_71 kc0 ?_
    refine wb_iload X 3 rfl dL_gives_72 ?_
    refine wb_bipush X dL_gives_74 kb8 ?_
    refine wb_iload_n X 5 rfl dL_gives_76 rfl ?_
    refine wb_iconst X dL_gives_77 kc2 ?_
    refine wb_iadd X dL_gives_78 ?_
    refine wb_imul X dL_gives_79 ?_
    refine wb_iload X 4 rfl dL_gives_80 ?_
    refine wb_iadd X dL_gives_82 ?_
    refine wb_iconst X dL_gives_83 kc1 ?_
    refine wb_iadd X dL_gives_84 ?_
    refine wb_iload X 2 rfl dL_gives_85 ?_
    refine wb_callB X (As := [.inr (.inr (10, 1)), .inr (.inr (210, 1)), .inl (0 : Int32), .inl (F_Cq_ownerOf (F_L_some a3 (4 : Int32)) (F_L_some (a3 >>> ((3 : Int32) &&& 31)) (6 : Int32)) S), .inl ((((8 : Int32) * ((F_L_some a3 (4 : Int32)) + (2 : Int32))) + (F_L_some (a3 >>> ((3 : Int32) &&& 31)) (6 : Int32))) + (1 : Int32)), .inl (F_L_some (a3 >>> ((6 : Int32) &&& 31)) (6 : Int32))]) (hv hw hu) kw_1081 kw_20 kw_1079 kw_1080 nd_L_both rfl rfl (Nat.le_of_ble_eq_true rfl) dL_gives_87 ⟨⟨Nat.le_of_ble_eq_true rfl, Nat.le_of_ble_eq_true rfl⟩, Nat.le_of_ble_eq_true rfl, Nat.le_of_ble_eq_true rfl⟩ (fun v SS31 h => ?_)
    obtain ⟨S31, U32⟩ := SS31
    obtain ⟨hw, hu, r33, rfl, hv⟩ := h
    refine wb_istore X (lv' := [(9, .inl r33), (8, .inl (F_Cq_reads (F_L_some (a3 >>> ((9 : Int32) &&& 31)) (6 : Int32)) (F_L_some a3 (4 : Int32)) (F_L_some (a3 >>> ((3 : Int32) &&& 31)) (6 : Int32)) S)), (7, .inl (F_L_some (a3 >>> ((9 : Int32) &&& 31)) (6 : Int32))), (6, .inl (F_L_some (a3 >>> ((6 : Int32) &&& 31)) (6 : Int32))), (5, .inl (F_Cq_ownerOf (F_L_some a3 (4 : Int32)) (F_L_some (a3 >>> ((3 : Int32) &&& 31)) (6 : Int32)) S)), (4, .inl (F_L_some (a3 >>> ((3 : Int32) &&& 31)) (6 : Int32))), (3, .inl (F_L_some a3 (4 : Int32))), (0, .inr (.inr (10, 1))), (1, .inr (.inr (210, 1))), (2, .inl a3)]) dL_gives_90 (by decide) rfl ?_
    refine wb_iload X 0 rfl dL_gives_92 ?_
    obtain ⟨c34, hv⟩ := hv
    refine wb_if_le X (tgt := 132) dL_gives_94 (by decide) (fun c => absurd c c34) (fun _ => ?_)
    refine wb_iload X 0 rfl dL_gives_97 ?_
    refine wb_bipush X dL_gives_99 kb25 ?_
    obtain ⟨c35, hv⟩ := hv
    refine wb_icmp_ge X (tgt := 132) dL_gives_101 (by decide) (fun c => absurd c c35) (fun _ => ?_)
    refine wb_aload_n X 7 rfl dL_gives_104 rfl ?_
    refine wb_iload_n X 6 rfl dL_gives_105 rfl ?_
    refine wb_iload X 5 rfl dL_gives_106 ?_
    obtain ⟨o36, hv⟩ := hv
    refine wb_callV1 X (As := [.inl (F_L_some a3 (4 : Int32)), .inl (F_L_some (a3 >>> ((3 : Int32) &&& 31)) (6 : Int32))]) (f_Cq_ownerOf hw o36) rfl b_nr_pI hk_10 hc_10 rfl kw_1058 kw_21 kw_1055 kw_1056 kw_1057 nd_X10_ownerOf rfl rfl (Nat.le_of_ble_eq_true rfl) dL_gives_108 hs_1ne (by decide) ⟨⟨Nat.le_of_ble_eq_true rfl, Nat.le_of_ble_eq_true rfl⟩, Nat.le_of_ble_eq_true rfl, Nat.le_of_ble_eq_true rfl⟩ (b_pdk1 ?_)
    refine wb_iload X 3 rfl dL_gives_111 ?_
    obtain ⟨c37, hv⟩ := hv
    refine wb_icmp_ne X (tgt := 132) dL_gives_113 (by decide) (fun c => absurd c37 c) (fun _ => ?_)
    refine wb_aload_n X 7 rfl dL_gives_116 rfl ?_
    refine wb_iload X 3 rfl dL_gives_117 ?_
    refine wb_iload_n X 6 rfl dL_gives_119 rfl ?_
    refine wb_iload X 5 rfl dL_gives_120 ?_
    obtain ⟨o38, hv⟩ := hv
    refine wb_callV1 X (As := [.inl (F_L_some (a3 >>> ((6 : Int32) &&& 31)) (6 : Int32)), .inl (F_L_some a3 (4 : Int32)), .inl (F_L_some (a3 >>> ((3 : Int32) &&& 31)) (6 : Int32))]) (f_Cq_reads hw o38) rfl b_nr_pI hk_10 hc_10 rfl kw_1062 kw_21 kw_1059 kw_1060 kw_1061 nd_X10_reads rfl rfl (Nat.le_of_ble_eq_true rfl) dL_gives_122 hs_1ne (by decide) ⟨⟨Nat.le_of_ble_eq_true rfl, Nat.le_of_ble_eq_true rfl⟩, Nat.le_of_ble_eq_true rfl, Nat.le_of_ble_eq_true rfl⟩ (b_pdk1 ?_)
    obtain ⟨c39, hv⟩ := hv
    refine wb_if_eq X (tgt := 132) dL_gives_125 (by decide) (fun c => absurd c c39) (fun _ => ?_)
    refine wb_iconst X dL_gives_128 kc1 ?_
    refine wb_goto X (tgt := 133) dL_gives_129 (by decide) ?_
    refine wb_istore X (lv' := [(10, .inl (1 : Int32)), (9, .inl r33), (8, .inl (F_Cq_reads (F_L_some (a3 >>> ((9 : Int32) &&& 31)) (6 : Int32)) (F_L_some a3 (4 : Int32)) (F_L_some (a3 >>> ((3 : Int32) &&& 31)) (6 : Int32)) S)), (7, .inl (F_L_some (a3 >>> ((9 : Int32) &&& 31)) (6 : Int32))), (6, .inl (F_L_some (a3 >>> ((6 : Int32) &&& 31)) (6 : Int32))), (5, .inl (F_Cq_ownerOf (F_L_some a3 (4 : Int32)) (F_L_some (a3 >>> ((3 : Int32) &&& 31)) (6 : Int32)) S)), (4, .inl (F_L_some (a3 >>> ((3 : Int32) &&& 31)) (6 : Int32))), (3, .inl (F_L_some a3 (4 : Int32))), (0, .inr (.inr (10, 1))), (1, .inr (.inr (210, 1))), (2, .inl a3)]) dL_gives_133 (by decide) rfl ?_
    refine wb_iload X 0 rfl dL_gives_135 ?_
    refine wb_if_eq X (tgt := 180) dL_gives_137 (by decide) (fun c => absurd c (by decide)) (fun _ => ?_)
    refine wb_iload X 3 rfl dL_gives_140 ?_
    refine wb_iload X 5 rfl dL_gives_142 ?_
    refine wb_icmp_eq X (tgt := 176) dL_gives_144 (by decide) (fun c41 => ?_) (fun c41 => ?_)
    · replace hv := hv.1 c41
      refine wb_iconst X dL_gives_176 kc1 ?_
      refine wb_goto X (tgt := 181) dL_gives_177 (by decide) ?_
      exact wb_ireturn X E dL_gives_181 (Nat.le_of_ble_eq_true rfl) (Nat.le_of_ble_eq_true rfl) (Or.inr ⟨rfl, Or.inr rfl⟩) ⟨hw, hu, _, rfl, hv⟩
    · replace hv := hv.2 c41
      refine wb_aload_n X 8 rfl dL_gives_147 rfl ?_
      refine wb_iload X 3 rfl dL_gives_148 ?_
      refine wb_iload_n X 7 rfl dL_gives_150 rfl ?_
      refine wb_iload X 6 rfl dL_gives_151 ?_
      obtain ⟨o42, hv⟩ := hv
      refine wb_callV1 X (As := [.inl (F_L_some (a3 >>> ((9 : Int32) &&& 31)) (6 : Int32)), .inl (F_L_some a3 (4 : Int32)), .inl (F_L_some (a3 >>> ((3 : Int32) &&& 31)) (6 : Int32))]) (f_Cq_reads hw o42) rfl b_nr_pI hk_10 hc_10 rfl kw_1062 kw_21 kw_1059 kw_1060 kw_1061 nd_X10_reads rfl rfl (Nat.le_of_ble_eq_true rfl) dL_gives_153 hs_1ne (by decide) ⟨⟨Nat.le_of_ble_eq_true rfl, Nat.le_of_ble_eq_true rfl⟩, Nat.le_of_ble_eq_true rfl, Nat.le_of_ble_eq_true rfl⟩ (b_pdk1 ?_)
      refine wb_iload X 2 rfl dL_gives_156 ?_
      have k45 : ∀ (x43 : Int32), x43 = (if (F_Cq_reads (F_L_some (a3 >>> ((9 : Int32) &&& 31)) (6 : Int32)) (F_L_some a3 (4 : Int32)) (F_L_some (a3 >>> ((3 : Int32) &&& 31)) (6 : Int32)) S) = 0 then (if (F_L_some (a3 >>> ((9 : Int32) &&& 31)) (6 : Int32)) = (F_L_some (a3 >>> ((6 : Int32) &&& 31)) (6 : Int32)) then (1 : Int32) else (0 : Int32)) else (1 : Int32)) → wb Z 22 476 (S31, U32) 173 [] [.inl x43, .inl (F_Cq_reads (F_L_some (a3 >>> ((9 : Int32) &&& 31)) (6 : Int32)) (F_L_some a3 (4 : Int32)) (F_L_some (a3 >>> ((3 : Int32) &&& 31)) (6 : Int32)) S31)] := by
        intro x43 hE
        replace hv := hv _ hE
        obtain ⟨c44, hv⟩ := hv
        refine wb_icmp_ne X (tgt := 180) dL_gives_173 (by decide) (fun c => absurd c44 c) (fun _ => ?_)
        refine wb_iconst X dL_gives_176 kc1 ?_
        refine wb_goto X (tgt := 181) dL_gives_177 (by decide) ?_
        exact wb_ireturn X E dL_gives_181 (Nat.le_of_ble_eq_true rfl) (Nat.le_of_ble_eq_true rfl) (Or.inr ⟨rfl, Or.inr rfl⟩) ⟨hw, hu, _, rfl, hv⟩
      clear hv
      refine wb_if_ne X (tgt := 168) dL_gives_158 (by decide) (fun c47 => ?_) (fun c47 => ?_)
      · refine wb_iconst X dL_gives_168 kc1 ?_
        refine wb_goto X (tgt := 173) dL_gives_169 (by decide) ?_
        refine wb_lv (lv' := []) [] rfl ?_
        exact wb_wid (Nat.le_of_ble_eq_true rfl) (Nat.le_of_ble_eq_true rfl) (k45 _  (by rw [if_neg c47]))
      · refine wb_iload X 3 rfl dL_gives_161 ?_
        refine wb_iload X 4 rfl dL_gives_163 ?_
        refine wb_icmp_ne X (tgt := 172) dL_gives_165 (by decide) (fun c48 => ?_) (fun c48 => ?_)
        · refine wb_iconst X dL_gives_172 kc0 ?_
          refine wb_lv (lv' := []) [] rfl ?_
          exact wb_wid (Nat.le_of_ble_eq_true rfl) (Nat.le_of_ble_eq_true rfl) (k45 _  (by rw [if_pos c47, if_neg c48]))
        · refine wb_iconst X dL_gives_168 kc1 ?_
          refine wb_goto X (tgt := 173) dL_gives_169 (by decide) ?_
          refine wb_lv (lv' := []) [] rfl ?_
          exact wb_wid (Nat.le_of_ble_eq_true rfl) (Nat.le_of_ble_eq_true rfl) (k45 _  (by rw [if_pos c47, if_pos c48]))

def m_L_edits (a3 : Int32) (a4 : Int32) (a5 : Int32) (S U : hs_S) (Q : Int32 → hs_S → hs_S → Prop) : Prop := b_M 59 yL_edits (.code yL_edits cL_edits 18 (some FieldType.boolean)) [.inr (.inr (10, 1)), .inr (.inr (210, 1)), .inl a3, .inl a4, .inl a5] (S, U) 209 4522 (b_qI Q)
def vc_L_edits (a3 : Int32) (a4 : Int32) (a5 : Int32) (S U : hs_S) (Q : Int32 → hs_S → hs_S → Prop) : Prop := ((P_L_some a5 (4 : Int32) S) ∧ ((P_L_some (a5 >>> ((9 : Int32) &&& 31)) (3 : Int32) S) ∧ (∀ x3 : Int32, x3 = (if (F_L_some (a5 >>> ((9 : Int32) &&& 31)) (3 : Int32)) = 0 then (6 : Int32) else (2 : Int32)) → ((P_L_some (a5 >>> ((3 : Int32) &&& 31)) x3 S) ∧ ((P_Cq_ownerOf (F_L_some a5 (4 : Int32)) (F_L_some (a5 >>> ((3 : Int32) &&& 31)) x3) S) ∧ (hs_Wi S → m_C_wipe S (fun r7 S6 => (hs_Wi U → m_C_wipe U (fun r9 S8 => (r7 = r9 ∧ ((P_L_some (a5 >>> ((6 : Int32) &&& 31)) (41 : Int32) S6) ∧ (hs_Wi S6 → hs_Wi S8 → m_L_both (2 : Int32) (0 : Int32) ((F_L_some (a5 >>> ((6 : Int32) &&& 31)) (41 : Int32)) - (6 : Int32)) (0 : Int32) S6 S8 (fun r14 S12 U13 => (r14 = (1 : Int32) ∧ ((P_L_some a4 (3 : Int32) S12) ∧ (∀ K20 : Int32 → hs_S → hs_S → Prop, (∀ (x17 : Int32) (S18 U19 : hs_S), ((P_L_some (a4 >>> ((5 : Int32) &&& 31)) (3 : Int32) S18) ∧ (hs_Wi S18 → hs_Wi U19 → m_L_both (5 : Int32) (F_L_some a5 (4 : Int32)) (F_L_some (a4 >>> ((5 : Int32) &&& 31)) (3 : Int32)) (0 : Int32) S18 U19 (fun r24 S22 U23 => (¬ r24 < 0 ∧ (¬ (51 : Int32) ≤ r24 ∧ ((P_L_some (a4 >>> ((5 : Int32) &&& 31)) (3 : Int32) S22) ∧ (hs_Wi S22 → hs_Wi U23 → m_L_both (5 : Int32) (F_L_some a5 (4 : Int32)) (F_L_some (a4 >>> ((5 : Int32) &&& 31)) (3 : Int32)) (0 : Int32) S22 U23 (fun r31 S29 U30 => ((P_L_some (a4 >>> ((5 : Int32) &&& 31)) (3 : Int32) S29) ∧ (r31 = (F_L_some (a4 >>> ((5 : Int32) &&& 31)) (3 : Int32)) ∧ ((P_Cq_edits ((((6 : Int32) * (F_L_some a5 (4 : Int32))) + (F_L_some (a5 >>> ((3 : Int32) &&& 31)) x3)) / (6 : Int32)) ((((6 : Int32) * (F_L_some a5 (4 : Int32))) + (F_L_some (a5 >>> ((3 : Int32) &&& 31)) x3)) - (((6 : Int32) * (F_L_some a5 (4 : Int32))) + (F_L_some (a5 >>> ((3 : Int32) &&& 31)) x3)) / (6 : Int32) * (6 : Int32)) S29) ∧ ((P_L_some (a4 >>> ((11 : Int32) &&& 31)) (7 : Int32) S29) ∧ (∀ x36 : Int32, x36 = (if (F_L_some (a4 >>> ((11 : Int32) &&& 31)) (7 : Int32)) = 0 then (1 : Int32) else (0 : Int32)) → (∀ x37 : Int32, x37 = (if x36 = 0 then (3 : Int32) else (4 : Int32)) → (hs_Wi S29 → hs_Wi U30 → m_L_both x37 (F_Cq_ownerOf (F_L_some a5 (4 : Int32)) (F_L_some (a5 >>> ((3 : Int32) &&& 31)) x3) S) (F_L_some a5 (4 : Int32)) (F_L_some (a5 >>> ((3 : Int32) &&& 31)) x3) S29 U30 (fun r40 S38 U39 => ((¬ r40 = (-2100000003 : Int32) → ((P_L_some (a4 >>> ((5 : Int32) &&& 31)) (3 : Int32) S38) ∧ (∀ x43 : Int32, x43 = (if (1 : Int32) ≤ (F_L_some (a4 >>> ((5 : Int32) &&& 31)) (3 : Int32)) then (F_L_some (a4 >>> ((5 : Int32) &&& 31)) (3 : Int32)) else (1 : Int32)) → (r40 = a3 ∧ ((F_C_events S38) = ((F_C_events S29) + (1 : Int32)) ∧ ((P_Cq_edits (F_L_some a5 (4 : Int32)) (F_L_some (a5 >>> ((3 : Int32) &&& 31)) x3) S38) ∧ ((F_Cq_edits (F_L_some a5 (4 : Int32)) (F_L_some (a5 >>> ((3 : Int32) &&& 31)) x3) S38) = ((F_Cq_edits ((((6 : Int32) * (F_L_some a5 (4 : Int32))) + (F_L_some (a5 >>> ((3 : Int32) &&& 31)) x3)) / (6 : Int32)) ((((6 : Int32) * (F_L_some a5 (4 : Int32))) + (F_L_some (a5 >>> ((3 : Int32) &&& 31)) x3)) - (((6 : Int32) * (F_L_some a5 (4 : Int32))) + (F_L_some (a5 >>> ((3 : Int32) &&& 31)) x3)) / (6 : Int32) * (6 : Int32)) S29) + (1 : Int32)) ∧ (hs_Wi S38 → m_L_call (9 : Int32) (F_L_some a5 (4 : Int32)) (F_L_some (a5 >>> ((3 : Int32) &&& 31)) x3) (((16 : Int32) * ((F_Cq_edits ((((6 : Int32) * (F_L_some a5 (4 : Int32))) + (F_L_some (a5 >>> ((3 : Int32) &&& 31)) x3)) / (6 : Int32)) ((((6 : Int32) * (F_L_some a5 (4 : Int32))) + (F_L_some (a5 >>> ((3 : Int32) &&& 31)) x3)) - (((6 : Int32) * (F_L_some a5 (4 : Int32))) + (F_L_some (a5 >>> ((3 : Int32) &&& 31)) x3)) / (6 : Int32) * (6 : Int32)) S29) + (2 : Int32))) + (2 : Int32)) S38 (fun r50 S49 => (r50 = r40 ∧ (hs_Wi S49 → m_L_call (9 : Int32) (F_L_some a5 (4 : Int32)) (F_L_some (a5 >>> ((3 : Int32) &&& 31)) x3) ((((16 : Int32) * ((F_Cq_edits ((((6 : Int32) * (F_L_some a5 (4 : Int32))) + (F_L_some (a5 >>> ((3 : Int32) &&& 31)) x3)) / (6 : Int32)) ((((6 : Int32) * (F_L_some a5 (4 : Int32))) + (F_L_some (a5 >>> ((3 : Int32) &&& 31)) x3)) - (((6 : Int32) * (F_L_some a5 (4 : Int32))) + (F_L_some (a5 >>> ((3 : Int32) &&& 31)) x3)) / (6 : Int32) * (6 : Int32)) S29) + (2 : Int32))) + (2 : Int32)) + (1 : Int32)) S49 (fun r53 S52 => (r53 = (F_C_events S29) ∧ (hs_Wi S52 → m_L_call (9 : Int32) (F_L_some a5 (4 : Int32)) (F_L_some (a5 >>> ((3 : Int32) &&& 31)) x3) ((((16 : Int32) * ((F_Cq_edits ((((6 : Int32) * (F_L_some a5 (4 : Int32))) + (F_L_some (a5 >>> ((3 : Int32) &&& 31)) x3)) / (6 : Int32)) ((((6 : Int32) * (F_L_some a5 (4 : Int32))) + (F_L_some (a5 >>> ((3 : Int32) &&& 31)) x3)) - (((6 : Int32) * (F_L_some a5 (4 : Int32))) + (F_L_some (a5 >>> ((3 : Int32) &&& 31)) x3)) / (6 : Int32) * (6 : Int32)) S29) + (2 : Int32))) + (2 : Int32)) + (2 : Int32)) S52 (fun r56 S55 => (r56 = ((F_C_events S29) + x43) ∧ (hs_Wi S55 → m_L_call (9 : Int32) (F_L_some a5 (4 : Int32)) (F_L_some (a5 >>> ((3 : Int32) &&& 31)) x3) ((((16 : Int32) * ((F_Cq_edits ((((6 : Int32) * (F_L_some a5 (4 : Int32))) + (F_L_some (a5 >>> ((3 : Int32) &&& 31)) x3)) / (6 : Int32)) ((((6 : Int32) * (F_L_some a5 (4 : Int32))) + (F_L_some (a5 >>> ((3 : Int32) &&& 31)) x3)) - (((6 : Int32) * (F_L_some a5 (4 : Int32))) + (F_L_some (a5 >>> ((3 : Int32) &&& 31)) x3)) / (6 : Int32) * (6 : Int32)) S29) + (2 : Int32))) + (2 : Int32)) + (3 : Int32)) S55 (fun r59 S58 => (r59 = (F_Cq_ownerOf (F_L_some a5 (4 : Int32)) (F_L_some (a5 >>> ((3 : Int32) &&& 31)) x3) S) ∧ (hs_Wi S58 → m_L_call (9 : Int32) (F_L_some a5 (4 : Int32)) (F_L_some (a5 >>> ((3 : Int32) &&& 31)) x3) ((((16 : Int32) * ((F_Cq_edits ((((6 : Int32) * (F_L_some a5 (4 : Int32))) + (F_L_some (a5 >>> ((3 : Int32) &&& 31)) x3)) / (6 : Int32)) ((((6 : Int32) * (F_L_some a5 (4 : Int32))) + (F_L_some (a5 >>> ((3 : Int32) &&& 31)) x3)) - (((6 : Int32) * (F_L_some a5 (4 : Int32))) + (F_L_some (a5 >>> ((3 : Int32) &&& 31)) x3)) / (6 : Int32) * (6 : Int32)) S29) + (2 : Int32))) + (2 : Int32)) + (4 : Int32)) S58 (fun r62 S61 => (∀ x63 : Int32, x63 = (if x36 = 0 then x17 else (0 : Int32)) → (r62 = x63 ∧ (hs_Wi S61 → m_L_call (9 : Int32) (F_L_some a5 (4 : Int32)) (F_L_some (a5 >>> ((3 : Int32) &&& 31)) x3) ((((16 : Int32) * ((F_Cq_edits ((((6 : Int32) * (F_L_some a5 (4 : Int32))) + (F_L_some (a5 >>> ((3 : Int32) &&& 31)) x3)) / (6 : Int32)) ((((6 : Int32) * (F_L_some a5 (4 : Int32))) + (F_L_some (a5 >>> ((3 : Int32) &&& 31)) x3)) - (((6 : Int32) * (F_L_some a5 (4 : Int32))) + (F_L_some (a5 >>> ((3 : Int32) &&& 31)) x3)) / (6 : Int32) * (6 : Int32)) S29) + (2 : Int32))) + (2 : Int32)) + (5 : Int32)) S61 (fun r66 S65 => (r66 = 0 ∧ (hs_Wi S65 → m_L_call (9 : Int32) (F_L_some a5 (4 : Int32)) (F_L_some (a5 >>> ((3 : Int32) &&& 31)) x3) ((((16 : Int32) * ((F_Cq_edits ((((6 : Int32) * (F_L_some a5 (4 : Int32))) + (F_L_some (a5 >>> ((3 : Int32) &&& 31)) x3)) / (6 : Int32)) ((((6 : Int32) * (F_L_some a5 (4 : Int32))) + (F_L_some (a5 >>> ((3 : Int32) &&& 31)) x3)) - (((6 : Int32) * (F_L_some a5 (4 : Int32))) + (F_L_some (a5 >>> ((3 : Int32) &&& 31)) x3)) / (6 : Int32) * (6 : Int32)) S29) + (2 : Int32))) + (2 : Int32)) + (6 : Int32)) S65 (fun r69 S68 => (∀ x70 : Int32, x70 = (if x43 = (1 : Int32) then (1 : Int32) else (0 : Int32)) → (r69 = x70 ∧ (((1 : Int32) < x43 → (Q (1 : Int32) S68 U39)) ∧ (¬ (1 : Int32) < x43 → ((x36 = 0 → (Q (1 : Int32) S68 U39)) ∧ (¬ x36 = 0 → ((P_Cq_value (F_Cq_ownerOf (F_L_some a5 (4 : Int32)) (F_L_some (a5 >>> ((3 : Int32) &&& 31)) x3) S) (F_L_some a5 (4 : Int32)) (F_L_some (a5 >>> ((3 : Int32) &&& 31)) x3) S68) ∧ (∀ r76 : Int32, ∀ S75 : hs_S, R_Cq_value (F_Cq_ownerOf (F_L_some a5 (4 : Int32)) (F_L_some (a5 >>> ((3 : Int32) &&& 31)) x3) S) (F_L_some a5 (4 : Int32)) (F_L_some (a5 >>> ((3 : Int32) &&& 31)) x3) S68 r76 S75 → (r76 = 0 ∧ ((P_Cq_fault (F_Cq_ownerOf (F_L_some a5 (4 : Int32)) (F_L_some (a5 >>> ((3 : Int32) &&& 31)) x3) S) (F_L_some a5 (4 : Int32)) (F_L_some (a5 >>> ((3 : Int32) &&& 31)) x3) S75) ∧ (∀ r81 : Int32, ∀ S80 : hs_S, R_Cq_fault (F_Cq_ownerOf (F_L_some a5 (4 : Int32)) (F_L_some (a5 >>> ((3 : Int32) &&& 31)) x3) S) (F_L_some a5 (4 : Int32)) (F_L_some (a5 >>> ((3 : Int32) &&& 31)) x3) S75 r81 S80 → (r81 = 0 ∧ (Q (1 : Int32) S80 U39))))))))))))))))))))))))))))))))))))))))) ∧ (r40 = (-2100000003 : Int32) → ((P_Cq_isFrozen (F_L_some a5 (4 : Int32)) S38) ∧ (¬ (F_Cq_isFrozen (F_L_some a5 (4 : Int32)) S38) = 0 ∧ ((F_C_events S38) = (F_C_events S29) ∧ ((P_Cq_edits (F_L_some a5 (4 : Int32)) (F_L_some (a5 >>> ((3 : Int32) &&& 31)) x3) S38) ∧ ((F_Cq_edits (F_L_some a5 (4 : Int32)) (F_L_some (a5 >>> ((3 : Int32) &&& 31)) x3) S38) = (F_Cq_edits ((((6 : Int32) * (F_L_some a5 (4 : Int32))) + (F_L_some (a5 >>> ((3 : Int32) &&& 31)) x3)) / (6 : Int32)) ((((6 : Int32) * (F_L_some a5 (4 : Int32))) + (F_L_some (a5 >>> ((3 : Int32) &&& 31)) x3)) - (((6 : Int32) * (F_L_some a5 (4 : Int32))) + (F_L_some (a5 >>> ((3 : Int32) &&& 31)) x3)) / (6 : Int32) * (6 : Int32)) S29) ∧ (Q (1 : Int32) S38 U39)))))))))))))))))))))))) → K20 x17 S18 U19) → (((F_L_some a4 (3 : Int32)) ≤ 0 → (K20 (1 : Int32) S12 U13)) ∧ (¬ (F_L_some a4 (3 : Int32)) ≤ 0 → ((P_L_some (a4 >>> ((4 : Int32) &&& 31)) (7 : Int32) S12) ∧ ((P_L_some (a4 >>> ((7 : Int32) &&& 31)) (4 : Int32) S12) ∧ ((P_L_some (a4 >>> ((9 : Int32) &&& 31)) (6 : Int32) S12) ∧ (hs_Wi S12 → hs_Wi U13 → m_L_both (2 : Int32) ((1 : Int32) + (F_L_some (a4 >>> ((4 : Int32) &&& 31)) (7 : Int32))) (F_L_some (a4 >>> ((7 : Int32) &&& 31)) (4 : Int32)) (F_L_some (a4 >>> ((9 : Int32) &&& 31)) (6 : Int32)) S12 U13 (fun r113 S111 U112 => (r113 = (2 : Int32) ∧ ((P_L_some (a4 >>> ((2 : Int32) &&& 31)) (6 : Int32) S111) ∧ (hs_Wi S111 → hs_Wi U112 → m_L_both (2 : Int32) ((8 : Int32) + (F_L_some (a4 >>> ((2 : Int32) &&& 31)) (6 : Int32))) (0 : Int32) (0 : Int32) S111 U112 (fun r118 S116 U117 => (r118 = (3 : Int32) ∧ (K20 (3 : Int32) S116 U117)))))))))))))))))))))))))))))
set_option maxRecDepth 100000 in
set_option maxHeartbeats 4000000 in
theorem ok_L_edits {a3 : Int32} {a4 : Int32} {a5 : Int32} {S U : hs_S} {Q : Int32 → hs_S → hs_S → Prop} (hw : hs_Wi S) (hu : hs_Wi U) (hv : vc_L_edits a3 a4 a5 S U Q) : m_L_edits a3 a4 a5 S U Q := by
  unfold vc_L_edits at hv
  refine b_body (own := RL) rfl rfl (Nat.le_of_ble_eq_true rfl) (fun Z X E => ?_)
  show wb Z 0 0 (S, U) 0 [(0, .inr (.inr (10, 1))), (1, .inr (.inr (210, 1))), (2, .inl a3), (3, .inl a4), (4, .inl a5)] []
  refine wb_iload X 4 rfl dL_edits_0 ?_
  refine wb_iconst X dL_edits_2 kc4 ?_
  obtain ⟨o1, hv⟩ := hv
  refine wb_callS1 X (As := [.inl a5, .inl (4 : Int32)]) (f_L_some hw o1) rfl b_nr_pI kw_504 kw_20 kw_502 kw_503 nd_L_some rfl rfl (Nat.le_of_ble_eq_true rfl) dL_edits_3 ⟨⟨Nat.le_of_ble_eq_true rfl, Nat.le_of_ble_eq_true rfl⟩, Nat.le_of_ble_eq_true rfl, Nat.le_of_ble_eq_true rfl⟩ (b_pdk1 ?_)
  refine wb_istore X (lv' := [(5, .inl (F_L_some a5 (4 : Int32))), (0, .inr (.inr (10, 1))), (1, .inr (.inr (210, 1))), (2, .inl a3), (3, .inl a4), (4, .inl a5)]) dL_edits_6 (by decide) rfl ?_
  refine wb_iload X 5 rfl dL_edits_8 ?_
  refine wb_iconst X dL_edits_10 kc3 ?_
  refine wb_ishr X dL_edits_11 ?_
  refine wb_iload X 5 rfl dL_edits_12 ?_
  refine wb_bipush X dL_edits_14 kb9 ?_
  refine wb_ishr X dL_edits_16 ?_
  refine wb_iconst X dL_edits_17 kc3 ?_
  obtain ⟨o2, hv⟩ := hv
  refine wb_callS1 X (As := [.inl (a5 >>> ((9 : Int32) &&& 31)), .inl (3 : Int32)]) (f_L_some hw o2) rfl b_nr_pI kw_504 kw_20 kw_502 kw_503 nd_L_some rfl rfl (Nat.le_of_ble_eq_true rfl) dL_edits_18 ⟨⟨Nat.le_of_ble_eq_true rfl, Nat.le_of_ble_eq_true rfl⟩, Nat.le_of_ble_eq_true rfl, Nat.le_of_ble_eq_true rfl⟩ (b_pdk1 ?_)
  have k120 : ∀ (x3 : Int32), x3 = (if (F_L_some (a5 >>> ((9 : Int32) &&& 31)) (3 : Int32)) = 0 then (6 : Int32) else (2 : Int32)) → wb Z 0 0 (S, U) 30 [(0, .inr (.inr (10, 1))), (1, .inr (.inr (210, 1))), (2, .inl a3), (3, .inl a4), (4, .inl a5), (5, .inl (F_L_some a5 (4 : Int32)))] [.inl x3, .inl (a5 >>> ((3 : Int32) &&& 31))] := by
    intro x3 hE
    replace hv := hv _ hE
    obtain ⟨o4, hv⟩ := hv
    refine wb_callS1 X (As := [.inl (a5 >>> ((3 : Int32) &&& 31)), .inl x3]) (f_L_some hw o4) rfl b_nr_pI kw_504 kw_20 kw_502 kw_503 nd_L_some rfl rfl (Nat.le_of_ble_eq_true rfl) dL_edits_30 ⟨⟨Nat.le_of_ble_eq_true rfl, Nat.le_of_ble_eq_true rfl⟩, Nat.le_of_ble_eq_true rfl, Nat.le_of_ble_eq_true rfl⟩ (b_pdk1 ?_)
    refine wb_istore X (lv' := [(6, .inl (F_L_some (a5 >>> ((3 : Int32) &&& 31)) x3)), (0, .inr (.inr (10, 1))), (1, .inr (.inr (210, 1))), (2, .inl a3), (3, .inl a4), (4, .inl a5), (5, .inl (F_L_some a5 (4 : Int32)))]) dL_edits_33 (by decide) rfl ?_
    refine wb_aload_n X 1 rfl dL_edits_35 rfl ?_
    refine wb_iload X 6 rfl dL_edits_36 ?_
    refine wb_iload X 0 rfl dL_edits_38 ?_
    obtain ⟨o5, hv⟩ := hv
    refine wb_callV1 X (As := [.inl (F_L_some a5 (4 : Int32)), .inl (F_L_some (a5 >>> ((3 : Int32) &&& 31)) x3)]) (f_Cq_ownerOf hw o5) rfl b_nr_pI hk_10 hc_10 rfl kw_1058 kw_21 kw_1055 kw_1056 kw_1057 nd_X10_ownerOf rfl rfl (Nat.le_of_ble_eq_true rfl) dL_edits_40 hs_1ne (by decide) ⟨⟨Nat.le_of_ble_eq_true rfl, Nat.le_of_ble_eq_true rfl⟩, Nat.le_of_ble_eq_true rfl, Nat.le_of_ble_eq_true rfl⟩ (b_pdk1 ?_)
    refine wb_istore X (lv' := [(7, .inl (F_Cq_ownerOf (F_L_some a5 (4 : Int32)) (F_L_some (a5 >>> ((3 : Int32) &&& 31)) x3) S)), (6, .inl (F_L_some (a5 >>> ((3 : Int32) &&& 31)) x3)), (0, .inr (.inr (10, 1))), (1, .inr (.inr (210, 1))), (2, .inl a3), (3, .inl a4), (4, .inl a5), (5, .inl (F_L_some a5 (4 : Int32)))]) dL_edits_43 (by decide) rfl ?_
    refine wb_bipush X dL_edits_45 kb6 ?_
    refine wb_iload X 7 rfl dL_edits_47 ?_
    refine wb_imul X dL_edits_49 ?_
    refine wb_iload X 1 rfl dL_edits_50 ?_
    refine wb_iadd X dL_edits_52 ?_
    refine wb_istore X (lv' := [(8, .inl (((6 : Int32) * (F_L_some a5 (4 : Int32))) + (F_L_some (a5 >>> ((3 : Int32) &&& 31)) x3))), (7, .inl (F_Cq_ownerOf (F_L_some a5 (4 : Int32)) (F_L_some (a5 >>> ((3 : Int32) &&& 31)) x3) S)), (6, .inl (F_L_some (a5 >>> ((3 : Int32) &&& 31)) x3)), (0, .inr (.inr (10, 1))), (1, .inr (.inr (210, 1))), (2, .inl a3), (3, .inl a4), (4, .inl a5), (5, .inl (F_L_some a5 (4 : Int32)))]) dL_edits_53 (by decide) rfl ?_
    refine wb_aload_n X 3 rfl dL_edits_55 rfl ?_
    refine wb_callV1 X (As := []) (hv hw) rfl b_nr_I hk_10 hc_10 rfl kw_1092 kw_21 kw_1089 kw_1090 kw_1091 nd_X10_wipe rfl rfl (Nat.le_of_ble_eq_true rfl) dL_edits_56 hs_1ne (by decide) ⟨⟨Nat.le_of_ble_eq_true rfl, Nat.le_of_ble_eq_true rfl⟩, Nat.le_of_ble_eq_true rfl, Nat.le_of_ble_eq_true rfl⟩ (fun v S6 h => ?_)
    obtain ⟨hw, r7, rfl, hv⟩ := h
    refine wb_aload_n X 4 rfl dL_edits_59 rfl ?_
    refine wb_callV2 X (As := []) (hv hu) b_nr_I hk_10 hc_10 rfl kw_1092 kw_21 kw_1089 kw_1090 kw_1091 nd_X10_wipe rfl rfl (Nat.le_of_ble_eq_true rfl) dL_edits_60 hs_1ne ⟨⟨Nat.le_of_ble_eq_true rfl, Nat.le_of_ble_eq_true rfl⟩, Nat.le_of_ble_eq_true rfl, Nat.le_of_ble_eq_true rfl⟩ (fun v S8 h => ?_)
    obtain ⟨hu, r9, rfl, hv⟩ := h
    obtain ⟨c10, hv⟩ := hv
    refine wb_icmp_ne X (tgt := 95) dL_edits_63 (by decide) (fun c => absurd c10 c) (fun _ => ?_)
    refine wb_aload_n X 3 rfl dL_edits_66 rfl ?_
    refine wb_aload_n X 4 rfl dL_edits_67 rfl ?_
    refine wb_iconst X dL_edits_68 kc2 ?_
    refine wb_iconst X dL_edits_69 kc0 ?_
    refine wb_iload X 7 rfl dL_edits_70 ?_
    refine wb_bipush X dL_edits_72 kb6 ?_
    refine wb_ishr X dL_edits_74 ?_
    refine wb_bipush X dL_edits_75 kb41 ?_
    obtain ⟨o11, hv⟩ := hv
    refine wb_callS1 X (As := [.inl (a5 >>> ((6 : Int32) &&& 31)), .inl (41 : Int32)]) (f_L_some hw o11) rfl b_nr_pI kw_504 kw_20 kw_502 kw_503 nd_L_some rfl rfl (Nat.le_of_ble_eq_true rfl) dL_edits_77 ⟨⟨Nat.le_of_ble_eq_true rfl, Nat.le_of_ble_eq_true rfl⟩, Nat.le_of_ble_eq_true rfl, Nat.le_of_ble_eq_true rfl⟩ (b_pdk1 ?_)
    refine wb_bipush X dL_edits_80 kb6 ?_
    refine wb_isub X dL_edits_82 ?_
    refine wb_iconst X dL_edits_83 kc0 ?_
    refine wb_callB X (As := [.inr (.inr (10, 1)), .inr (.inr (210, 1)), .inl (2 : Int32), .inl (0 : Int32), .inl ((F_L_some (a5 >>> ((6 : Int32) &&& 31)) (41 : Int32)) - (6 : Int32)), .inl (0 : Int32)]) (hv hw hu) kw_1081 kw_20 kw_1079 kw_1080 nd_L_both rfl rfl (Nat.le_of_ble_eq_true rfl) dL_edits_84 ⟨⟨Nat.le_of_ble_eq_true rfl, Nat.le_of_ble_eq_true rfl⟩, Nat.le_of_ble_eq_true rfl, Nat.le_of_ble_eq_true rfl⟩ (fun v SS12 h => ?_)
    obtain ⟨S12, U13⟩ := SS12
    obtain ⟨hw, hu, r14, rfl, hv⟩ := h
    refine wb_iconst X dL_edits_87 kc1 ?_
    obtain ⟨c15, hv⟩ := hv
    refine wb_icmp_ne X (tgt := 95) dL_edits_88 (by decide) (fun c => absurd c15 c) (fun _ => ?_)
    refine wb_iconst X dL_edits_91 kc1 ?_
    refine wb_goto X (tgt := 96) dL_edits_92 (by decide) ?_
    refine wb_istore X (lv' := [(9, .inl (1 : Int32)), (8, .inl (((6 : Int32) * (F_L_some a5 (4 : Int32))) + (F_L_some (a5 >>> ((3 : Int32) &&& 31)) x3))), (7, .inl (F_Cq_ownerOf (F_L_some a5 (4 : Int32)) (F_L_some (a5 >>> ((3 : Int32) &&& 31)) x3) S)), (6, .inl (F_L_some (a5 >>> ((3 : Int32) &&& 31)) x3)), (0, .inr (.inr (10, 1))), (1, .inr (.inr (210, 1))), (2, .inl a3), (3, .inl a4), (4, .inl a5), (5, .inl (F_L_some a5 (4 : Int32)))]) dL_edits_96 (by decide) rfl ?_
    refine wb_iconst X dL_edits_98 kc1 ?_
    refine wb_istore X (lv' := [(10, .inl (1 : Int32)), (9, .inl (1 : Int32)), (8, .inl (((6 : Int32) * (F_L_some a5 (4 : Int32))) + (F_L_some (a5 >>> ((3 : Int32) &&& 31)) x3))), (7, .inl (F_Cq_ownerOf (F_L_some a5 (4 : Int32)) (F_L_some (a5 >>> ((3 : Int32) &&& 31)) x3) S)), (6, .inl (F_L_some (a5 >>> ((3 : Int32) &&& 31)) x3)), (0, .inr (.inr (10, 1))), (1, .inr (.inr (210, 1))), (2, .inl a3), (3, .inl a4), (4, .inl a5), (5, .inl (F_L_some a5 (4 : Int32)))]) dL_edits_99 (by decide) rfl ?_
    refine wb_iload_n X 8 rfl dL_edits_101 rfl ?_
    refine wb_iconst X dL_edits_102 kc3 ?_
    obtain ⟨o16, hv⟩ := hv
    refine wb_callS1 X (As := [.inl a4, .inl (3 : Int32)]) (f_L_some hw o16) rfl b_nr_pI kw_504 kw_20 kw_502 kw_503 nd_L_some rfl rfl (Nat.le_of_ble_eq_true rfl) dL_edits_103 ⟨⟨Nat.le_of_ble_eq_true rfl, Nat.le_of_ble_eq_true rfl⟩, Nat.le_of_ble_eq_true rfl, Nat.le_of_ble_eq_true rfl⟩ (b_pdk1 ?_)
    replace hv := hv (fun x17 S18 U19 => hs_Wi S18 → hs_Wi U19 → wb Z 66 1428 (S18, U19) 184 [(0, .inr (.inr (10, 1))), (1, .inr (.inr (210, 1))), (2, .inl a3), (3, .inl a4), (5, .inl (F_L_some a5 (4 : Int32))), (6, .inl (F_L_some (a5 >>> ((3 : Int32) &&& 31)) x3)), (7, .inl (F_Cq_ownerOf (F_L_some a5 (4 : Int32)) (F_L_some (a5 >>> ((3 : Int32) &&& 31)) x3) S)), (8, .inl (((6 : Int32) * (F_L_some a5 (4 : Int32))) + (F_L_some (a5 >>> ((3 : Int32) &&& 31)) x3))), (9, .inl (1 : Int32)), (10, .inl x17)] []) (fun x17 S18 U19 hv hw hu => by
      refine wb_aload_n X 0 rfl dL_edits_184 rfl ?_
      refine wb_aload_n X 1 rfl dL_edits_185 rfl ?_
      refine wb_iconst X dL_edits_186 kc5 ?_
      refine wb_iload X 4 rfl dL_edits_187 ?_
      refine wb_iload_n X 3 rfl dL_edits_189 rfl ?_
      refine wb_iconst X dL_edits_190 kc5 ?_
      refine wb_ishr X dL_edits_191 ?_
      refine wb_iconst X dL_edits_192 kc3 ?_
      obtain ⟨o21, hv⟩ := hv
      refine wb_callS1 X (As := [.inl (a4 >>> ((5 : Int32) &&& 31)), .inl (3 : Int32)]) (f_L_some hw o21) rfl b_nr_pI kw_504 kw_20 kw_502 kw_503 nd_L_some rfl rfl (Nat.le_of_ble_eq_true rfl) dL_edits_193 ⟨⟨Nat.le_of_ble_eq_true rfl, Nat.le_of_ble_eq_true rfl⟩, Nat.le_of_ble_eq_true rfl, Nat.le_of_ble_eq_true rfl⟩ (b_pdk1 ?_)
      refine wb_iconst X dL_edits_196 kc0 ?_
      refine wb_callB X (As := [.inr (.inr (10, 1)), .inr (.inr (210, 1)), .inl (5 : Int32), .inl (F_L_some a5 (4 : Int32)), .inl (F_L_some (a4 >>> ((5 : Int32) &&& 31)) (3 : Int32)), .inl (0 : Int32)]) (hv hw hu) kw_1081 kw_20 kw_1079 kw_1080 nd_L_both rfl rfl (Nat.le_of_ble_eq_true rfl) dL_edits_197 ⟨⟨Nat.le_of_ble_eq_true rfl, Nat.le_of_ble_eq_true rfl⟩, Nat.le_of_ble_eq_true rfl, Nat.le_of_ble_eq_true rfl⟩ (fun v SS22 h => ?_)
      obtain ⟨S22, U23⟩ := SS22
      obtain ⟨hw, hu, r24, rfl, hv⟩ := h
      refine wb_istore X (lv' := [(11, .inl r24), (0, .inr (.inr (10, 1))), (1, .inr (.inr (210, 1))), (2, .inl a3), (3, .inl a4), (5, .inl (F_L_some a5 (4 : Int32))), (6, .inl (F_L_some (a5 >>> ((3 : Int32) &&& 31)) x3)), (7, .inl (F_Cq_ownerOf (F_L_some a5 (4 : Int32)) (F_L_some (a5 >>> ((3 : Int32) &&& 31)) x3) S)), (8, .inl (((6 : Int32) * (F_L_some a5 (4 : Int32))) + (F_L_some (a5 >>> ((3 : Int32) &&& 31)) x3))), (9, .inl (1 : Int32)), (10, .inl x17)]) dL_edits_200 (by decide) rfl ?_
      refine wb_iload X 9 rfl dL_edits_202 ?_
      refine wb_if_eq X (tgt := 249) dL_edits_204 (by decide) (fun c => absurd c (by decide)) (fun _ => ?_)
      refine wb_iload X 0 rfl dL_edits_207 ?_
      obtain ⟨c26, hv⟩ := hv
      refine wb_if_lt X (tgt := 249) dL_edits_209 (by decide) (fun c => absurd c c26) (fun _ => ?_)
      refine wb_iload X 0 rfl dL_edits_212 ?_
      refine wb_bipush X dL_edits_214 kb51 ?_
      obtain ⟨c27, hv⟩ := hv
      refine wb_icmp_ge X (tgt := 249) dL_edits_216 (by decide) (fun c => absurd c c27) (fun _ => ?_)
      refine wb_aload_n X 1 rfl dL_edits_219 rfl ?_
      refine wb_aload_n X 2 rfl dL_edits_220 rfl ?_
      refine wb_iconst X dL_edits_221 kc5 ?_
      refine wb_iload X 5 rfl dL_edits_222 ?_
      refine wb_iload_n X 4 rfl dL_edits_224 rfl ?_
      refine wb_iconst X dL_edits_225 kc5 ?_
      refine wb_ishr X dL_edits_226 ?_
      refine wb_iconst X dL_edits_227 kc3 ?_
      obtain ⟨o28, hv⟩ := hv
      refine wb_callS1 X (As := [.inl (a4 >>> ((5 : Int32) &&& 31)), .inl (3 : Int32)]) (f_L_some hw o28) rfl b_nr_pI kw_504 kw_20 kw_502 kw_503 nd_L_some rfl rfl (Nat.le_of_ble_eq_true rfl) dL_edits_228 ⟨⟨Nat.le_of_ble_eq_true rfl, Nat.le_of_ble_eq_true rfl⟩, Nat.le_of_ble_eq_true rfl, Nat.le_of_ble_eq_true rfl⟩ (b_pdk1 ?_)
      refine wb_iconst X dL_edits_231 kc0 ?_
      refine wb_callB X (As := [.inr (.inr (10, 1)), .inr (.inr (210, 1)), .inl (5 : Int32), .inl (F_L_some a5 (4 : Int32)), .inl (F_L_some (a4 >>> ((5 : Int32) &&& 31)) (3 : Int32)), .inl (0 : Int32)]) (hv hw hu) kw_1081 kw_20 kw_1079 kw_1080 nd_L_both rfl rfl (Nat.le_of_ble_eq_true rfl) dL_edits_232 ⟨⟨Nat.le_of_ble_eq_true rfl, Nat.le_of_ble_eq_true rfl⟩, Nat.le_of_ble_eq_true rfl, Nat.le_of_ble_eq_true rfl⟩ (fun v SS29 h => ?_)
      obtain ⟨S29, U30⟩ := SS29
      obtain ⟨hw, hu, r31, rfl, hv⟩ := h
      refine wb_iload_n X 4 rfl dL_edits_235 rfl ?_
      refine wb_iconst X dL_edits_236 kc5 ?_
      refine wb_ishr X dL_edits_237 ?_
      refine wb_iconst X dL_edits_238 kc3 ?_
      obtain ⟨o32, hv⟩ := hv
      refine wb_callS1 X (As := [.inl (a4 >>> ((5 : Int32) &&& 31)), .inl (3 : Int32)]) (f_L_some hw o32) rfl b_nr_pI kw_504 kw_20 kw_502 kw_503 nd_L_some rfl rfl (Nat.le_of_ble_eq_true rfl) dL_edits_239 ⟨⟨Nat.le_of_ble_eq_true rfl, Nat.le_of_ble_eq_true rfl⟩, Nat.le_of_ble_eq_true rfl, Nat.le_of_ble_eq_true rfl⟩ (b_pdk1 ?_)
      obtain ⟨c33, hv⟩ := hv
      refine wb_icmp_ne X (tgt := 249) dL_edits_242 (by decide) (fun c => absurd c33 c) (fun _ => ?_)
      refine wb_iconst X dL_edits_245 kc1 ?_
      refine wb_goto X (tgt := 250) dL_edits_246 (by decide) ?_
      refine wb_istore X (lv' := [(9, .inl (1 : Int32)), (11, .inl r24), (0, .inr (.inr (10, 1))), (1, .inr (.inr (210, 1))), (2, .inl a3), (3, .inl a4), (5, .inl (F_L_some a5 (4 : Int32))), (6, .inl (F_L_some (a5 >>> ((3 : Int32) &&& 31)) x3)), (7, .inl (F_Cq_ownerOf (F_L_some a5 (4 : Int32)) (F_L_some (a5 >>> ((3 : Int32) &&& 31)) x3) S)), (8, .inl (((6 : Int32) * (F_L_some a5 (4 : Int32))) + (F_L_some (a5 >>> ((3 : Int32) &&& 31)) x3))), (10, .inl x17)]) dL_edits_250 (by decide) rfl ?_
      refine wb_aload_n X 2 rfl dL_edits_252 rfl ?_
      refine wb_callV1 X (As := []) (f_C_events hw) rfl b_nr_pI hk_10 hc_10 rfl kw_1072 kw_21 kw_1069 kw_1070 kw_1071 nd_X10_events rfl rfl (Nat.le_of_ble_eq_true rfl) dL_edits_253 hs_1ne (by decide) ⟨⟨Nat.le_of_ble_eq_true rfl, Nat.le_of_ble_eq_true rfl⟩, Nat.le_of_ble_eq_true rfl, Nat.le_of_ble_eq_true rfl⟩ (b_pdk1 ?_)
      refine wb_istore X (lv' := [(12, .inl (F_C_events S29)), (9, .inl (1 : Int32)), (11, .inl r24), (0, .inr (.inr (10, 1))), (1, .inr (.inr (210, 1))), (2, .inl a3), (3, .inl a4), (5, .inl (F_L_some a5 (4 : Int32))), (6, .inl (F_L_some (a5 >>> ((3 : Int32) &&& 31)) x3)), (7, .inl (F_Cq_ownerOf (F_L_some a5 (4 : Int32)) (F_L_some (a5 >>> ((3 : Int32) &&& 31)) x3) S)), (8, .inl (((6 : Int32) * (F_L_some a5 (4 : Int32))) + (F_L_some (a5 >>> ((3 : Int32) &&& 31)) x3))), (10, .inl x17)]) dL_edits_256 (by decide) rfl ?_
      refine wb_aload_n X 3 rfl dL_edits_258 rfl ?_
      refine wb_iload X 10 rfl dL_edits_259 ?_
      refine wb_bipush X dL_edits_261 kb6 ?_
      refine wb_idiv X dL_edits_263 (by decide) ?_
      refine wb_iload X 10 rfl dL_edits_264 ?_
      refine wb_bipush X dL_edits_266 kb6 ?_
      refine wb_irem X dL_edits_268 (by decide) ?_
      obtain ⟨o34, hv⟩ := hv
      refine wb_callV1 X (As := [.inl ((((6 : Int32) * (F_L_some a5 (4 : Int32))) + (F_L_some (a5 >>> ((3 : Int32) &&& 31)) x3)) / (6 : Int32)), .inl ((((6 : Int32) * (F_L_some a5 (4 : Int32))) + (F_L_some (a5 >>> ((3 : Int32) &&& 31)) x3)) - (((6 : Int32) * (F_L_some a5 (4 : Int32))) + (F_L_some (a5 >>> ((3 : Int32) &&& 31)) x3)) / (6 : Int32) * (6 : Int32))]) (f_Cq_edits hw o34) rfl b_nr_pI hk_10 hc_10 rfl kw_349 kw_21 kw_346 kw_347 kw_348 nd_X10_edits rfl rfl (Nat.le_of_ble_eq_true rfl) dL_edits_269 hs_1ne (by decide) ⟨⟨Nat.le_of_ble_eq_true rfl, Nat.le_of_ble_eq_true rfl⟩, Nat.le_of_ble_eq_true rfl, Nat.le_of_ble_eq_true rfl⟩ (b_pdk1 ?_)
      refine wb_istore X (lv' := [(13, .inl (F_Cq_edits ((((6 : Int32) * (F_L_some a5 (4 : Int32))) + (F_L_some (a5 >>> ((3 : Int32) &&& 31)) x3)) / (6 : Int32)) ((((6 : Int32) * (F_L_some a5 (4 : Int32))) + (F_L_some (a5 >>> ((3 : Int32) &&& 31)) x3)) - (((6 : Int32) * (F_L_some a5 (4 : Int32))) + (F_L_some (a5 >>> ((3 : Int32) &&& 31)) x3)) / (6 : Int32) * (6 : Int32)) S29)), (12, .inl (F_C_events S29)), (9, .inl (1 : Int32)), (11, .inl r24), (0, .inr (.inr (10, 1))), (1, .inr (.inr (210, 1))), (2, .inl a3), (3, .inl a4), (5, .inl (F_L_some a5 (4 : Int32))), (6, .inl (F_L_some (a5 >>> ((3 : Int32) &&& 31)) x3)), (7, .inl (F_Cq_ownerOf (F_L_some a5 (4 : Int32)) (F_L_some (a5 >>> ((3 : Int32) &&& 31)) x3) S)), (8, .inl (((6 : Int32) * (F_L_some a5 (4 : Int32))) + (F_L_some (a5 >>> ((3 : Int32) &&& 31)) x3))), (10, .inl x17)]) dL_edits_272 (by decide) rfl ?_
      refine wb_iload_n X 7 rfl dL_edits_274 rfl ?_
      refine wb_bipush X dL_edits_275 kb11 ?_
      refine wb_ishr X dL_edits_277 ?_
      refine wb_bipush X dL_edits_278 kb7 ?_
      obtain ⟨o35, hv⟩ := hv
      refine wb_callS1 X (As := [.inl (a4 >>> ((11 : Int32) &&& 31)), .inl (7 : Int32)]) (f_L_some hw o35) rfl b_nr_pI kw_504 kw_20 kw_502 kw_503 nd_L_some rfl rfl (Nat.le_of_ble_eq_true rfl) dL_edits_280 ⟨⟨Nat.le_of_ble_eq_true rfl, Nat.le_of_ble_eq_true rfl⟩, Nat.le_of_ble_eq_true rfl, Nat.le_of_ble_eq_true rfl⟩ (b_pdk1 ?_)
      have k103 : ∀ (x36 : Int32), x36 = (if (F_L_some (a4 >>> ((11 : Int32) &&& 31)) (7 : Int32)) = 0 then (1 : Int32) else (0 : Int32)) → wb Z 110 2380 (S29, U30) 291 [(0, .inr (.inr (10, 1))), (1, .inr (.inr (210, 1))), (2, .inl a3), (3, .inl a4), (5, .inl (F_L_some a5 (4 : Int32))), (6, .inl (F_L_some (a5 >>> ((3 : Int32) &&& 31)) x3)), (7, .inl (F_Cq_ownerOf (F_L_some a5 (4 : Int32)) (F_L_some (a5 >>> ((3 : Int32) &&& 31)) x3) S)), (9, .inl (1 : Int32)), (10, .inl x17), (12, .inl (F_C_events S29)), (13, .inl (F_Cq_edits ((((6 : Int32) * (F_L_some a5 (4 : Int32))) + (F_L_some (a5 >>> ((3 : Int32) &&& 31)) x3)) / (6 : Int32)) ((((6 : Int32) * (F_L_some a5 (4 : Int32))) + (F_L_some (a5 >>> ((3 : Int32) &&& 31)) x3)) - (((6 : Int32) * (F_L_some a5 (4 : Int32))) + (F_L_some (a5 >>> ((3 : Int32) &&& 31)) x3)) / (6 : Int32) * (6 : Int32)) S29))] [.inl x36] := by
        intro x36 hE
        replace hv := hv _ hE
        refine wb_istore X (lv' := [(14, .inl x36), (0, .inr (.inr (10, 1))), (1, .inr (.inr (210, 1))), (2, .inl a3), (3, .inl a4), (5, .inl (F_L_some a5 (4 : Int32))), (6, .inl (F_L_some (a5 >>> ((3 : Int32) &&& 31)) x3)), (7, .inl (F_Cq_ownerOf (F_L_some a5 (4 : Int32)) (F_L_some (a5 >>> ((3 : Int32) &&& 31)) x3) S)), (9, .inl (1 : Int32)), (10, .inl x17), (12, .inl (F_C_events S29)), (13, .inl (F_Cq_edits ((((6 : Int32) * (F_L_some a5 (4 : Int32))) + (F_L_some (a5 >>> ((3 : Int32) &&& 31)) x3)) / (6 : Int32)) ((((6 : Int32) * (F_L_some a5 (4 : Int32))) + (F_L_some (a5 >>> ((3 : Int32) &&& 31)) x3)) - (((6 : Int32) * (F_L_some a5 (4 : Int32))) + (F_L_some (a5 >>> ((3 : Int32) &&& 31)) x3)) / (6 : Int32) * (6 : Int32)) S29))]) dL_edits_291 (by decide) rfl ?_
        refine wb_aload_n X 1 rfl dL_edits_293 rfl ?_
        refine wb_aload_n X 2 rfl dL_edits_294 rfl ?_
        refine wb_iload X 0 rfl dL_edits_295 ?_
        have k100 : ∀ (x37 : Int32), x37 = (if x36 = 0 then (3 : Int32) else (4 : Int32)) → wb Z 110 2380 (S29, U30) 305 [(0, .inr (.inr (10, 1))), (2, .inl a3), (3, .inl a4), (5, .inl (F_L_some a5 (4 : Int32))), (6, .inl (F_L_some (a5 >>> ((3 : Int32) &&& 31)) x3)), (7, .inl (F_Cq_ownerOf (F_L_some a5 (4 : Int32)) (F_L_some (a5 >>> ((3 : Int32) &&& 31)) x3) S)), (9, .inl (1 : Int32)), (10, .inl x17), (12, .inl (F_C_events S29)), (13, .inl (F_Cq_edits ((((6 : Int32) * (F_L_some a5 (4 : Int32))) + (F_L_some (a5 >>> ((3 : Int32) &&& 31)) x3)) / (6 : Int32)) ((((6 : Int32) * (F_L_some a5 (4 : Int32))) + (F_L_some (a5 >>> ((3 : Int32) &&& 31)) x3)) - (((6 : Int32) * (F_L_some a5 (4 : Int32))) + (F_L_some (a5 >>> ((3 : Int32) &&& 31)) x3)) / (6 : Int32) * (6 : Int32)) S29)), (14, .inl x36)] [.inl x37, .inr (.inr (210, 1)), .inr (.inr (10, 1))] := by
          intro x37 hE
          replace hv := hv _ hE
          refine wb_iload X 5 rfl dL_edits_305 ?_
          refine wb_iload X 3 rfl dL_edits_307 ?_
          refine wb_iload X 4 rfl dL_edits_309 ?_
          refine wb_callB X (As := [.inr (.inr (10, 1)), .inr (.inr (210, 1)), .inl x37, .inl (F_Cq_ownerOf (F_L_some a5 (4 : Int32)) (F_L_some (a5 >>> ((3 : Int32) &&& 31)) x3) S), .inl (F_L_some a5 (4 : Int32)), .inl (F_L_some (a5 >>> ((3 : Int32) &&& 31)) x3)]) (hv hw hu) kw_1081 kw_20 kw_1079 kw_1080 nd_L_both rfl rfl (Nat.le_of_ble_eq_true rfl) dL_edits_311 ⟨⟨Nat.le_of_ble_eq_true rfl, Nat.le_of_ble_eq_true rfl⟩, Nat.le_of_ble_eq_true rfl, Nat.le_of_ble_eq_true rfl⟩ (fun v SS38 h => ?_)
          obtain ⟨S38, U39⟩ := SS38
          obtain ⟨hw, hu, r40, rfl, hv⟩ := h
          refine wb_istore X (lv' := [(15, .inl r40), (0, .inr (.inr (10, 1))), (2, .inl a3), (3, .inl a4), (5, .inl (F_L_some a5 (4 : Int32))), (6, .inl (F_L_some (a5 >>> ((3 : Int32) &&& 31)) x3)), (7, .inl (F_Cq_ownerOf (F_L_some a5 (4 : Int32)) (F_L_some (a5 >>> ((3 : Int32) &&& 31)) x3) S)), (9, .inl (1 : Int32)), (10, .inl x17), (12, .inl (F_C_events S29)), (13, .inl (F_Cq_edits ((((6 : Int32) * (F_L_some a5 (4 : Int32))) + (F_L_some (a5 >>> ((3 : Int32) &&& 31)) x3)) / (6 : Int32)) ((((6 : Int32) * (F_L_some a5 (4 : Int32))) + (F_L_some (a5 >>> ((3 : Int32) &&& 31)) x3)) - (((6 : Int32) * (F_L_some a5 (4 : Int32))) + (F_L_some (a5 >>> ((3 : Int32) &&& 31)) x3)) / (6 : Int32) * (6 : Int32)) S29)), (14, .inl x36)]) dL_edits_314 (by decide) rfl ?_
          refine wb_iload X 0 rfl dL_edits_316 ?_
          refine wb_ldc X kw_1065 dL_edits_318 ?_
          refine wb_icmp_ne X (tgt := 365) dL_edits_320 (by decide) (fun c41 => ?_) (fun c41 => ?_)
          · replace hv := hv.1 c41
            refine wb_iload_n X 3 rfl dL_edits_365 rfl ?_
            refine wb_iconst X dL_edits_366 kc5 ?_
            refine wb_ishr X dL_edits_367 ?_
            refine wb_iconst X dL_edits_368 kc3 ?_
            obtain ⟨o42, hv⟩ := hv
            refine wb_callS1 X (As := [.inl (a4 >>> ((5 : Int32) &&& 31)), .inl (3 : Int32)]) (f_L_some hw o42) rfl b_nr_pI kw_504 kw_20 kw_502 kw_503 nd_L_some rfl rfl (Nat.le_of_ble_eq_true rfl) dL_edits_369 ⟨⟨Nat.le_of_ble_eq_true rfl, Nat.le_of_ble_eq_true rfl⟩, Nat.le_of_ble_eq_true rfl, Nat.le_of_ble_eq_true rfl⟩ (b_pdk1 ?_)
            refine wb_iconst X dL_edits_372 kc1 ?_
            have k91 : ∀ (x43 : Int32), x43 = (if (1 : Int32) ≤ (F_L_some (a4 >>> ((5 : Int32) &&& 31)) (3 : Int32)) then (F_L_some (a4 >>> ((5 : Int32) &&& 31)) (3 : Int32)) else (1 : Int32)) → wb Z 132 2856 (S38, U39) 387 [(0, .inr (.inr (10, 1))), (2, .inl a3), (5, .inl (F_L_some a5 (4 : Int32))), (6, .inl (F_L_some (a5 >>> ((3 : Int32) &&& 31)) x3)), (7, .inl (F_Cq_ownerOf (F_L_some a5 (4 : Int32)) (F_L_some (a5 >>> ((3 : Int32) &&& 31)) x3) S)), (9, .inl (1 : Int32)), (10, .inl x17), (12, .inl (F_C_events S29)), (13, .inl (F_Cq_edits ((((6 : Int32) * (F_L_some a5 (4 : Int32))) + (F_L_some (a5 >>> ((3 : Int32) &&& 31)) x3)) / (6 : Int32)) ((((6 : Int32) * (F_L_some a5 (4 : Int32))) + (F_L_some (a5 >>> ((3 : Int32) &&& 31)) x3)) - (((6 : Int32) * (F_L_some a5 (4 : Int32))) + (F_L_some (a5 >>> ((3 : Int32) &&& 31)) x3)) / (6 : Int32) * (6 : Int32)) S29)), (14, .inl x36), (15, .inl r40)] [.inl x43] := by
              intro x43 hE
              replace hv := hv _ hE
              refine wb_istore X (lv' := [(16, .inl x43), (0, .inr (.inr (10, 1))), (2, .inl a3), (5, .inl (F_L_some a5 (4 : Int32))), (6, .inl (F_L_some (a5 >>> ((3 : Int32) &&& 31)) x3)), (7, .inl (F_Cq_ownerOf (F_L_some a5 (4 : Int32)) (F_L_some (a5 >>> ((3 : Int32) &&& 31)) x3) S)), (9, .inl (1 : Int32)), (10, .inl x17), (12, .inl (F_C_events S29)), (13, .inl (F_Cq_edits ((((6 : Int32) * (F_L_some a5 (4 : Int32))) + (F_L_some (a5 >>> ((3 : Int32) &&& 31)) x3)) / (6 : Int32)) ((((6 : Int32) * (F_L_some a5 (4 : Int32))) + (F_L_some (a5 >>> ((3 : Int32) &&& 31)) x3)) - (((6 : Int32) * (F_L_some a5 (4 : Int32))) + (F_L_some (a5 >>> ((3 : Int32) &&& 31)) x3)) / (6 : Int32) * (6 : Int32)) S29)), (14, .inl x36), (15, .inl r40)]) dL_edits_387 (by decide) rfl ?_
              refine wb_bipush X dL_edits_389 kb16 ?_
              refine wb_iload X 9 rfl dL_edits_391 ?_
              refine wb_iconst X dL_edits_393 kc2 ?_
              refine wb_iadd X dL_edits_394 ?_
              refine wb_imul X dL_edits_395 ?_
              refine wb_iconst X dL_edits_396 kc2 ?_
              refine wb_iadd X dL_edits_397 ?_
              refine wb_istore X (lv' := [(17, .inl (((16 : Int32) * ((F_Cq_edits ((((6 : Int32) * (F_L_some a5 (4 : Int32))) + (F_L_some (a5 >>> ((3 : Int32) &&& 31)) x3)) / (6 : Int32)) ((((6 : Int32) * (F_L_some a5 (4 : Int32))) + (F_L_some (a5 >>> ((3 : Int32) &&& 31)) x3)) - (((6 : Int32) * (F_L_some a5 (4 : Int32))) + (F_L_some (a5 >>> ((3 : Int32) &&& 31)) x3)) / (6 : Int32) * (6 : Int32)) S29) + (2 : Int32))) + (2 : Int32))), (16, .inl x43), (0, .inr (.inr (10, 1))), (2, .inl a3), (5, .inl (F_L_some a5 (4 : Int32))), (6, .inl (F_L_some (a5 >>> ((3 : Int32) &&& 31)) x3)), (7, .inl (F_Cq_ownerOf (F_L_some a5 (4 : Int32)) (F_L_some (a5 >>> ((3 : Int32) &&& 31)) x3) S)), (9, .inl (1 : Int32)), (10, .inl x17), (12, .inl (F_C_events S29)), (13, .inl (F_Cq_edits ((((6 : Int32) * (F_L_some a5 (4 : Int32))) + (F_L_some (a5 >>> ((3 : Int32) &&& 31)) x3)) / (6 : Int32)) ((((6 : Int32) * (F_L_some a5 (4 : Int32))) + (F_L_some (a5 >>> ((3 : Int32) &&& 31)) x3)) - (((6 : Int32) * (F_L_some a5 (4 : Int32))) + (F_L_some (a5 >>> ((3 : Int32) &&& 31)) x3)) / (6 : Int32) * (6 : Int32)) S29)), (14, .inl x36), (15, .inl r40)]) dL_edits_398 (by decide) rfl ?_
              refine wb_iload X 7 rfl dL_edits_400 ?_
              refine wb_if_eq X (tgt := 592) dL_edits_402 (by decide) (fun c => absurd c (by decide)) (fun _ => ?_)
              refine wb_iload X 12 rfl dL_edits_405 ?_
              refine wb_iload_n X 3 rfl dL_edits_407 rfl ?_
              obtain ⟨c45, hv⟩ := hv
              refine wb_icmp_ne X (tgt := 592) dL_edits_408 (by decide) (fun c => absurd c45 c) (fun _ => ?_)
              refine wb_aload_n X 2 rfl dL_edits_411 rfl ?_
              refine wb_callV1 X (As := []) (f_C_events hw) rfl b_nr_pI hk_10 hc_10 rfl kw_1072 kw_21 kw_1069 kw_1070 kw_1071 nd_X10_events rfl rfl (Nat.le_of_ble_eq_true rfl) dL_edits_412 hs_1ne (by decide) ⟨⟨Nat.le_of_ble_eq_true rfl, Nat.le_of_ble_eq_true rfl⟩, Nat.le_of_ble_eq_true rfl, Nat.le_of_ble_eq_true rfl⟩ (b_pdk1 ?_)
              refine wb_iload X 9 rfl dL_edits_415 ?_
              refine wb_iconst X dL_edits_417 kc1 ?_
              refine wb_iadd X dL_edits_418 ?_
              obtain ⟨c46, hv⟩ := hv
              refine wb_icmp_ne X (tgt := 592) dL_edits_419 (by decide) (fun c => absurd c46 c) (fun _ => ?_)
              refine wb_aload_n X 2 rfl dL_edits_422 rfl ?_
              refine wb_iload X 4 rfl dL_edits_423 ?_
              refine wb_iload X 5 rfl dL_edits_425 ?_
              obtain ⟨o47, hv⟩ := hv
              refine wb_callV1 X (As := [.inl (F_L_some a5 (4 : Int32)), .inl (F_L_some (a5 >>> ((3 : Int32) &&& 31)) x3)]) (f_Cq_edits hw o47) rfl b_nr_pI hk_10 hc_10 rfl kw_349 kw_21 kw_346 kw_347 kw_348 nd_X10_edits rfl rfl (Nat.le_of_ble_eq_true rfl) dL_edits_427 hs_1ne (by decide) ⟨⟨Nat.le_of_ble_eq_true rfl, Nat.le_of_ble_eq_true rfl⟩, Nat.le_of_ble_eq_true rfl, Nat.le_of_ble_eq_true rfl⟩ (b_pdk1 ?_)
              refine wb_iload X 10 rfl dL_edits_430 ?_
              refine wb_iconst X dL_edits_432 kc1 ?_
              refine wb_iadd X dL_edits_433 ?_
              obtain ⟨c48, hv⟩ := hv
              refine wb_icmp_ne X (tgt := 592) dL_edits_434 (by decide) (fun c => absurd c48 c) (fun _ => ?_)
              refine wb_aload_n X 2 rfl dL_edits_437 rfl ?_
              refine wb_bipush X dL_edits_438 kb9 ?_
              refine wb_iload X 4 rfl dL_edits_440 ?_
              refine wb_iload X 5 rfl dL_edits_442 ?_
              refine wb_iload X 0 rfl dL_edits_444 ?_
              refine wb_callW1 X (As := [.inr (.inr (10, 1)), .inl (9 : Int32), .inl (F_L_some a5 (4 : Int32)), .inl (F_L_some (a5 >>> ((3 : Int32) &&& 31)) x3), .inl (((16 : Int32) * ((F_Cq_edits ((((6 : Int32) * (F_L_some a5 (4 : Int32))) + (F_L_some (a5 >>> ((3 : Int32) &&& 31)) x3)) / (6 : Int32)) ((((6 : Int32) * (F_L_some a5 (4 : Int32))) + (F_L_some (a5 >>> ((3 : Int32) &&& 31)) x3)) - (((6 : Int32) * (F_L_some a5 (4 : Int32))) + (F_L_some (a5 >>> ((3 : Int32) &&& 31)) x3)) / (6 : Int32) * (6 : Int32)) S29) + (2 : Int32))) + (2 : Int32))]) (hv hw) rfl b_nr_I kw_507 kw_20 kw_505 kw_506 nd_L_call rfl rfl (Nat.le_of_ble_eq_true rfl) dL_edits_446 ⟨⟨Nat.le_of_ble_eq_true rfl, Nat.le_of_ble_eq_true rfl⟩, Nat.le_of_ble_eq_true rfl, Nat.le_of_ble_eq_true rfl⟩ (fun v S49 h => ?_)
              obtain ⟨hw, r50, rfl, hv⟩ := h
              refine wb_iload X 12 rfl dL_edits_449 ?_
              obtain ⟨c51, hv⟩ := hv
              refine wb_icmp_ne X (tgt := 592) dL_edits_451 (by decide) (fun c => absurd c51 c) (fun _ => ?_)
              refine wb_aload_n X 2 rfl dL_edits_454 rfl ?_
              refine wb_bipush X dL_edits_455 kb9 ?_
              refine wb_iload X 4 rfl dL_edits_457 ?_
              refine wb_iload X 5 rfl dL_edits_459 ?_
              refine wb_iload X 0 rfl dL_edits_461 ?_
              refine wb_iconst X dL_edits_463 kc1 ?_
              refine wb_iadd X dL_edits_464 ?_
              refine wb_callW1 X (As := [.inr (.inr (10, 1)), .inl (9 : Int32), .inl (F_L_some a5 (4 : Int32)), .inl (F_L_some (a5 >>> ((3 : Int32) &&& 31)) x3), .inl ((((16 : Int32) * ((F_Cq_edits ((((6 : Int32) * (F_L_some a5 (4 : Int32))) + (F_L_some (a5 >>> ((3 : Int32) &&& 31)) x3)) / (6 : Int32)) ((((6 : Int32) * (F_L_some a5 (4 : Int32))) + (F_L_some (a5 >>> ((3 : Int32) &&& 31)) x3)) - (((6 : Int32) * (F_L_some a5 (4 : Int32))) + (F_L_some (a5 >>> ((3 : Int32) &&& 31)) x3)) / (6 : Int32) * (6 : Int32)) S29) + (2 : Int32))) + (2 : Int32)) + (1 : Int32))]) (hv hw) rfl b_nr_I kw_507 kw_20 kw_505 kw_506 nd_L_call rfl rfl (Nat.le_of_ble_eq_true rfl) dL_edits_465 ⟨⟨Nat.le_of_ble_eq_true rfl, Nat.le_of_ble_eq_true rfl⟩, Nat.le_of_ble_eq_true rfl, Nat.le_of_ble_eq_true rfl⟩ (fun v S52 h => ?_)
              obtain ⟨hw, r53, rfl, hv⟩ := h
              refine wb_iload X 9 rfl dL_edits_468 ?_
              obtain ⟨c54, hv⟩ := hv
              refine wb_icmp_ne X (tgt := 592) dL_edits_470 (by decide) (fun c => absurd c54 c) (fun _ => ?_)
              refine wb_aload_n X 2 rfl dL_edits_473 rfl ?_
              refine wb_bipush X dL_edits_474 kb9 ?_
              refine wb_iload X 4 rfl dL_edits_476 ?_
              refine wb_iload X 5 rfl dL_edits_478 ?_
              refine wb_iload X 0 rfl dL_edits_480 ?_
              refine wb_iconst X dL_edits_482 kc2 ?_
              refine wb_iadd X dL_edits_483 ?_
              refine wb_callW1 X (As := [.inr (.inr (10, 1)), .inl (9 : Int32), .inl (F_L_some a5 (4 : Int32)), .inl (F_L_some (a5 >>> ((3 : Int32) &&& 31)) x3), .inl ((((16 : Int32) * ((F_Cq_edits ((((6 : Int32) * (F_L_some a5 (4 : Int32))) + (F_L_some (a5 >>> ((3 : Int32) &&& 31)) x3)) / (6 : Int32)) ((((6 : Int32) * (F_L_some a5 (4 : Int32))) + (F_L_some (a5 >>> ((3 : Int32) &&& 31)) x3)) - (((6 : Int32) * (F_L_some a5 (4 : Int32))) + (F_L_some (a5 >>> ((3 : Int32) &&& 31)) x3)) / (6 : Int32) * (6 : Int32)) S29) + (2 : Int32))) + (2 : Int32)) + (2 : Int32))]) (hv hw) rfl b_nr_I kw_507 kw_20 kw_505 kw_506 nd_L_call rfl rfl (Nat.le_of_ble_eq_true rfl) dL_edits_484 ⟨⟨Nat.le_of_ble_eq_true rfl, Nat.le_of_ble_eq_true rfl⟩, Nat.le_of_ble_eq_true rfl, Nat.le_of_ble_eq_true rfl⟩ (fun v S55 h => ?_)
              obtain ⟨hw, r56, rfl, hv⟩ := h
              refine wb_iload X 9 rfl dL_edits_487 ?_
              refine wb_iload X 1 rfl dL_edits_489 ?_
              refine wb_iadd X dL_edits_491 ?_
              obtain ⟨c57, hv⟩ := hv
              refine wb_icmp_ne X (tgt := 592) dL_edits_492 (by decide) (fun c => absurd c57 c) (fun _ => ?_)
              refine wb_aload_n X 2 rfl dL_edits_495 rfl ?_
              refine wb_bipush X dL_edits_496 kb9 ?_
              refine wb_iload X 4 rfl dL_edits_498 ?_
              refine wb_iload X 5 rfl dL_edits_500 ?_
              refine wb_iload X 0 rfl dL_edits_502 ?_
              refine wb_iconst X dL_edits_504 kc3 ?_
              refine wb_iadd X dL_edits_505 ?_
              refine wb_callW1 X (As := [.inr (.inr (10, 1)), .inl (9 : Int32), .inl (F_L_some a5 (4 : Int32)), .inl (F_L_some (a5 >>> ((3 : Int32) &&& 31)) x3), .inl ((((16 : Int32) * ((F_Cq_edits ((((6 : Int32) * (F_L_some a5 (4 : Int32))) + (F_L_some (a5 >>> ((3 : Int32) &&& 31)) x3)) / (6 : Int32)) ((((6 : Int32) * (F_L_some a5 (4 : Int32))) + (F_L_some (a5 >>> ((3 : Int32) &&& 31)) x3)) - (((6 : Int32) * (F_L_some a5 (4 : Int32))) + (F_L_some (a5 >>> ((3 : Int32) &&& 31)) x3)) / (6 : Int32) * (6 : Int32)) S29) + (2 : Int32))) + (2 : Int32)) + (3 : Int32))]) (hv hw) rfl b_nr_I kw_507 kw_20 kw_505 kw_506 nd_L_call rfl rfl (Nat.le_of_ble_eq_true rfl) dL_edits_506 ⟨⟨Nat.le_of_ble_eq_true rfl, Nat.le_of_ble_eq_true rfl⟩, Nat.le_of_ble_eq_true rfl, Nat.le_of_ble_eq_true rfl⟩ (fun v S58 h => ?_)
              obtain ⟨hw, r59, rfl, hv⟩ := h
              refine wb_iload X 6 rfl dL_edits_509 ?_
              obtain ⟨c60, hv⟩ := hv
              refine wb_icmp_ne X (tgt := 592) dL_edits_511 (by decide) (fun c => absurd c60 c) (fun _ => ?_)
              refine wb_aload_n X 2 rfl dL_edits_514 rfl ?_
              refine wb_bipush X dL_edits_515 kb9 ?_
              refine wb_iload X 4 rfl dL_edits_517 ?_
              refine wb_iload X 5 rfl dL_edits_519 ?_
              refine wb_iload X 0 rfl dL_edits_521 ?_
              refine wb_iconst X dL_edits_523 kc4 ?_
              refine wb_iadd X dL_edits_524 ?_
              refine wb_callW1 X (As := [.inr (.inr (10, 1)), .inl (9 : Int32), .inl (F_L_some a5 (4 : Int32)), .inl (F_L_some (a5 >>> ((3 : Int32) &&& 31)) x3), .inl ((((16 : Int32) * ((F_Cq_edits ((((6 : Int32) * (F_L_some a5 (4 : Int32))) + (F_L_some (a5 >>> ((3 : Int32) &&& 31)) x3)) / (6 : Int32)) ((((6 : Int32) * (F_L_some a5 (4 : Int32))) + (F_L_some (a5 >>> ((3 : Int32) &&& 31)) x3)) - (((6 : Int32) * (F_L_some a5 (4 : Int32))) + (F_L_some (a5 >>> ((3 : Int32) &&& 31)) x3)) / (6 : Int32) * (6 : Int32)) S29) + (2 : Int32))) + (2 : Int32)) + (4 : Int32))]) (hv hw) rfl b_nr_I kw_507 kw_20 kw_505 kw_506 nd_L_call rfl rfl (Nat.le_of_ble_eq_true rfl) dL_edits_525 ⟨⟨Nat.le_of_ble_eq_true rfl, Nat.le_of_ble_eq_true rfl⟩, Nat.le_of_ble_eq_true rfl, Nat.le_of_ble_eq_true rfl⟩ (fun v S61 h => ?_)
              obtain ⟨hw, r62, rfl, hv⟩ := h
              refine wb_iload X 11 rfl dL_edits_528 ?_
              have k88 : ∀ (x63 : Int32), x63 = (if x36 = 0 then x17 else (0 : Int32)) → wb Z 187 4046 (S61, U39) 539 [(0, .inr (.inr (10, 1))), (5, .inl (F_L_some a5 (4 : Int32))), (6, .inl (F_L_some (a5 >>> ((3 : Int32) &&& 31)) x3)), (7, .inl (F_Cq_ownerOf (F_L_some a5 (4 : Int32)) (F_L_some (a5 >>> ((3 : Int32) &&& 31)) x3) S)), (14, .inl x36), (16, .inl x43), (17, .inl (((16 : Int32) * ((F_Cq_edits ((((6 : Int32) * (F_L_some a5 (4 : Int32))) + (F_L_some (a5 >>> ((3 : Int32) &&& 31)) x3)) / (6 : Int32)) ((((6 : Int32) * (F_L_some a5 (4 : Int32))) + (F_L_some (a5 >>> ((3 : Int32) &&& 31)) x3)) - (((6 : Int32) * (F_L_some a5 (4 : Int32))) + (F_L_some (a5 >>> ((3 : Int32) &&& 31)) x3)) / (6 : Int32) * (6 : Int32)) S29) + (2 : Int32))) + (2 : Int32)))] [.inl x63, .inl r62] := by
                intro x63 hE
                replace hv := hv _ hE
                obtain ⟨c64, hv⟩ := hv
                refine wb_icmp_ne X (tgt := 592) dL_edits_539 (by decide) (fun c => absurd c64 c) (fun _ => ?_)
                refine wb_aload_n X 0 rfl dL_edits_542 rfl ?_
                refine wb_bipush X dL_edits_543 kb9 ?_
                refine wb_iload X 1 rfl dL_edits_545 ?_
                refine wb_iload X 2 rfl dL_edits_547 ?_
                refine wb_iload X 6 rfl dL_edits_549 ?_
                refine wb_iconst X dL_edits_551 kc5 ?_
                refine wb_iadd X dL_edits_552 ?_
                refine wb_callW1 X (As := [.inr (.inr (10, 1)), .inl (9 : Int32), .inl (F_L_some a5 (4 : Int32)), .inl (F_L_some (a5 >>> ((3 : Int32) &&& 31)) x3), .inl ((((16 : Int32) * ((F_Cq_edits ((((6 : Int32) * (F_L_some a5 (4 : Int32))) + (F_L_some (a5 >>> ((3 : Int32) &&& 31)) x3)) / (6 : Int32)) ((((6 : Int32) * (F_L_some a5 (4 : Int32))) + (F_L_some (a5 >>> ((3 : Int32) &&& 31)) x3)) - (((6 : Int32) * (F_L_some a5 (4 : Int32))) + (F_L_some (a5 >>> ((3 : Int32) &&& 31)) x3)) / (6 : Int32) * (6 : Int32)) S29) + (2 : Int32))) + (2 : Int32)) + (5 : Int32))]) (hv hw) rfl b_nr_I kw_507 kw_20 kw_505 kw_506 nd_L_call rfl rfl (Nat.le_of_ble_eq_true rfl) dL_edits_553 ⟨⟨Nat.le_of_ble_eq_true rfl, Nat.le_of_ble_eq_true rfl⟩, Nat.le_of_ble_eq_true rfl, Nat.le_of_ble_eq_true rfl⟩ (fun v S65 h => ?_)
                obtain ⟨hw, r66, rfl, hv⟩ := h
                obtain ⟨c67, hv⟩ := hv
                refine wb_if_ne X (tgt := 592) dL_edits_556 (by decide) (fun c => absurd c67 c) (fun _ => ?_)
                refine wb_aload_n X 0 rfl dL_edits_559 rfl ?_
                refine wb_bipush X dL_edits_560 kb9 ?_
                refine wb_iload X 1 rfl dL_edits_562 ?_
                refine wb_iload X 2 rfl dL_edits_564 ?_
                refine wb_iload X 6 rfl dL_edits_566 ?_
                refine wb_bipush X dL_edits_568 kb6 ?_
                refine wb_iadd X dL_edits_570 ?_
                refine wb_callW1 X (As := [.inr (.inr (10, 1)), .inl (9 : Int32), .inl (F_L_some a5 (4 : Int32)), .inl (F_L_some (a5 >>> ((3 : Int32) &&& 31)) x3), .inl ((((16 : Int32) * ((F_Cq_edits ((((6 : Int32) * (F_L_some a5 (4 : Int32))) + (F_L_some (a5 >>> ((3 : Int32) &&& 31)) x3)) / (6 : Int32)) ((((6 : Int32) * (F_L_some a5 (4 : Int32))) + (F_L_some (a5 >>> ((3 : Int32) &&& 31)) x3)) - (((6 : Int32) * (F_L_some a5 (4 : Int32))) + (F_L_some (a5 >>> ((3 : Int32) &&& 31)) x3)) / (6 : Int32) * (6 : Int32)) S29) + (2 : Int32))) + (2 : Int32)) + (6 : Int32))]) (hv hw) rfl b_nr_I kw_507 kw_20 kw_505 kw_506 nd_L_call rfl rfl (Nat.le_of_ble_eq_true rfl) dL_edits_571 ⟨⟨Nat.le_of_ble_eq_true rfl, Nat.le_of_ble_eq_true rfl⟩, Nat.le_of_ble_eq_true rfl, Nat.le_of_ble_eq_true rfl⟩ (fun v S68 h => ?_)
                obtain ⟨hw, r69, rfl, hv⟩ := h
                refine wb_iload X 5 rfl dL_edits_574 ?_
                refine wb_iconst X dL_edits_576 kc1 ?_
                have k85 : ∀ (x70 : Int32), x70 = (if x43 = (1 : Int32) then (1 : Int32) else (0 : Int32)) → wb Z 209 4522 (S68, U39) 585 [(0, .inr (.inr (10, 1))), (5, .inl (F_L_some a5 (4 : Int32))), (6, .inl (F_L_some (a5 >>> ((3 : Int32) &&& 31)) x3)), (7, .inl (F_Cq_ownerOf (F_L_some a5 (4 : Int32)) (F_L_some (a5 >>> ((3 : Int32) &&& 31)) x3) S)), (14, .inl x36), (16, .inl x43)] [.inl x70, .inl r69] := by
                  intro x70 hE
                  replace hv := hv _ hE
                  obtain ⟨c71, hv⟩ := hv
                  refine wb_icmp_ne X (tgt := 592) dL_edits_585 (by decide) (fun c => absurd c71 c) (fun _ => ?_)
                  refine wb_iconst X dL_edits_588 kc1 ?_
                  refine wb_goto X (tgt := 593) dL_edits_589 (by decide) ?_
                  refine wb_istore X (lv' := [(9, .inl (1 : Int32)), (0, .inr (.inr (10, 1))), (5, .inl (F_L_some a5 (4 : Int32))), (6, .inl (F_L_some (a5 >>> ((3 : Int32) &&& 31)) x3)), (7, .inl (F_Cq_ownerOf (F_L_some a5 (4 : Int32)) (F_L_some (a5 >>> ((3 : Int32) &&& 31)) x3) S)), (14, .inl x36), (16, .inl x43)]) dL_edits_593 (by decide) rfl ?_
                  refine wb_iload X 0 rfl dL_edits_595 ?_
                  refine wb_if_eq X (tgt := 641) dL_edits_597 (by decide) (fun c => absurd c (by decide)) (fun _ => ?_)
                  refine wb_iload X 6 rfl dL_edits_600 ?_
                  refine wb_iconst X dL_edits_602 kc1 ?_
                  refine wb_icmp_gt X (tgt := 637) dL_edits_603 (by decide) (fun c73 => ?_) (fun c73 => ?_)
                  · replace hv := hv.1 c73
                    refine wb_iconst X dL_edits_637 kc1 ?_
                    refine wb_goto X (tgt := 642) dL_edits_638 (by decide) ?_
                    exact wb_ireturn X E dL_edits_642 (Nat.le_of_ble_eq_true rfl) (Nat.le_of_ble_eq_true rfl) (Or.inr ⟨rfl, Or.inr rfl⟩) ⟨hw, hu, _, rfl, hv⟩
                  · replace hv := hv.2 c73
                    refine wb_iload X 5 rfl dL_edits_606 ?_
                    refine wb_if_eq X (tgt := 637) dL_edits_608 (by decide) (fun c74 => ?_) (fun c74 => ?_)
                    · replace hv := hv.1 c74
                      refine wb_iconst X dL_edits_637 kc1 ?_
                      refine wb_goto X (tgt := 642) dL_edits_638 (by decide) ?_
                      exact wb_ireturn X E dL_edits_642 (Nat.le_of_ble_eq_true rfl) (Nat.le_of_ble_eq_true rfl) (Or.inr ⟨rfl, Or.inr rfl⟩) ⟨hw, hu, _, rfl, hv⟩
                    · replace hv := hv.2 c74
                      refine wb_aload_n X 1 rfl dL_edits_611 rfl ?_
                      refine wb_iload X 4 rfl dL_edits_612 ?_
                      refine wb_iload X 2 rfl dL_edits_614 ?_
                      refine wb_iload X 3 rfl dL_edits_616 ?_
                      obtain ⟨o77, hv⟩ := hv
                      refine wb_callV1 X (As := [.inl (F_Cq_ownerOf (F_L_some a5 (4 : Int32)) (F_L_some (a5 >>> ((3 : Int32) &&& 31)) x3) S), .inl (F_L_some a5 (4 : Int32)), .inl (F_L_some (a5 >>> ((3 : Int32) &&& 31)) x3)]) (ok_Cq_value hw (v_Cq_value o77)) rfl b_nr_I hk_10 hc_10 rfl kw_724 kw_21 kw_721 kw_722 kw_723 nd_X10_value rfl rfl (Nat.le_of_ble_eq_true rfl) dL_edits_618 hs_1ne (by decide) ⟨⟨Nat.le_of_ble_eq_true rfl, Nat.le_of_ble_eq_true rfl⟩, Nat.le_of_ble_eq_true rfl, Nat.le_of_ble_eq_true rfl⟩ (fun v S75 h => ?_)
                      obtain ⟨hw, r76, rfl, g78⟩ := h
                      replace hv := hv r76 S75 g78
                      obtain ⟨c79, hv⟩ := hv
                      refine wb_if_ne X (tgt := 641) dL_edits_621 (by decide) (fun c => absurd c79 c) (fun _ => ?_)
                      refine wb_aload_n X 1 rfl dL_edits_624 rfl ?_
                      refine wb_iload X 4 rfl dL_edits_625 ?_
                      refine wb_iload X 2 rfl dL_edits_627 ?_
                      refine wb_iload X 3 rfl dL_edits_629 ?_
                      obtain ⟨o82, hv⟩ := hv
                      refine wb_callV1 X (As := [.inl (F_Cq_ownerOf (F_L_some a5 (4 : Int32)) (F_L_some (a5 >>> ((3 : Int32) &&& 31)) x3) S), .inl (F_L_some a5 (4 : Int32)), .inl (F_L_some (a5 >>> ((3 : Int32) &&& 31)) x3)]) (ok_Cq_fault hw (v_Cq_fault o82)) rfl b_nr_I hk_10 hc_10 rfl kw_786 kw_21 kw_783 kw_784 kw_785 nd_X10_fault rfl rfl (Nat.le_of_ble_eq_true rfl) dL_edits_631 hs_1ne (by decide) ⟨⟨Nat.le_of_ble_eq_true rfl, Nat.le_of_ble_eq_true rfl⟩, Nat.le_of_ble_eq_true rfl, Nat.le_of_ble_eq_true rfl⟩ (fun v S80 h => ?_)
                      obtain ⟨hw, r81, rfl, g83⟩ := h
                      replace hv := hv r81 S80 g83
                      obtain ⟨c84, hv⟩ := hv
                      refine wb_if_ne X (tgt := 641) dL_edits_634 (by decide) (fun c => absurd c84 c) (fun _ => ?_)
                      refine wb_iconst X dL_edits_637 kc1 ?_
                      refine wb_goto X (tgt := 642) dL_edits_638 (by decide) ?_
                      exact wb_ireturn X E dL_edits_642 (Nat.le_of_ble_eq_true rfl) (Nat.le_of_ble_eq_true rfl) (Or.inr ⟨rfl, Or.inr rfl⟩) ⟨hw, hu, _, rfl, hv⟩
                clear hv
                refine wb_icmp_ne X (tgt := 584) dL_edits_577 (by decide) (fun c87 => ?_) (fun c87 => ?_)
                · refine wb_iconst X dL_edits_584 kc0 ?_
                  refine wb_lv (lv' := [(0, .inr (.inr (10, 1))), (5, .inl (F_L_some a5 (4 : Int32))), (6, .inl (F_L_some (a5 >>> ((3 : Int32) &&& 31)) x3)), (7, .inl (F_Cq_ownerOf (F_L_some a5 (4 : Int32)) (F_L_some (a5 >>> ((3 : Int32) &&& 31)) x3) S)), (14, .inl x36), (16, .inl x43)]) [0, 1, 2, 3, 4, 5] rfl ?_
                  exact wb_wid (Nat.le_of_ble_eq_true rfl) (Nat.le_of_ble_eq_true rfl) (k85 _  (by rw [if_neg c87]))
                · refine wb_iconst X dL_edits_580 kc1 ?_
                  refine wb_goto X (tgt := 585) dL_edits_581 (by decide) ?_
                  refine wb_lv (lv' := [(0, .inr (.inr (10, 1))), (5, .inl (F_L_some a5 (4 : Int32))), (6, .inl (F_L_some (a5 >>> ((3 : Int32) &&& 31)) x3)), (7, .inl (F_Cq_ownerOf (F_L_some a5 (4 : Int32)) (F_L_some (a5 >>> ((3 : Int32) &&& 31)) x3) S)), (14, .inl x36), (16, .inl x43)]) [0, 1, 2, 3, 4, 5] rfl ?_
                  exact wb_wid (Nat.le_of_ble_eq_true rfl) (Nat.le_of_ble_eq_true rfl) (k85 _  (by rw [if_pos c87]))
              clear hv
              refine wb_if_eq X (tgt := 537) dL_edits_530 (by decide) (fun c90 => ?_) (fun c90 => ?_)
              · refine wb_iload X 8 rfl dL_edits_537 ?_
                refine wb_lv (lv' := [(0, .inr (.inr (10, 1))), (5, .inl (F_L_some a5 (4 : Int32))), (6, .inl (F_L_some (a5 >>> ((3 : Int32) &&& 31)) x3)), (7, .inl (F_Cq_ownerOf (F_L_some a5 (4 : Int32)) (F_L_some (a5 >>> ((3 : Int32) &&& 31)) x3) S)), (14, .inl x36), (16, .inl x43), (17, .inl (((16 : Int32) * ((F_Cq_edits ((((6 : Int32) * (F_L_some a5 (4 : Int32))) + (F_L_some (a5 >>> ((3 : Int32) &&& 31)) x3)) / (6 : Int32)) ((((6 : Int32) * (F_L_some a5 (4 : Int32))) + (F_L_some (a5 >>> ((3 : Int32) &&& 31)) x3)) - (((6 : Int32) * (F_L_some a5 (4 : Int32))) + (F_L_some (a5 >>> ((3 : Int32) &&& 31)) x3)) / (6 : Int32) * (6 : Int32)) S29) + (2 : Int32))) + (2 : Int32)))]) [2, 4, 5, 6, 11, 1, 0] rfl ?_
                exact wb_wid (Nat.le_of_ble_eq_true rfl) (Nat.le_of_ble_eq_true rfl) (k88 _  (by rw [if_pos c90]))
              · refine wb_iconst X dL_edits_533 kc0 ?_
                refine wb_goto X (tgt := 539) dL_edits_534 (by decide) ?_
                refine wb_lv (lv' := [(0, .inr (.inr (10, 1))), (5, .inl (F_L_some a5 (4 : Int32))), (6, .inl (F_L_some (a5 >>> ((3 : Int32) &&& 31)) x3)), (7, .inl (F_Cq_ownerOf (F_L_some a5 (4 : Int32)) (F_L_some (a5 >>> ((3 : Int32) &&& 31)) x3) S)), (14, .inl x36), (16, .inl x43), (17, .inl (((16 : Int32) * ((F_Cq_edits ((((6 : Int32) * (F_L_some a5 (4 : Int32))) + (F_L_some (a5 >>> ((3 : Int32) &&& 31)) x3)) / (6 : Int32)) ((((6 : Int32) * (F_L_some a5 (4 : Int32))) + (F_L_some (a5 >>> ((3 : Int32) &&& 31)) x3)) - (((6 : Int32) * (F_L_some a5 (4 : Int32))) + (F_L_some (a5 >>> ((3 : Int32) &&& 31)) x3)) / (6 : Int32) * (6 : Int32)) S29) + (2 : Int32))) + (2 : Int32)))]) [2, 4, 5, 6, 11, 1, 0] rfl ?_
                exact wb_wid (Nat.le_of_ble_eq_true rfl) (Nat.le_of_ble_eq_true rfl) (k88 _  (by rw [if_neg c90]))
            clear hv
            refine wb_icmp_ge X (tgt := 380) dL_edits_373 (by decide) (fun c93 => ?_) (fun c93 => ?_)
            · refine wb_iload_n X 3 rfl dL_edits_380 rfl ?_
              refine wb_iconst X dL_edits_381 kc5 ?_
              refine wb_ishr X dL_edits_382 ?_
              refine wb_iconst X dL_edits_383 kc3 ?_
              refine wb_callS1 X (As := [.inl (a4 >>> ((5 : Int32) &&& 31)), .inl (3 : Int32)]) (f_L_some hw o42) rfl b_nr_pI kw_504 kw_20 kw_502 kw_503 nd_L_some rfl rfl (Nat.le_of_ble_eq_true rfl) dL_edits_384 ⟨⟨Nat.le_of_ble_eq_true rfl, Nat.le_of_ble_eq_true rfl⟩, Nat.le_of_ble_eq_true rfl, Nat.le_of_ble_eq_true rfl⟩ (b_pdk1 ?_)
              refine wb_lv (lv' := [(0, .inr (.inr (10, 1))), (2, .inl a3), (5, .inl (F_L_some a5 (4 : Int32))), (6, .inl (F_L_some (a5 >>> ((3 : Int32) &&& 31)) x3)), (7, .inl (F_Cq_ownerOf (F_L_some a5 (4 : Int32)) (F_L_some (a5 >>> ((3 : Int32) &&& 31)) x3) S)), (9, .inl (1 : Int32)), (10, .inl x17), (12, .inl (F_C_events S29)), (13, .inl (F_Cq_edits ((((6 : Int32) * (F_L_some a5 (4 : Int32))) + (F_L_some (a5 >>> ((3 : Int32) &&& 31)) x3)) / (6 : Int32)) ((((6 : Int32) * (F_L_some a5 (4 : Int32))) + (F_L_some (a5 >>> ((3 : Int32) &&& 31)) x3)) - (((6 : Int32) * (F_L_some a5 (4 : Int32))) + (F_L_some (a5 >>> ((3 : Int32) &&& 31)) x3)) / (6 : Int32) * (6 : Int32)) S29)), (14, .inl x36), (15, .inl r40)]) [1, 2, 4, 5, 6, 7, 8, 9, 10, 11, 0] rfl ?_
              exact wb_wid (Nat.le_of_ble_eq_true rfl) (Nat.le_of_ble_eq_true rfl) (k91 _  (by rw [if_pos c93]))
            · refine wb_iconst X dL_edits_376 kc1 ?_
              refine wb_goto X (tgt := 387) dL_edits_377 (by decide) ?_
              refine wb_lv (lv' := [(0, .inr (.inr (10, 1))), (2, .inl a3), (5, .inl (F_L_some a5 (4 : Int32))), (6, .inl (F_L_some (a5 >>> ((3 : Int32) &&& 31)) x3)), (7, .inl (F_Cq_ownerOf (F_L_some a5 (4 : Int32)) (F_L_some (a5 >>> ((3 : Int32) &&& 31)) x3) S)), (9, .inl (1 : Int32)), (10, .inl x17), (12, .inl (F_C_events S29)), (13, .inl (F_Cq_edits ((((6 : Int32) * (F_L_some a5 (4 : Int32))) + (F_L_some (a5 >>> ((3 : Int32) &&& 31)) x3)) / (6 : Int32)) ((((6 : Int32) * (F_L_some a5 (4 : Int32))) + (F_L_some (a5 >>> ((3 : Int32) &&& 31)) x3)) - (((6 : Int32) * (F_L_some a5 (4 : Int32))) + (F_L_some (a5 >>> ((3 : Int32) &&& 31)) x3)) / (6 : Int32) * (6 : Int32)) S29)), (14, .inl x36), (15, .inl r40)]) [1, 2, 4, 5, 6, 7, 8, 9, 10, 11, 0] rfl ?_
              exact wb_wid (Nat.le_of_ble_eq_true rfl) (Nat.le_of_ble_eq_true rfl) (k91 _  (by rw [if_neg c93]))
          · replace hv := hv.2 c41
            refine wb_iload X 7 rfl dL_edits_323 ?_
            refine wb_if_eq X (tgt := 363) dL_edits_325 (by decide) (fun c => absurd c (by decide)) (fun _ => ?_)
            refine wb_aload_n X 1 rfl dL_edits_328 rfl ?_
            refine wb_iload X 4 rfl dL_edits_329 ?_
            obtain ⟨o95, hv⟩ := hv
            refine wb_callV1 X (As := [.inl (F_L_some a5 (4 : Int32))]) (f_Cq_isFrozen hw o95) rfl b_nr_pI hk_10 hc_10 rfl kw_983 kw_21 kw_980 kw_981 kw_982 nd_X10_isFrozen rfl rfl (Nat.le_of_ble_eq_true rfl) dL_edits_331 hs_1ne (by decide) ⟨⟨Nat.le_of_ble_eq_true rfl, Nat.le_of_ble_eq_true rfl⟩, Nat.le_of_ble_eq_true rfl, Nat.le_of_ble_eq_true rfl⟩ (b_pdk1 ?_)
            obtain ⟨c96, hv⟩ := hv
            refine wb_if_eq X (tgt := 363) dL_edits_334 (by decide) (fun c => absurd c c96) (fun _ => ?_)
            refine wb_aload_n X 1 rfl dL_edits_337 rfl ?_
            refine wb_callV1 X (As := []) (f_C_events hw) rfl b_nr_pI hk_10 hc_10 rfl kw_1072 kw_21 kw_1069 kw_1070 kw_1071 nd_X10_events rfl rfl (Nat.le_of_ble_eq_true rfl) dL_edits_338 hs_1ne (by decide) ⟨⟨Nat.le_of_ble_eq_true rfl, Nat.le_of_ble_eq_true rfl⟩, Nat.le_of_ble_eq_true rfl, Nat.le_of_ble_eq_true rfl⟩ (b_pdk1 ?_)
            refine wb_iload X 9 rfl dL_edits_341 ?_
            obtain ⟨c97, hv⟩ := hv
            refine wb_icmp_ne X (tgt := 363) dL_edits_343 (by decide) (fun c => absurd c97 c) (fun _ => ?_)
            refine wb_aload_n X 1 rfl dL_edits_346 rfl ?_
            refine wb_iload X 4 rfl dL_edits_347 ?_
            refine wb_iload X 5 rfl dL_edits_349 ?_
            obtain ⟨o98, hv⟩ := hv
            refine wb_callV1 X (As := [.inl (F_L_some a5 (4 : Int32)), .inl (F_L_some (a5 >>> ((3 : Int32) &&& 31)) x3)]) (f_Cq_edits hw o98) rfl b_nr_pI hk_10 hc_10 rfl kw_349 kw_21 kw_346 kw_347 kw_348 nd_X10_edits rfl rfl (Nat.le_of_ble_eq_true rfl) dL_edits_351 hs_1ne (by decide) ⟨⟨Nat.le_of_ble_eq_true rfl, Nat.le_of_ble_eq_true rfl⟩, Nat.le_of_ble_eq_true rfl, Nat.le_of_ble_eq_true rfl⟩ (b_pdk1 ?_)
            refine wb_iload X 10 rfl dL_edits_354 ?_
            obtain ⟨c99, hv⟩ := hv
            refine wb_icmp_ne X (tgt := 363) dL_edits_356 (by decide) (fun c => absurd c99 c) (fun _ => ?_)
            refine wb_iconst X dL_edits_359 kc1 ?_
            refine wb_goto X (tgt := 364) dL_edits_360 (by decide) ?_
            exact wb_ireturn X E dL_edits_364 (Nat.le_of_ble_eq_true rfl) (Nat.le_of_ble_eq_true rfl) (Or.inr ⟨rfl, Or.inr rfl⟩) ⟨hw, hu, _, rfl, hv⟩
        clear hv
        refine wb_if_eq X (tgt := 304) dL_edits_297 (by decide) (fun c102 => ?_) (fun c102 => ?_)
        · refine wb_iconst X dL_edits_304 kc3 ?_
          refine wb_lv (lv' := [(0, .inr (.inr (10, 1))), (2, .inl a3), (3, .inl a4), (5, .inl (F_L_some a5 (4 : Int32))), (6, .inl (F_L_some (a5 >>> ((3 : Int32) &&& 31)) x3)), (7, .inl (F_Cq_ownerOf (F_L_some a5 (4 : Int32)) (F_L_some (a5 >>> ((3 : Int32) &&& 31)) x3) S)), (9, .inl (1 : Int32)), (10, .inl x17), (12, .inl (F_C_events S29)), (13, .inl (F_Cq_edits ((((6 : Int32) * (F_L_some a5 (4 : Int32))) + (F_L_some (a5 >>> ((3 : Int32) &&& 31)) x3)) / (6 : Int32)) ((((6 : Int32) * (F_L_some a5 (4 : Int32))) + (F_L_some (a5 >>> ((3 : Int32) &&& 31)) x3)) - (((6 : Int32) * (F_L_some a5 (4 : Int32))) + (F_L_some (a5 >>> ((3 : Int32) &&& 31)) x3)) / (6 : Int32) * (6 : Int32)) S29)), (14, .inl x36)]) [1, 3, 4, 5, 6, 7, 8, 9, 10, 11, 0] rfl ?_
          exact wb_wid (Nat.le_of_ble_eq_true rfl) (Nat.le_of_ble_eq_true rfl) (k100 _  (by rw [if_pos c102]))
        · refine wb_iconst X dL_edits_300 kc4 ?_
          refine wb_goto X (tgt := 305) dL_edits_301 (by decide) ?_
          refine wb_lv (lv' := [(0, .inr (.inr (10, 1))), (2, .inl a3), (3, .inl a4), (5, .inl (F_L_some a5 (4 : Int32))), (6, .inl (F_L_some (a5 >>> ((3 : Int32) &&& 31)) x3)), (7, .inl (F_Cq_ownerOf (F_L_some a5 (4 : Int32)) (F_L_some (a5 >>> ((3 : Int32) &&& 31)) x3) S)), (9, .inl (1 : Int32)), (10, .inl x17), (12, .inl (F_C_events S29)), (13, .inl (F_Cq_edits ((((6 : Int32) * (F_L_some a5 (4 : Int32))) + (F_L_some (a5 >>> ((3 : Int32) &&& 31)) x3)) / (6 : Int32)) ((((6 : Int32) * (F_L_some a5 (4 : Int32))) + (F_L_some (a5 >>> ((3 : Int32) &&& 31)) x3)) - (((6 : Int32) * (F_L_some a5 (4 : Int32))) + (F_L_some (a5 >>> ((3 : Int32) &&& 31)) x3)) / (6 : Int32) * (6 : Int32)) S29)), (14, .inl x36)]) [1, 3, 4, 5, 6, 7, 8, 9, 10, 11, 0] rfl ?_
          exact wb_wid (Nat.le_of_ble_eq_true rfl) (Nat.le_of_ble_eq_true rfl) (k100 _  (by rw [if_neg c102]))
      clear hv
      refine wb_if_ne X (tgt := 290) dL_edits_283 (by decide) (fun c105 => ?_) (fun c105 => ?_)
      · refine wb_iconst X dL_edits_290 kc0 ?_
        refine wb_lv (lv' := [(0, .inr (.inr (10, 1))), (1, .inr (.inr (210, 1))), (2, .inl a3), (3, .inl a4), (5, .inl (F_L_some a5 (4 : Int32))), (6, .inl (F_L_some (a5 >>> ((3 : Int32) &&& 31)) x3)), (7, .inl (F_Cq_ownerOf (F_L_some a5 (4 : Int32)) (F_L_some (a5 >>> ((3 : Int32) &&& 31)) x3) S)), (9, .inl (1 : Int32)), (10, .inl x17), (12, .inl (F_C_events S29)), (13, .inl (F_Cq_edits ((((6 : Int32) * (F_L_some a5 (4 : Int32))) + (F_L_some (a5 >>> ((3 : Int32) &&& 31)) x3)) / (6 : Int32)) ((((6 : Int32) * (F_L_some a5 (4 : Int32))) + (F_L_some (a5 >>> ((3 : Int32) &&& 31)) x3)) - (((6 : Int32) * (F_L_some a5 (4 : Int32))) + (F_L_some (a5 >>> ((3 : Int32) &&& 31)) x3)) / (6 : Int32) * (6 : Int32)) S29))]) [4, 5, 6, 7, 8, 9, 10, 2, 12, 1, 0] rfl ?_
        exact wb_wid (Nat.le_of_ble_eq_true rfl) (Nat.le_of_ble_eq_true rfl) (k103 _  (by rw [if_neg c105]))
      · refine wb_iconst X dL_edits_286 kc1 ?_
        refine wb_goto X (tgt := 291) dL_edits_287 (by decide) ?_
        refine wb_lv (lv' := [(0, .inr (.inr (10, 1))), (1, .inr (.inr (210, 1))), (2, .inl a3), (3, .inl a4), (5, .inl (F_L_some a5 (4 : Int32))), (6, .inl (F_L_some (a5 >>> ((3 : Int32) &&& 31)) x3)), (7, .inl (F_Cq_ownerOf (F_L_some a5 (4 : Int32)) (F_L_some (a5 >>> ((3 : Int32) &&& 31)) x3) S)), (9, .inl (1 : Int32)), (10, .inl x17), (12, .inl (F_C_events S29)), (13, .inl (F_Cq_edits ((((6 : Int32) * (F_L_some a5 (4 : Int32))) + (F_L_some (a5 >>> ((3 : Int32) &&& 31)) x3)) / (6 : Int32)) ((((6 : Int32) * (F_L_some a5 (4 : Int32))) + (F_L_some (a5 >>> ((3 : Int32) &&& 31)) x3)) - (((6 : Int32) * (F_L_some a5 (4 : Int32))) + (F_L_some (a5 >>> ((3 : Int32) &&& 31)) x3)) / (6 : Int32) * (6 : Int32)) S29))]) [4, 5, 6, 7, 8, 9, 10, 2, 12, 1, 0] rfl ?_
        exact wb_wid (Nat.le_of_ble_eq_true rfl) (Nat.le_of_ble_eq_true rfl) (k103 _  (by rw [if_pos c105])))
    refine wb_if_le X (tgt := 184) dL_edits_106 (by decide) (fun c106 => ?_) (fun c106 => ?_)
    · replace hv := hv.1 c106
      refine wb_lv (lv' := [(0, .inr (.inr (10, 1))), (1, .inr (.inr (210, 1))), (2, .inl a3), (3, .inl a4), (5, .inl (F_L_some a5 (4 : Int32))), (6, .inl (F_L_some (a5 >>> ((3 : Int32) &&& 31)) x3)), (7, .inl (F_Cq_ownerOf (F_L_some a5 (4 : Int32)) (F_L_some (a5 >>> ((3 : Int32) &&& 31)) x3) S)), (8, .inl (((6 : Int32) * (F_L_some a5 (4 : Int32))) + (F_L_some (a5 >>> ((3 : Int32) &&& 31)) x3))), (9, .inl (1 : Int32)), (10, .inl (1 : Int32))]) [5, 6, 7, 8, 10, 4, 3, 2, 1, 0] rfl ?_
      exact wb_wid (Nat.le_of_ble_eq_true rfl) (Nat.le_of_ble_eq_true rfl) (hv hw hu)
    · replace hv := hv.2 c106
      refine wb_iload X 1 rfl dL_edits_109 ?_
      refine wb_if_eq X (tgt := 178) dL_edits_111 (by decide) (fun c => absurd c (by decide)) (fun _ => ?_)
      refine wb_aload_n X 5 rfl dL_edits_114 rfl ?_
      refine wb_aload_n X 6 rfl dL_edits_115 rfl ?_
      refine wb_iconst X dL_edits_116 kc2 ?_
      refine wb_iconst X dL_edits_117 kc1 ?_
      refine wb_iload_n X 8 rfl dL_edits_118 rfl ?_
      refine wb_iconst X dL_edits_119 kc4 ?_
      refine wb_ishr X dL_edits_120 ?_
      refine wb_bipush X dL_edits_121 kb7 ?_
      obtain ⟨o108, hv⟩ := hv
      refine wb_callS1 X (As := [.inl (a4 >>> ((4 : Int32) &&& 31)), .inl (7 : Int32)]) (f_L_some hw o108) rfl b_nr_pI kw_504 kw_20 kw_502 kw_503 nd_L_some rfl rfl (Nat.le_of_ble_eq_true rfl) dL_edits_123 ⟨⟨Nat.le_of_ble_eq_true rfl, Nat.le_of_ble_eq_true rfl⟩, Nat.le_of_ble_eq_true rfl, Nat.le_of_ble_eq_true rfl⟩ (b_pdk1 ?_)
      refine wb_iadd X dL_edits_126 ?_
      refine wb_iload_n X 8 rfl dL_edits_127 rfl ?_
      refine wb_bipush X dL_edits_128 kb7 ?_
      refine wb_ishr X dL_edits_130 ?_
      refine wb_iconst X dL_edits_131 kc4 ?_
      obtain ⟨o109, hv⟩ := hv
      refine wb_callS1 X (As := [.inl (a4 >>> ((7 : Int32) &&& 31)), .inl (4 : Int32)]) (f_L_some hw o109) rfl b_nr_pI kw_504 kw_20 kw_502 kw_503 nd_L_some rfl rfl (Nat.le_of_ble_eq_true rfl) dL_edits_132 ⟨⟨Nat.le_of_ble_eq_true rfl, Nat.le_of_ble_eq_true rfl⟩, Nat.le_of_ble_eq_true rfl, Nat.le_of_ble_eq_true rfl⟩ (b_pdk1 ?_)
      refine wb_iload_n X 8 rfl dL_edits_135 rfl ?_
      refine wb_bipush X dL_edits_136 kb9 ?_
      refine wb_ishr X dL_edits_138 ?_
      refine wb_bipush X dL_edits_139 kb6 ?_
      obtain ⟨o110, hv⟩ := hv
      refine wb_callS1 X (As := [.inl (a4 >>> ((9 : Int32) &&& 31)), .inl (6 : Int32)]) (f_L_some hw o110) rfl b_nr_pI kw_504 kw_20 kw_502 kw_503 nd_L_some rfl rfl (Nat.le_of_ble_eq_true rfl) dL_edits_141 ⟨⟨Nat.le_of_ble_eq_true rfl, Nat.le_of_ble_eq_true rfl⟩, Nat.le_of_ble_eq_true rfl, Nat.le_of_ble_eq_true rfl⟩ (b_pdk1 ?_)
      refine wb_callB X (As := [.inr (.inr (10, 1)), .inr (.inr (210, 1)), .inl (2 : Int32), .inl ((1 : Int32) + (F_L_some (a4 >>> ((4 : Int32) &&& 31)) (7 : Int32))), .inl (F_L_some (a4 >>> ((7 : Int32) &&& 31)) (4 : Int32)), .inl (F_L_some (a4 >>> ((9 : Int32) &&& 31)) (6 : Int32))]) (hv hw hu) kw_1081 kw_20 kw_1079 kw_1080 nd_L_both rfl rfl (Nat.le_of_ble_eq_true rfl) dL_edits_144 ⟨⟨Nat.le_of_ble_eq_true rfl, Nat.le_of_ble_eq_true rfl⟩, Nat.le_of_ble_eq_true rfl, Nat.le_of_ble_eq_true rfl⟩ (fun v SS111 h => ?_)
      obtain ⟨S111, U112⟩ := SS111
      obtain ⟨hw, hu, r113, rfl, hv⟩ := h
      refine wb_iconst X dL_edits_147 kc2 ?_
      obtain ⟨c114, hv⟩ := hv
      refine wb_icmp_ne X (tgt := 178) dL_edits_148 (by decide) (fun c => absurd c114 c) (fun _ => ?_)
      refine wb_aload_n X 5 rfl dL_edits_151 rfl ?_
      refine wb_aload_n X 6 rfl dL_edits_152 rfl ?_
      refine wb_iconst X dL_edits_153 kc2 ?_
      refine wb_bipush X dL_edits_154 kb8 ?_
      refine wb_iload_n X 8 rfl dL_edits_156 rfl ?_
      refine wb_iconst X dL_edits_157 kc2 ?_
      refine wb_ishr X dL_edits_158 ?_
      refine wb_bipush X dL_edits_159 kb6 ?_
      obtain ⟨o115, hv⟩ := hv
      refine wb_callS1 X (As := [.inl (a4 >>> ((2 : Int32) &&& 31)), .inl (6 : Int32)]) (f_L_some hw o115) rfl b_nr_pI kw_504 kw_20 kw_502 kw_503 nd_L_some rfl rfl (Nat.le_of_ble_eq_true rfl) dL_edits_161 ⟨⟨Nat.le_of_ble_eq_true rfl, Nat.le_of_ble_eq_true rfl⟩, Nat.le_of_ble_eq_true rfl, Nat.le_of_ble_eq_true rfl⟩ (b_pdk1 ?_)
      refine wb_iadd X dL_edits_164 ?_
      refine wb_iconst X dL_edits_165 kc0 ?_
      refine wb_iconst X dL_edits_166 kc0 ?_
      refine wb_callB X (As := [.inr (.inr (10, 1)), .inr (.inr (210, 1)), .inl (2 : Int32), .inl ((8 : Int32) + (F_L_some (a4 >>> ((2 : Int32) &&& 31)) (6 : Int32))), .inl (0 : Int32), .inl (0 : Int32)]) (hv hw hu) kw_1081 kw_20 kw_1079 kw_1080 nd_L_both rfl rfl (Nat.le_of_ble_eq_true rfl) dL_edits_167 ⟨⟨Nat.le_of_ble_eq_true rfl, Nat.le_of_ble_eq_true rfl⟩, Nat.le_of_ble_eq_true rfl, Nat.le_of_ble_eq_true rfl⟩ (fun v SS116 h => ?_)
      obtain ⟨S116, U117⟩ := SS116
      obtain ⟨hw, hu, r118, rfl, hv⟩ := h
      refine wb_iconst X dL_edits_170 kc3 ?_
      obtain ⟨c119, hv⟩ := hv
      refine wb_icmp_ne X (tgt := 178) dL_edits_171 (by decide) (fun c => absurd c119 c) (fun _ => ?_)
      refine wb_iconst X dL_edits_174 kc1 ?_
      refine wb_goto X (tgt := 179) dL_edits_175 (by decide) ?_
      refine wb_istore X (lv' := [(9, .inl (1 : Int32)), (10, .inl (1 : Int32)), (8, .inl (((6 : Int32) * (F_L_some a5 (4 : Int32))) + (F_L_some (a5 >>> ((3 : Int32) &&& 31)) x3))), (7, .inl (F_Cq_ownerOf (F_L_some a5 (4 : Int32)) (F_L_some (a5 >>> ((3 : Int32) &&& 31)) x3) S)), (6, .inl (F_L_some (a5 >>> ((3 : Int32) &&& 31)) x3)), (0, .inr (.inr (10, 1))), (1, .inr (.inr (210, 1))), (2, .inl a3), (3, .inl a4), (4, .inl a5), (5, .inl (F_L_some a5 (4 : Int32)))]) dL_edits_179 (by decide) rfl ?_
      refine wb_iconst X dL_edits_181 kc3 ?_
      refine wb_istore X (lv' := [(10, .inl (3 : Int32)), (9, .inl (1 : Int32)), (8, .inl (((6 : Int32) * (F_L_some a5 (4 : Int32))) + (F_L_some (a5 >>> ((3 : Int32) &&& 31)) x3))), (7, .inl (F_Cq_ownerOf (F_L_some a5 (4 : Int32)) (F_L_some (a5 >>> ((3 : Int32) &&& 31)) x3) S)), (6, .inl (F_L_some (a5 >>> ((3 : Int32) &&& 31)) x3)), (0, .inr (.inr (10, 1))), (1, .inr (.inr (210, 1))), (2, .inl a3), (3, .inl a4), (4, .inl a5), (5, .inl (F_L_some a5 (4 : Int32)))]) dL_edits_182 (by decide) rfl ?_
      refine wb_lv (lv' := [(0, .inr (.inr (10, 1))), (1, .inr (.inr (210, 1))), (2, .inl a3), (3, .inl a4), (5, .inl (F_L_some a5 (4 : Int32))), (6, .inl (F_L_some (a5 >>> ((3 : Int32) &&& 31)) x3)), (7, .inl (F_Cq_ownerOf (F_L_some a5 (4 : Int32)) (F_L_some (a5 >>> ((3 : Int32) &&& 31)) x3) S)), (8, .inl (((6 : Int32) * (F_L_some a5 (4 : Int32))) + (F_L_some (a5 >>> ((3 : Int32) &&& 31)) x3))), (9, .inl (1 : Int32)), (10, .inl (3 : Int32))]) [5, 6, 7, 8, 10, 4, 3, 2, 1, 0] rfl ?_
      exact wb_wid (Nat.le_of_ble_eq_true rfl) (Nat.le_of_ble_eq_true rfl) (hv hw hu)
  clear hv
  refine wb_if_ne X (tgt := 29) dL_edits_21 (by decide) (fun c122 => ?_) (fun c122 => ?_)
  · refine wb_iconst X dL_edits_29 kc2 ?_
    refine wb_lv (lv' := [(0, .inr (.inr (10, 1))), (1, .inr (.inr (210, 1))), (2, .inl a3), (3, .inl a4), (4, .inl a5), (5, .inl (F_L_some a5 (4 : Int32)))]) [1, 2, 3, 4, 5, 0] rfl ?_
    exact wb_wid (Nat.le_of_ble_eq_true rfl) (Nat.le_of_ble_eq_true rfl) (k120 _  (by rw [if_neg c122]))
  · refine wb_bipush X dL_edits_24 kb6 ?_
    refine wb_goto X (tgt := 30) dL_edits_26 (by decide) ?_
    refine wb_lv (lv' := [(0, .inr (.inr (10, 1))), (1, .inr (.inr (210, 1))), (2, .inl a3), (3, .inl a4), (4, .inl a5), (5, .inl (F_L_some a5 (4 : Int32)))]) [1, 2, 3, 4, 5, 0] rfl ?_
    exact wb_wid (Nat.le_of_ble_eq_true rfl) (Nat.le_of_ble_eq_true rfl) (k120 _  (by rw [if_pos c122]))

def m_L_bids (a3 : Int32) (a4 : Int32) (S U : hs_S) (Q : Int32 → hs_S → hs_S → Prop) : Prop := b_M 59 yL_bids (.code yL_bids cL_bids 14 (some FieldType.boolean)) [.inr (.inr (10, 1)), .inr (.inr (210, 1)), .inl a3, .inl a4] (S, U) 132 2856 (b_qI Q)
def vc_L_bids (a3 : Int32) (a4 : Int32) (S U : hs_S) (Q : Int32 → hs_S → hs_S → Prop) : Prop := ((P_L_some a4 (6 : Int32) S) ∧ ((P_L_some (a4 >>> ((3 : Int32) &&& 31)) (2 : Int32) S) ∧ ((P_L_some (a4 >>> ((5 : Int32) &&& 31)) (2 : Int32) S) ∧ ((P_L_some (a4 >>> ((6 : Int32) &&& 31)) (25 : Int32) S) ∧ ((P_L_some (a4 >>> ((8 : Int32) &&& 31)) (45 : Int32) S) ∧ ((P_Cq_exposure (F_L_some a4 (6 : Int32)) S) ∧ (hs_Wi S → hs_Wi U → m_L_both (21 : Int32) (F_L_some a4 (6 : Int32)) (400 : Int32) (0 : Int32) S U (fun r9 S7 U8 => (¬ r9 < 0 ∧ (hs_Wi S7 → hs_Wi U8 → m_L_both (21 : Int32) (F_L_some a4 (6 : Int32)) r9 (0 : Int32) S7 U8 (fun r13 S11 U12 => (r13 = (400 : Int32) ∧ (hs_Wi S11 → hs_Wi U12 → m_L_both (10 : Int32) (F_L_some a4 (6 : Int32)) (((2 : Int32) * (F_L_some (a4 >>> ((3 : Int32) &&& 31)) (2 : Int32))) + (F_L_some (a4 >>> ((5 : Int32) &&& 31)) (2 : Int32))) ((((16384 : Int32) * (((1 : Int32) + (F_L_some (a4 >>> ((6 : Int32) &&& 31)) (25 : Int32))) + (2 : Int32))) + (F_L_some (a4 >>> ((8 : Int32) &&& 31)) (45 : Int32))) + (2 : Int32)) S11 U12 (fun r17 S15 U16 => ((P_Cq_isFrozen (F_L_some (a4 >>> ((3 : Int32) &&& 31)) (2 : Int32)) S15) ∧ (∀ x19 : Int32, x19 = (if (F_Cq_isFrozen (F_L_some (a4 >>> ((3 : Int32) &&& 31)) (2 : Int32)) S15) = 0 then (if (F_L_some (a4 >>> ((5 : Int32) &&& 31)) (2 : Int32)) = 0 then (1 : Int32) else (if r9 < ((F_Ldg_exposureOf (F_L_some a4 (6 : Int32)) S) + (((1 : Int32) + (F_L_some (a4 >>> ((6 : Int32) &&& 31)) (25 : Int32))) * (F_L_some (a4 >>> ((8 : Int32) &&& 31)) (45 : Int32)))) then (0 : Int32) else (1 : Int32))) else (0 : Int32)) → ((¬ r17 = (-2100000003 : Int32) → (¬ x19 = 0 ∧ (r17 = a3 ∧ ((P_Cq_exposure (F_L_some a4 (6 : Int32)) S15) ∧ ((F_Ldg_exposureOf (F_L_some a4 (6 : Int32)) S15) = ((F_Ldg_exposureOf (F_L_some a4 (6 : Int32)) S) + (((F_L_some (a4 >>> ((5 : Int32) &&& 31)) (2 : Int32)) * ((1 : Int32) + (F_L_some (a4 >>> ((6 : Int32) &&& 31)) (25 : Int32)))) * (F_L_some (a4 >>> ((8 : Int32) &&& 31)) (45 : Int32)))) ∧ ((P_Cq_got r17 S15) ∧ ((F_Cq_got r17 S15) = 0 ∧ ((P_L_some (a4 >>> ((11 : Int32) &&& 31)) (6 : Int32) S15) ∧ ((¬ (F_L_some (a4 >>> ((11 : Int32) &&& 31)) (6 : Int32)) = 0 → (Q (1 : Int32) S15 U16)) ∧ ((F_L_some (a4 >>> ((11 : Int32) &&& 31)) (6 : Int32)) = 0 → (hs_Wi S15 → hs_Wi U16 → m_L_both (11 : Int32) (((F_L_some a4 (6 : Int32)) + (1 : Int32)) - ((F_L_some a4 (6 : Int32)) + (1 : Int32)) / (6 : Int32) * (6 : Int32)) r17 (0 : Int32) S15 U16 (fun r33 S31 U32 => (r33 = (-2100000003 : Int32) ∧ (hs_Wi S31 → hs_Wi U32 → m_L_both (11 : Int32) (F_L_some a4 (6 : Int32)) r17 (0 : Int32) S31 U32 (fun r37 S35 U36 => (r37 = ((1 : Int32) + (F_L_some (a4 >>> ((6 : Int32) &&& 31)) (25 : Int32))) ∧ ((P_Cq_exposure (F_L_some a4 (6 : Int32)) S35) ∧ ((F_Ldg_exposureOf (F_L_some a4 (6 : Int32)) S35) = (F_Ldg_exposureOf (F_L_some a4 (6 : Int32)) S) ∧ (hs_Wi S35 → hs_Wi U36 → m_L_both (11 : Int32) (F_L_some a4 (6 : Int32)) r17 (0 : Int32) S35 U36 (fun r43 S41 U42 => (r43 = (-2100000003 : Int32) ∧ (Q (1 : Int32) S41 U42)))))))))))))))))))))) ∧ (r17 = (-2100000003 : Int32) → (x19 = 0 ∧ ((P_Cq_exposure (F_L_some a4 (6 : Int32)) S15) ∧ ((F_Ldg_exposureOf (F_L_some a4 (6 : Int32)) S15) = (F_Ldg_exposureOf (F_L_some a4 (6 : Int32)) S) ∧ (hs_Wi S15 → m_L_call (17 : Int32) a3 (0 : Int32) (0 : Int32) S15 (fun r50 S49 => (r50 = (-2100000001 : Int32) ∧ (Q (1 : Int32) S49 U16)))))))))))))))))))))))))
set_option maxRecDepth 100000 in
set_option maxHeartbeats 4000000 in
theorem ok_L_bids {a3 : Int32} {a4 : Int32} {S U : hs_S} {Q : Int32 → hs_S → hs_S → Prop} (hw : hs_Wi S) (hu : hs_Wi U) (hv : vc_L_bids a3 a4 S U Q) : m_L_bids a3 a4 S U Q := by
  unfold vc_L_bids at hv
  refine b_body (own := RL) rfl rfl (Nat.le_of_ble_eq_true rfl) (fun Z X E => ?_)
  show wb Z 0 0 (S, U) 0 [(0, .inr (.inr (10, 1))), (1, .inr (.inr (210, 1))), (2, .inl a3), (3, .inl a4)] []
  refine wb_iload_n X 3 rfl dL_bids_0 rfl ?_
  refine wb_bipush X dL_bids_1 kb6 ?_
  obtain ⟨o1, hv⟩ := hv
  refine wb_callS1 X (As := [.inl a4, .inl (6 : Int32)]) (f_L_some hw o1) rfl b_nr_pI kw_504 kw_20 kw_502 kw_503 nd_L_some rfl rfl (Nat.le_of_ble_eq_true rfl) dL_bids_3 ⟨⟨Nat.le_of_ble_eq_true rfl, Nat.le_of_ble_eq_true rfl⟩, Nat.le_of_ble_eq_true rfl, Nat.le_of_ble_eq_true rfl⟩ (b_pdk1 ?_)
  refine wb_istore X (lv' := [(4, .inl (F_L_some a4 (6 : Int32))), (0, .inr (.inr (10, 1))), (1, .inr (.inr (210, 1))), (2, .inl a3), (3, .inl a4)]) dL_bids_6 (by decide) rfl ?_
  refine wb_iload_n X 4 rfl dL_bids_8 rfl ?_
  refine wb_iconst X dL_bids_9 kc3 ?_
  refine wb_ishr X dL_bids_10 ?_
  refine wb_iconst X dL_bids_11 kc2 ?_
  obtain ⟨o2, hv⟩ := hv
  refine wb_callS1 X (As := [.inl (a4 >>> ((3 : Int32) &&& 31)), .inl (2 : Int32)]) (f_L_some hw o2) rfl b_nr_pI kw_504 kw_20 kw_502 kw_503 nd_L_some rfl rfl (Nat.le_of_ble_eq_true rfl) dL_bids_12 ⟨⟨Nat.le_of_ble_eq_true rfl, Nat.le_of_ble_eq_true rfl⟩, Nat.le_of_ble_eq_true rfl, Nat.le_of_ble_eq_true rfl⟩ (b_pdk1 ?_)
  refine wb_istore X (lv' := [(5, .inl (F_L_some (a4 >>> ((3 : Int32) &&& 31)) (2 : Int32))), (4, .inl (F_L_some a4 (6 : Int32))), (0, .inr (.inr (10, 1))), (1, .inr (.inr (210, 1))), (2, .inl a3), (3, .inl a4)]) dL_bids_15 (by decide) rfl ?_
  refine wb_iload_n X 5 rfl dL_bids_17 rfl ?_
  refine wb_iconst X dL_bids_18 kc5 ?_
  refine wb_ishr X dL_bids_19 ?_
  refine wb_iconst X dL_bids_20 kc2 ?_
  obtain ⟨o3, hv⟩ := hv
  refine wb_callS1 X (As := [.inl (a4 >>> ((5 : Int32) &&& 31)), .inl (2 : Int32)]) (f_L_some hw o3) rfl b_nr_pI kw_504 kw_20 kw_502 kw_503 nd_L_some rfl rfl (Nat.le_of_ble_eq_true rfl) dL_bids_21 ⟨⟨Nat.le_of_ble_eq_true rfl, Nat.le_of_ble_eq_true rfl⟩, Nat.le_of_ble_eq_true rfl, Nat.le_of_ble_eq_true rfl⟩ (b_pdk1 ?_)
  refine wb_istore X (lv' := [(6, .inl (F_L_some (a4 >>> ((5 : Int32) &&& 31)) (2 : Int32))), (5, .inl (F_L_some (a4 >>> ((3 : Int32) &&& 31)) (2 : Int32))), (4, .inl (F_L_some a4 (6 : Int32))), (0, .inr (.inr (10, 1))), (1, .inr (.inr (210, 1))), (2, .inl a3), (3, .inl a4)]) dL_bids_24 (by decide) rfl ?_
  refine wb_iconst X dL_bids_26 kc1 ?_
  refine wb_iload_n X 6 rfl dL_bids_27 rfl ?_
  refine wb_bipush X dL_bids_28 kb6 ?_
  refine wb_ishr X dL_bids_30 ?_
  refine wb_bipush X dL_bids_31 kb25 ?_
  obtain ⟨o4, hv⟩ := hv
  refine wb_callS1 X (As := [.inl (a4 >>> ((6 : Int32) &&& 31)), .inl (25 : Int32)]) (f_L_some hw o4) rfl b_nr_pI kw_504 kw_20 kw_502 kw_503 nd_L_some rfl rfl (Nat.le_of_ble_eq_true rfl) dL_bids_33 ⟨⟨Nat.le_of_ble_eq_true rfl, Nat.le_of_ble_eq_true rfl⟩, Nat.le_of_ble_eq_true rfl, Nat.le_of_ble_eq_true rfl⟩ (b_pdk1 ?_)
  refine wb_iadd X dL_bids_36 ?_
  refine wb_istore X (lv' := [(7, .inl ((1 : Int32) + (F_L_some (a4 >>> ((6 : Int32) &&& 31)) (25 : Int32)))), (6, .inl (F_L_some (a4 >>> ((5 : Int32) &&& 31)) (2 : Int32))), (5, .inl (F_L_some (a4 >>> ((3 : Int32) &&& 31)) (2 : Int32))), (4, .inl (F_L_some a4 (6 : Int32))), (0, .inr (.inr (10, 1))), (1, .inr (.inr (210, 1))), (2, .inl a3), (3, .inl a4)]) dL_bids_37 (by decide) rfl ?_
  refine wb_iload_n X 7 rfl dL_bids_39 rfl ?_
  refine wb_bipush X dL_bids_40 kb8 ?_
  refine wb_ishr X dL_bids_42 ?_
  refine wb_bipush X dL_bids_43 kb45 ?_
  obtain ⟨o5, hv⟩ := hv
  refine wb_callS1 X (As := [.inl (a4 >>> ((8 : Int32) &&& 31)), .inl (45 : Int32)]) (f_L_some hw o5) rfl b_nr_pI kw_504 kw_20 kw_502 kw_503 nd_L_some rfl rfl (Nat.le_of_ble_eq_true rfl) dL_bids_45 ⟨⟨Nat.le_of_ble_eq_true rfl, Nat.le_of_ble_eq_true rfl⟩, Nat.le_of_ble_eq_true rfl, Nat.le_of_ble_eq_true rfl⟩ (b_pdk1 ?_)
  refine wb_istore X (lv' := [(8, .inl (F_L_some (a4 >>> ((8 : Int32) &&& 31)) (45 : Int32))), (7, .inl ((1 : Int32) + (F_L_some (a4 >>> ((6 : Int32) &&& 31)) (25 : Int32)))), (6, .inl (F_L_some (a4 >>> ((5 : Int32) &&& 31)) (2 : Int32))), (5, .inl (F_L_some (a4 >>> ((3 : Int32) &&& 31)) (2 : Int32))), (4, .inl (F_L_some a4 (6 : Int32))), (0, .inr (.inr (10, 1))), (1, .inr (.inr (210, 1))), (2, .inl a3), (3, .inl a4)]) dL_bids_48 (by decide) rfl ?_
  refine wb_aload_n X 5 rfl dL_bids_50 rfl ?_
  refine wb_iload X 4 rfl dL_bids_51 ?_
  obtain ⟨o6, hv⟩ := hv
  refine wb_callV1 X (As := [.inl (F_L_some a4 (6 : Int32))]) (f_Cq_exposure hw o6) rfl b_nr_pI hk_10 hc_10 rfl kw_1036 kw_21 kw_1033 kw_1034 kw_1035 nd_X10_exposure rfl rfl (Nat.le_of_ble_eq_true rfl) dL_bids_53 hs_1ne (by decide) ⟨⟨Nat.le_of_ble_eq_true rfl, Nat.le_of_ble_eq_true rfl⟩, Nat.le_of_ble_eq_true rfl, Nat.le_of_ble_eq_true rfl⟩ (b_pdk1 ?_)
  refine wb_istore X (lv' := [(9, .inl (F_Ldg_exposureOf (F_L_some a4 (6 : Int32)) S)), (8, .inl (F_L_some (a4 >>> ((8 : Int32) &&& 31)) (45 : Int32))), (7, .inl ((1 : Int32) + (F_L_some (a4 >>> ((6 : Int32) &&& 31)) (25 : Int32)))), (6, .inl (F_L_some (a4 >>> ((5 : Int32) &&& 31)) (2 : Int32))), (5, .inl (F_L_some (a4 >>> ((3 : Int32) &&& 31)) (2 : Int32))), (4, .inl (F_L_some a4 (6 : Int32))), (0, .inr (.inr (10, 1))), (1, .inr (.inr (210, 1))), (2, .inl a3), (3, .inl a4)]) dL_bids_56 (by decide) rfl ?_
  refine wb_aload_n X 6 rfl dL_bids_58 rfl ?_
  refine wb_aload_n X 7 rfl dL_bids_59 rfl ?_
  refine wb_bipush X dL_bids_60 kb21 ?_
  refine wb_iload X 5 rfl dL_bids_62 ?_
  refine wb_sipush X dL_bids_64 ks400 ?_
  refine wb_iconst X dL_bids_67 kc0 ?_
  refine wb_callB X (As := [.inr (.inr (10, 1)), .inr (.inr (210, 1)), .inl (21 : Int32), .inl (F_L_some a4 (6 : Int32)), .inl (400 : Int32), .inl (0 : Int32)]) (hv hw hu) kw_1081 kw_20 kw_1079 kw_1080 nd_L_both rfl rfl (Nat.le_of_ble_eq_true rfl) dL_bids_68 ⟨⟨Nat.le_of_ble_eq_true rfl, Nat.le_of_ble_eq_true rfl⟩, Nat.le_of_ble_eq_true rfl, Nat.le_of_ble_eq_true rfl⟩ (fun v SS7 h => ?_)
  obtain ⟨S7, U8⟩ := SS7
  obtain ⟨hw, hu, r9, rfl, hv⟩ := h
  refine wb_istore X (lv' := [(10, .inl r9), (9, .inl (F_Ldg_exposureOf (F_L_some a4 (6 : Int32)) S)), (8, .inl (F_L_some (a4 >>> ((8 : Int32) &&& 31)) (45 : Int32))), (7, .inl ((1 : Int32) + (F_L_some (a4 >>> ((6 : Int32) &&& 31)) (25 : Int32)))), (6, .inl (F_L_some (a4 >>> ((5 : Int32) &&& 31)) (2 : Int32))), (5, .inl (F_L_some (a4 >>> ((3 : Int32) &&& 31)) (2 : Int32))), (4, .inl (F_L_some a4 (6 : Int32))), (0, .inr (.inr (10, 1))), (1, .inr (.inr (210, 1))), (2, .inl a3), (3, .inl a4)]) dL_bids_71 (by decide) rfl ?_
  refine wb_iload X 0 rfl dL_bids_73 ?_
  obtain ⟨c10, hv⟩ := hv
  refine wb_if_lt X (tgt := 100) dL_bids_75 (by decide) (fun c => absurd c c10) (fun _ => ?_)
  refine wb_aload_n X 7 rfl dL_bids_78 rfl ?_
  refine wb_aload_n X 8 rfl dL_bids_79 rfl ?_
  refine wb_bipush X dL_bids_80 kb21 ?_
  refine wb_iload X 6 rfl dL_bids_82 ?_
  refine wb_iload X 0 rfl dL_bids_84 ?_
  refine wb_iconst X dL_bids_86 kc0 ?_
  refine wb_callB X (As := [.inr (.inr (10, 1)), .inr (.inr (210, 1)), .inl (21 : Int32), .inl (F_L_some a4 (6 : Int32)), .inl r9, .inl (0 : Int32)]) (hv hw hu) kw_1081 kw_20 kw_1079 kw_1080 nd_L_both rfl rfl (Nat.le_of_ble_eq_true rfl) dL_bids_87 ⟨⟨Nat.le_of_ble_eq_true rfl, Nat.le_of_ble_eq_true rfl⟩, Nat.le_of_ble_eq_true rfl, Nat.le_of_ble_eq_true rfl⟩ (fun v SS11 h => ?_)
  obtain ⟨S11, U12⟩ := SS11
  obtain ⟨hw, hu, r13, rfl, hv⟩ := h
  refine wb_sipush X dL_bids_90 ks400 ?_
  obtain ⟨c14, hv⟩ := hv
  refine wb_icmp_ne X (tgt := 100) dL_bids_93 (by decide) (fun c => absurd c14 c) (fun _ => ?_)
  refine wb_iconst X dL_bids_96 kc1 ?_
  refine wb_goto X (tgt := 101) dL_bids_97 (by decide) ?_
  refine wb_istore X (lv' := [(11, .inl (1 : Int32)), (10, .inl r9), (9, .inl (F_Ldg_exposureOf (F_L_some a4 (6 : Int32)) S)), (8, .inl (F_L_some (a4 >>> ((8 : Int32) &&& 31)) (45 : Int32))), (7, .inl ((1 : Int32) + (F_L_some (a4 >>> ((6 : Int32) &&& 31)) (25 : Int32)))), (6, .inl (F_L_some (a4 >>> ((5 : Int32) &&& 31)) (2 : Int32))), (5, .inl (F_L_some (a4 >>> ((3 : Int32) &&& 31)) (2 : Int32))), (4, .inl (F_L_some a4 (6 : Int32))), (0, .inr (.inr (10, 1))), (1, .inr (.inr (210, 1))), (2, .inl a3), (3, .inl a4)]) dL_bids_101 (by decide) rfl ?_
  refine wb_aload_n X 8 rfl dL_bids_103 rfl ?_
  refine wb_aload_n X 9 rfl dL_bids_104 rfl ?_
  refine wb_bipush X dL_bids_105 kb10 ?_
  refine wb_iload X 7 rfl dL_bids_107 ?_
  refine wb_iconst X dL_bids_109 kc2 ?_
  refine wb_iload X 6 rfl dL_bids_110 ?_
  refine wb_imul X dL_bids_112 ?_
  refine wb_iload X 5 rfl dL_bids_113 ?_
  refine wb_iadd X dL_bids_115 ?_
  refine wb_sipush X dL_bids_116 ks16384 ?_
  refine wb_iload X 4 rfl dL_bids_119 ?_
  refine wb_iconst X dL_bids_121 kc2 ?_
  refine wb_iadd X dL_bids_122 ?_
  refine wb_imul X dL_bids_123 ?_
  refine wb_iload X 3 rfl dL_bids_124 ?_
  refine wb_iadd X dL_bids_126 ?_
  refine wb_iconst X dL_bids_127 kc2 ?_
  refine wb_iadd X dL_bids_128 ?_
  refine wb_callB X (As := [.inr (.inr (10, 1)), .inr (.inr (210, 1)), .inl (10 : Int32), .inl (F_L_some a4 (6 : Int32)), .inl (((2 : Int32) * (F_L_some (a4 >>> ((3 : Int32) &&& 31)) (2 : Int32))) + (F_L_some (a4 >>> ((5 : Int32) &&& 31)) (2 : Int32))), .inl ((((16384 : Int32) * (((1 : Int32) + (F_L_some (a4 >>> ((6 : Int32) &&& 31)) (25 : Int32))) + (2 : Int32))) + (F_L_some (a4 >>> ((8 : Int32) &&& 31)) (45 : Int32))) + (2 : Int32))]) (hv hw hu) kw_1081 kw_20 kw_1079 kw_1080 nd_L_both rfl rfl (Nat.le_of_ble_eq_true rfl) dL_bids_129 ⟨⟨Nat.le_of_ble_eq_true rfl, Nat.le_of_ble_eq_true rfl⟩, Nat.le_of_ble_eq_true rfl, Nat.le_of_ble_eq_true rfl⟩ (fun v SS15 h => ?_)
  obtain ⟨S15, U16⟩ := SS15
  obtain ⟨hw, hu, r17, rfl, hv⟩ := h
  refine wb_istore X (lv' := [(12, .inl r17), (11, .inl (1 : Int32)), (10, .inl r9), (9, .inl (F_Ldg_exposureOf (F_L_some a4 (6 : Int32)) S)), (8, .inl (F_L_some (a4 >>> ((8 : Int32) &&& 31)) (45 : Int32))), (7, .inl ((1 : Int32) + (F_L_some (a4 >>> ((6 : Int32) &&& 31)) (25 : Int32)))), (6, .inl (F_L_some (a4 >>> ((5 : Int32) &&& 31)) (2 : Int32))), (5, .inl (F_L_some (a4 >>> ((3 : Int32) &&& 31)) (2 : Int32))), (4, .inl (F_L_some a4 (6 : Int32))), (0, .inr (.inr (10, 1))), (1, .inr (.inr (210, 1))), (2, .inl a3), (3, .inl a4)]) dL_bids_132 (by decide) rfl ?_
  refine wb_aload_n X 9 rfl dL_bids_134 rfl ?_
  refine wb_iload X 7 rfl dL_bids_135 ?_
  obtain ⟨o18, hv⟩ := hv
  refine wb_callV1 X (As := [.inl (F_L_some (a4 >>> ((3 : Int32) &&& 31)) (2 : Int32))]) (f_Cq_isFrozen hw o18) rfl b_nr_pI hk_10 hc_10 rfl kw_983 kw_21 kw_980 kw_981 kw_982 nd_X10_isFrozen rfl rfl (Nat.le_of_ble_eq_true rfl) dL_bids_137 hs_1ne (by decide) ⟨⟨Nat.le_of_ble_eq_true rfl, Nat.le_of_ble_eq_true rfl⟩, Nat.le_of_ble_eq_true rfl, Nat.le_of_ble_eq_true rfl⟩ (b_pdk1 ?_)
  have k52 : ∀ (x19 : Int32), x19 = (if (F_Cq_isFrozen (F_L_some (a4 >>> ((3 : Int32) &&& 31)) (2 : Int32)) S15) = 0 then (if (F_L_some (a4 >>> ((5 : Int32) &&& 31)) (2 : Int32)) = 0 then (1 : Int32) else (if r9 < ((F_Ldg_exposureOf (F_L_some a4 (6 : Int32)) S) + (((1 : Int32) + (F_L_some (a4 >>> ((6 : Int32) &&& 31)) (25 : Int32))) * (F_L_some (a4 >>> ((8 : Int32) &&& 31)) (45 : Int32)))) then (0 : Int32) else (1 : Int32))) else (0 : Int32)) → wb Z 66 1428 (S15, U16) 166 [(0, .inr (.inr (10, 1))), (1, .inr (.inr (210, 1))), (2, .inl a3), (3, .inl a4), (4, .inl (F_L_some a4 (6 : Int32))), (6, .inl (F_L_some (a4 >>> ((5 : Int32) &&& 31)) (2 : Int32))), (7, .inl ((1 : Int32) + (F_L_some (a4 >>> ((6 : Int32) &&& 31)) (25 : Int32)))), (8, .inl (F_L_some (a4 >>> ((8 : Int32) &&& 31)) (45 : Int32))), (9, .inl (F_Ldg_exposureOf (F_L_some a4 (6 : Int32)) S)), (11, .inl (1 : Int32)), (12, .inl r17)] [.inl x19] := by
    intro x19 hE
    replace hv := hv _ hE
    refine wb_istore X (lv' := [(13, .inl x19), (0, .inr (.inr (10, 1))), (1, .inr (.inr (210, 1))), (2, .inl a3), (3, .inl a4), (4, .inl (F_L_some a4 (6 : Int32))), (6, .inl (F_L_some (a4 >>> ((5 : Int32) &&& 31)) (2 : Int32))), (7, .inl ((1 : Int32) + (F_L_some (a4 >>> ((6 : Int32) &&& 31)) (25 : Int32)))), (8, .inl (F_L_some (a4 >>> ((8 : Int32) &&& 31)) (45 : Int32))), (9, .inl (F_Ldg_exposureOf (F_L_some a4 (6 : Int32)) S)), (11, .inl (1 : Int32)), (12, .inl r17)]) dL_bids_166 (by decide) rfl ?_
    refine wb_iload X 11 rfl dL_bids_168 ?_
    refine wb_ldc X kw_1065 dL_bids_170 ?_
    refine wb_icmp_ne X (tgt := 216) dL_bids_172 (by decide) (fun c20 => ?_) (fun c20 => ?_)
    · replace hv := hv.1 c20
      refine wb_iload X 10 rfl dL_bids_216 ?_
      refine wb_if_eq X (tgt := 265) dL_bids_218 (by decide) (fun c => absurd c (by decide)) (fun _ => ?_)
      refine wb_iload X 0 rfl dL_bids_221 ?_
      obtain ⟨c22, hv⟩ := hv
      refine wb_if_eq X (tgt := 265) dL_bids_223 (by decide) (fun c => absurd c c22) (fun _ => ?_)
      refine wb_iload X 11 rfl dL_bids_226 ?_
      refine wb_iload_n X 3 rfl dL_bids_228 rfl ?_
      obtain ⟨c23, hv⟩ := hv
      refine wb_icmp_ne X (tgt := 265) dL_bids_229 (by decide) (fun c => absurd c23 c) (fun _ => ?_)
      refine wb_aload_n X 1 rfl dL_bids_232 rfl ?_
      refine wb_iload X 5 rfl dL_bids_233 ?_
      obtain ⟨o24, hv⟩ := hv
      refine wb_callV1 X (As := [.inl (F_L_some a4 (6 : Int32))]) (f_Cq_exposure hw o24) rfl b_nr_pI hk_10 hc_10 rfl kw_1036 kw_21 kw_1033 kw_1034 kw_1035 nd_X10_exposure rfl rfl (Nat.le_of_ble_eq_true rfl) dL_bids_235 hs_1ne (by decide) ⟨⟨Nat.le_of_ble_eq_true rfl, Nat.le_of_ble_eq_true rfl⟩, Nat.le_of_ble_eq_true rfl, Nat.le_of_ble_eq_true rfl⟩ (b_pdk1 ?_)
      refine wb_iload X 9 rfl dL_bids_238 ?_
      refine wb_iload X 6 rfl dL_bids_240 ?_
      refine wb_iload X 7 rfl dL_bids_242 ?_
      refine wb_imul X dL_bids_244 ?_
      refine wb_iload X 8 rfl dL_bids_245 ?_
      refine wb_imul X dL_bids_247 ?_
      refine wb_iadd X dL_bids_248 ?_
      obtain ⟨c25, hv⟩ := hv
      refine wb_icmp_ne X (tgt := 265) dL_bids_249 (by decide) (fun c => absurd c25 c) (fun _ => ?_)
      refine wb_aload_n X 1 rfl dL_bids_252 rfl ?_
      refine wb_iload X 11 rfl dL_bids_253 ?_
      obtain ⟨o26, hv⟩ := hv
      refine wb_callV1 X (As := [.inl r17]) (f_Cq_got hw o26) rfl b_nr_pI hk_10 hc_10 rfl kw_1005 kw_21 kw_1002 kw_1003 kw_1004 nd_X10_got rfl rfl (Nat.le_of_ble_eq_true rfl) dL_bids_255 hs_1ne (by decide) ⟨⟨Nat.le_of_ble_eq_true rfl, Nat.le_of_ble_eq_true rfl⟩, Nat.le_of_ble_eq_true rfl, Nat.le_of_ble_eq_true rfl⟩ (b_pdk1 ?_)
      obtain ⟨c27, hv⟩ := hv
      refine wb_if_ne X (tgt := 265) dL_bids_258 (by decide) (fun c => absurd c27 c) (fun _ => ?_)
      refine wb_iconst X dL_bids_261 kc1 ?_
      refine wb_goto X (tgt := 266) dL_bids_262 (by decide) ?_
      refine wb_istore X (lv' := [(11, .inl (1 : Int32)), (13, .inl x19), (0, .inr (.inr (10, 1))), (1, .inr (.inr (210, 1))), (2, .inl a3), (3, .inl a4), (4, .inl (F_L_some a4 (6 : Int32))), (6, .inl (F_L_some (a4 >>> ((5 : Int32) &&& 31)) (2 : Int32))), (7, .inl ((1 : Int32) + (F_L_some (a4 >>> ((6 : Int32) &&& 31)) (25 : Int32)))), (8, .inl (F_L_some (a4 >>> ((8 : Int32) &&& 31)) (45 : Int32))), (9, .inl (F_Ldg_exposureOf (F_L_some a4 (6 : Int32)) S)), (12, .inl r17)]) dL_bids_266 (by decide) rfl ?_
      refine wb_iload_n X 5 rfl dL_bids_268 rfl ?_
      refine wb_bipush X dL_bids_269 kb11 ?_
      refine wb_ishr X dL_bids_271 ?_
      refine wb_bipush X dL_bids_272 kb6 ?_
      obtain ⟨o28, hv⟩ := hv
      refine wb_callS1 X (As := [.inl (a4 >>> ((11 : Int32) &&& 31)), .inl (6 : Int32)]) (f_L_some hw o28) rfl b_nr_pI kw_504 kw_20 kw_502 kw_503 nd_L_some rfl rfl (Nat.le_of_ble_eq_true rfl) dL_bids_274 ⟨⟨Nat.le_of_ble_eq_true rfl, Nat.le_of_ble_eq_true rfl⟩, Nat.le_of_ble_eq_true rfl, Nat.le_of_ble_eq_true rfl⟩ (b_pdk1 ?_)
      refine wb_if_ne X (tgt := 359) dL_bids_277 (by decide) (fun c29 => ?_) (fun c29 => ?_)
      · replace hv := hv.1 c29
        refine wb_iload X 0 rfl dL_bids_359 ?_
        exact wb_ireturn X E dL_bids_361 (Nat.le_of_ble_eq_true rfl) (Nat.le_of_ble_eq_true rfl) (Or.inr ⟨rfl, Or.inr rfl⟩) ⟨hw, hu, _, rfl, hv⟩
      · replace hv := hv.2 c29
        refine wb_iload X 0 rfl dL_bids_280 ?_
        refine wb_if_eq X (tgt := 356) dL_bids_282 (by decide) (fun c => absurd c (by decide)) (fun _ => ?_)
        refine wb_aload_n X 2 rfl dL_bids_285 rfl ?_
        refine wb_aload_n X 3 rfl dL_bids_286 rfl ?_
        refine wb_bipush X dL_bids_287 kb11 ?_
        refine wb_iload X 6 rfl dL_bids_289 ?_
        refine wb_iconst X dL_bids_291 kc1 ?_
        refine wb_iadd X dL_bids_292 ?_
        refine wb_bipush X dL_bids_293 kb6 ?_
        refine wb_irem X dL_bids_295 (by decide) ?_
        refine wb_iload X 11 rfl dL_bids_296 ?_
        refine wb_iconst X dL_bids_298 kc0 ?_
        refine wb_callB X (As := [.inr (.inr (10, 1)), .inr (.inr (210, 1)), .inl (11 : Int32), .inl (((F_L_some a4 (6 : Int32)) + (1 : Int32)) - ((F_L_some a4 (6 : Int32)) + (1 : Int32)) / (6 : Int32) * (6 : Int32)), .inl r17, .inl (0 : Int32)]) (hv hw hu) kw_1081 kw_20 kw_1079 kw_1080 nd_L_both rfl rfl (Nat.le_of_ble_eq_true rfl) dL_bids_299 ⟨⟨Nat.le_of_ble_eq_true rfl, Nat.le_of_ble_eq_true rfl⟩, Nat.le_of_ble_eq_true rfl, Nat.le_of_ble_eq_true rfl⟩ (fun v SS31 h => ?_)
        obtain ⟨S31, U32⟩ := SS31
        obtain ⟨hw, hu, r33, rfl, hv⟩ := h
        refine wb_ldc X kw_1065 dL_bids_302 ?_
        obtain ⟨c34, hv⟩ := hv
        refine wb_icmp_ne X (tgt := 356) dL_bids_304 (by decide) (fun c => absurd c34 c) (fun _ => ?_)
        refine wb_aload_n X 2 rfl dL_bids_307 rfl ?_
        refine wb_aload_n X 3 rfl dL_bids_308 rfl ?_
        refine wb_bipush X dL_bids_309 kb11 ?_
        refine wb_iload X 6 rfl dL_bids_311 ?_
        refine wb_iload X 11 rfl dL_bids_313 ?_
        refine wb_iconst X dL_bids_315 kc0 ?_
        refine wb_callB X (As := [.inr (.inr (10, 1)), .inr (.inr (210, 1)), .inl (11 : Int32), .inl (F_L_some a4 (6 : Int32)), .inl r17, .inl (0 : Int32)]) (hv hw hu) kw_1081 kw_20 kw_1079 kw_1080 nd_L_both rfl rfl (Nat.le_of_ble_eq_true rfl) dL_bids_316 ⟨⟨Nat.le_of_ble_eq_true rfl, Nat.le_of_ble_eq_true rfl⟩, Nat.le_of_ble_eq_true rfl, Nat.le_of_ble_eq_true rfl⟩ (fun v SS35 h => ?_)
        obtain ⟨S35, U36⟩ := SS35
        obtain ⟨hw, hu, r37, rfl, hv⟩ := h
        refine wb_iload X 8 rfl dL_bids_319 ?_
        obtain ⟨c38, hv⟩ := hv
        refine wb_icmp_ne X (tgt := 356) dL_bids_321 (by decide) (fun c => absurd c38 c) (fun _ => ?_)
        refine wb_aload_n X 2 rfl dL_bids_324 rfl ?_
        refine wb_iload X 6 rfl dL_bids_325 ?_
        obtain ⟨o39, hv⟩ := hv
        refine wb_callV1 X (As := [.inl (F_L_some a4 (6 : Int32))]) (f_Cq_exposure hw o39) rfl b_nr_pI hk_10 hc_10 rfl kw_1036 kw_21 kw_1033 kw_1034 kw_1035 nd_X10_exposure rfl rfl (Nat.le_of_ble_eq_true rfl) dL_bids_327 hs_1ne (by decide) ⟨⟨Nat.le_of_ble_eq_true rfl, Nat.le_of_ble_eq_true rfl⟩, Nat.le_of_ble_eq_true rfl, Nat.le_of_ble_eq_true rfl⟩ (b_pdk1 ?_)
        refine wb_iload X 10 rfl dL_bids_330 ?_
        obtain ⟨c40, hv⟩ := hv
        refine wb_icmp_ne X (tgt := 356) dL_bids_332 (by decide) (fun c => absurd c40 c) (fun _ => ?_)
        refine wb_aload_n X 2 rfl dL_bids_335 rfl ?_
        refine wb_aload_n X 3 rfl dL_bids_336 rfl ?_
        refine wb_bipush X dL_bids_337 kb11 ?_
        refine wb_iload X 6 rfl dL_bids_339 ?_
        refine wb_iload X 11 rfl dL_bids_341 ?_
        refine wb_iconst X dL_bids_343 kc0 ?_
        refine wb_callB X (As := [.inr (.inr (10, 1)), .inr (.inr (210, 1)), .inl (11 : Int32), .inl (F_L_some a4 (6 : Int32)), .inl r17, .inl (0 : Int32)]) (hv hw hu) kw_1081 kw_20 kw_1079 kw_1080 nd_L_both rfl rfl (Nat.le_of_ble_eq_true rfl) dL_bids_344 ⟨⟨Nat.le_of_ble_eq_true rfl, Nat.le_of_ble_eq_true rfl⟩, Nat.le_of_ble_eq_true rfl, Nat.le_of_ble_eq_true rfl⟩ (fun v SS41 h => ?_)
        obtain ⟨S41, U42⟩ := SS41
        obtain ⟨hw, hu, r43, rfl, hv⟩ := h
        refine wb_ldc X kw_1065 dL_bids_347 ?_
        obtain ⟨c44, hv⟩ := hv
        refine wb_icmp_ne X (tgt := 356) dL_bids_349 (by decide) (fun c => absurd c44 c) (fun _ => ?_)
        refine wb_iconst X dL_bids_352 kc1 ?_
        refine wb_goto X (tgt := 357) dL_bids_353 (by decide) ?_
        refine wb_istore X (lv' := [(11, .inl (1 : Int32)), (13, .inl x19), (0, .inr (.inr (10, 1))), (1, .inr (.inr (210, 1))), (2, .inl a3), (3, .inl a4), (4, .inl (F_L_some a4 (6 : Int32))), (6, .inl (F_L_some (a4 >>> ((5 : Int32) &&& 31)) (2 : Int32))), (7, .inl ((1 : Int32) + (F_L_some (a4 >>> ((6 : Int32) &&& 31)) (25 : Int32)))), (8, .inl (F_L_some (a4 >>> ((8 : Int32) &&& 31)) (45 : Int32))), (9, .inl (F_Ldg_exposureOf (F_L_some a4 (6 : Int32)) S)), (12, .inl r17)]) dL_bids_357 (by decide) rfl ?_
        refine wb_iload X 0 rfl dL_bids_359 ?_
        exact wb_ireturn X E dL_bids_361 (Nat.le_of_ble_eq_true rfl) (Nat.le_of_ble_eq_true rfl) (Or.inr ⟨rfl, Or.inr rfl⟩) ⟨hw, hu, _, rfl, hv⟩
    · replace hv := hv.2 c20
      refine wb_iload X 10 rfl dL_bids_175 ?_
      refine wb_if_eq X (tgt := 214) dL_bids_177 (by decide) (fun c => absurd c (by decide)) (fun _ => ?_)
      refine wb_iload X 0 rfl dL_bids_180 ?_
      obtain ⟨c46, hv⟩ := hv
      refine wb_if_ne X (tgt := 214) dL_bids_182 (by decide) (fun c => absurd c46 c) (fun _ => ?_)
      refine wb_aload_n X 1 rfl dL_bids_185 rfl ?_
      refine wb_iload X 5 rfl dL_bids_186 ?_
      obtain ⟨o47, hv⟩ := hv
      refine wb_callV1 X (As := [.inl (F_L_some a4 (6 : Int32))]) (f_Cq_exposure hw o47) rfl b_nr_pI hk_10 hc_10 rfl kw_1036 kw_21 kw_1033 kw_1034 kw_1035 nd_X10_exposure rfl rfl (Nat.le_of_ble_eq_true rfl) dL_bids_188 hs_1ne (by decide) ⟨⟨Nat.le_of_ble_eq_true rfl, Nat.le_of_ble_eq_true rfl⟩, Nat.le_of_ble_eq_true rfl, Nat.le_of_ble_eq_true rfl⟩ (b_pdk1 ?_)
      refine wb_iload X 9 rfl dL_bids_191 ?_
      obtain ⟨c48, hv⟩ := hv
      refine wb_icmp_ne X (tgt := 214) dL_bids_193 (by decide) (fun c => absurd c48 c) (fun _ => ?_)
      refine wb_aload_n X 1 rfl dL_bids_196 rfl ?_
      refine wb_bipush X dL_bids_197 kb17 ?_
      refine wb_iload_n X 3 rfl dL_bids_199 rfl ?_
      refine wb_iconst X dL_bids_200 kc0 ?_
      refine wb_iconst X dL_bids_201 kc0 ?_
      refine wb_callW1 X (As := [.inr (.inr (10, 1)), .inl (17 : Int32), .inl a3, .inl (0 : Int32), .inl (0 : Int32)]) (hv hw) rfl b_nr_I kw_507 kw_20 kw_505 kw_506 nd_L_call rfl rfl (Nat.le_of_ble_eq_true rfl) dL_bids_202 ⟨⟨Nat.le_of_ble_eq_true rfl, Nat.le_of_ble_eq_true rfl⟩, Nat.le_of_ble_eq_true rfl, Nat.le_of_ble_eq_true rfl⟩ (fun v S49 h => ?_)
      obtain ⟨hw, r50, rfl, hv⟩ := h
      refine wb_ldc X kw_1063 dL_bids_205 ?_
      obtain ⟨c51, hv⟩ := hv
      refine wb_icmp_ne X (tgt := 214) dL_bids_207 (by decide) (fun c => absurd c51 c) (fun _ => ?_)
      refine wb_iconst X dL_bids_210 kc1 ?_
      refine wb_goto X (tgt := 215) dL_bids_211 (by decide) ?_
      exact wb_ireturn X E dL_bids_215 (Nat.le_of_ble_eq_true rfl) (Nat.le_of_ble_eq_true rfl) (Or.inr ⟨rfl, Or.inr rfl⟩) ⟨hw, hu, _, rfl, hv⟩
  clear hv
  refine wb_if_ne X (tgt := 165) dL_bids_140 (by decide) (fun c54 => ?_) (fun c54 => ?_)
  · refine wb_iconst X dL_bids_165 kc0 ?_
    refine wb_lv (lv' := [(0, .inr (.inr (10, 1))), (1, .inr (.inr (210, 1))), (2, .inl a3), (3, .inl a4), (4, .inl (F_L_some a4 (6 : Int32))), (6, .inl (F_L_some (a4 >>> ((5 : Int32) &&& 31)) (2 : Int32))), (7, .inl ((1 : Int32) + (F_L_some (a4 >>> ((6 : Int32) &&& 31)) (25 : Int32)))), (8, .inl (F_L_some (a4 >>> ((8 : Int32) &&& 31)) (45 : Int32))), (9, .inl (F_Ldg_exposureOf (F_L_some a4 (6 : Int32)) S)), (11, .inl (1 : Int32)), (12, .inl r17)]) [9, 10, 11, 12, 8, 6, 5, 4, 3, 1, 0] rfl ?_
    exact wb_wid (Nat.le_of_ble_eq_true rfl) (Nat.le_of_ble_eq_true rfl) (k52 _  (by rw [if_neg c54]))
  · refine wb_iload X 6 rfl dL_bids_143 ?_
    refine wb_if_eq X (tgt := 161) dL_bids_145 (by decide) (fun c55 => ?_) (fun c55 => ?_)
    · refine wb_iconst X dL_bids_161 kc1 ?_
      refine wb_goto X (tgt := 166) dL_bids_162 (by decide) ?_
      refine wb_lv (lv' := [(0, .inr (.inr (10, 1))), (1, .inr (.inr (210, 1))), (2, .inl a3), (3, .inl a4), (4, .inl (F_L_some a4 (6 : Int32))), (6, .inl (F_L_some (a4 >>> ((5 : Int32) &&& 31)) (2 : Int32))), (7, .inl ((1 : Int32) + (F_L_some (a4 >>> ((6 : Int32) &&& 31)) (25 : Int32)))), (8, .inl (F_L_some (a4 >>> ((8 : Int32) &&& 31)) (45 : Int32))), (9, .inl (F_Ldg_exposureOf (F_L_some a4 (6 : Int32)) S)), (11, .inl (1 : Int32)), (12, .inl r17)]) [9, 10, 11, 12, 8, 6, 5, 4, 3, 1, 0] rfl ?_
      exact wb_wid (Nat.le_of_ble_eq_true rfl) (Nat.le_of_ble_eq_true rfl) (k52 _  (by rw [if_pos c54, if_pos c55]))
    · refine wb_iload X 3 rfl dL_bids_148 ?_
      refine wb_iload X 5 rfl dL_bids_150 ?_
      refine wb_iload X 4 rfl dL_bids_152 ?_
      refine wb_imul X dL_bids_154 ?_
      refine wb_iadd X dL_bids_155 ?_
      refine wb_iload X 2 rfl dL_bids_156 ?_
      refine wb_icmp_gt X (tgt := 165) dL_bids_158 (by decide) (fun c56 => ?_) (fun c56 => ?_)
      · refine wb_iconst X dL_bids_165 kc0 ?_
        refine wb_lv (lv' := [(0, .inr (.inr (10, 1))), (1, .inr (.inr (210, 1))), (2, .inl a3), (3, .inl a4), (4, .inl (F_L_some a4 (6 : Int32))), (6, .inl (F_L_some (a4 >>> ((5 : Int32) &&& 31)) (2 : Int32))), (7, .inl ((1 : Int32) + (F_L_some (a4 >>> ((6 : Int32) &&& 31)) (25 : Int32)))), (8, .inl (F_L_some (a4 >>> ((8 : Int32) &&& 31)) (45 : Int32))), (9, .inl (F_Ldg_exposureOf (F_L_some a4 (6 : Int32)) S)), (11, .inl (1 : Int32)), (12, .inl r17)]) [9, 10, 11, 12, 8, 6, 5, 4, 3, 1, 0] rfl ?_
        exact wb_wid (Nat.le_of_ble_eq_true rfl) (Nat.le_of_ble_eq_true rfl) (k52 _  (by rw [if_pos c54, if_neg c55, if_pos c56]))
      · refine wb_iconst X dL_bids_161 kc1 ?_
        refine wb_goto X (tgt := 166) dL_bids_162 (by decide) ?_
        refine wb_lv (lv' := [(0, .inr (.inr (10, 1))), (1, .inr (.inr (210, 1))), (2, .inl a3), (3, .inl a4), (4, .inl (F_L_some a4 (6 : Int32))), (6, .inl (F_L_some (a4 >>> ((5 : Int32) &&& 31)) (2 : Int32))), (7, .inl ((1 : Int32) + (F_L_some (a4 >>> ((6 : Int32) &&& 31)) (25 : Int32)))), (8, .inl (F_L_some (a4 >>> ((8 : Int32) &&& 31)) (45 : Int32))), (9, .inl (F_Ldg_exposureOf (F_L_some a4 (6 : Int32)) S)), (11, .inl (1 : Int32)), (12, .inl r17)]) [9, 10, 11, 12, 8, 6, 5, 4, 3, 1, 0] rfl ?_
        exact wb_wid (Nat.le_of_ble_eq_true rfl) (Nat.le_of_ble_eq_true rfl) (k52 _  (by rw [if_pos c54, if_neg c55, if_neg c56]))

def m_L_rings (a3 : Int32) (a4 : Int32) (a5 : Int32) (S U : hs_S) (Q : Int32 → hs_S → hs_S → Prop) : Prop := b_M 59 yL_rings (.code yL_rings cL_rings 15 (some FieldType.boolean)) [.inr (.inr (10, 1)), .inr (.inr (210, 1)), .inl a3, .inl a4, .inl a5] (S, U) 55 1190 (b_qI Q)
def vc_L_rings (a3 : Int32) (a4 : Int32) (a5 : Int32) (S U : hs_S) (Q : Int32 → hs_S → hs_S → Prop) : Prop := ((P_L_some a5 (2 : Int32) S) ∧ ((P_Cq_isFrozen (F_L_some a5 (2 : Int32)) S) ∧ (∃ I5 : Nat → Int64 → Int32 → Prop, (∃ n9, I5 n9 (0 : Int64) (0 : Int32)) ∧ (∀ N6 : Nat, ∀ x3 : Int64, ∀ x4 : Int32, I5 N6 x3 x4 → ((a3 ≤ x4 → (∃ I16 : Nat → Int32 → Int32 → Prop, (∃ n20, I16 n20 (0 : Int32) (0 : Int32)) ∧ (∀ N17 : Nat, ∀ x14 : Int32, ∀ x15 : Int32, I16 N17 x14 x15 → (((6 : Int32) ≤ x15 → (hs_Wi S → hs_Wi U → m_L_both (13 : Int32) (F_L_some a5 (2 : Int32)) (0 : Int32) (0 : Int32) S U (fun r27 S25 U26 => ((¬ (F_Cq_isFrozen (F_L_some a5 (2 : Int32)) S) = 0 → (∃ I31 : Nat → Int64 → Int32 → Prop, (∃ n35, I31 n35 (0 : Int64) (0 : Int32)) ∧ (∀ N32 : Nat, ∀ x29 : Int64, ∀ x30 : Int32, I31 N32 x29 x30 → ((a3 ≤ x30 → (∃ I42 : Nat → Int32 → Int32 → Prop, (∃ n46, I42 n46 (0 : Int32) (0 : Int32)) ∧ (∀ N43 : Nat, ∀ x40 : Int32, ∀ x41 : Int32, I42 N43 x40 x41 → (((6 : Int32) ≤ x41 → (r27 = a4 ∧ ((P_Cq_isFrozen (F_L_some a5 (2 : Int32)) S25) ∧ ((F_Cq_isFrozen (F_L_some a5 (2 : Int32)) S25) = 0 ∧ ((P_Cq_round r27 (0 : Int32) S25) ∧ ((F_Cq_round r27 (0 : Int32) S25) = (F_L_some a5 (2 : Int32)) ∧ ((P_Cq_round r27 (2 : Int32) S25) ∧ ((lg_cmp (x29 - x3) ((2 : Int64) * (F_Cq_round r27 (2 : Int32) S25).toInt64)) = 0 ∧ (x40 = 0 ∧ (¬ x14 < 0 ∧ ((P_Cq_round r27 (4 : Int32) S25) ∧ ((¬ (F_Cq_round r27 (4 : Int32) S25) = 0 → ((P_Cq_round r27 (1 : Int32) S25) ∧ ((F_Cq_round r27 (1 : Int32) S25) = (-1 : Int32) ∧ ((F_Cq_round r27 (2 : Int32) S25) = 0 ∧ ((P_Cq_round r27 (3 : Int32) S25) ∧ ((F_Cq_round r27 (3 : Int32) S25) = 0 ∧ ((P_Cq_round r27 (5 : Int32) S25) ∧ ((F_Cq_round r27 (5 : Int32) S25) = 0 ∧ ((P_Cq_priceAnew r27 S25) ∧ (∀ r71 : Int32, ∀ S70 : hs_S, R_Cq_priceAnew r27 S25 r71 S70 → ((P_Cq_round r27 (1 : Int32) S70) ∧ (r71 = (F_Cq_round r27 (1 : Int32) S70) ∧ (Q (1 : Int32) S70 U26))))))))))))) ∧ ((F_Cq_round r27 (4 : Int32) S25) = 0 → ((P_Cq_round r27 (1 : Int32) S25) ∧ (¬ (F_Cq_round r27 (1 : Int32) S25) < 0 ∧ ((P_Cq_priceAnew r27 S25) ∧ (∀ r79 : Int32, ∀ S78 : hs_S, R_Cq_priceAnew r27 S25 r79 S78 → ((P_Cq_round r27 (1 : Int32) S78) ∧ (r79 = (F_Cq_round r27 (1 : Int32) S78) ∧ (Q (1 : Int32) S78 U26)))))))))))))))))))) ∧ (¬ (6 : Int32) ≤ x41 → ((P_Cq_due x41 (F_L_some a5 (2 : Int32)) S25) ∧ (∃ q85, q85 < N43 ∧ I42 q85 (x40 + (F_Ldg_dueOf x41 (F_L_some a5 (2 : Int32)) S25)) (x41 + 1)))))))) ∧ (¬ a3 ≤ x30 → ((P_Cq_got x30 S25) ∧ (∃ q88, q88 < N32 ∧ I31 q88 (x29 + (F_Cq_got x30 S25).toInt64) (x30 + 1)))))))) ∧ ((F_Cq_isFrozen (F_L_some a5 (2 : Int32)) S) = 0 → (r27 = (-1 : Int32) ∧ ((P_Cq_isFrozen (F_L_some a5 (2 : Int32)) S25) ∧ (¬ (F_Cq_isFrozen (F_L_some a5 (2 : Int32)) S25) = 0 ∧ (hs_Wi S25 → hs_Wi U26 → m_L_both (10 : Int32) (1 : Int32) ((2 : Int32) * (F_L_some a5 (2 : Int32))) (49155 : Int32) S25 U26 (fun r95 S93 U94 => (r95 = (-2100000003 : Int32) ∧ (hs_Wi S93 → m_L_call (15 : Int32) a4 (0 : Int32) (0 : Int32) S93 (fun r98 S97 => (r98 = (-2100000001 : Int32) ∧ (Q (1 : Int32) S97 U94))))))))))))))) ∧ (¬ (6 : Int32) ≤ x15 → ((P_Cq_due x15 (F_L_some a5 (2 : Int32)) S) ∧ (((F_Ldg_dueOf x15 (F_L_some a5 (2 : Int32)) S) ≤ 0 → (∃ q102, q102 < N17 ∧ I16 q102 (x14 + (0 : Int32)) (x15 + 1))) ∧ (¬ (F_Ldg_dueOf x15 (F_L_some a5 (2 : Int32)) S) ≤ 0 → (∃ q104, q104 < N17 ∧ I16 q104 (x14 + (F_Ldg_dueOf x15 (F_L_some a5 (2 : Int32)) S)) (x15 + 1)))))))))) ∧ (¬ a3 ≤ x4 → ((P_Cq_got x4 S) ∧ (∃ q107, q107 < N6 ∧ I5 q107 (x3 + (F_Cq_got x4 S).toInt64) (x4 + 1)))))))))
set_option maxRecDepth 100000 in
set_option maxHeartbeats 4000000 in
theorem ok_L_rings {a3 : Int32} {a4 : Int32} {a5 : Int32} {S U : hs_S} {Q : Int32 → hs_S → hs_S → Prop} (hw : hs_Wi S) (hu : hs_Wi U) (hv : vc_L_rings a3 a4 a5 S U Q) : m_L_rings a3 a4 a5 S U Q := by
  unfold vc_L_rings at hv
  refine b_body (own := RL) rfl rfl (Nat.le_of_ble_eq_true rfl) (fun Z X E => ?_)
  show wb Z 0 0 (S, U) 0 [(0, .inr (.inr (10, 1))), (1, .inr (.inr (210, 1))), (2, .inl a3), (3, .inl a4), (4, .inl a5)] []
  refine wb_iload X 4 rfl dL_rings_0 ?_
  refine wb_iconst X dL_rings_2 kc2 ?_
  obtain ⟨o1, hv⟩ := hv
  refine wb_callS1 X (As := [.inl a5, .inl (2 : Int32)]) (f_L_some hw o1) rfl b_nr_pI kw_504 kw_20 kw_502 kw_503 nd_L_some rfl rfl (Nat.le_of_ble_eq_true rfl) dL_rings_3 ⟨⟨Nat.le_of_ble_eq_true rfl, Nat.le_of_ble_eq_true rfl⟩, Nat.le_of_ble_eq_true rfl, Nat.le_of_ble_eq_true rfl⟩ (b_pdk1 ?_)
  refine wb_istore X (lv' := [(5, .inl (F_L_some a5 (2 : Int32))), (0, .inr (.inr (10, 1))), (1, .inr (.inr (210, 1))), (2, .inl a3), (3, .inl a4), (4, .inl a5)]) dL_rings_6 (by decide) rfl ?_
  refine wb_aload_n X 1 rfl dL_rings_8 rfl ?_
  refine wb_iload X 0 rfl dL_rings_9 ?_
  obtain ⟨o2, hv⟩ := hv
  refine wb_callV1 X (As := [.inl (F_L_some a5 (2 : Int32))]) (f_Cq_isFrozen hw o2) rfl b_nr_pI hk_10 hc_10 rfl kw_983 kw_21 kw_980 kw_981 kw_982 nd_X10_isFrozen rfl rfl (Nat.le_of_ble_eq_true rfl) dL_rings_11 hs_1ne (by decide) ⟨⟨Nat.le_of_ble_eq_true rfl, Nat.le_of_ble_eq_true rfl⟩, Nat.le_of_ble_eq_true rfl, Nat.le_of_ble_eq_true rfl⟩ (b_pdk1 ?_)
  refine wb_istore X (lv' := [(6, .inl (F_Cq_isFrozen (F_L_some a5 (2 : Int32)) S)), (5, .inl (F_L_some a5 (2 : Int32))), (0, .inr (.inr (10, 1))), (1, .inr (.inr (210, 1))), (2, .inl a3), (3, .inl a4), (4, .inl a5)]) dL_rings_14 (by decide) rfl ?_
  refine wb_lconst X dL_rings_16 kl0 ?_
  refine wb_lstore X (lv' := [(7, .inr (.inl (0 : Int64))), (6, .inl (F_Cq_isFrozen (F_L_some a5 (2 : Int32)) S)), (5, .inl (F_L_some a5 (2 : Int32))), (0, .inr (.inr (10, 1))), (1, .inr (.inr (210, 1))), (2, .inl a3), (3, .inl a4), (4, .inl a5)]) dL_rings_17 (by decide) rfl ?_
  refine wb_iconst X dL_rings_19 kc0 ?_
  refine wb_istore X (lv' := [(9, .inl (0 : Int32)), (7, .inr (.inl (0 : Int64))), (6, .inl (F_Cq_isFrozen (F_L_some a5 (2 : Int32)) S)), (5, .inl (F_L_some a5 (2 : Int32))), (0, .inr (.inr (10, 1))), (1, .inr (.inr (210, 1))), (2, .inl a3), (3, .inl a4), (4, .inl a5)]) dL_rings_20 (by decide) rfl ?_
  obtain ⟨I5, ⟨n9, i7⟩, b8⟩ := hv
  refine wb_lv (lv' := [(0, .inr (.inr (10, 1))), (1, .inr (.inr (210, 1))), (2, .inl a3), (3, .inl a4), (5, .inl (F_L_some a5 (2 : Int32))), (6, .inl (F_Cq_isFrozen (F_L_some a5 (2 : Int32)) S)), (7, .inr (.inl (0 : Int64))), (9, .inl (0 : Int32))]) [4, 5, 6, 7, 3, 2, 1, 0] rfl ?_
  suffices L10 : ∀ N6 : Nat, ∀ x3 : Int64, ∀ x4 : Int32, I5 N6 x3 x4 → wb Z 0 0 (S, U) 22 [(0, .inr (.inr (10, 1))), (1, .inr (.inr (210, 1))), (2, .inl a3), (3, .inl a4), (5, .inl (F_L_some a5 (2 : Int32))), (6, .inl (F_Cq_isFrozen (F_L_some a5 (2 : Int32)) S)), (7, .inr (.inl x3)), (9, .inl x4)] [] from L10 _ _ _ i7
  clear i7
  intro N6
  induction N6 using Nat.strongRecOn with
  | _ N6 h11 =>
    intro x3 x4 j12
    have hv := b8 N6 x3 x4 j12
    refine wb_iload X 7 rfl dL_rings_22 ?_
    refine wb_iload_n X 2 rfl dL_rings_24 rfl ?_
    refine wb_icmp_ge X (tgt := 46) dL_rings_25 (by decide) (fun c13 => ?_) (fun c13 => ?_)
    · replace hv := hv.1 c13
      refine wb_iconst X dL_rings_46 kc0 ?_
      refine wb_istore X (lv' := [(9, .inl (0 : Int32)), (0, .inr (.inr (10, 1))), (1, .inr (.inr (210, 1))), (2, .inl a3), (3, .inl a4), (5, .inl (F_L_some a5 (2 : Int32))), (6, .inl (F_Cq_isFrozen (F_L_some a5 (2 : Int32)) S)), (7, .inr (.inl x3))]) dL_rings_47 (by decide) rfl ?_
      refine wb_iconst X dL_rings_49 kc0 ?_
      refine wb_istore X (lv' := [(10, .inl (0 : Int32)), (9, .inl (0 : Int32)), (0, .inr (.inr (10, 1))), (1, .inr (.inr (210, 1))), (2, .inl a3), (3, .inl a4), (5, .inl (F_L_some a5 (2 : Int32))), (6, .inl (F_Cq_isFrozen (F_L_some a5 (2 : Int32)) S)), (7, .inr (.inl x3))]) dL_rings_50 (by decide) rfl ?_
      obtain ⟨I16, ⟨n20, i18⟩, b19⟩ := hv
      refine wb_lv (lv' := [(0, .inr (.inr (10, 1))), (1, .inr (.inr (210, 1))), (2, .inl a3), (3, .inl a4), (5, .inl (F_L_some a5 (2 : Int32))), (6, .inl (F_Cq_isFrozen (F_L_some a5 (2 : Int32)) S)), (7, .inr (.inl x3)), (9, .inl (0 : Int32)), (10, .inl (0 : Int32))]) [2, 3, 4, 5, 6, 7, 8, 1, 0] rfl ?_
      suffices L21 : ∀ N17 : Nat, ∀ x14 : Int32, ∀ x15 : Int32, I16 N17 x14 x15 → wb Z 0 0 (S, U) 52 [(0, .inr (.inr (10, 1))), (1, .inr (.inr (210, 1))), (2, .inl a3), (3, .inl a4), (5, .inl (F_L_some a5 (2 : Int32))), (6, .inl (F_Cq_isFrozen (F_L_some a5 (2 : Int32)) S)), (7, .inr (.inl x3)), (9, .inl x14), (10, .inl x15)] [] from L21 _ _ _ i18
      clear i18
      intro N17
      induction N17 using Nat.strongRecOn with
      | _ N17 h22 =>
        intro x14 x15 j23
        have hv := b19 N17 x14 x15 j23
        refine wb_iload X 8 rfl dL_rings_52 ?_
        refine wb_bipush X dL_rings_54 kb6 ?_
        refine wb_icmp_ge X (tgt := 93) dL_rings_56 (by decide) (fun c24 => ?_) (fun c24 => ?_)
        · replace hv := hv.1 c24
          refine wb_aload_n X 0 rfl dL_rings_93 rfl ?_
          refine wb_aload_n X 1 rfl dL_rings_94 rfl ?_
          refine wb_bipush X dL_rings_95 kb13 ?_
          refine wb_iload X 4 rfl dL_rings_97 ?_
          refine wb_iconst X dL_rings_99 kc0 ?_
          refine wb_iconst X dL_rings_100 kc0 ?_
          refine wb_callB X (As := [.inr (.inr (10, 1)), .inr (.inr (210, 1)), .inl (13 : Int32), .inl (F_L_some a5 (2 : Int32)), .inl (0 : Int32), .inl (0 : Int32)]) (hv hw hu) kw_1081 kw_20 kw_1079 kw_1080 nd_L_both rfl rfl (Nat.le_of_ble_eq_true rfl) dL_rings_101 ⟨⟨Nat.le_of_ble_eq_true rfl, Nat.le_of_ble_eq_true rfl⟩, Nat.le_of_ble_eq_true rfl, Nat.le_of_ble_eq_true rfl⟩ (fun v SS25 h => ?_)
          obtain ⟨S25, U26⟩ := SS25
          obtain ⟨hw, hu, r27, rfl, hv⟩ := h
          refine wb_istore X (lv' := [(10, .inl r27), (0, .inr (.inr (10, 1))), (1, .inr (.inr (210, 1))), (2, .inl a3), (3, .inl a4), (5, .inl (F_L_some a5 (2 : Int32))), (6, .inl (F_Cq_isFrozen (F_L_some a5 (2 : Int32)) S)), (7, .inr (.inl x3)), (9, .inl x14)]) dL_rings_104 (by decide) rfl ?_
          refine wb_iload X 6 rfl dL_rings_106 ?_
          refine wb_if_ne X (tgt := 165) dL_rings_108 (by decide) (fun c28 => ?_) (fun c28 => ?_)
          · replace hv := hv.1 c28
            refine wb_lconst X dL_rings_165 kl0 ?_
            refine wb_lstore X (lv' := [(11, .inr (.inl (0 : Int64))), (10, .inl r27), (0, .inr (.inr (10, 1))), (1, .inr (.inr (210, 1))), (2, .inl a3), (3, .inl a4), (5, .inl (F_L_some a5 (2 : Int32))), (6, .inl (F_Cq_isFrozen (F_L_some a5 (2 : Int32)) S)), (7, .inr (.inl x3)), (9, .inl x14)]) dL_rings_166 (by decide) rfl ?_
            refine wb_iconst X dL_rings_168 kc0 ?_
            refine wb_istore X (lv' := [(13, .inl (0 : Int32)), (11, .inr (.inl (0 : Int64))), (10, .inl r27), (0, .inr (.inr (10, 1))), (1, .inr (.inr (210, 1))), (2, .inl a3), (3, .inl a4), (5, .inl (F_L_some a5 (2 : Int32))), (6, .inl (F_Cq_isFrozen (F_L_some a5 (2 : Int32)) S)), (7, .inr (.inl x3)), (9, .inl x14)]) dL_rings_169 (by decide) rfl ?_
            obtain ⟨I31, ⟨n35, i33⟩, b34⟩ := hv
            refine wb_lv (lv' := [(0, .inr (.inr (10, 1))), (2, .inl a3), (3, .inl a4), (5, .inl (F_L_some a5 (2 : Int32))), (7, .inr (.inl x3)), (9, .inl x14), (10, .inl r27), (11, .inr (.inl (0 : Int64))), (13, .inl (0 : Int32))]) [3, 5, 6, 7, 9, 10, 2, 1, 0] rfl ?_
            suffices L36 : ∀ N32 : Nat, ∀ x29 : Int64, ∀ x30 : Int32, I31 N32 x29 x30 → wb Z 22 476 (S25, U26) 171 [(0, .inr (.inr (10, 1))), (2, .inl a3), (3, .inl a4), (5, .inl (F_L_some a5 (2 : Int32))), (7, .inr (.inl x3)), (9, .inl x14), (10, .inl r27), (11, .inr (.inl x29)), (13, .inl x30)] [] from L36 _ _ _ i33
            clear i33
            intro N32
            induction N32 using Nat.strongRecOn with
            | _ N32 h37 =>
              intro x29 x30 j38
              have hv := b34 N32 x29 x30 j38
              refine wb_iload X 8 rfl dL_rings_171 ?_
              refine wb_iload_n X 1 rfl dL_rings_173 rfl ?_
              refine wb_icmp_ge X (tgt := 195) dL_rings_174 (by decide) (fun c39 => ?_) (fun c39 => ?_)
              · replace hv := hv.1 c39
                refine wb_iconst X dL_rings_195 kc0 ?_
                refine wb_istore X (lv' := [(13, .inl (0 : Int32)), (0, .inr (.inr (10, 1))), (2, .inl a3), (3, .inl a4), (5, .inl (F_L_some a5 (2 : Int32))), (7, .inr (.inl x3)), (9, .inl x14), (10, .inl r27), (11, .inr (.inl x29))]) dL_rings_196 (by decide) rfl ?_
                refine wb_iconst X dL_rings_198 kc0 ?_
                refine wb_istore X (lv' := [(14, .inl (0 : Int32)), (13, .inl (0 : Int32)), (0, .inr (.inr (10, 1))), (2, .inl a3), (3, .inl a4), (5, .inl (F_L_some a5 (2 : Int32))), (7, .inr (.inl x3)), (9, .inl x14), (10, .inl r27), (11, .inr (.inl x29))]) dL_rings_199 (by decide) rfl ?_
                obtain ⟨I42, ⟨n46, i44⟩, b45⟩ := hv
                refine wb_lv (lv' := [(0, .inr (.inr (10, 1))), (3, .inl a4), (5, .inl (F_L_some a5 (2 : Int32))), (7, .inr (.inl x3)), (9, .inl x14), (10, .inl r27), (11, .inr (.inl x29)), (13, .inl (0 : Int32)), (14, .inl (0 : Int32))]) [2, 4, 5, 6, 7, 8, 9, 1, 0] rfl ?_
                suffices L47 : ∀ N43 : Nat, ∀ x40 : Int32, ∀ x41 : Int32, I42 N43 x40 x41 → wb Z 22 476 (S25, U26) 201 [(0, .inr (.inr (10, 1))), (3, .inl a4), (5, .inl (F_L_some a5 (2 : Int32))), (7, .inr (.inl x3)), (9, .inl x14), (10, .inl r27), (11, .inr (.inl x29)), (13, .inl x40), (14, .inl x41)] [] from L47 _ _ _ i44
                clear i44
                intro N43
                induction N43 using Nat.strongRecOn with
                | _ N43 h48 =>
                  intro x40 x41 j49
                  have hv := b45 N43 x40 x41 j49
                  refine wb_iload X 8 rfl dL_rings_201 ?_
                  refine wb_bipush X dL_rings_203 kb6 ?_
                  refine wb_icmp_ge X (tgt := 227) dL_rings_205 (by decide) (fun c50 => ?_) (fun c50 => ?_)
                  · replace hv := hv.1 c50
                    refine wb_iload X 5 rfl dL_rings_227 ?_
                    refine wb_iload_n X 1 rfl dL_rings_229 rfl ?_
                    obtain ⟨c51, hv⟩ := hv
                    refine wb_icmp_ne X (tgt := 289) dL_rings_230 (by decide) (fun c => absurd c51 c) (fun _ => ?_)
                    refine wb_aload_n X 0 rfl dL_rings_233 rfl ?_
                    refine wb_iload X 2 rfl dL_rings_234 ?_
                    obtain ⟨o52, hv⟩ := hv
                    refine wb_callV1 X (As := [.inl (F_L_some a5 (2 : Int32))]) (f_Cq_isFrozen hw o52) rfl b_nr_pI hk_10 hc_10 rfl kw_983 kw_21 kw_980 kw_981 kw_982 nd_X10_isFrozen rfl rfl (Nat.le_of_ble_eq_true rfl) dL_rings_236 hs_1ne (by decide) ⟨⟨Nat.le_of_ble_eq_true rfl, Nat.le_of_ble_eq_true rfl⟩, Nat.le_of_ble_eq_true rfl, Nat.le_of_ble_eq_true rfl⟩ (b_pdk1 ?_)
                    obtain ⟨c53, hv⟩ := hv
                    refine wb_if_ne X (tgt := 289) dL_rings_239 (by decide) (fun c => absurd c53 c) (fun _ => ?_)
                    refine wb_aload_n X 0 rfl dL_rings_242 rfl ?_
                    refine wb_iload X 5 rfl dL_rings_243 ?_
                    refine wb_iconst X dL_rings_245 kc0 ?_
                    obtain ⟨o54, hv⟩ := hv
                    refine wb_callV1 X (As := [.inl r27, .inl (0 : Int32)]) (f_Cq_round hw o54) rfl b_nr_pI hk_10 hc_10 rfl kw_987 kw_21 kw_984 kw_985 kw_986 nd_X10_round rfl rfl (Nat.le_of_ble_eq_true rfl) dL_rings_246 hs_1ne (by decide) ⟨⟨Nat.le_of_ble_eq_true rfl, Nat.le_of_ble_eq_true rfl⟩, Nat.le_of_ble_eq_true rfl, Nat.le_of_ble_eq_true rfl⟩ (b_pdk1 ?_)
                    refine wb_iload X 2 rfl dL_rings_249 ?_
                    obtain ⟨c55, hv⟩ := hv
                    refine wb_icmp_ne X (tgt := 289) dL_rings_251 (by decide) (fun c => absurd c55 c) (fun _ => ?_)
                    refine wb_lload X 6 rfl dL_rings_254 ?_
                    refine wb_lload X 3 rfl dL_rings_256 ?_
                    refine wb_lsub X dL_rings_258 ?_
                    refine wb_ldc2 X kw_1104 dL_rings_259 ?_
                    refine wb_aload_n X 0 rfl dL_rings_262 rfl ?_
                    refine wb_iload X 5 rfl dL_rings_263 ?_
                    refine wb_iconst X dL_rings_265 kc2 ?_
                    obtain ⟨o56, hv⟩ := hv
                    refine wb_callV1 X (As := [.inl r27, .inl (2 : Int32)]) (f_Cq_round hw o56) rfl b_nr_pI hk_10 hc_10 rfl kw_987 kw_21 kw_984 kw_985 kw_986 nd_X10_round rfl rfl (Nat.le_of_ble_eq_true rfl) dL_rings_266 hs_1ne (by decide) ⟨⟨Nat.le_of_ble_eq_true rfl, Nat.le_of_ble_eq_true rfl⟩, Nat.le_of_ble_eq_true rfl, Nat.le_of_ble_eq_true rfl⟩ (b_pdk1 ?_)
                    refine wb_i2l X dL_rings_269 ?_
                    refine wb_lmul X dL_rings_270 ?_
                    refine wb_lcmp X dL_rings_271 ?_
                    obtain ⟨c57, hv⟩ := hv
                    refine wb_if_ne X (tgt := 289) dL_rings_272 (by decide) (fun c => absurd c57 c) (fun _ => ?_)
                    refine wb_iload X 7 rfl dL_rings_275 ?_
                    obtain ⟨c58, hv⟩ := hv
                    refine wb_if_ne X (tgt := 289) dL_rings_277 (by decide) (fun c => absurd c58 c) (fun _ => ?_)
                    refine wb_iload X 4 rfl dL_rings_280 ?_
                    obtain ⟨c59, hv⟩ := hv
                    refine wb_if_lt X (tgt := 289) dL_rings_282 (by decide) (fun c => absurd c c59) (fun _ => ?_)
                    refine wb_iconst X dL_rings_285 kc1 ?_
                    refine wb_goto X (tgt := 290) dL_rings_286 (by decide) ?_
                    refine wb_istore X (lv' := [(14, .inl (1 : Int32)), (0, .inr (.inr (10, 1))), (3, .inl a4), (5, .inl (F_L_some a5 (2 : Int32))), (7, .inr (.inl x3)), (9, .inl x14), (10, .inl r27), (11, .inr (.inl x29)), (13, .inl x40)]) dL_rings_290 (by decide) rfl ?_
                    refine wb_iload X 0 rfl dL_rings_292 ?_
                    refine wb_if_eq X (tgt := 381) dL_rings_294 (by decide) (fun c => absurd c (by decide)) (fun _ => ?_)
                    refine wb_aload_n X 1 rfl dL_rings_297 rfl ?_
                    refine wb_iload X 6 rfl dL_rings_298 ?_
                    refine wb_iconst X dL_rings_300 kc4 ?_
                    obtain ⟨o61, hv⟩ := hv
                    refine wb_callV1 X (As := [.inl r27, .inl (4 : Int32)]) (f_Cq_round hw o61) rfl b_nr_pI hk_10 hc_10 rfl kw_987 kw_21 kw_984 kw_985 kw_986 nd_X10_round rfl rfl (Nat.le_of_ble_eq_true rfl) dL_rings_301 hs_1ne (by decide) ⟨⟨Nat.le_of_ble_eq_true rfl, Nat.le_of_ble_eq_true rfl⟩, Nat.le_of_ble_eq_true rfl, Nat.le_of_ble_eq_true rfl⟩ (b_pdk1 ?_)
                    refine wb_if_ne X (tgt := 320) dL_rings_304 (by decide) (fun c62 => ?_) (fun c62 => ?_)
                    · replace hv := hv.1 c62
                      refine wb_aload_n X 1 rfl dL_rings_320 rfl ?_
                      refine wb_iload X 6 rfl dL_rings_321 ?_
                      refine wb_iconst X dL_rings_323 kc1 ?_
                      obtain ⟨o63, hv⟩ := hv
                      refine wb_callV1 X (As := [.inl r27, .inl (1 : Int32)]) (f_Cq_round hw o63) rfl b_nr_pI hk_10 hc_10 rfl kw_987 kw_21 kw_984 kw_985 kw_986 nd_X10_round rfl rfl (Nat.le_of_ble_eq_true rfl) dL_rings_324 hs_1ne (by decide) ⟨⟨Nat.le_of_ble_eq_true rfl, Nat.le_of_ble_eq_true rfl⟩, Nat.le_of_ble_eq_true rfl, Nat.le_of_ble_eq_true rfl⟩ (b_pdk1 ?_)
                      refine wb_iconst X dL_rings_327 kcm1 ?_
                      obtain ⟨c64, hv⟩ := hv
                      refine wb_icmp_ne X (tgt := 381) dL_rings_328 (by decide) (fun c => absurd c64 c) (fun _ => ?_)
                      refine wb_aload_n X 1 rfl dL_rings_331 rfl ?_
                      refine wb_iload X 6 rfl dL_rings_332 ?_
                      refine wb_iconst X dL_rings_334 kc2 ?_
                      refine wb_callV1 X (As := [.inl r27, .inl (2 : Int32)]) (f_Cq_round hw o56) rfl b_nr_pI hk_10 hc_10 rfl kw_987 kw_21 kw_984 kw_985 kw_986 nd_X10_round rfl rfl (Nat.le_of_ble_eq_true rfl) dL_rings_335 hs_1ne (by decide) ⟨⟨Nat.le_of_ble_eq_true rfl, Nat.le_of_ble_eq_true rfl⟩, Nat.le_of_ble_eq_true rfl, Nat.le_of_ble_eq_true rfl⟩ (b_pdk1 ?_)
                      obtain ⟨c65, hv⟩ := hv
                      refine wb_if_ne X (tgt := 381) dL_rings_338 (by decide) (fun c => absurd c65 c) (fun _ => ?_)
                      refine wb_aload_n X 1 rfl dL_rings_341 rfl ?_
                      refine wb_iload X 6 rfl dL_rings_342 ?_
                      refine wb_iconst X dL_rings_344 kc3 ?_
                      obtain ⟨o66, hv⟩ := hv
                      refine wb_callV1 X (As := [.inl r27, .inl (3 : Int32)]) (f_Cq_round hw o66) rfl b_nr_pI hk_10 hc_10 rfl kw_987 kw_21 kw_984 kw_985 kw_986 nd_X10_round rfl rfl (Nat.le_of_ble_eq_true rfl) dL_rings_345 hs_1ne (by decide) ⟨⟨Nat.le_of_ble_eq_true rfl, Nat.le_of_ble_eq_true rfl⟩, Nat.le_of_ble_eq_true rfl, Nat.le_of_ble_eq_true rfl⟩ (b_pdk1 ?_)
                      obtain ⟨c67, hv⟩ := hv
                      refine wb_if_ne X (tgt := 381) dL_rings_348 (by decide) (fun c => absurd c67 c) (fun _ => ?_)
                      refine wb_aload_n X 1 rfl dL_rings_351 rfl ?_
                      refine wb_iload X 6 rfl dL_rings_352 ?_
                      refine wb_iconst X dL_rings_354 kc5 ?_
                      obtain ⟨o68, hv⟩ := hv
                      refine wb_callV1 X (As := [.inl r27, .inl (5 : Int32)]) (f_Cq_round hw o68) rfl b_nr_pI hk_10 hc_10 rfl kw_987 kw_21 kw_984 kw_985 kw_986 nd_X10_round rfl rfl (Nat.le_of_ble_eq_true rfl) dL_rings_355 hs_1ne (by decide) ⟨⟨Nat.le_of_ble_eq_true rfl, Nat.le_of_ble_eq_true rfl⟩, Nat.le_of_ble_eq_true rfl, Nat.le_of_ble_eq_true rfl⟩ (b_pdk1 ?_)
                      obtain ⟨c69, hv⟩ := hv
                      refine wb_if_ne X (tgt := 381) dL_rings_358 (by decide) (fun c => absurd c69 c) (fun _ => ?_)
                      refine wb_aload_n X 1 rfl dL_rings_361 rfl ?_
                      refine wb_iload X 6 rfl dL_rings_362 ?_
                      obtain ⟨o72, hv⟩ := hv
                      refine wb_callV1 X (As := [.inl r27]) (ok_Cq_priceAnew hw (v_Cq_priceAnew o72)) rfl b_nr_I hk_10 hc_10 rfl kw_1001 kw_21 kw_998 kw_999 kw_1000 nd_X10_priceAnew rfl rfl (Nat.le_of_ble_eq_true rfl) dL_rings_364 hs_1ne (by decide) ⟨⟨Nat.le_of_ble_eq_true rfl, Nat.le_of_ble_eq_true rfl⟩, Nat.le_of_ble_eq_true rfl, Nat.le_of_ble_eq_true rfl⟩ (fun v S70 h => ?_)
                      obtain ⟨hw, r71, rfl, g73⟩ := h
                      replace hv := hv r71 S70 g73
                      refine wb_aload_n X 1 rfl dL_rings_367 rfl ?_
                      refine wb_iload X 6 rfl dL_rings_368 ?_
                      refine wb_iconst X dL_rings_370 kc1 ?_
                      obtain ⟨o74, hv⟩ := hv
                      refine wb_callV1 X (As := [.inl r27, .inl (1 : Int32)]) (f_Cq_round hw o74) rfl b_nr_pI hk_10 hc_10 rfl kw_987 kw_21 kw_984 kw_985 kw_986 nd_X10_round rfl rfl (Nat.le_of_ble_eq_true rfl) dL_rings_371 hs_1ne (by decide) ⟨⟨Nat.le_of_ble_eq_true rfl, Nat.le_of_ble_eq_true rfl⟩, Nat.le_of_ble_eq_true rfl, Nat.le_of_ble_eq_true rfl⟩ (b_pdk1 ?_)
                      obtain ⟨c75, hv⟩ := hv
                      refine wb_icmp_ne X (tgt := 381) dL_rings_374 (by decide) (fun c => absurd c75 c) (fun _ => ?_)
                      refine wb_iconst X dL_rings_377 kc1 ?_
                      refine wb_goto X (tgt := 382) dL_rings_378 (by decide) ?_
                      exact wb_ireturn X E dL_rings_382 (Nat.le_of_ble_eq_true rfl) (Nat.le_of_ble_eq_true rfl) (Or.inr ⟨rfl, Or.inr rfl⟩) ⟨hw, hu, _, rfl, hv⟩
                    · replace hv := hv.2 c62
                      refine wb_aload_n X 1 rfl dL_rings_307 rfl ?_
                      refine wb_iload X 6 rfl dL_rings_308 ?_
                      refine wb_iconst X dL_rings_310 kc1 ?_
                      obtain ⟨o76, hv⟩ := hv
                      refine wb_callV1 X (As := [.inl r27, .inl (1 : Int32)]) (f_Cq_round hw o76) rfl b_nr_pI hk_10 hc_10 rfl kw_987 kw_21 kw_984 kw_985 kw_986 nd_X10_round rfl rfl (Nat.le_of_ble_eq_true rfl) dL_rings_311 hs_1ne (by decide) ⟨⟨Nat.le_of_ble_eq_true rfl, Nat.le_of_ble_eq_true rfl⟩, Nat.le_of_ble_eq_true rfl, Nat.le_of_ble_eq_true rfl⟩ (b_pdk1 ?_)
                      obtain ⟨c77, hv⟩ := hv
                      refine wb_if_lt X (tgt := 381) dL_rings_314 (by decide) (fun c => absurd c c77) (fun _ => ?_)
                      refine wb_goto X (tgt := 361) dL_rings_317 (by decide) ?_
                      refine wb_aload_n X 1 rfl dL_rings_361 rfl ?_
                      refine wb_iload X 6 rfl dL_rings_362 ?_
                      obtain ⟨o80, hv⟩ := hv
                      refine wb_callV1 X (As := [.inl r27]) (ok_Cq_priceAnew hw (v_Cq_priceAnew o80)) rfl b_nr_I hk_10 hc_10 rfl kw_1001 kw_21 kw_998 kw_999 kw_1000 nd_X10_priceAnew rfl rfl (Nat.le_of_ble_eq_true rfl) dL_rings_364 hs_1ne (by decide) ⟨⟨Nat.le_of_ble_eq_true rfl, Nat.le_of_ble_eq_true rfl⟩, Nat.le_of_ble_eq_true rfl, Nat.le_of_ble_eq_true rfl⟩ (fun v S78 h => ?_)
                      obtain ⟨hw, r79, rfl, g81⟩ := h
                      replace hv := hv r79 S78 g81
                      refine wb_aload_n X 1 rfl dL_rings_367 rfl ?_
                      refine wb_iload X 6 rfl dL_rings_368 ?_
                      refine wb_iconst X dL_rings_370 kc1 ?_
                      obtain ⟨o82, hv⟩ := hv
                      refine wb_callV1 X (As := [.inl r27, .inl (1 : Int32)]) (f_Cq_round hw o82) rfl b_nr_pI hk_10 hc_10 rfl kw_987 kw_21 kw_984 kw_985 kw_986 nd_X10_round rfl rfl (Nat.le_of_ble_eq_true rfl) dL_rings_371 hs_1ne (by decide) ⟨⟨Nat.le_of_ble_eq_true rfl, Nat.le_of_ble_eq_true rfl⟩, Nat.le_of_ble_eq_true rfl, Nat.le_of_ble_eq_true rfl⟩ (b_pdk1 ?_)
                      obtain ⟨c83, hv⟩ := hv
                      refine wb_icmp_ne X (tgt := 381) dL_rings_374 (by decide) (fun c => absurd c83 c) (fun _ => ?_)
                      refine wb_iconst X dL_rings_377 kc1 ?_
                      refine wb_goto X (tgt := 382) dL_rings_378 (by decide) ?_
                      exact wb_ireturn X E dL_rings_382 (Nat.le_of_ble_eq_true rfl) (Nat.le_of_ble_eq_true rfl) (Or.inr ⟨rfl, Or.inr rfl⟩) ⟨hw, hu, _, rfl, hv⟩
                  · replace hv := hv.2 c50
                    refine wb_iload X 7 rfl dL_rings_208 ?_
                    refine wb_aload_n X 0 rfl dL_rings_210 rfl ?_
                    refine wb_iload X 8 rfl dL_rings_211 ?_
                    refine wb_iload X 2 rfl dL_rings_213 ?_
                    obtain ⟨o84, hv⟩ := hv
                    refine wb_callV1 X (As := [.inl x41, .inl (F_L_some a5 (2 : Int32))]) (f_Cq_due hw o84) rfl b_nr_pI hk_10 hc_10 rfl kw_462 kw_21 kw_459 kw_460 kw_461 nd_X10_due rfl rfl (Nat.le_of_ble_eq_true rfl) dL_rings_215 hs_1ne (by decide) ⟨⟨Nat.le_of_ble_eq_true rfl, Nat.le_of_ble_eq_true rfl⟩, Nat.le_of_ble_eq_true rfl, Nat.le_of_ble_eq_true rfl⟩ (b_pdk1 ?_)
                    refine wb_iadd X dL_rings_218 ?_
                    refine wb_istore X (lv' := [(13, .inl (x40 + (F_Ldg_dueOf x41 (F_L_some a5 (2 : Int32)) S25))), (0, .inr (.inr (10, 1))), (3, .inl a4), (5, .inl (F_L_some a5 (2 : Int32))), (7, .inr (.inl x3)), (9, .inl x14), (10, .inl r27), (11, .inr (.inl x29)), (14, .inl x41)]) dL_rings_219 (by decide) rfl ?_
                    refine wb_iinc X (v := (x41 + 1)) (lv' := [(14, .inl (x41 + 1)), (13, .inl (x40 + (F_Ldg_dueOf x41 (F_L_some a5 (2 : Int32)) S25))), (0, .inr (.inr (10, 1))), (3, .inl a4), (5, .inl (F_L_some a5 (2 : Int32))), (7, .inr (.inl x3)), (9, .inl x14), (10, .inl r27), (11, .inr (.inl x29))]) 8 rfl dL_rings_221 rfl (by decide) rfl ?_
                    refine wb_goto X (tgt := 201) dL_rings_224 (by decide) ?_
                    obtain ⟨q85, p86, hv⟩ := hv
                    refine wb_lv (lv' := [(0, .inr (.inr (10, 1))), (3, .inl a4), (5, .inl (F_L_some a5 (2 : Int32))), (7, .inr (.inl x3)), (9, .inl x14), (10, .inl r27), (11, .inr (.inl x29)), (13, .inl (x40 + (F_Ldg_dueOf x41 (F_L_some a5 (2 : Int32)) S25))), (14, .inl (x41 + 1))]) [2, 3, 4, 5, 6, 7, 8, 1, 0] rfl ?_
                    exact h48 q85 p86 _ _ hv
              · replace hv := hv.2 c39
                refine wb_lload X 7 rfl dL_rings_177 ?_
                refine wb_aload_n X 0 rfl dL_rings_179 rfl ?_
                refine wb_iload X 8 rfl dL_rings_180 ?_
                obtain ⟨o87, hv⟩ := hv
                refine wb_callV1 X (As := [.inl x30]) (f_Cq_got hw o87) rfl b_nr_pI hk_10 hc_10 rfl kw_1005 kw_21 kw_1002 kw_1003 kw_1004 nd_X10_got rfl rfl (Nat.le_of_ble_eq_true rfl) dL_rings_182 hs_1ne (by decide) ⟨⟨Nat.le_of_ble_eq_true rfl, Nat.le_of_ble_eq_true rfl⟩, Nat.le_of_ble_eq_true rfl, Nat.le_of_ble_eq_true rfl⟩ (b_pdk1 ?_)
                refine wb_i2l X dL_rings_185 ?_
                refine wb_ladd X dL_rings_186 ?_
                refine wb_lstore X (lv' := [(11, .inr (.inl (x29 + (F_Cq_got x30 S25).toInt64))), (0, .inr (.inr (10, 1))), (2, .inl a3), (3, .inl a4), (5, .inl (F_L_some a5 (2 : Int32))), (7, .inr (.inl x3)), (9, .inl x14), (10, .inl r27), (13, .inl x30)]) dL_rings_187 (by decide) rfl ?_
                refine wb_iinc X (v := (x30 + 1)) (lv' := [(13, .inl (x30 + 1)), (11, .inr (.inl (x29 + (F_Cq_got x30 S25).toInt64))), (0, .inr (.inr (10, 1))), (2, .inl a3), (3, .inl a4), (5, .inl (F_L_some a5 (2 : Int32))), (7, .inr (.inl x3)), (9, .inl x14), (10, .inl r27)]) 8 rfl dL_rings_189 rfl (by decide) rfl ?_
                refine wb_goto X (tgt := 171) dL_rings_192 (by decide) ?_
                obtain ⟨q88, p89, hv⟩ := hv
                refine wb_lv (lv' := [(0, .inr (.inr (10, 1))), (2, .inl a3), (3, .inl a4), (5, .inl (F_L_some a5 (2 : Int32))), (7, .inr (.inl x3)), (9, .inl x14), (10, .inl r27), (11, .inr (.inl (x29 + (F_Cq_got x30 S25).toInt64))), (13, .inl (x30 + 1))]) [2, 3, 4, 5, 6, 7, 8, 1, 0] rfl ?_
                exact h37 q88 p89 _ _ hv
          · replace hv := hv.2 c28
            refine wb_iload X 0 rfl dL_rings_111 ?_
            refine wb_iconst X dL_rings_113 kcm1 ?_
            obtain ⟨c90, hv⟩ := hv
            refine wb_icmp_ne X (tgt := 163) dL_rings_114 (by decide) (fun c => absurd c90 c) (fun _ => ?_)
            refine wb_aload_n X 1 rfl dL_rings_117 rfl ?_
            refine wb_iload X 5 rfl dL_rings_118 ?_
            obtain ⟨o91, hv⟩ := hv
            refine wb_callV1 X (As := [.inl (F_L_some a5 (2 : Int32))]) (f_Cq_isFrozen hw o91) rfl b_nr_pI hk_10 hc_10 rfl kw_983 kw_21 kw_980 kw_981 kw_982 nd_X10_isFrozen rfl rfl (Nat.le_of_ble_eq_true rfl) dL_rings_120 hs_1ne (by decide) ⟨⟨Nat.le_of_ble_eq_true rfl, Nat.le_of_ble_eq_true rfl⟩, Nat.le_of_ble_eq_true rfl, Nat.le_of_ble_eq_true rfl⟩ (b_pdk1 ?_)
            obtain ⟨c92, hv⟩ := hv
            refine wb_if_eq X (tgt := 163) dL_rings_123 (by decide) (fun c => absurd c c92) (fun _ => ?_)
            refine wb_aload_n X 1 rfl dL_rings_126 rfl ?_
            refine wb_aload_n X 2 rfl dL_rings_127 rfl ?_
            refine wb_bipush X dL_rings_128 kb10 ?_
            refine wb_iconst X dL_rings_130 kc1 ?_
            refine wb_iconst X dL_rings_131 kc2 ?_
            refine wb_iload X 5 rfl dL_rings_132 ?_
            refine wb_imul X dL_rings_134 ?_
            refine wb_ldc X kw_1103 dL_rings_135 ?_
            refine wb_callB X (As := [.inr (.inr (10, 1)), .inr (.inr (210, 1)), .inl (10 : Int32), .inl (1 : Int32), .inl ((2 : Int32) * (F_L_some a5 (2 : Int32))), .inl (49155 : Int32)]) (hv hw hu) kw_1081 kw_20 kw_1079 kw_1080 nd_L_both rfl rfl (Nat.le_of_ble_eq_true rfl) dL_rings_137 ⟨⟨Nat.le_of_ble_eq_true rfl, Nat.le_of_ble_eq_true rfl⟩, Nat.le_of_ble_eq_true rfl, Nat.le_of_ble_eq_true rfl⟩ (fun v SS93 h => ?_)
            obtain ⟨S93, U94⟩ := SS93
            obtain ⟨hw, hu, r95, rfl, hv⟩ := h
            refine wb_ldc X kw_1065 dL_rings_140 ?_
            obtain ⟨c96, hv⟩ := hv
            refine wb_icmp_ne X (tgt := 163) dL_rings_142 (by decide) (fun c => absurd c96 c) (fun _ => ?_)
            refine wb_aload_n X 1 rfl dL_rings_145 rfl ?_
            refine wb_bipush X dL_rings_146 kb15 ?_
            refine wb_iload_n X 4 rfl dL_rings_148 rfl ?_
            refine wb_iconst X dL_rings_149 kc0 ?_
            refine wb_iconst X dL_rings_150 kc0 ?_
            refine wb_callW1 X (As := [.inr (.inr (10, 1)), .inl (15 : Int32), .inl a4, .inl (0 : Int32), .inl (0 : Int32)]) (hv hw) rfl b_nr_I kw_507 kw_20 kw_505 kw_506 nd_L_call rfl rfl (Nat.le_of_ble_eq_true rfl) dL_rings_151 ⟨⟨Nat.le_of_ble_eq_true rfl, Nat.le_of_ble_eq_true rfl⟩, Nat.le_of_ble_eq_true rfl, Nat.le_of_ble_eq_true rfl⟩ (fun v S97 h => ?_)
            obtain ⟨hw, r98, rfl, hv⟩ := h
            refine wb_ldc X kw_1063 dL_rings_154 ?_
            obtain ⟨c99, hv⟩ := hv
            refine wb_icmp_ne X (tgt := 163) dL_rings_156 (by decide) (fun c => absurd c99 c) (fun _ => ?_)
            refine wb_iconst X dL_rings_159 kc1 ?_
            refine wb_goto X (tgt := 164) dL_rings_160 (by decide) ?_
            exact wb_ireturn X E dL_rings_164 (Nat.le_of_ble_eq_true rfl) (Nat.le_of_ble_eq_true rfl) (Or.inr ⟨rfl, Or.inr rfl⟩) ⟨hw, hu, _, rfl, hv⟩
        · replace hv := hv.2 c24
          refine wb_iload X 7 rfl dL_rings_59 ?_
          refine wb_aload_n X 0 rfl dL_rings_61 rfl ?_
          refine wb_iload X 8 rfl dL_rings_62 ?_
          refine wb_iload X 4 rfl dL_rings_64 ?_
          obtain ⟨o100, hv⟩ := hv
          refine wb_callV1 X (As := [.inl x15, .inl (F_L_some a5 (2 : Int32))]) (f_Cq_due hw o100) rfl b_nr_pI hk_10 hc_10 rfl kw_462 kw_21 kw_459 kw_460 kw_461 nd_X10_due rfl rfl (Nat.le_of_ble_eq_true rfl) dL_rings_66 hs_1ne (by decide) ⟨⟨Nat.le_of_ble_eq_true rfl, Nat.le_of_ble_eq_true rfl⟩, Nat.le_of_ble_eq_true rfl, Nat.le_of_ble_eq_true rfl⟩ (b_pdk1 ?_)
          refine wb_if_le X (tgt := 83) dL_rings_69 (by decide) (fun c101 => ?_) (fun c101 => ?_)
          · replace hv := hv.1 c101
            refine wb_iconst X dL_rings_83 kc0 ?_
            refine wb_iadd X dL_rings_84 ?_
            refine wb_istore X (lv' := [(9, .inl (x14 + (0 : Int32))), (0, .inr (.inr (10, 1))), (1, .inr (.inr (210, 1))), (2, .inl a3), (3, .inl a4), (5, .inl (F_L_some a5 (2 : Int32))), (6, .inl (F_Cq_isFrozen (F_L_some a5 (2 : Int32)) S)), (7, .inr (.inl x3)), (10, .inl x15)]) dL_rings_85 (by decide) rfl ?_
            refine wb_iinc X (v := (x15 + 1)) (lv' := [(10, .inl (x15 + 1)), (9, .inl (x14 + (0 : Int32))), (0, .inr (.inr (10, 1))), (1, .inr (.inr (210, 1))), (2, .inl a3), (3, .inl a4), (5, .inl (F_L_some a5 (2 : Int32))), (6, .inl (F_Cq_isFrozen (F_L_some a5 (2 : Int32)) S)), (7, .inr (.inl x3))]) 8 rfl dL_rings_87 rfl (by decide) rfl ?_
            refine wb_goto X (tgt := 52) dL_rings_90 (by decide) ?_
            obtain ⟨q102, p103, hv⟩ := hv
            refine wb_lv (lv' := [(0, .inr (.inr (10, 1))), (1, .inr (.inr (210, 1))), (2, .inl a3), (3, .inl a4), (5, .inl (F_L_some a5 (2 : Int32))), (6, .inl (F_Cq_isFrozen (F_L_some a5 (2 : Int32)) S)), (7, .inr (.inl x3)), (9, .inl (x14 + (0 : Int32))), (10, .inl (x15 + 1))]) [2, 3, 4, 5, 6, 7, 8, 1, 0] rfl ?_
            exact h22 q102 p103 _ _ hv
          · replace hv := hv.2 c101
            refine wb_aload_n X 0 rfl dL_rings_72 rfl ?_
            refine wb_iload X 8 rfl dL_rings_73 ?_
            refine wb_iload X 4 rfl dL_rings_75 ?_
            refine wb_callV1 X (As := [.inl x15, .inl (F_L_some a5 (2 : Int32))]) (f_Cq_due hw o100) rfl b_nr_pI hk_10 hc_10 rfl kw_462 kw_21 kw_459 kw_460 kw_461 nd_X10_due rfl rfl (Nat.le_of_ble_eq_true rfl) dL_rings_77 hs_1ne (by decide) ⟨⟨Nat.le_of_ble_eq_true rfl, Nat.le_of_ble_eq_true rfl⟩, Nat.le_of_ble_eq_true rfl, Nat.le_of_ble_eq_true rfl⟩ (b_pdk1 ?_)
            refine wb_goto X (tgt := 84) dL_rings_80 (by decide) ?_
            refine wb_iadd X dL_rings_84 ?_
            refine wb_istore X (lv' := [(9, .inl (x14 + (F_Ldg_dueOf x15 (F_L_some a5 (2 : Int32)) S))), (0, .inr (.inr (10, 1))), (1, .inr (.inr (210, 1))), (2, .inl a3), (3, .inl a4), (5, .inl (F_L_some a5 (2 : Int32))), (6, .inl (F_Cq_isFrozen (F_L_some a5 (2 : Int32)) S)), (7, .inr (.inl x3)), (10, .inl x15)]) dL_rings_85 (by decide) rfl ?_
            refine wb_iinc X (v := (x15 + 1)) (lv' := [(10, .inl (x15 + 1)), (9, .inl (x14 + (F_Ldg_dueOf x15 (F_L_some a5 (2 : Int32)) S))), (0, .inr (.inr (10, 1))), (1, .inr (.inr (210, 1))), (2, .inl a3), (3, .inl a4), (5, .inl (F_L_some a5 (2 : Int32))), (6, .inl (F_Cq_isFrozen (F_L_some a5 (2 : Int32)) S)), (7, .inr (.inl x3))]) 8 rfl dL_rings_87 rfl (by decide) rfl ?_
            refine wb_goto X (tgt := 52) dL_rings_90 (by decide) ?_
            obtain ⟨q104, p105, hv⟩ := hv
            refine wb_lv (lv' := [(0, .inr (.inr (10, 1))), (1, .inr (.inr (210, 1))), (2, .inl a3), (3, .inl a4), (5, .inl (F_L_some a5 (2 : Int32))), (6, .inl (F_Cq_isFrozen (F_L_some a5 (2 : Int32)) S)), (7, .inr (.inl x3)), (9, .inl (x14 + (F_Ldg_dueOf x15 (F_L_some a5 (2 : Int32)) S))), (10, .inl (x15 + 1))]) [2, 3, 4, 5, 6, 7, 8, 1, 0] rfl ?_
            exact h22 q104 p105 _ _ hv
    · replace hv := hv.2 c13
      refine wb_lload X 6 rfl dL_rings_28 ?_
      refine wb_aload_n X 0 rfl dL_rings_30 rfl ?_
      refine wb_iload X 7 rfl dL_rings_31 ?_
      obtain ⟨o106, hv⟩ := hv
      refine wb_callV1 X (As := [.inl x4]) (f_Cq_got hw o106) rfl b_nr_pI hk_10 hc_10 rfl kw_1005 kw_21 kw_1002 kw_1003 kw_1004 nd_X10_got rfl rfl (Nat.le_of_ble_eq_true rfl) dL_rings_33 hs_1ne (by decide) ⟨⟨Nat.le_of_ble_eq_true rfl, Nat.le_of_ble_eq_true rfl⟩, Nat.le_of_ble_eq_true rfl, Nat.le_of_ble_eq_true rfl⟩ (b_pdk1 ?_)
      refine wb_i2l X dL_rings_36 ?_
      refine wb_ladd X dL_rings_37 ?_
      refine wb_lstore X (lv' := [(7, .inr (.inl (x3 + (F_Cq_got x4 S).toInt64))), (0, .inr (.inr (10, 1))), (1, .inr (.inr (210, 1))), (2, .inl a3), (3, .inl a4), (5, .inl (F_L_some a5 (2 : Int32))), (6, .inl (F_Cq_isFrozen (F_L_some a5 (2 : Int32)) S)), (9, .inl x4)]) dL_rings_38 (by decide) rfl ?_
      refine wb_iinc X (v := (x4 + 1)) (lv' := [(9, .inl (x4 + 1)), (7, .inr (.inl (x3 + (F_Cq_got x4 S).toInt64))), (0, .inr (.inr (10, 1))), (1, .inr (.inr (210, 1))), (2, .inl a3), (3, .inl a4), (5, .inl (F_L_some a5 (2 : Int32))), (6, .inl (F_Cq_isFrozen (F_L_some a5 (2 : Int32)) S))]) 7 rfl dL_rings_40 rfl (by decide) rfl ?_
      refine wb_goto X (tgt := 22) dL_rings_43 (by decide) ?_
      obtain ⟨q107, p108, hv⟩ := hv
      refine wb_lv (lv' := [(0, .inr (.inr (10, 1))), (1, .inr (.inr (210, 1))), (2, .inl a3), (3, .inl a4), (5, .inl (F_L_some a5 (2 : Int32))), (6, .inl (F_Cq_isFrozen (F_L_some a5 (2 : Int32)) S)), (7, .inr (.inl (x3 + (F_Cq_got x4 S).toInt64))), (9, .inl (x4 + 1))]) [2, 3, 4, 5, 6, 7, 1, 0] rfl ?_
      exact h11 q107 p108 _ _ hv

def m_L_strikes (a3 : Int32) (a4 : Int32) (a5 : Int32) (a6 : Int32) (S U : hs_S) (Q : Int32 → hs_S → hs_S → Prop) : Prop := b_M 59 yL_strikes (.code yL_strikes cL_strikes 16 (some FieldType.boolean)) [.inr (.inr (10, 1)), .inr (.inr (210, 1)), .inl a3, .inl a4, .inl a5, .inl a6] (S, U) 44 952 (b_qI Q)
def vc_L_strikes (a3 : Int32) (a4 : Int32) (a5 : Int32) (a6 : Int32) (S U : hs_S) (Q : Int32 → hs_S → hs_S → Prop) : Prop := ((P_L_some a6 (2 : Int32) S) ∧ (∀ x2 : Int32, x2 = (if (F_L_some a6 (2 : Int32)) = 0 then (1 : Int32) else (0 : Int32)) → (∀ x3 : Int32, x3 = (if x2 = 0 then a4 else a3) → ((P_L_some (a6 >>> ((2 : Int32) &&& 31)) (x3 + (1 : Int32)) S) ∧ (hs_Wi S → m_L_all a4 a5 S (fun r6 S5 => (∀ x7 : Int32, x7 = (if x2 = 0 then (23 : Int32) else (24 : Int32)) → (hs_Wi S5 → hs_Wi U → m_L_both x7 (F_L_some (a6 >>> ((2 : Int32) &&& 31)) (x3 + (1 : Int32))) (0 : Int32) (0 : Int32) S5 U (fun r10 S8 U9 => ((0 ≤ r10 → (∃ I15 : Nat → Int32 → Int32 → Int32 → Prop, (∃ n19, I15 n19 (0 : Int32) (0 : Int32) (0 : Int32)) ∧ (∀ N16 : Nat, ∀ x12 : Int32, ∀ x13 : Int32, ∀ x14 : Int32, I15 N16 x12 x13 x14 → (((6 : Int32) ≤ x14 → (¬ a5 < r10 ∧ ((F_C_events S8) = ((F_C_events S5) + (1 : Int32)) ∧ (x12 = 0 ∧ (x13 = 0 ∧ ((¬ x2 = 0 → (∀ x29 : Int32, x29 = (if x2 = 0 then (23 : Int32) else (24 : Int32)) → (hs_Wi S8 → hs_Wi U9 → m_L_both x29 (F_L_some (a6 >>> ((2 : Int32) &&& 31)) (x3 + (1 : Int32))) (0 : Int32) (0 : Int32) S8 U9 (fun r32 S30 U31 => (r32 = (-2100000003 : Int32) ∧ ((0 < r10 → (Q (1 : Int32) S30 U31)) ∧ (¬ 0 < r10 → ((¬ x2 = 0 → (Q (1 : Int32) S30 U31)) ∧ (x2 = 0 → (¬ a5 ≤ 0 ∧ (Q (1 : Int32) S30 U31))))))))))) ∧ (x2 = 0 → ((P_Cq_got (F_L_some (a6 >>> ((2 : Int32) &&& 31)) (x3 + (1 : Int32))) S8) ∧ ((F_Cq_got (F_L_some (a6 >>> ((2 : Int32) &&& 31)) (x3 + (1 : Int32))) S8) = 0 ∧ (∀ x42 : Int32, x42 = (if x2 = 0 then (23 : Int32) else (24 : Int32)) → (hs_Wi S8 → hs_Wi U9 → m_L_both x42 (F_L_some (a6 >>> ((2 : Int32) &&& 31)) (x3 + (1 : Int32))) (0 : Int32) (0 : Int32) S8 U9 (fun r45 S43 U44 => (r45 = (-2100000003 : Int32) ∧ ((0 < r10 → (Q (1 : Int32) S43 U44)) ∧ (¬ 0 < r10 → ((¬ x2 = 0 → (Q (1 : Int32) S43 U44)) ∧ (x2 = 0 → (¬ a5 ≤ 0 ∧ (Q (1 : Int32) S43 U44))))))))))))))))))) ∧ (¬ (6 : Int32) ≤ x14 → ((P_Cq_due x14 (0 : Int32) S8) ∧ ((P_Cq_due x14 (1 : Int32) S8) ∧ ((P_Cq_cash x14 S8) ∧ (∃ q56, q56 < N16 ∧ I15 q56 (x12 + ((F_Ldg_dueOf x14 (0 : Int32) S8) + (F_Ldg_dueOf x14 (1 : Int32) S8))) (x13 + (F_Cq_cash x14 S8)) (x14 + 1)))))))))) ∧ (¬ 0 ≤ r10 → (hs_Wi S8 → m_L_all a4 a5 S8 (fun r59 S58 => ((lg_cmp r59 r6) = 0 ∧ ((¬ (F_L_some (a6 >>> ((2 : Int32) &&& 31)) (x3 + (1 : Int32))) = x3 → (r10 = (-2100000003 : Int32) ∧ (Q (1 : Int32) S58 U9))) ∧ ((F_L_some (a6 >>> ((2 : Int32) &&& 31)) (x3 + (1 : Int32))) = x3 → (r10 = (-2100000001 : Int32) ∧ (Q (1 : Int32) S58 U9))))))))))))))))))
set_option maxRecDepth 100000 in
set_option maxHeartbeats 4000000 in
theorem ok_L_strikes {a3 : Int32} {a4 : Int32} {a5 : Int32} {a6 : Int32} {S U : hs_S} {Q : Int32 → hs_S → hs_S → Prop} (hw : hs_Wi S) (hu : hs_Wi U) (hv : vc_L_strikes a3 a4 a5 a6 S U Q) : m_L_strikes a3 a4 a5 a6 S U Q := by
  unfold vc_L_strikes at hv
  refine b_body (own := RL) rfl rfl (Nat.le_of_ble_eq_true rfl) (fun Z X E => ?_)
  show wb Z 0 0 (S, U) 0 [(0, .inr (.inr (10, 1))), (1, .inr (.inr (210, 1))), (2, .inl a3), (3, .inl a4), (4, .inl a5), (5, .inl a6)] []
  refine wb_iload X 5 rfl dL_strikes_0 ?_
  refine wb_iconst X dL_strikes_2 kc2 ?_
  obtain ⟨o1, hv⟩ := hv
  refine wb_callS1 X (As := [.inl a6, .inl (2 : Int32)]) (f_L_some hw o1) rfl b_nr_pI kw_504 kw_20 kw_502 kw_503 nd_L_some rfl rfl (Nat.le_of_ble_eq_true rfl) dL_strikes_3 ⟨⟨Nat.le_of_ble_eq_true rfl, Nat.le_of_ble_eq_true rfl⟩, Nat.le_of_ble_eq_true rfl, Nat.le_of_ble_eq_true rfl⟩ (b_pdk1 ?_)
  have k70 : ∀ (x2 : Int32), x2 = (if (F_L_some a6 (2 : Int32)) = 0 then (1 : Int32) else (0 : Int32)) → wb Z 0 0 (S, U) 14 [(0, .inr (.inr (10, 1))), (1, .inr (.inr (210, 1))), (2, .inl a3), (3, .inl a4), (4, .inl a5), (5, .inl a6)] [.inl x2] := by
    intro x2 hE
    replace hv := hv _ hE
    refine wb_istore X (lv' := [(6, .inl x2), (0, .inr (.inr (10, 1))), (1, .inr (.inr (210, 1))), (2, .inl a3), (3, .inl a4), (4, .inl a5), (5, .inl a6)]) dL_strikes_14 (by decide) rfl ?_
    refine wb_iload X 0 rfl dL_strikes_16 ?_
    have k67 : ∀ (x3 : Int32), x3 = (if x2 = 0 then a4 else a3) → wb Z 0 0 (S, U) 26 [(0, .inr (.inr (10, 1))), (1, .inr (.inr (210, 1))), (3, .inl a4), (4, .inl a5), (5, .inl a6), (6, .inl x2)] [.inl x3] := by
      intro x3 hE
      replace hv := hv _ hE
      refine wb_istore X (lv' := [(7, .inl x3), (0, .inr (.inr (10, 1))), (1, .inr (.inr (210, 1))), (3, .inl a4), (4, .inl a5), (5, .inl a6), (6, .inl x2)]) dL_strikes_26 (by decide) rfl ?_
      refine wb_iload X 5 rfl dL_strikes_28 ?_
      refine wb_iconst X dL_strikes_30 kc2 ?_
      refine wb_ishr X dL_strikes_31 ?_
      refine wb_iload X 0 rfl dL_strikes_32 ?_
      refine wb_iconst X dL_strikes_34 kc1 ?_
      refine wb_iadd X dL_strikes_35 ?_
      obtain ⟨o4, hv⟩ := hv
      refine wb_callS1 X (As := [.inl (a6 >>> ((2 : Int32) &&& 31)), .inl (x3 + (1 : Int32))]) (f_L_some hw o4) rfl b_nr_pI kw_504 kw_20 kw_502 kw_503 nd_L_some rfl rfl (Nat.le_of_ble_eq_true rfl) dL_strikes_36 ⟨⟨Nat.le_of_ble_eq_true rfl, Nat.le_of_ble_eq_true rfl⟩, Nat.le_of_ble_eq_true rfl, Nat.le_of_ble_eq_true rfl⟩ (b_pdk1 ?_)
      refine wb_istore X (lv' := [(8, .inl (F_L_some (a6 >>> ((2 : Int32) &&& 31)) (x3 + (1 : Int32)))), (7, .inl x3), (0, .inr (.inr (10, 1))), (1, .inr (.inr (210, 1))), (3, .inl a4), (4, .inl a5), (5, .inl a6), (6, .inl x2)]) dL_strikes_39 (by decide) rfl ?_
      refine wb_aload_n X 2 rfl dL_strikes_41 rfl ?_
      refine wb_iload_n X 4 rfl dL_strikes_42 rfl ?_
      refine wb_iload X 5 rfl dL_strikes_43 ?_
      refine wb_callS1 X (As := [.inr (.inr (10, 1)), .inl a4, .inl a5]) (hv hw) rfl b_nr_L kw_1068 kw_20 kw_1066 kw_1067 nd_L_all rfl rfl (Nat.le_of_ble_eq_true rfl) dL_strikes_45 ⟨⟨Nat.le_of_ble_eq_true rfl, Nat.le_of_ble_eq_true rfl⟩, Nat.le_of_ble_eq_true rfl, Nat.le_of_ble_eq_true rfl⟩ (fun v S5 h => ?_)
      obtain ⟨hw, r6, rfl, hv⟩ := h
      refine wb_lstore X (lv' := [(9, .inr (.inl r6)), (8, .inl (F_L_some (a6 >>> ((2 : Int32) &&& 31)) (x3 + (1 : Int32)))), (7, .inl x3), (0, .inr (.inr (10, 1))), (1, .inr (.inr (210, 1))), (3, .inl a4), (4, .inl a5), (5, .inl a6), (6, .inl x2)]) dL_strikes_48 (by decide) rfl ?_
      refine wb_aload_n X 3 rfl dL_strikes_50 rfl ?_
      refine wb_callV1 X (As := []) (f_C_events hw) rfl b_nr_pI hk_10 hc_10 rfl kw_1072 kw_21 kw_1069 kw_1070 kw_1071 nd_X10_events rfl rfl (Nat.le_of_ble_eq_true rfl) dL_strikes_51 hs_1ne (by decide) ⟨⟨Nat.le_of_ble_eq_true rfl, Nat.le_of_ble_eq_true rfl⟩, Nat.le_of_ble_eq_true rfl, Nat.le_of_ble_eq_true rfl⟩ (b_pdk1 ?_)
      refine wb_istore X (lv' := [(11, .inl (F_C_events S5)), (9, .inr (.inl r6)), (8, .inl (F_L_some (a6 >>> ((2 : Int32) &&& 31)) (x3 + (1 : Int32)))), (7, .inl x3), (0, .inr (.inr (10, 1))), (1, .inr (.inr (210, 1))), (3, .inl a4), (4, .inl a5), (5, .inl a6), (6, .inl x2)]) dL_strikes_54 (by decide) rfl ?_
      refine wb_aload_n X 4 rfl dL_strikes_56 rfl ?_
      refine wb_aload_n X 5 rfl dL_strikes_57 rfl ?_
      refine wb_iload X 9 rfl dL_strikes_58 ?_
      have k64 : ∀ (x7 : Int32), x7 = (if x2 = 0 then (23 : Int32) else (24 : Int32)) → wb Z 0 0 (S5, U) 70 [(0, .inr (.inr (10, 1))), (1, .inr (.inr (210, 1))), (3, .inl a4), (4, .inl a5), (6, .inl x2), (7, .inl x3), (8, .inl (F_L_some (a6 >>> ((2 : Int32) &&& 31)) (x3 + (1 : Int32)))), (9, .inr (.inl r6)), (11, .inl (F_C_events S5))] [.inl x7, .inr (.inr (210, 1)), .inr (.inr (10, 1))] := by
        intro x7 hE
        replace hv := hv _ hE
        refine wb_iload X 6 rfl dL_strikes_70 ?_
        refine wb_iconst X dL_strikes_72 kc0 ?_
        refine wb_iconst X dL_strikes_73 kc0 ?_
        refine wb_callB X (As := [.inr (.inr (10, 1)), .inr (.inr (210, 1)), .inl x7, .inl (F_L_some (a6 >>> ((2 : Int32) &&& 31)) (x3 + (1 : Int32))), .inl (0 : Int32), .inl (0 : Int32)]) (hv hw hu) kw_1081 kw_20 kw_1079 kw_1080 nd_L_both rfl rfl (Nat.le_of_ble_eq_true rfl) dL_strikes_74 ⟨⟨Nat.le_of_ble_eq_true rfl, Nat.le_of_ble_eq_true rfl⟩, Nat.le_of_ble_eq_true rfl, Nat.le_of_ble_eq_true rfl⟩ (fun v SS8 h => ?_)
        obtain ⟨S8, U9⟩ := SS8
        obtain ⟨hw, hu, r10, rfl, hv⟩ := h
        refine wb_istore X (lv' := [(12, .inl r10), (0, .inr (.inr (10, 1))), (1, .inr (.inr (210, 1))), (3, .inl a4), (4, .inl a5), (6, .inl x2), (7, .inl x3), (8, .inl (F_L_some (a6 >>> ((2 : Int32) &&& 31)) (x3 + (1 : Int32)))), (9, .inr (.inl r6)), (11, .inl (F_C_events S5))]) dL_strikes_77 (by decide) rfl ?_
        refine wb_iload X 0 rfl dL_strikes_79 ?_
        refine wb_if_ge X (tgt := 127) dL_strikes_81 (by decide) (fun c11 => ?_) (fun c11 => ?_)
        · replace hv := hv.1 c11
          refine wb_iconst X dL_strikes_127 kc0 ?_
          refine wb_istore X (lv' := [(13, .inl (0 : Int32)), (12, .inl r10), (0, .inr (.inr (10, 1))), (1, .inr (.inr (210, 1))), (3, .inl a4), (4, .inl a5), (6, .inl x2), (7, .inl x3), (8, .inl (F_L_some (a6 >>> ((2 : Int32) &&& 31)) (x3 + (1 : Int32)))), (9, .inr (.inl r6)), (11, .inl (F_C_events S5))]) dL_strikes_128 (by decide) rfl ?_
          refine wb_iconst X dL_strikes_130 kc0 ?_
          refine wb_istore X (lv' := [(14, .inl (0 : Int32)), (13, .inl (0 : Int32)), (12, .inl r10), (0, .inr (.inr (10, 1))), (1, .inr (.inr (210, 1))), (3, .inl a4), (4, .inl a5), (6, .inl x2), (7, .inl x3), (8, .inl (F_L_some (a6 >>> ((2 : Int32) &&& 31)) (x3 + (1 : Int32)))), (9, .inr (.inl r6)), (11, .inl (F_C_events S5))]) dL_strikes_131 (by decide) rfl ?_
          refine wb_iconst X dL_strikes_133 kc0 ?_
          refine wb_istore X (lv' := [(15, .inl (0 : Int32)), (14, .inl (0 : Int32)), (13, .inl (0 : Int32)), (12, .inl r10), (0, .inr (.inr (10, 1))), (1, .inr (.inr (210, 1))), (3, .inl a4), (4, .inl a5), (6, .inl x2), (7, .inl x3), (8, .inl (F_L_some (a6 >>> ((2 : Int32) &&& 31)) (x3 + (1 : Int32)))), (9, .inr (.inl r6)), (11, .inl (F_C_events S5))]) dL_strikes_134 (by decide) rfl ?_
          obtain ⟨I15, ⟨n19, i17⟩, b18⟩ := hv
          refine wb_lv (lv' := [(0, .inr (.inr (10, 1))), (1, .inr (.inr (210, 1))), (4, .inl a5), (6, .inl x2), (8, .inl (F_L_some (a6 >>> ((2 : Int32) &&& 31)) (x3 + (1 : Int32)))), (11, .inl (F_C_events S5)), (12, .inl r10), (13, .inl (0 : Int32)), (14, .inl (0 : Int32)), (15, .inl (0 : Int32))]) [4, 5, 7, 8, 10, 12, 3, 2, 1, 0] rfl ?_
          suffices L20 : ∀ N16 : Nat, ∀ x12 : Int32, ∀ x13 : Int32, ∀ x14 : Int32, I15 N16 x12 x13 x14 → wb Z 22 476 (S8, U9) 136 [(0, .inr (.inr (10, 1))), (1, .inr (.inr (210, 1))), (4, .inl a5), (6, .inl x2), (8, .inl (F_L_some (a6 >>> ((2 : Int32) &&& 31)) (x3 + (1 : Int32)))), (11, .inl (F_C_events S5)), (12, .inl r10), (13, .inl x12), (14, .inl x13), (15, .inl x14)] [] from L20 _ _ _ _ i17
          clear i17
          intro N16
          induction N16 using Nat.strongRecOn with
          | _ N16 h21 =>
            intro x12 x13 x14 j22
            have hv := b18 N16 x12 x13 x14 j22
            refine wb_iload X 9 rfl dL_strikes_136 ?_
            refine wb_bipush X dL_strikes_138 kb6 ?_
            refine wb_icmp_ge X (tgt := 180) dL_strikes_140 (by decide) (fun c23 => ?_) (fun c23 => ?_)
            · replace hv := hv.1 c23
              refine wb_iload X 6 rfl dL_strikes_180 ?_
              refine wb_iload X 2 rfl dL_strikes_182 ?_
              obtain ⟨c24, hv⟩ := hv
              refine wb_icmp_gt X (tgt := 267) dL_strikes_184 (by decide) (fun c => absurd c c24) (fun _ => ?_)
              refine wb_aload_n X 0 rfl dL_strikes_187 rfl ?_
              refine wb_callV1 X (As := []) (f_C_events hw) rfl b_nr_pI hk_10 hc_10 rfl kw_1072 kw_21 kw_1069 kw_1070 kw_1071 nd_X10_events rfl rfl (Nat.le_of_ble_eq_true rfl) dL_strikes_188 hs_1ne (by decide) ⟨⟨Nat.le_of_ble_eq_true rfl, Nat.le_of_ble_eq_true rfl⟩, Nat.le_of_ble_eq_true rfl, Nat.le_of_ble_eq_true rfl⟩ (b_pdk1 ?_)
              refine wb_iload X 5 rfl dL_strikes_191 ?_
              refine wb_iconst X dL_strikes_193 kc1 ?_
              refine wb_iadd X dL_strikes_194 ?_
              obtain ⟨c25, hv⟩ := hv
              refine wb_icmp_ne X (tgt := 267) dL_strikes_195 (by decide) (fun c => absurd c25 c) (fun _ => ?_)
              refine wb_iload X 7 rfl dL_strikes_198 ?_
              obtain ⟨c26, hv⟩ := hv
              refine wb_if_ne X (tgt := 267) dL_strikes_200 (by decide) (fun c => absurd c26 c) (fun _ => ?_)
              refine wb_iload X 8 rfl dL_strikes_203 ?_
              obtain ⟨c27, hv⟩ := hv
              refine wb_if_ne X (tgt := 267) dL_strikes_205 (by decide) (fun c => absurd c27 c) (fun _ => ?_)
              refine wb_iload X 3 rfl dL_strikes_208 ?_
              refine wb_if_ne X (tgt := 222) dL_strikes_210 (by decide) (fun c28 => ?_) (fun c28 => ?_)
              · replace hv := hv.1 c28
                refine wb_aload_n X 0 rfl dL_strikes_222 rfl ?_
                refine wb_aload_n X 1 rfl dL_strikes_223 rfl ?_
                refine wb_iload X 3 rfl dL_strikes_224 ?_
                have k37 : ∀ (x29 : Int32), x29 = (if x2 = 0 then (23 : Int32) else (24 : Int32)) → wb Z 22 476 (S8, U9) 236 [(4, .inl a5), (6, .inl x2), (8, .inl (F_L_some (a6 >>> ((2 : Int32) &&& 31)) (x3 + (1 : Int32)))), (12, .inl r10)] [.inl x29, .inr (.inr (210, 1)), .inr (.inr (10, 1))] := by
                  intro x29 hE
                  replace hv := hv _ hE
                  refine wb_iload X 2 rfl dL_strikes_236 ?_
                  refine wb_iconst X dL_strikes_238 kc0 ?_
                  refine wb_iconst X dL_strikes_239 kc0 ?_
                  refine wb_callB X (As := [.inr (.inr (10, 1)), .inr (.inr (210, 1)), .inl x29, .inl (F_L_some (a6 >>> ((2 : Int32) &&& 31)) (x3 + (1 : Int32))), .inl (0 : Int32), .inl (0 : Int32)]) (hv hw hu) kw_1081 kw_20 kw_1079 kw_1080 nd_L_both rfl rfl (Nat.le_of_ble_eq_true rfl) dL_strikes_240 ⟨⟨Nat.le_of_ble_eq_true rfl, Nat.le_of_ble_eq_true rfl⟩, Nat.le_of_ble_eq_true rfl, Nat.le_of_ble_eq_true rfl⟩ (fun v SS30 h => ?_)
                  obtain ⟨S30, U31⟩ := SS30
                  obtain ⟨hw, hu, r32, rfl, hv⟩ := h
                  refine wb_ldc X kw_1065 dL_strikes_243 ?_
                  obtain ⟨c33, hv⟩ := hv
                  refine wb_icmp_ne X (tgt := 267) dL_strikes_245 (by decide) (fun c => absurd c33 c) (fun _ => ?_)
                  refine wb_iload X 3 rfl dL_strikes_248 ?_
                  refine wb_if_gt X (tgt := 263) dL_strikes_250 (by decide) (fun c34 => ?_) (fun c34 => ?_)
                  · replace hv := hv.1 c34
                    refine wb_iconst X dL_strikes_263 kc1 ?_
                    refine wb_goto X (tgt := 268) dL_strikes_264 (by decide) ?_
                    exact wb_ireturn X E dL_strikes_268 (Nat.le_of_ble_eq_true rfl) (Nat.le_of_ble_eq_true rfl) (Or.inr ⟨rfl, Or.inr rfl⟩) ⟨hw, hu, _, rfl, hv⟩
                  · replace hv := hv.2 c34
                    refine wb_iload X 1 rfl dL_strikes_253 ?_
                    refine wb_if_ne X (tgt := 263) dL_strikes_255 (by decide) (fun c35 => ?_) (fun c35 => ?_)
                    · replace hv := hv.1 c35
                      refine wb_iconst X dL_strikes_263 kc1 ?_
                      refine wb_goto X (tgt := 268) dL_strikes_264 (by decide) ?_
                      exact wb_ireturn X E dL_strikes_268 (Nat.le_of_ble_eq_true rfl) (Nat.le_of_ble_eq_true rfl) (Or.inr ⟨rfl, Or.inr rfl⟩) ⟨hw, hu, _, rfl, hv⟩
                    · replace hv := hv.2 c35
                      refine wb_iload X 0 rfl dL_strikes_258 ?_
                      obtain ⟨c36, hv⟩ := hv
                      refine wb_if_le X (tgt := 267) dL_strikes_260 (by decide) (fun c => absurd c c36) (fun _ => ?_)
                      refine wb_iconst X dL_strikes_263 kc1 ?_
                      refine wb_goto X (tgt := 268) dL_strikes_264 (by decide) ?_
                      exact wb_ireturn X E dL_strikes_268 (Nat.le_of_ble_eq_true rfl) (Nat.le_of_ble_eq_true rfl) (Or.inr ⟨rfl, Or.inr rfl⟩) ⟨hw, hu, _, rfl, hv⟩
                clear hv
                refine wb_if_eq X (tgt := 234) dL_strikes_226 (by decide) (fun c39 => ?_) (fun c39 => ?_)
                · refine wb_bipush X dL_strikes_234 kb23 ?_
                  refine wb_lv (lv' := [(4, .inl a5), (6, .inl x2), (8, .inl (F_L_some (a6 >>> ((2 : Int32) &&& 31)) (x3 + (1 : Int32)))), (12, .inl r10)]) [2, 3, 4, 6] rfl ?_
                  exact wb_wid (Nat.le_of_ble_eq_true rfl) (Nat.le_of_ble_eq_true rfl) (k37 _  (by rw [if_pos c39]))
                · refine wb_bipush X dL_strikes_229 kb24 ?_
                  refine wb_goto X (tgt := 236) dL_strikes_231 (by decide) ?_
                  refine wb_lv (lv' := [(4, .inl a5), (6, .inl x2), (8, .inl (F_L_some (a6 >>> ((2 : Int32) &&& 31)) (x3 + (1 : Int32)))), (12, .inl r10)]) [2, 3, 4, 6] rfl ?_
                  exact wb_wid (Nat.le_of_ble_eq_true rfl) (Nat.le_of_ble_eq_true rfl) (k37 _  (by rw [if_neg c39]))
              · replace hv := hv.2 c28
                refine wb_aload_n X 0 rfl dL_strikes_213 rfl ?_
                refine wb_iload X 4 rfl dL_strikes_214 ?_
                obtain ⟨o40, hv⟩ := hv
                refine wb_callV1 X (As := [.inl (F_L_some (a6 >>> ((2 : Int32) &&& 31)) (x3 + (1 : Int32)))]) (f_Cq_got hw o40) rfl b_nr_pI hk_10 hc_10 rfl kw_1005 kw_21 kw_1002 kw_1003 kw_1004 nd_X10_got rfl rfl (Nat.le_of_ble_eq_true rfl) dL_strikes_216 hs_1ne (by decide) ⟨⟨Nat.le_of_ble_eq_true rfl, Nat.le_of_ble_eq_true rfl⟩, Nat.le_of_ble_eq_true rfl, Nat.le_of_ble_eq_true rfl⟩ (b_pdk1 ?_)
                obtain ⟨c41, hv⟩ := hv
                refine wb_if_ne X (tgt := 267) dL_strikes_219 (by decide) (fun c => absurd c41 c) (fun _ => ?_)
                refine wb_aload_n X 0 rfl dL_strikes_222 rfl ?_
                refine wb_aload_n X 1 rfl dL_strikes_223 rfl ?_
                refine wb_iload X 3 rfl dL_strikes_224 ?_
                have k50 : ∀ (x42 : Int32), x42 = (if x2 = 0 then (23 : Int32) else (24 : Int32)) → wb Z 22 476 (S8, U9) 236 [(4, .inl a5), (6, .inl x2), (8, .inl (F_L_some (a6 >>> ((2 : Int32) &&& 31)) (x3 + (1 : Int32)))), (12, .inl r10)] [.inl x42, .inr (.inr (210, 1)), .inr (.inr (10, 1))] := by
                  intro x42 hE
                  replace hv := hv _ hE
                  refine wb_iload X 2 rfl dL_strikes_236 ?_
                  refine wb_iconst X dL_strikes_238 kc0 ?_
                  refine wb_iconst X dL_strikes_239 kc0 ?_
                  refine wb_callB X (As := [.inr (.inr (10, 1)), .inr (.inr (210, 1)), .inl x42, .inl (F_L_some (a6 >>> ((2 : Int32) &&& 31)) (x3 + (1 : Int32))), .inl (0 : Int32), .inl (0 : Int32)]) (hv hw hu) kw_1081 kw_20 kw_1079 kw_1080 nd_L_both rfl rfl (Nat.le_of_ble_eq_true rfl) dL_strikes_240 ⟨⟨Nat.le_of_ble_eq_true rfl, Nat.le_of_ble_eq_true rfl⟩, Nat.le_of_ble_eq_true rfl, Nat.le_of_ble_eq_true rfl⟩ (fun v SS43 h => ?_)
                  obtain ⟨S43, U44⟩ := SS43
                  obtain ⟨hw, hu, r45, rfl, hv⟩ := h
                  refine wb_ldc X kw_1065 dL_strikes_243 ?_
                  obtain ⟨c46, hv⟩ := hv
                  refine wb_icmp_ne X (tgt := 267) dL_strikes_245 (by decide) (fun c => absurd c46 c) (fun _ => ?_)
                  refine wb_iload X 3 rfl dL_strikes_248 ?_
                  refine wb_if_gt X (tgt := 263) dL_strikes_250 (by decide) (fun c47 => ?_) (fun c47 => ?_)
                  · replace hv := hv.1 c47
                    refine wb_iconst X dL_strikes_263 kc1 ?_
                    refine wb_goto X (tgt := 268) dL_strikes_264 (by decide) ?_
                    exact wb_ireturn X E dL_strikes_268 (Nat.le_of_ble_eq_true rfl) (Nat.le_of_ble_eq_true rfl) (Or.inr ⟨rfl, Or.inr rfl⟩) ⟨hw, hu, _, rfl, hv⟩
                  · replace hv := hv.2 c47
                    refine wb_iload X 1 rfl dL_strikes_253 ?_
                    refine wb_if_ne X (tgt := 263) dL_strikes_255 (by decide) (fun c48 => ?_) (fun c48 => ?_)
                    · replace hv := hv.1 c48
                      refine wb_iconst X dL_strikes_263 kc1 ?_
                      refine wb_goto X (tgt := 268) dL_strikes_264 (by decide) ?_
                      exact wb_ireturn X E dL_strikes_268 (Nat.le_of_ble_eq_true rfl) (Nat.le_of_ble_eq_true rfl) (Or.inr ⟨rfl, Or.inr rfl⟩) ⟨hw, hu, _, rfl, hv⟩
                    · replace hv := hv.2 c48
                      refine wb_iload X 0 rfl dL_strikes_258 ?_
                      obtain ⟨c49, hv⟩ := hv
                      refine wb_if_le X (tgt := 267) dL_strikes_260 (by decide) (fun c => absurd c c49) (fun _ => ?_)
                      refine wb_iconst X dL_strikes_263 kc1 ?_
                      refine wb_goto X (tgt := 268) dL_strikes_264 (by decide) ?_
                      exact wb_ireturn X E dL_strikes_268 (Nat.le_of_ble_eq_true rfl) (Nat.le_of_ble_eq_true rfl) (Or.inr ⟨rfl, Or.inr rfl⟩) ⟨hw, hu, _, rfl, hv⟩
                clear hv
                refine wb_if_eq X (tgt := 234) dL_strikes_226 (by decide) (fun c52 => ?_) (fun c52 => ?_)
                · refine wb_bipush X dL_strikes_234 kb23 ?_
                  refine wb_lv (lv' := [(4, .inl a5), (6, .inl x2), (8, .inl (F_L_some (a6 >>> ((2 : Int32) &&& 31)) (x3 + (1 : Int32)))), (12, .inl r10)]) [2, 3, 4, 6] rfl ?_
                  exact wb_wid (Nat.le_of_ble_eq_true rfl) (Nat.le_of_ble_eq_true rfl) (k50 _  (by rw [if_pos c52]))
                · refine wb_bipush X dL_strikes_229 kb24 ?_
                  refine wb_goto X (tgt := 236) dL_strikes_231 (by decide) ?_
                  refine wb_lv (lv' := [(4, .inl a5), (6, .inl x2), (8, .inl (F_L_some (a6 >>> ((2 : Int32) &&& 31)) (x3 + (1 : Int32)))), (12, .inl r10)]) [2, 3, 4, 6] rfl ?_
                  exact wb_wid (Nat.le_of_ble_eq_true rfl) (Nat.le_of_ble_eq_true rfl) (k50 _  (by rw [if_neg c52]))
            · replace hv := hv.2 c23
              refine wb_iload X 7 rfl dL_strikes_143 ?_
              refine wb_aload_n X 0 rfl dL_strikes_145 rfl ?_
              refine wb_iload X 9 rfl dL_strikes_146 ?_
              refine wb_iconst X dL_strikes_148 kc0 ?_
              obtain ⟨o53, hv⟩ := hv
              refine wb_callV1 X (As := [.inl x14, .inl (0 : Int32)]) (f_Cq_due hw o53) rfl b_nr_pI hk_10 hc_10 rfl kw_462 kw_21 kw_459 kw_460 kw_461 nd_X10_due rfl rfl (Nat.le_of_ble_eq_true rfl) dL_strikes_149 hs_1ne (by decide) ⟨⟨Nat.le_of_ble_eq_true rfl, Nat.le_of_ble_eq_true rfl⟩, Nat.le_of_ble_eq_true rfl, Nat.le_of_ble_eq_true rfl⟩ (b_pdk1 ?_)
              refine wb_aload_n X 0 rfl dL_strikes_152 rfl ?_
              refine wb_iload X 9 rfl dL_strikes_153 ?_
              refine wb_iconst X dL_strikes_155 kc1 ?_
              obtain ⟨o54, hv⟩ := hv
              refine wb_callV1 X (As := [.inl x14, .inl (1 : Int32)]) (f_Cq_due hw o54) rfl b_nr_pI hk_10 hc_10 rfl kw_462 kw_21 kw_459 kw_460 kw_461 nd_X10_due rfl rfl (Nat.le_of_ble_eq_true rfl) dL_strikes_156 hs_1ne (by decide) ⟨⟨Nat.le_of_ble_eq_true rfl, Nat.le_of_ble_eq_true rfl⟩, Nat.le_of_ble_eq_true rfl, Nat.le_of_ble_eq_true rfl⟩ (b_pdk1 ?_)
              refine wb_iadd X dL_strikes_159 ?_
              refine wb_iadd X dL_strikes_160 ?_
              refine wb_istore X (lv' := [(13, .inl (x12 + ((F_Ldg_dueOf x14 (0 : Int32) S8) + (F_Ldg_dueOf x14 (1 : Int32) S8)))), (0, .inr (.inr (10, 1))), (1, .inr (.inr (210, 1))), (4, .inl a5), (6, .inl x2), (8, .inl (F_L_some (a6 >>> ((2 : Int32) &&& 31)) (x3 + (1 : Int32)))), (11, .inl (F_C_events S5)), (12, .inl r10), (14, .inl x13), (15, .inl x14)]) dL_strikes_161 (by decide) rfl ?_
              refine wb_iload X 8 rfl dL_strikes_163 ?_
              refine wb_aload_n X 1 rfl dL_strikes_165 rfl ?_
              refine wb_iload X 9 rfl dL_strikes_166 ?_
              obtain ⟨o55, hv⟩ := hv
              refine wb_callV1 X (As := [.inl x14]) (f_Cq_cash hw o55) rfl b_nr_pI hk_10 hc_10 rfl kw_1027 kw_21 kw_1024 kw_1025 kw_1026 nd_X10_cash rfl rfl (Nat.le_of_ble_eq_true rfl) dL_strikes_168 hs_1ne (by decide) ⟨⟨Nat.le_of_ble_eq_true rfl, Nat.le_of_ble_eq_true rfl⟩, Nat.le_of_ble_eq_true rfl, Nat.le_of_ble_eq_true rfl⟩ (b_pdk1 ?_)
              refine wb_iadd X dL_strikes_171 ?_
              refine wb_istore X (lv' := [(14, .inl (x13 + (F_Cq_cash x14 S8))), (13, .inl (x12 + ((F_Ldg_dueOf x14 (0 : Int32) S8) + (F_Ldg_dueOf x14 (1 : Int32) S8)))), (0, .inr (.inr (10, 1))), (1, .inr (.inr (210, 1))), (4, .inl a5), (6, .inl x2), (8, .inl (F_L_some (a6 >>> ((2 : Int32) &&& 31)) (x3 + (1 : Int32)))), (11, .inl (F_C_events S5)), (12, .inl r10), (15, .inl x14)]) dL_strikes_172 (by decide) rfl ?_
              refine wb_iinc X (v := (x14 + 1)) (lv' := [(15, .inl (x14 + 1)), (14, .inl (x13 + (F_Cq_cash x14 S8))), (13, .inl (x12 + ((F_Ldg_dueOf x14 (0 : Int32) S8) + (F_Ldg_dueOf x14 (1 : Int32) S8)))), (0, .inr (.inr (10, 1))), (1, .inr (.inr (210, 1))), (4, .inl a5), (6, .inl x2), (8, .inl (F_L_some (a6 >>> ((2 : Int32) &&& 31)) (x3 + (1 : Int32)))), (11, .inl (F_C_events S5)), (12, .inl r10)]) 9 rfl dL_strikes_174 rfl (by decide) rfl ?_
              refine wb_goto X (tgt := 136) dL_strikes_177 (by decide) ?_
              obtain ⟨q56, p57, hv⟩ := hv
              refine wb_lv (lv' := [(0, .inr (.inr (10, 1))), (1, .inr (.inr (210, 1))), (4, .inl a5), (6, .inl x2), (8, .inl (F_L_some (a6 >>> ((2 : Int32) &&& 31)) (x3 + (1 : Int32)))), (11, .inl (F_C_events S5)), (12, .inl r10), (13, .inl (x12 + ((F_Ldg_dueOf x14 (0 : Int32) S8) + (F_Ldg_dueOf x14 (1 : Int32) S8)))), (14, .inl (x13 + (F_Cq_cash x14 S8))), (15, .inl (x14 + 1))]) [3, 4, 5, 6, 7, 8, 9, 2, 1, 0] rfl ?_
              exact h21 q56 p57 _ _ _ hv
        · replace hv := hv.2 c11
          refine wb_aload_n X 1 rfl dL_strikes_84 rfl ?_
          refine wb_iload_n X 3 rfl dL_strikes_85 rfl ?_
          refine wb_iload X 4 rfl dL_strikes_86 ?_
          refine wb_callS1 X (As := [.inr (.inr (10, 1)), .inl a4, .inl a5]) (hv hw) rfl b_nr_L kw_1068 kw_20 kw_1066 kw_1067 nd_L_all rfl rfl (Nat.le_of_ble_eq_true rfl) dL_strikes_88 ⟨⟨Nat.le_of_ble_eq_true rfl, Nat.le_of_ble_eq_true rfl⟩, Nat.le_of_ble_eq_true rfl, Nat.le_of_ble_eq_true rfl⟩ (fun v S58 h => ?_)
          obtain ⟨hw, r59, rfl, hv⟩ := h
          refine wb_lload X 8 rfl dL_strikes_91 ?_
          refine wb_lcmp X dL_strikes_93 ?_
          obtain ⟨c60, hv⟩ := hv
          refine wb_if_ne X (tgt := 125) dL_strikes_94 (by decide) (fun c => absurd c60 c) (fun _ => ?_)
          refine wb_iload X 7 rfl dL_strikes_97 ?_
          refine wb_iload X 6 rfl dL_strikes_99 ?_
          refine wb_icmp_ne X (tgt := 114) dL_strikes_101 (by decide) (fun c61 => ?_) (fun c61 => ?_)
          · replace hv := hv.1 c61
            refine wb_iload X 0 rfl dL_strikes_114 ?_
            refine wb_ldc X kw_1065 dL_strikes_116 ?_
            obtain ⟨c62, hv⟩ := hv
            refine wb_icmp_ne X (tgt := 125) dL_strikes_118 (by decide) (fun c => absurd c62 c) (fun _ => ?_)
            refine wb_iconst X dL_strikes_121 kc1 ?_
            refine wb_goto X (tgt := 126) dL_strikes_122 (by decide) ?_
            exact wb_ireturn X E dL_strikes_126 (Nat.le_of_ble_eq_true rfl) (Nat.le_of_ble_eq_true rfl) (Or.inr ⟨rfl, Or.inr rfl⟩) ⟨hw, hu, _, rfl, hv⟩
          · replace hv := hv.2 c61
            refine wb_iload X 0 rfl dL_strikes_104 ?_
            refine wb_ldc X kw_1063 dL_strikes_106 ?_
            obtain ⟨c63, hv⟩ := hv
            refine wb_icmp_ne X (tgt := 125) dL_strikes_108 (by decide) (fun c => absurd c63 c) (fun _ => ?_)
            refine wb_goto X (tgt := 121) dL_strikes_111 (by decide) ?_
            refine wb_iconst X dL_strikes_121 kc1 ?_
            refine wb_goto X (tgt := 126) dL_strikes_122 (by decide) ?_
            exact wb_ireturn X E dL_strikes_126 (Nat.le_of_ble_eq_true rfl) (Nat.le_of_ble_eq_true rfl) (Or.inr ⟨rfl, Or.inr rfl⟩) ⟨hw, hu, _, rfl, hv⟩
      clear hv
      refine wb_if_eq X (tgt := 68) dL_strikes_60 (by decide) (fun c66 => ?_) (fun c66 => ?_)
      · refine wb_bipush X dL_strikes_68 kb23 ?_
        refine wb_lv (lv' := [(0, .inr (.inr (10, 1))), (1, .inr (.inr (210, 1))), (3, .inl a4), (4, .inl a5), (6, .inl x2), (7, .inl x3), (8, .inl (F_L_some (a6 >>> ((2 : Int32) &&& 31)) (x3 + (1 : Int32)))), (9, .inr (.inl r6)), (11, .inl (F_C_events S5))]) [4, 5, 6, 7, 9, 3, 2, 1, 0] rfl ?_
        exact wb_wid (Nat.le_of_ble_eq_true rfl) (Nat.le_of_ble_eq_true rfl) (k64 _  (by rw [if_pos c66]))
      · refine wb_bipush X dL_strikes_63 kb24 ?_
        refine wb_goto X (tgt := 70) dL_strikes_65 (by decide) ?_
        refine wb_lv (lv' := [(0, .inr (.inr (10, 1))), (1, .inr (.inr (210, 1))), (3, .inl a4), (4, .inl a5), (6, .inl x2), (7, .inl x3), (8, .inl (F_L_some (a6 >>> ((2 : Int32) &&& 31)) (x3 + (1 : Int32)))), (9, .inr (.inl r6)), (11, .inl (F_C_events S5))]) [4, 5, 6, 7, 9, 3, 2, 1, 0] rfl ?_
        exact wb_wid (Nat.le_of_ble_eq_true rfl) (Nat.le_of_ble_eq_true rfl) (k64 _  (by rw [if_neg c66]))
    clear hv
    refine wb_if_eq X (tgt := 25) dL_strikes_18 (by decide) (fun c69 => ?_) (fun c69 => ?_)
    · refine wb_iload_n X 4 rfl dL_strikes_25 rfl ?_
      refine wb_lv (lv' := [(0, .inr (.inr (10, 1))), (1, .inr (.inr (210, 1))), (3, .inl a4), (4, .inl a5), (5, .inl a6), (6, .inl x2)]) [1, 2, 4, 5, 6, 0] rfl ?_
      exact wb_wid (Nat.le_of_ble_eq_true rfl) (Nat.le_of_ble_eq_true rfl) (k67 _  (by rw [if_pos c69]))
    · refine wb_iload_n X 3 rfl dL_strikes_21 rfl ?_
      refine wb_goto X (tgt := 26) dL_strikes_22 (by decide) ?_
      refine wb_lv (lv' := [(0, .inr (.inr (10, 1))), (1, .inr (.inr (210, 1))), (3, .inl a4), (4, .inl a5), (5, .inl a6), (6, .inl x2)]) [1, 2, 4, 5, 6, 0] rfl ?_
      exact wb_wid (Nat.le_of_ble_eq_true rfl) (Nat.le_of_ble_eq_true rfl) (k67 _  (by rw [if_neg c69]))
  clear hv
  refine wb_if_ne X (tgt := 13) dL_strikes_6 (by decide) (fun c72 => ?_) (fun c72 => ?_)
  · refine wb_iconst X dL_strikes_13 kc0 ?_
    refine wb_lv (lv' := [(0, .inr (.inr (10, 1))), (1, .inr (.inr (210, 1))), (2, .inl a3), (3, .inl a4), (4, .inl a5), (5, .inl a6)]) [0, 1, 2, 3, 4, 5] rfl ?_
    exact wb_wid (Nat.le_of_ble_eq_true rfl) (Nat.le_of_ble_eq_true rfl) (k70 _  (by rw [if_neg c72]))
  · refine wb_iconst X dL_strikes_9 kc1 ?_
    refine wb_goto X (tgt := 14) dL_strikes_10 (by decide) ?_
    refine wb_lv (lv' := [(0, .inr (.inr (10, 1))), (1, .inr (.inr (210, 1))), (2, .inl a3), (3, .inl a4), (4, .inl a5), (5, .inl a6)]) [0, 1, 2, 3, 4, 5] rfl ?_
    exact wb_wid (Nat.le_of_ble_eq_true rfl) (Nat.le_of_ble_eq_true rfl) (k70 _  (by rw [if_pos c72]))

