def m_M_ownerOf (a1 : Int32) (a2 : Int32) (S : hs_S) (Q : Int32 → hs_S → Prop) : Prop := hs_M 2 yX11_ownerOf (.code yX11_ownerOf cX11_ownerOf 3 (some FieldType.int)) [.inr (.inr (11, 1)), .inl a1, .inl a2] S 0 0 (hs_qI Q) hs_nX
def vc_M_ownerOf (a1 : Int32) (a2 : Int32) (S : hs_S) (Q : Int32 → hs_S → Prop) : Prop := ((P_asks (F_isCell a1 a2) S) ∧ (∀ S2 : hs_S, S2 = (E_asks (F_isCell a1 a2) S) → (((F_isCell a1 a2) = 0 → (Q (0 : Int32) S2)) ∧ (¬ (F_isCell a1 a2) = 0 → ((P_ownerAt (((6 : Int32) * a1) + a2) (S2.1 11 1 0) S2) ∧ (Q (F_ownerAt (((6 : Int32) * a1) + a2) (S2.1 11 1 0) S2) S2))))))
set_option maxRecDepth 100000 in
set_option maxHeartbeats 4000000 in
theorem ok_M_ownerOf {a1 : Int32} {a2 : Int32} {S : hs_S} {Q : Int32 → hs_S → Prop} (hw : hs_Wi S) (hv : vc_M_ownerOf a1 a2 S Q) : m_M_ownerOf a1 a2 S Q := by
  unfold vc_M_ownerOf at hv
  refine hs_body (own := RX11) rfl rfl (Nat.le_of_ble_eq_true rfl) (fun Z X E N J0 => ?_)
  show wa Z 0 0 S 0 [(0, .inr (.inr (11, 1))), (1, .inl a1), (2, .inl a2)] []
  refine wa_aload_n X 0 rfl dX11_ownerOf_0 rfl ?_
  refine wa_iload_n X 1 rfl dX11_ownerOf_1 rfl ?_
  refine wa_iload_n X 2 rfl dX11_ownerOf_2 rfl ?_
  refine wa_callS X (As := [.inl a1, .inl a2]) (f_M_isCell hw) kw_1379 kw_66 kw_1377 kw_1378 nd_X11_isCell rfl rfl (Nat.le_of_ble_eq_true rfl) dX11_ownerOf_3 ⟨⟨Nat.le_of_ble_eq_true rfl, Nat.le_of_ble_eq_true rfl⟩, Nat.le_of_ble_eq_true rfl, Nat.le_of_ble_eq_true rfl⟩ (hs_pdk0 ?_) (fun _ _ h => h.elim)
  obtain ⟨o1, hv⟩ := hv
  refine wa_callV X (As := [.inl (F_isCell a1 a2)]) (f_M_asks hw o1) hk_11 hc_11 rfl kw_1383 kw_66 kw_1380 kw_1382 kw_20 nd_X11_asks rfl rfl (Nat.le_of_ble_eq_true rfl) dX11_ownerOf_6 hs_1ne ⟨⟨Nat.le_of_ble_eq_true rfl, Nat.le_of_ble_eq_true rfl⟩, Nat.le_of_ble_eq_true rfl, Nat.le_of_ble_eq_true rfl⟩ (hs_pdk fun S2 hS2 hw => ?_) (fun _ _ h => h.elim)
  replace hv := hv S2 hS2
  refine wa_if_eq X (tgt := 29) dX11_ownerOf_9 (by decide) (fun c3 => ?_) (fun c3 => ?_)
  · replace hv := hv.1 c3
    refine wa_iconst X dX11_ownerOf_29 kc0 ?_
    exact wa_ireturn X E dX11_ownerOf_30 (Nat.le_of_ble_eq_true rfl) (Nat.le_of_ble_eq_true rfl) (Or.inl rfl) ⟨hw, _, rfl, hv⟩
  · replace hv := hv.2 c3
    refine wa_aload_n X 0 rfl dX11_ownerOf_12 rfl ?_
    refine wa_bipush X dX11_ownerOf_13 kb6 ?_
    refine wa_iload_n X 1 rfl dX11_ownerOf_15 rfl ?_
    refine wa_imul X dX11_ownerOf_16 ?_
    refine wa_iload_n X 2 rfl dX11_ownerOf_17 rfl ?_
    refine wa_iadd X dX11_ownerOf_18 ?_
    refine wa_aload_n X 0 rfl dX11_ownerOf_19 rfl ?_
    refine wa_getI X (j := 0) hk_11 hc_11 i_11 (by decide) kw_1184 rfl dX11_ownerOf_20 hs_1ne ?_
    obtain ⟨o4, hv⟩ := hv
    refine wa_callV X (As := [.inl (((6 : Int32) * a1) + a2), .inl (S2.1 11 1 0)]) (f_M_ownerAt hw o4) hk_11 hc_11 rfl kw_1387 kw_66 kw_1384 kw_1386 kw_21 nd_X11_ownerAt rfl rfl (Nat.le_of_ble_eq_true rfl) dX11_ownerOf_23 hs_1ne ⟨⟨Nat.le_of_ble_eq_true rfl, Nat.le_of_ble_eq_true rfl⟩, Nat.le_of_ble_eq_true rfl, Nat.le_of_ble_eq_true rfl⟩ (hs_pdk0 ?_) (fun _ _ h => h.elim)
    refine wa_goto X (tgt := 30) dX11_ownerOf_26 (by decide) ?_
    exact wa_ireturn X E dX11_ownerOf_30 (Nat.le_of_ble_eq_true rfl) (Nat.le_of_ble_eq_true rfl) (Or.inl rfl) ⟨hw, _, rfl, hv⟩

def m_M_reads (a1 : Int32) (a2 : Int32) (a3 : Int32) (S : hs_S) (Q : Int32 → hs_S → Prop) : Prop := hs_M 3 yX11_reads (.code yX11_reads cX11_reads 4 (some FieldType.boolean)) [.inr (.inr (11, 1)), .inl a1, .inl a2, .inl a3] S 0 0 (hs_qI Q) hs_nX
def vc_M_reads (a1 : Int32) (a2 : Int32) (a3 : Int32) (S : hs_S) (Q : Int32 → hs_S → Prop) : Prop := (∀ x1 : Int32, x1 = (if (F_isOwner a1) = 0 then (0 : Int32) else (if (F_isCell a2 a3) = 0 then (0 : Int32) else (1 : Int32))) → ((P_asks x1 S) ∧ (∀ S3 : hs_S, S3 = (E_asks x1 S) → ((x1 = 0 → (Q (0 : Int32) S3)) ∧ (¬ x1 = 0 → ((P_readsAt a1 (((6 : Int32) * a2) + a3) (S3.1 11 1 0) S3) ∧ (((F_readsAt a1 (((6 : Int32) * a2) + a3) (S3.1 11 1 0) S3) = 0 → (Q (0 : Int32) S3)) ∧ (¬ (F_readsAt a1 (((6 : Int32) * a2) + a3) (S3.1 11 1 0) S3) = 0 → (Q (1 : Int32) S3)))))))))
set_option maxRecDepth 100000 in
set_option maxHeartbeats 4000000 in
theorem ok_M_reads {a1 : Int32} {a2 : Int32} {a3 : Int32} {S : hs_S} {Q : Int32 → hs_S → Prop} (hw : hs_Wi S) (hv : vc_M_reads a1 a2 a3 S Q) : m_M_reads a1 a2 a3 S Q := by
  unfold vc_M_reads at hv
  refine hs_body (own := RX11) rfl rfl (Nat.le_of_ble_eq_true rfl) (fun Z X E N J0 => ?_)
  show wa Z 0 0 S 0 [(0, .inr (.inr (11, 1))), (1, .inl a1), (2, .inl a2), (3, .inl a3)] []
  refine wa_aload_n X 0 rfl dX11_reads_0 rfl ?_
  refine wa_iload_n X 1 rfl dX11_reads_1 rfl ?_
  refine wa_callS X (As := [.inl a1]) (f_M_isOwner hw) kw_1376 kw_66 kw_1374 kw_1375 nd_X11_isOwner rfl rfl (Nat.le_of_ble_eq_true rfl) dX11_reads_2 ⟨⟨Nat.le_of_ble_eq_true rfl, Nat.le_of_ble_eq_true rfl⟩, Nat.le_of_ble_eq_true rfl, Nat.le_of_ble_eq_true rfl⟩ (hs_pdk0 ?_) (fun _ _ h => h.elim)
  have k7 : ∀ (x1 : Int32), x1 = (if (F_isOwner a1) = 0 then (0 : Int32) else (if (F_isCell a2 a3) = 0 then (0 : Int32) else (1 : Int32))) → wa Z 0 0 S 21 [(0, .inr (.inr (11, 1))), (1, .inl a1), (2, .inl a2), (3, .inl a3)] [.inl x1, .inr (.inr (11, 1))] := by
    intro x1 hE
    replace hv := hv _ hE
    obtain ⟨o2, hv⟩ := hv
    refine wa_callV X (As := [.inl x1]) (f_M_asks hw o2) hk_11 hc_11 rfl kw_1383 kw_66 kw_1380 kw_1382 kw_20 nd_X11_asks rfl rfl (Nat.le_of_ble_eq_true rfl) dX11_reads_21 hs_1ne ⟨⟨Nat.le_of_ble_eq_true rfl, Nat.le_of_ble_eq_true rfl⟩, Nat.le_of_ble_eq_true rfl, Nat.le_of_ble_eq_true rfl⟩ (hs_pdk fun S3 hS3 hw => ?_) (fun _ _ h => h.elim)
    replace hv := hv S3 hS3
    refine wa_if_eq X (tgt := 49) dX11_reads_24 (by decide) (fun c4 => ?_) (fun c4 => ?_)
    · replace hv := hv.1 c4
      refine wa_iconst X dX11_reads_49 kc0 ?_
      exact wa_ireturn X E dX11_reads_50 (Nat.le_of_ble_eq_true rfl) (Nat.le_of_ble_eq_true rfl) (Or.inr ⟨rfl, Or.inl rfl⟩) ⟨hw, _, rfl, hv⟩
    · replace hv := hv.2 c4
      refine wa_aload_n X 0 rfl dX11_reads_27 rfl ?_
      refine wa_iload_n X 1 rfl dX11_reads_28 rfl ?_
      refine wa_bipush X dX11_reads_29 kb6 ?_
      refine wa_iload_n X 2 rfl dX11_reads_31 rfl ?_
      refine wa_imul X dX11_reads_32 ?_
      refine wa_iload_n X 3 rfl dX11_reads_33 rfl ?_
      refine wa_iadd X dX11_reads_34 ?_
      refine wa_aload_n X 0 rfl dX11_reads_35 rfl ?_
      refine wa_getI X (j := 0) hk_11 hc_11 i_11 (by decide) kw_1184 rfl dX11_reads_36 hs_1ne ?_
      obtain ⟨o5, hv⟩ := hv
      refine wa_callV X (As := [.inl a1, .inl (((6 : Int32) * a2) + a3), .inl (S3.1 11 1 0)]) (f_M_readsAt hw o5) hk_11 hc_11 rfl kw_1411 kw_66 kw_1408 kw_1410 kw_24 nd_X11_readsAt rfl rfl (Nat.le_of_ble_eq_true rfl) dX11_reads_39 hs_1ne ⟨⟨Nat.le_of_ble_eq_true rfl, Nat.le_of_ble_eq_true rfl⟩, Nat.le_of_ble_eq_true rfl, Nat.le_of_ble_eq_true rfl⟩ (hs_pdk0 ?_) (fun _ _ h => h.elim)
      refine wa_if_eq X (tgt := 49) dX11_reads_42 (by decide) (fun c6 => ?_) (fun c6 => ?_)
      · replace hv := hv.1 c6
        refine wa_iconst X dX11_reads_49 kc0 ?_
        exact wa_ireturn X E dX11_reads_50 (Nat.le_of_ble_eq_true rfl) (Nat.le_of_ble_eq_true rfl) (Or.inr ⟨rfl, Or.inl rfl⟩) ⟨hw, _, rfl, hv⟩
      · replace hv := hv.2 c6
        refine wa_iconst X dX11_reads_45 kc1 ?_
        refine wa_goto X (tgt := 50) dX11_reads_46 (by decide) ?_
        exact wa_ireturn X E dX11_reads_50 (Nat.le_of_ble_eq_true rfl) (Nat.le_of_ble_eq_true rfl) (Or.inr ⟨rfl, Or.inr rfl⟩) ⟨hw, _, rfl, hv⟩
  clear hv
  refine wa_if_eq X (tgt := 20) dX11_reads_5 (by decide) (fun c9 => ?_) (fun c9 => ?_)
  · refine wa_iconst X dX11_reads_20 kc0 ?_
    refine wa_lv (lv' := [(0, .inr (.inr (11, 1))), (1, .inl a1), (2, .inl a2), (3, .inl a3)]) [0, 1, 2, 3] rfl ?_
    exact wa_wid (Nat.le_of_ble_eq_true rfl) (Nat.le_of_ble_eq_true rfl) (k7 _  (by rw [if_pos c9]))
  · refine wa_iload_n X 2 rfl dX11_reads_8 rfl ?_
    refine wa_iload_n X 3 rfl dX11_reads_9 rfl ?_
    refine wa_callS X (As := [.inl a2, .inl a3]) (f_M_isCell hw) kw_1379 kw_66 kw_1377 kw_1378 nd_X11_isCell rfl rfl (Nat.le_of_ble_eq_true rfl) dX11_reads_10 ⟨⟨Nat.le_of_ble_eq_true rfl, Nat.le_of_ble_eq_true rfl⟩, Nat.le_of_ble_eq_true rfl, Nat.le_of_ble_eq_true rfl⟩ (hs_pdk0 ?_) (fun _ _ h => h.elim)
    refine wa_if_eq X (tgt := 20) dX11_reads_13 (by decide) (fun c10 => ?_) (fun c10 => ?_)
    · refine wa_iconst X dX11_reads_20 kc0 ?_
      refine wa_lv (lv' := [(0, .inr (.inr (11, 1))), (1, .inl a1), (2, .inl a2), (3, .inl a3)]) [0, 1, 2, 3] rfl ?_
      exact wa_wid (Nat.le_of_ble_eq_true rfl) (Nat.le_of_ble_eq_true rfl) (k7 _  (by rw [if_neg c9, if_pos c10]))
    · refine wa_iconst X dX11_reads_16 kc1 ?_
      refine wa_goto X (tgt := 21) dX11_reads_17 (by decide) ?_
      refine wa_lv (lv' := [(0, .inr (.inr (11, 1))), (1, .inl a1), (2, .inl a2), (3, .inl a3)]) [0, 1, 2, 3] rfl ?_
      exact wa_wid (Nat.le_of_ble_eq_true rfl) (Nat.le_of_ble_eq_true rfl) (k7 _  (by rw [if_neg c9, if_neg c10]))

def m_M_word (a1 : Int32) (a2 : Int32) (a3 : Int32) (S : hs_S) (Q : Int32 → hs_S → Prop) : Prop := hs_M 3 yX11_word (.code yX11_word cX11_word 5 (some FieldType.int)) [.inr (.inr (11, 1)), .inl a1, .inl a2, .inl a3] S 0 0 (hs_qI Q) hs_nX
def vc_M_word (a1 : Int32) (a2 : Int32) (a3 : Int32) (S : hs_S) (Q : Int32 → hs_S → Prop) : Prop := (∀ x1 : Int32, x1 = (if a1 = 0 then (F_in a2 (-1000000 : Int32) (1000000 : Int32)) else (if (7 : Int32) < a1 then (1 : Int32) else (if (F_in a2 (0 : Int32) (3 : Int32)) = 0 then (0 : Int32) else (1 : Int32)))) → (∀ x2 : Int32, x2 = (if (F_in a1 (0 : Int32) (14 : Int32)) = 0 then (0 : Int32) else (if x1 = 0 then (0 : Int32) else (if a1 = (1 : Int32) then (if (F_in a3 (0 : Int32) (5 : Int32)) = 0 then (0 : Int32) else (1 : Int32)) else (1 : Int32)))) → ((P_asks x2 S) ∧ (∀ S4 : hs_S, S4 = (E_asks x2 S) → ((¬ x2 = 0 → (((S4.1 11 1 10) = (12 : Int32) → (∀ S7 : hs_S, S7 = (E_fails (2 : Int32) S4) → (Q (0 : Int32) S7))) ∧ (¬ (S4.1 11 1 10) = (12 : Int32) → ((P_pileOfDraft S4) ∧ (((F_takes a1) ≤ (F_pileOfDraft S4) → ((0 ≤ ((3 : Int32) * (S4.1 11 1 10)).toInt ∧ ((3 : Int32) * (S4.1 11 1 10)).toInt < 36) ∧ (∀ S11 : hs_S, S11 = (hs_wI S4 51 1 ((3 : Int32) * (S4.1 11 1 10)).toNatClampNeg a1) → ((0 ≤ (((3 : Int32) * (S11.1 11 1 10)) + (1 : Int32)).toInt ∧ (((3 : Int32) * (S11.1 11 1 10)) + (1 : Int32)).toInt < 36) ∧ (∀ S13 : hs_S, S13 = (hs_wI S11 51 1 (((3 : Int32) * (S11.1 11 1 10)) + (1 : Int32)).toNatClampNeg a2) → ((0 ≤ (((3 : Int32) * (S13.1 11 1 10)) + (2 : Int32)).toInt ∧ (((3 : Int32) * (S13.1 11 1 10)) + (2 : Int32)).toInt < 36) ∧ (∀ S15 : hs_S, S15 = (hs_wI S13 51 1 (((3 : Int32) * (S13.1 11 1 10)) + (2 : Int32)).toNatClampNeg a3) → (∀ S16 : hs_S, S16 = (hs_wI S15 11 1 10 ((S15.1 11 1 10) + (1 : Int32))) → (Q (S16.1 11 1 10) S16))))))))) ∧ (¬ (F_takes a1) ≤ (F_pileOfDraft S4) → (∀ S17 : hs_S, S17 = (E_fails (2 : Int32) S4) → (Q (0 : Int32) S17)))))))) ∧ (x2 = 0 → (Q (0 : Int32) S4)))))))
set_option maxRecDepth 100000 in
set_option maxHeartbeats 4000000 in
theorem ok_M_word {a1 : Int32} {a2 : Int32} {a3 : Int32} {S : hs_S} {Q : Int32 → hs_S → Prop} (hw : hs_Wi S) (hv : vc_M_word a1 a2 a3 S Q) : m_M_word a1 a2 a3 S Q := by
  unfold vc_M_word at hv
  refine hs_body (own := RX11) rfl rfl (Nat.le_of_ble_eq_true rfl) (fun Z X E N J0 => ?_)
  show wa Z 0 0 S 0 [(0, .inr (.inr (11, 1))), (1, .inl a1), (2, .inl a2), (3, .inl a3)] []
  refine wa_iload_n X 1 rfl dX11_word_0 rfl ?_
  have k24 : ∀ (x1 : Int32), x1 = (if a1 = 0 then (F_in a2 (-1000000 : Int32) (1000000 : Int32)) else (if (7 : Int32) < a1 then (1 : Int32) else (if (F_in a2 (0 : Int32) (3 : Int32)) = 0 then (0 : Int32) else (1 : Int32)))) → wa Z 0 0 S 35 [(0, .inr (.inr (11, 1))), (1, .inl a1), (2, .inl a2), (3, .inl a3)] [.inl x1] := by
    intro x1 hE
    replace hv := hv _ hE
    refine wa_istore X (lv' := [(4, .inl x1), (0, .inr (.inr (11, 1))), (1, .inl a1), (2, .inl a2), (3, .inl a3)]) dX11_word_35 (by decide) rfl ?_
    refine wa_aload_n X 1 rfl dX11_word_37 rfl ?_
    refine wa_iload_n X 2 rfl dX11_word_38 rfl ?_
    refine wa_iconst X dX11_word_39 kc0 ?_
    refine wa_bipush X dX11_word_40 kb14 ?_
    refine wa_callS X (As := [.inl a1, .inl (0 : Int32), .inl (14 : Int32)]) (f_M_in hw) kw_1420 kw_66 kw_1418 kw_1419 nd_X11_in rfl rfl (Nat.le_of_ble_eq_true rfl) dX11_word_42 ⟨⟨Nat.le_of_ble_eq_true rfl, Nat.le_of_ble_eq_true rfl⟩, Nat.le_of_ble_eq_true rfl, Nat.le_of_ble_eq_true rfl⟩ (hs_pdk0 ?_) (fun _ _ h => h.elim)
    have k18 : ∀ (x2 : Int32), x2 = (if (F_in a1 (0 : Int32) (14 : Int32)) = 0 then (0 : Int32) else (if x1 = 0 then (0 : Int32) else (if a1 = (1 : Int32) then (if (F_in a3 (0 : Int32) (5 : Int32)) = 0 then (0 : Int32) else (1 : Int32)) else (1 : Int32)))) → wa Z 0 0 S 72 [(0, .inr (.inr (11, 1))), (1, .inl a1), (2, .inl a2), (3, .inl a3)] [.inl x2, .inr (.inr (11, 1))] := by
      intro x2 hE
      replace hv := hv _ hE
      obtain ⟨o3, hv⟩ := hv
      refine wa_callV X (As := [.inl x2]) (f_M_asks hw o3) hk_11 hc_11 rfl kw_1383 kw_66 kw_1380 kw_1382 kw_20 nd_X11_asks rfl rfl (Nat.le_of_ble_eq_true rfl) dX11_word_72 hs_1ne ⟨⟨Nat.le_of_ble_eq_true rfl, Nat.le_of_ble_eq_true rfl⟩, Nat.le_of_ble_eq_true rfl, Nat.le_of_ble_eq_true rfl⟩ (hs_pdk fun S4 hS4 hw => ?_) (fun _ _ h => h.elim)
      replace hv := hv S4 hS4
      refine wa_if_ne X (tgt := 80) dX11_word_75 (by decide) (fun c5 => ?_) (fun c5 => ?_)
      · replace hv := hv.1 c5
        refine wa_aload_n X 0 rfl dX11_word_80 rfl ?_
        refine wa_getI X (j := 10) hk_11 hc_11 i_11 (by decide) kw_1194 rfl dX11_word_81 hs_1ne ?_
        refine wa_bipush X dX11_word_84 kb12 ?_
        refine wa_icmp_eq X (tgt := 100) dX11_word_86 (by decide) (fun c6 => ?_) (fun c6 => ?_)
        · replace hv := hv.1 c6
          refine wa_aload_n X 0 rfl dX11_word_100 rfl ?_
          refine wa_iconst X dX11_word_101 kc2 ?_
          refine wa_callV X (As := [.inl (2 : Int32)]) (f_M_fails hw) hk_11 hc_11 rfl kw_1391 kw_66 kw_1388 kw_1390 kw_22 nd_X11_fails rfl rfl (Nat.le_of_ble_eq_true rfl) dX11_word_102 hs_1ne ⟨⟨Nat.le_of_ble_eq_true rfl, Nat.le_of_ble_eq_true rfl⟩, Nat.le_of_ble_eq_true rfl, Nat.le_of_ble_eq_true rfl⟩ (hs_pdk fun S7 hS7 hw => ?_) (fun _ _ h => h.elim)
          replace hv := hv S7 hS7
          exact wa_ireturn X E dX11_word_105 (Nat.le_of_ble_eq_true rfl) (Nat.le_of_ble_eq_true rfl) (Or.inl rfl) ⟨hw, _, rfl, hv⟩
        · replace hv := hv.2 c6
          refine wa_aload_n X 0 rfl dX11_word_89 rfl ?_
          obtain ⟨o8, hv⟩ := hv
          refine wa_callV X (As := []) (f_M_pileOfDraft hw o8) hk_11 hc_11 rfl kw_1424 kw_66 kw_1421 kw_1423 kw_25 nd_X11_pileOfDraft rfl rfl (Nat.le_of_ble_eq_true rfl) dX11_word_90 hs_1ne ⟨⟨Nat.le_of_ble_eq_true rfl, Nat.le_of_ble_eq_true rfl⟩, Nat.le_of_ble_eq_true rfl, Nat.le_of_ble_eq_true rfl⟩ (hs_pdk0 ?_) (fun _ _ h => h.elim)
          refine wa_iload_n X 1 rfl dX11_word_93 rfl ?_
          refine wa_callS X (As := [.inl a1]) (f_M_takes hw) kw_1427 kw_66 kw_1425 kw_1426 nd_X11_takes rfl rfl (Nat.le_of_ble_eq_true rfl) dX11_word_94 ⟨⟨Nat.le_of_ble_eq_true rfl, Nat.le_of_ble_eq_true rfl⟩, Nat.le_of_ble_eq_true rfl, Nat.le_of_ble_eq_true rfl⟩ (hs_pdk0 ?_) (fun _ _ h => h.elim)
          refine wa_icmp_ge X (tgt := 106) dX11_word_97 (by decide) (fun c9 => ?_) (fun c9 => ?_)
          · replace hv := hv.1 c9
            refine wa_aload_n X 0 rfl dX11_word_106 rfl ?_
            refine wa_getfw X hw (j := 11) (r := 1) hk_11 hc_11 i_11 (by decide) kw_1195 rfl rfl (by decide) rfl dX11_word_107 hs_1ne ?_
            refine wa_iconst X dX11_word_110 kc3 ?_
            refine wa_aload_n X 0 rfl dX11_word_111 rfl ?_
            refine wa_getI X (j := 10) hk_11 hc_11 i_11 (by decide) kw_1194 rfl dX11_word_112 hs_1ne ?_
            refine wa_imul X dX11_word_115 ?_
            refine wa_iload_n X 1 rfl dX11_word_116 rfl ?_
            obtain ⟨o10, hv⟩ := hv
            refine wa_iast X hk_51 dX11_word_117 hs_1ne o10 (hs_eqS fun S11 hS11 => ?_)
            replace hv := hv S11 hS11
            replace hw : hs_Wi S11 := hS11 ▸ hs_Wi_I hw
            refine wa_aload_n X 0 rfl dX11_word_118 rfl ?_
            refine wa_getfw X hw (j := 11) (r := 1) hk_11 hc_11 i_11 (by decide) kw_1195 rfl rfl (by decide) rfl dX11_word_119 hs_1ne ?_
            refine wa_iconst X dX11_word_122 kc3 ?_
            refine wa_aload_n X 0 rfl dX11_word_123 rfl ?_
            refine wa_getI X (j := 10) hk_11 hc_11 i_11 (by decide) kw_1194 rfl dX11_word_124 hs_1ne ?_
            refine wa_imul X dX11_word_127 ?_
            refine wa_iconst X dX11_word_128 kc1 ?_
            refine wa_iadd X dX11_word_129 ?_
            refine wa_iload_n X 2 rfl dX11_word_130 rfl ?_
            obtain ⟨o12, hv⟩ := hv
            refine wa_iast X hk_51 dX11_word_131 hs_1ne o12 (hs_eqS fun S13 hS13 => ?_)
            replace hv := hv S13 hS13
            replace hw : hs_Wi S13 := hS13 ▸ hs_Wi_I hw
            refine wa_aload_n X 0 rfl dX11_word_132 rfl ?_
            refine wa_getfw X hw (j := 11) (r := 1) hk_11 hc_11 i_11 (by decide) kw_1195 rfl rfl (by decide) rfl dX11_word_133 hs_1ne ?_
            refine wa_iconst X dX11_word_136 kc3 ?_
            refine wa_aload_n X 0 rfl dX11_word_137 rfl ?_
            refine wa_getI X (j := 10) hk_11 hc_11 i_11 (by decide) kw_1194 rfl dX11_word_138 hs_1ne ?_
            refine wa_imul X dX11_word_141 ?_
            refine wa_iconst X dX11_word_142 kc2 ?_
            refine wa_iadd X dX11_word_143 ?_
            refine wa_iload_n X 3 rfl dX11_word_144 rfl ?_
            obtain ⟨o14, hv⟩ := hv
            refine wa_iast X hk_51 dX11_word_145 hs_1ne o14 (hs_eqS fun S15 hS15 => ?_)
            replace hv := hv S15 hS15
            replace hw : hs_Wi S15 := hS15 ▸ hs_Wi_I hw
            refine wa_aload_n X 0 rfl dX11_word_146 rfl ?_
            refine wa_dup X dX11_word_147 rfl ?_
            refine wa_getI X (j := 10) hk_11 hc_11 i_11 (by decide) kw_1194 rfl dX11_word_148 hs_1ne ?_
            refine wa_iconst X dX11_word_151 kc1 ?_
            refine wa_iadd X dX11_word_152 ?_
            refine wa_putI X (j := 10) hk_11 hc_11 i_11 tyX11 tyX11_ok nmX11 (by decide) kw_1194 rfl rfl dX11_word_153 hs_1ne ⟨rfl, Or.inl rfl⟩ (hs_eqS fun S16 hS16 => ?_)
            replace hv := hv S16 hS16
            replace hw : hs_Wi S16 := hS16 ▸ hs_Wi_I hw
            refine wa_aload_n X 0 rfl dX11_word_156 rfl ?_
            refine wa_getI X (j := 10) hk_11 hc_11 i_11 (by decide) kw_1194 rfl dX11_word_157 hs_1ne ?_
            exact wa_ireturn X E dX11_word_160 (Nat.le_of_ble_eq_true rfl) (Nat.le_of_ble_eq_true rfl) (Or.inl rfl) ⟨hw, _, rfl, hv⟩
          · replace hv := hv.2 c9
            refine wa_aload_n X 0 rfl dX11_word_100 rfl ?_
            refine wa_iconst X dX11_word_101 kc2 ?_
            refine wa_callV X (As := [.inl (2 : Int32)]) (f_M_fails hw) hk_11 hc_11 rfl kw_1391 kw_66 kw_1388 kw_1390 kw_22 nd_X11_fails rfl rfl (Nat.le_of_ble_eq_true rfl) dX11_word_102 hs_1ne ⟨⟨Nat.le_of_ble_eq_true rfl, Nat.le_of_ble_eq_true rfl⟩, Nat.le_of_ble_eq_true rfl, Nat.le_of_ble_eq_true rfl⟩ (hs_pdk fun S17 hS17 hw => ?_) (fun _ _ h => h.elim)
            replace hv := hv S17 hS17
            exact wa_ireturn X E dX11_word_105 (Nat.le_of_ble_eq_true rfl) (Nat.le_of_ble_eq_true rfl) (Or.inl rfl) ⟨hw, _, rfl, hv⟩
      · replace hv := hv.2 c5
        refine wa_iconst X dX11_word_78 kc0 ?_
        exact wa_ireturn X E dX11_word_79 (Nat.le_of_ble_eq_true rfl) (Nat.le_of_ble_eq_true rfl) (Or.inl rfl) ⟨hw, _, rfl, hv⟩
    clear hv
    refine wa_if_eq X (tgt := 71) dX11_word_45 (by decide) (fun c20 => ?_) (fun c20 => ?_)
    · refine wa_iconst X dX11_word_71 kc0 ?_
      refine wa_lv (lv' := [(0, .inr (.inr (11, 1))), (1, .inl a1), (2, .inl a2), (3, .inl a3)]) [1, 2, 3, 4] rfl ?_
      exact wa_wid (Nat.le_of_ble_eq_true rfl) (Nat.le_of_ble_eq_true rfl) (k18 _  (by rw [if_pos c20]))
    · refine wa_iload X 0 rfl dX11_word_48 ?_
      refine wa_if_eq X (tgt := 71) dX11_word_50 (by decide) (fun c21 => ?_) (fun c21 => ?_)
      · refine wa_iconst X dX11_word_71 kc0 ?_
        refine wa_lv (lv' := [(0, .inr (.inr (11, 1))), (1, .inl a1), (2, .inl a2), (3, .inl a3)]) [1, 2, 3, 4] rfl ?_
        exact wa_wid (Nat.le_of_ble_eq_true rfl) (Nat.le_of_ble_eq_true rfl) (k18 _  (by rw [if_neg c20, if_pos c21]))
      · refine wa_iload_n X 2 rfl dX11_word_53 rfl ?_
        refine wa_iconst X dX11_word_54 kc1 ?_
        refine wa_icmp_ne X (tgt := 67) dX11_word_55 (by decide) (fun c22 => ?_) (fun c22 => ?_)
        · refine wa_iconst X dX11_word_67 kc1 ?_
          refine wa_goto X (tgt := 72) dX11_word_68 (by decide) ?_
          refine wa_lv (lv' := [(0, .inr (.inr (11, 1))), (1, .inl a1), (2, .inl a2), (3, .inl a3)]) [1, 2, 3, 4] rfl ?_
          exact wa_wid (Nat.le_of_ble_eq_true rfl) (Nat.le_of_ble_eq_true rfl) (k18 _  (by rw [if_neg c20, if_neg c21, if_neg c22]))
        · refine wa_iload_n X 4 rfl dX11_word_58 rfl ?_
          refine wa_iconst X dX11_word_59 kc0 ?_
          refine wa_iconst X dX11_word_60 kc5 ?_
          refine wa_callS X (As := [.inl a3, .inl (0 : Int32), .inl (5 : Int32)]) (f_M_in hw) kw_1420 kw_66 kw_1418 kw_1419 nd_X11_in rfl rfl (Nat.le_of_ble_eq_true rfl) dX11_word_61 ⟨⟨Nat.le_of_ble_eq_true rfl, Nat.le_of_ble_eq_true rfl⟩, Nat.le_of_ble_eq_true rfl, Nat.le_of_ble_eq_true rfl⟩ (hs_pdk0 ?_) (fun _ _ h => h.elim)
          refine wa_if_eq X (tgt := 71) dX11_word_64 (by decide) (fun c23 => ?_) (fun c23 => ?_)
          · refine wa_iconst X dX11_word_71 kc0 ?_
            refine wa_lv (lv' := [(0, .inr (.inr (11, 1))), (1, .inl a1), (2, .inl a2), (3, .inl a3)]) [1, 2, 3, 4] rfl ?_
            exact wa_wid (Nat.le_of_ble_eq_true rfl) (Nat.le_of_ble_eq_true rfl) (k18 _  (by rw [if_neg c20, if_neg c21, if_pos c22, if_pos c23]))
          · refine wa_iconst X dX11_word_67 kc1 ?_
            refine wa_goto X (tgt := 72) dX11_word_68 (by decide) ?_
            refine wa_lv (lv' := [(0, .inr (.inr (11, 1))), (1, .inl a1), (2, .inl a2), (3, .inl a3)]) [1, 2, 3, 4] rfl ?_
            exact wa_wid (Nat.le_of_ble_eq_true rfl) (Nat.le_of_ble_eq_true rfl) (k18 _  (by rw [if_neg c20, if_neg c21, if_pos c22, if_neg c23]))
  clear hv
  refine wa_if_ne X (tgt := 15) dX11_word_1 (by decide) (fun c26 => ?_) (fun c26 => ?_)
  · refine wa_iload_n X 1 rfl dX11_word_15 rfl ?_
    refine wa_bipush X dX11_word_16 kb7 ?_
    refine wa_icmp_gt X (tgt := 30) dX11_word_18 (by decide) (fun c27 => ?_) (fun c27 => ?_)
    · refine wa_iconst X dX11_word_30 kc1 ?_
      refine wa_goto X (tgt := 35) dX11_word_31 (by decide) ?_
      refine wa_lv (lv' := [(0, .inr (.inr (11, 1))), (1, .inl a1), (2, .inl a2), (3, .inl a3)]) [0, 1, 2, 3] rfl ?_
      exact wa_wid (Nat.le_of_ble_eq_true rfl) (Nat.le_of_ble_eq_true rfl) (k24 _  (by rw [if_neg c26, if_pos c27]))
    · refine wa_iload_n X 2 rfl dX11_word_21 rfl ?_
      refine wa_iconst X dX11_word_22 kc0 ?_
      refine wa_iconst X dX11_word_23 kc3 ?_
      refine wa_callS X (As := [.inl a2, .inl (0 : Int32), .inl (3 : Int32)]) (f_M_in hw) kw_1420 kw_66 kw_1418 kw_1419 nd_X11_in rfl rfl (Nat.le_of_ble_eq_true rfl) dX11_word_24 ⟨⟨Nat.le_of_ble_eq_true rfl, Nat.le_of_ble_eq_true rfl⟩, Nat.le_of_ble_eq_true rfl, Nat.le_of_ble_eq_true rfl⟩ (hs_pdk0 ?_) (fun _ _ h => h.elim)
      refine wa_if_eq X (tgt := 34) dX11_word_27 (by decide) (fun c28 => ?_) (fun c28 => ?_)
      · refine wa_iconst X dX11_word_34 kc0 ?_
        refine wa_lv (lv' := [(0, .inr (.inr (11, 1))), (1, .inl a1), (2, .inl a2), (3, .inl a3)]) [0, 1, 2, 3] rfl ?_
        exact wa_wid (Nat.le_of_ble_eq_true rfl) (Nat.le_of_ble_eq_true rfl) (k24 _  (by rw [if_neg c26, if_neg c27, if_pos c28]))
      · refine wa_iconst X dX11_word_30 kc1 ?_
        refine wa_goto X (tgt := 35) dX11_word_31 (by decide) ?_
        refine wa_lv (lv' := [(0, .inr (.inr (11, 1))), (1, .inl a1), (2, .inl a2), (3, .inl a3)]) [0, 1, 2, 3] rfl ?_
        exact wa_wid (Nat.le_of_ble_eq_true rfl) (Nat.le_of_ble_eq_true rfl) (k24 _  (by rw [if_neg c26, if_neg c27, if_neg c28]))
  · refine wa_iload_n X 2 rfl dX11_word_4 rfl ?_
    refine wa_ldc X kw_1416 dX11_word_5 ?_
    refine wa_ldc X kw_1417 dX11_word_7 ?_
    refine wa_callS X (As := [.inl a2, .inl (-1000000 : Int32), .inl (1000000 : Int32)]) (f_M_in hw) kw_1420 kw_66 kw_1418 kw_1419 nd_X11_in rfl rfl (Nat.le_of_ble_eq_true rfl) dX11_word_9 ⟨⟨Nat.le_of_ble_eq_true rfl, Nat.le_of_ble_eq_true rfl⟩, Nat.le_of_ble_eq_true rfl, Nat.le_of_ble_eq_true rfl⟩ (hs_pdk0 ?_) (fun _ _ h => h.elim)
    refine wa_goto X (tgt := 35) dX11_word_12 (by decide) ?_
    refine wa_lv (lv' := [(0, .inr (.inr (11, 1))), (1, .inl a1), (2, .inl a2), (3, .inl a3)]) [0, 1, 2, 3] rfl ?_
    exact wa_wid (Nat.le_of_ble_eq_true rfl) (Nat.le_of_ble_eq_true rfl) (k24 _  (by rw [if_pos c26]))

def m_M_wipe (S : hs_S) (Q : Int32 → hs_S → Prop) : Prop := hs_M 1 yX11_wipe (.code yX11_wipe cX11_wipe 2 (some FieldType.int)) [.inr (.inr (11, 1))] S 0 0 (hs_qI Q) hs_nX
def vc_M_wipe (S : hs_S) (Q : Int32 → hs_S → Prop) : Prop := (∀ S1 : hs_S, S1 = (hs_wI S 11 1 59 (0 : Int32)) → (∀ S2 : hs_S, S2 = (hs_wI S1 11 1 10 (0 : Int32)) → (Q (S1.1 11 1 10) S2)))
set_option maxRecDepth 100000 in
set_option maxHeartbeats 4000000 in
theorem ok_M_wipe {S : hs_S} {Q : Int32 → hs_S → Prop} (hw : hs_Wi S) (hv : vc_M_wipe S Q) : m_M_wipe S Q := by
  unfold vc_M_wipe at hv
  refine hs_body (own := RX11) rfl rfl (Nat.le_of_ble_eq_true rfl) (fun Z X E N J0 => ?_)
  show wa Z 0 0 S 0 [(0, .inr (.inr (11, 1)))] []
  refine wa_aload_n X 0 rfl dX11_wipe_0 rfl ?_
  refine wa_iconst X dX11_wipe_1 kc0 ?_
  refine wa_putI X (j := 59) hk_11 hc_11 i_11 tyX11 tyX11_ok nmX11 (by decide) kw_1243 rfl rfl dX11_wipe_2 hs_1ne ⟨rfl, Or.inl rfl⟩ (hs_eqS fun S1 hS1 => ?_)
  replace hv := hv S1 hS1
  replace hw : hs_Wi S1 := hS1 ▸ hs_Wi_I hw
  refine wa_aload_n X 0 rfl dX11_wipe_5 rfl ?_
  refine wa_getI X (j := 10) hk_11 hc_11 i_11 (by decide) kw_1194 rfl dX11_wipe_6 hs_1ne ?_
  refine wa_istore_n X (lv' := [(1, .inl (S1.1 11 1 10)), (0, .inr (.inr (11, 1)))]) dX11_wipe_9 rfl (by decide) rfl ?_
  refine wa_aload_n X 1 rfl dX11_wipe_10 rfl ?_
  refine wa_iconst X dX11_wipe_11 kc0 ?_
  refine wa_putI X (j := 10) hk_11 hc_11 i_11 tyX11 tyX11_ok nmX11 (by decide) kw_1194 rfl rfl dX11_wipe_12 hs_1ne ⟨rfl, Or.inl rfl⟩ (hs_eqS fun S2 hS2 => ?_)
  replace hv := hv S2 hS2
  replace hw : hs_Wi S2 := hS2 ▸ hs_Wi_I hw
  refine wa_iload_n X 0 rfl dX11_wipe_15 rfl ?_
  exact wa_ireturn X E dX11_wipe_16 (Nat.le_of_ble_eq_true rfl) (Nat.le_of_ble_eq_true rfl) (Or.inl rfl) ⟨hw, _, rfl, hv⟩

def m_M_enter (a1 : Int32) (a2 : Int32) (a3 : Int32) (S : hs_S) (Q : Int32 → hs_S → Prop) : Prop := hs_M 3 yX11_enter (.code yX11_enter cX11_enter 5 (some FieldType.int)) [.inr (.inr (11, 1)), .inl a1, .inl a2, .inl a3] S 0 0 (hs_qI Q) hs_nX
def vc_M_enter (a1 : Int32) (a2 : Int32) (a3 : Int32) (S : hs_S) (Q : Int32 → hs_S → Prop) : Prop := (∀ x1 : Int32, x1 = (if (F_isOwner a1) = 0 then (0 : Int32) else (if (F_isCell a2 a3) = 0 then (0 : Int32) else (1 : Int32))) → ((P_asks x1 S) ∧ (∀ S3 : hs_S, S3 = (E_asks x1 S) → ((¬ x1 = 0 → ((P_ownerAt (((6 : Int32) * a2) + a3) (S3.1 11 1 0) S3) ∧ ((¬ (F_ownerAt (((6 : Int32) * a2) + a3) (S3.1 11 1 0) S3) = a1 → (∀ S7 : hs_S, S7 = (E_fails (2 : Int32) S3) → (Q (0 : Int32) S7))) ∧ ((F_ownerAt (((6 : Int32) * a2) + a3) (S3.1 11 1 0) S3) = a1 → ((0 ≤ a2.toInt ∧ a2.toInt < 4) ∧ ((¬ (S3.1 62 1 a2.toNatClampNeg) = (-1 : Int32) → (∀ S10 : hs_S, S10 = (E_fails (2 : Int32) S3) → (Q (0 : Int32) S10))) ∧ ((S3.1 62 1 a2.toNatClampNeg) = (-1 : Int32) → ((P_pileOfDraft S3) ∧ ((¬ (F_pileOfDraft S3) = (1 : Int32) → (∀ S13 : hs_S, S13 = (E_fails (2 : Int32) S3) → (Q (0 : Int32) S13))) ∧ ((F_pileOfDraft S3) = (1 : Int32) → ((¬ (S3.1 11 1 12) = (60 : Int32) → ((P_tellsEdit a1 (((6 : Int32) * a2) + a3) (S3.1 11 1 10) S3) ∧ (∀ r17 : Int32, ∀ S16 : hs_S, R_tellsEdit a1 (((6 : Int32) * a2) + a3) (S3.1 11 1 10) S3 r17 S16 → (∀ S19 : hs_S, S19 = (hs_wI S16 11 1 10 (0 : Int32)) → (Q r17 S19))))) ∧ ((S3.1 11 1 12) = (60 : Int32) → (∀ S20 : hs_S, S20 = (E_fails (2 : Int32) S3) → (Q (0 : Int32) S20)))))))))))))) ∧ (x1 = 0 → (Q (0 : Int32) S3))))))
set_option maxRecDepth 100000 in
set_option maxHeartbeats 4000000 in
theorem ok_M_enter {a1 : Int32} {a2 : Int32} {a3 : Int32} {S : hs_S} {Q : Int32 → hs_S → Prop} (hw : hs_Wi S) (hv : vc_M_enter a1 a2 a3 S Q) : m_M_enter a1 a2 a3 S Q := by
  unfold vc_M_enter at hv
  refine hs_body (own := RX11) rfl rfl (Nat.le_of_ble_eq_true rfl) (fun Z X E N J0 => ?_)
  show wa Z 0 0 S 0 [(0, .inr (.inr (11, 1))), (1, .inl a1), (2, .inl a2), (3, .inl a3)] []
  refine wa_aload_n X 0 rfl dX11_enter_0 rfl ?_
  refine wa_iload_n X 1 rfl dX11_enter_1 rfl ?_
  refine wa_callS X (As := [.inl a1]) (f_M_isOwner hw) kw_1376 kw_66 kw_1374 kw_1375 nd_X11_isOwner rfl rfl (Nat.le_of_ble_eq_true rfl) dX11_enter_2 ⟨⟨Nat.le_of_ble_eq_true rfl, Nat.le_of_ble_eq_true rfl⟩, Nat.le_of_ble_eq_true rfl, Nat.le_of_ble_eq_true rfl⟩ (hs_pdk0 ?_) (fun _ _ h => h.elim)
  have k21 : ∀ (x1 : Int32), x1 = (if (F_isOwner a1) = 0 then (0 : Int32) else (if (F_isCell a2 a3) = 0 then (0 : Int32) else (1 : Int32))) → wa Z 0 0 S 21 [(0, .inr (.inr (11, 1))), (1, .inl a1), (2, .inl a2), (3, .inl a3)] [.inl x1, .inr (.inr (11, 1))] := by
    intro x1 hE
    replace hv := hv _ hE
    obtain ⟨o2, hv⟩ := hv
    refine wa_callV X (As := [.inl x1]) (f_M_asks hw o2) hk_11 hc_11 rfl kw_1383 kw_66 kw_1380 kw_1382 kw_20 nd_X11_asks rfl rfl (Nat.le_of_ble_eq_true rfl) dX11_enter_21 hs_1ne ⟨⟨Nat.le_of_ble_eq_true rfl, Nat.le_of_ble_eq_true rfl⟩, Nat.le_of_ble_eq_true rfl, Nat.le_of_ble_eq_true rfl⟩ (hs_pdk fun S3 hS3 hw => ?_) (fun _ _ h => h.elim)
    replace hv := hv S3 hS3
    refine wa_if_ne X (tgt := 29) dX11_enter_24 (by decide) (fun c4 => ?_) (fun c4 => ?_)
    · replace hv := hv.1 c4
      refine wa_aload_n X 0 rfl dX11_enter_29 rfl ?_
      refine wa_bipush X dX11_enter_30 kb6 ?_
      refine wa_iload_n X 2 rfl dX11_enter_32 rfl ?_
      refine wa_imul X dX11_enter_33 ?_
      refine wa_iload_n X 3 rfl dX11_enter_34 rfl ?_
      refine wa_iadd X dX11_enter_35 ?_
      refine wa_aload_n X 0 rfl dX11_enter_36 rfl ?_
      refine wa_getI X (j := 0) hk_11 hc_11 i_11 (by decide) kw_1184 rfl dX11_enter_37 hs_1ne ?_
      obtain ⟨o5, hv⟩ := hv
      refine wa_callV X (As := [.inl (((6 : Int32) * a2) + a3), .inl (S3.1 11 1 0)]) (f_M_ownerAt hw o5) hk_11 hc_11 rfl kw_1387 kw_66 kw_1384 kw_1386 kw_21 nd_X11_ownerAt rfl rfl (Nat.le_of_ble_eq_true rfl) dX11_enter_40 hs_1ne ⟨⟨Nat.le_of_ble_eq_true rfl, Nat.le_of_ble_eq_true rfl⟩, Nat.le_of_ble_eq_true rfl, Nat.le_of_ble_eq_true rfl⟩ (hs_pdk0 ?_) (fun _ _ h => h.elim)
      refine wa_iload_n X 1 rfl dX11_enter_43 rfl ?_
      refine wa_icmp_ne X (tgt := 74) dX11_enter_44 (by decide) (fun c6 => ?_) (fun c6 => ?_)
      · replace hv := hv.1 c6
        refine wa_aload_n X 0 rfl dX11_enter_74 rfl ?_
        refine wa_iconst X dX11_enter_75 kc2 ?_
        refine wa_callV X (As := [.inl (2 : Int32)]) (f_M_fails hw) hk_11 hc_11 rfl kw_1391 kw_66 kw_1388 kw_1390 kw_22 nd_X11_fails rfl rfl (Nat.le_of_ble_eq_true rfl) dX11_enter_76 hs_1ne ⟨⟨Nat.le_of_ble_eq_true rfl, Nat.le_of_ble_eq_true rfl⟩, Nat.le_of_ble_eq_true rfl, Nat.le_of_ble_eq_true rfl⟩ (hs_pdk fun S7 hS7 hw => ?_) (fun _ _ h => h.elim)
        replace hv := hv S7 hS7
        exact wa_ireturn X E dX11_enter_79 (Nat.le_of_ble_eq_true rfl) (Nat.le_of_ble_eq_true rfl) (Or.inl rfl) ⟨hw, _, rfl, hv⟩
      · replace hv := hv.2 c6
        refine wa_aload_n X 0 rfl dX11_enter_47 rfl ?_
        refine wa_getfw X hw (j := 22) (r := 1) hk_11 hc_11 i_11 (by decide) kw_1206 rfl rfl (by decide) rfl dX11_enter_48 hs_1ne ?_
        refine wa_iload_n X 2 rfl dX11_enter_51 rfl ?_
        obtain ⟨o8, hv⟩ := hv
        refine wa_iald X hk_62 dX11_enter_52 hs_1ne o8 ?_
        refine wa_iconst X dX11_enter_53 kcm1 ?_
        refine wa_icmp_ne X (tgt := 74) dX11_enter_54 (by decide) (fun c9 => ?_) (fun c9 => ?_)
        · replace hv := hv.1 c9
          refine wa_aload_n X 0 rfl dX11_enter_74 rfl ?_
          refine wa_iconst X dX11_enter_75 kc2 ?_
          refine wa_callV X (As := [.inl (2 : Int32)]) (f_M_fails hw) hk_11 hc_11 rfl kw_1391 kw_66 kw_1388 kw_1390 kw_22 nd_X11_fails rfl rfl (Nat.le_of_ble_eq_true rfl) dX11_enter_76 hs_1ne ⟨⟨Nat.le_of_ble_eq_true rfl, Nat.le_of_ble_eq_true rfl⟩, Nat.le_of_ble_eq_true rfl, Nat.le_of_ble_eq_true rfl⟩ (hs_pdk fun S10 hS10 hw => ?_) (fun _ _ h => h.elim)
          replace hv := hv S10 hS10
          exact wa_ireturn X E dX11_enter_79 (Nat.le_of_ble_eq_true rfl) (Nat.le_of_ble_eq_true rfl) (Or.inl rfl) ⟨hw, _, rfl, hv⟩
        · replace hv := hv.2 c9
          refine wa_aload_n X 0 rfl dX11_enter_57 rfl ?_
          obtain ⟨o11, hv⟩ := hv
          refine wa_callV X (As := []) (f_M_pileOfDraft hw o11) hk_11 hc_11 rfl kw_1424 kw_66 kw_1421 kw_1423 kw_25 nd_X11_pileOfDraft rfl rfl (Nat.le_of_ble_eq_true rfl) dX11_enter_58 hs_1ne ⟨⟨Nat.le_of_ble_eq_true rfl, Nat.le_of_ble_eq_true rfl⟩, Nat.le_of_ble_eq_true rfl, Nat.le_of_ble_eq_true rfl⟩ (hs_pdk0 ?_) (fun _ _ h => h.elim)
          refine wa_iconst X dX11_enter_61 kc1 ?_
          refine wa_icmp_ne X (tgt := 74) dX11_enter_62 (by decide) (fun c12 => ?_) (fun c12 => ?_)
          · replace hv := hv.1 c12
            refine wa_aload_n X 0 rfl dX11_enter_74 rfl ?_
            refine wa_iconst X dX11_enter_75 kc2 ?_
            refine wa_callV X (As := [.inl (2 : Int32)]) (f_M_fails hw) hk_11 hc_11 rfl kw_1391 kw_66 kw_1388 kw_1390 kw_22 nd_X11_fails rfl rfl (Nat.le_of_ble_eq_true rfl) dX11_enter_76 hs_1ne ⟨⟨Nat.le_of_ble_eq_true rfl, Nat.le_of_ble_eq_true rfl⟩, Nat.le_of_ble_eq_true rfl, Nat.le_of_ble_eq_true rfl⟩ (hs_pdk fun S13 hS13 hw => ?_) (fun _ _ h => h.elim)
            replace hv := hv S13 hS13
            exact wa_ireturn X E dX11_enter_79 (Nat.le_of_ble_eq_true rfl) (Nat.le_of_ble_eq_true rfl) (Or.inl rfl) ⟨hw, _, rfl, hv⟩
          · replace hv := hv.2 c12
            refine wa_aload_n X 0 rfl dX11_enter_65 rfl ?_
            refine wa_getI X (j := 12) hk_11 hc_11 i_11 (by decide) kw_1196 rfl dX11_enter_66 hs_1ne ?_
            refine wa_bipush X dX11_enter_69 kb60 ?_
            refine wa_icmp_ne X (tgt := 80) dX11_enter_71 (by decide) (fun c14 => ?_) (fun c14 => ?_)
            · replace hv := hv.1 c14
              refine wa_aload_n X 0 rfl dX11_enter_80 rfl ?_
              refine wa_iload_n X 1 rfl dX11_enter_81 rfl ?_
              refine wa_bipush X dX11_enter_82 kb6 ?_
              refine wa_iload_n X 2 rfl dX11_enter_84 rfl ?_
              refine wa_imul X dX11_enter_85 ?_
              refine wa_iload_n X 3 rfl dX11_enter_86 rfl ?_
              refine wa_iadd X dX11_enter_87 ?_
              refine wa_aload_n X 0 rfl dX11_enter_88 rfl ?_
              refine wa_getI X (j := 10) hk_11 hc_11 i_11 (by decide) kw_1194 rfl dX11_enter_89 hs_1ne ?_
              obtain ⟨o15, hv⟩ := hv
              refine wa_callV X (As := [.inl a1, .inl (((6 : Int32) * a2) + a3), .inl (S3.1 11 1 10)]) (ok_M_tellsEdit hw (v_M_tellsEdit o15)) hk_11 hc_11 rfl kw_1439 kw_66 kw_1436 kw_1438 kw_26 nd_X11_tellsEdit rfl rfl (Nat.le_of_ble_eq_true rfl) dX11_enter_92 hs_1ne ⟨⟨Nat.le_of_ble_eq_true rfl, Nat.le_of_ble_eq_true rfl⟩, Nat.le_of_ble_eq_true rfl, Nat.le_of_ble_eq_true rfl⟩ (fun _ S16 h => ?_) (fun _ _ h => h.elim)
              obtain ⟨hw, r17, rfl, g18⟩ := h
              replace hv := hv r17 S16 g18
              refine wa_istore X (lv' := [(4, .inl r17), (0, .inr (.inr (11, 1))), (1, .inl a1), (2, .inl a2), (3, .inl a3)]) dX11_enter_95 (by decide) rfl ?_
              refine wa_aload_n X 1 rfl dX11_enter_97 rfl ?_
              refine wa_iconst X dX11_enter_98 kc0 ?_
              refine wa_putI X (j := 10) hk_11 hc_11 i_11 tyX11 tyX11_ok nmX11 (by decide) kw_1194 rfl rfl dX11_enter_99 hs_1ne ⟨rfl, Or.inl rfl⟩ (hs_eqS fun S19 hS19 => ?_)
              replace hv := hv S19 hS19
              replace hw : hs_Wi S19 := hS19 ▸ hs_Wi_I hw
              refine wa_iload X 0 rfl dX11_enter_102 ?_
              exact wa_ireturn X E dX11_enter_104 (Nat.le_of_ble_eq_true rfl) (Nat.le_of_ble_eq_true rfl) (Or.inl rfl) ⟨hw, _, rfl, hv⟩
            · replace hv := hv.2 c14
              refine wa_aload_n X 0 rfl dX11_enter_74 rfl ?_
              refine wa_iconst X dX11_enter_75 kc2 ?_
              refine wa_callV X (As := [.inl (2 : Int32)]) (f_M_fails hw) hk_11 hc_11 rfl kw_1391 kw_66 kw_1388 kw_1390 kw_22 nd_X11_fails rfl rfl (Nat.le_of_ble_eq_true rfl) dX11_enter_76 hs_1ne ⟨⟨Nat.le_of_ble_eq_true rfl, Nat.le_of_ble_eq_true rfl⟩, Nat.le_of_ble_eq_true rfl, Nat.le_of_ble_eq_true rfl⟩ (hs_pdk fun S20 hS20 hw => ?_) (fun _ _ h => h.elim)
              replace hv := hv S20 hS20
              exact wa_ireturn X E dX11_enter_79 (Nat.le_of_ble_eq_true rfl) (Nat.le_of_ble_eq_true rfl) (Or.inl rfl) ⟨hw, _, rfl, hv⟩
    · replace hv := hv.2 c4
      refine wa_iconst X dX11_enter_27 kc0 ?_
      exact wa_ireturn X E dX11_enter_28 (Nat.le_of_ble_eq_true rfl) (Nat.le_of_ble_eq_true rfl) (Or.inl rfl) ⟨hw, _, rfl, hv⟩
  clear hv
  refine wa_if_eq X (tgt := 20) dX11_enter_5 (by decide) (fun c23 => ?_) (fun c23 => ?_)
  · refine wa_iconst X dX11_enter_20 kc0 ?_
    refine wa_lv (lv' := [(0, .inr (.inr (11, 1))), (1, .inl a1), (2, .inl a2), (3, .inl a3)]) [0, 1, 2, 3] rfl ?_
    exact wa_wid (Nat.le_of_ble_eq_true rfl) (Nat.le_of_ble_eq_true rfl) (k21 _  (by rw [if_pos c23]))
  · refine wa_iload_n X 2 rfl dX11_enter_8 rfl ?_
    refine wa_iload_n X 3 rfl dX11_enter_9 rfl ?_
    refine wa_callS X (As := [.inl a2, .inl a3]) (f_M_isCell hw) kw_1379 kw_66 kw_1377 kw_1378 nd_X11_isCell rfl rfl (Nat.le_of_ble_eq_true rfl) dX11_enter_10 ⟨⟨Nat.le_of_ble_eq_true rfl, Nat.le_of_ble_eq_true rfl⟩, Nat.le_of_ble_eq_true rfl, Nat.le_of_ble_eq_true rfl⟩ (hs_pdk0 ?_) (fun _ _ h => h.elim)
    refine wa_if_eq X (tgt := 20) dX11_enter_13 (by decide) (fun c24 => ?_) (fun c24 => ?_)
    · refine wa_iconst X dX11_enter_20 kc0 ?_
      refine wa_lv (lv' := [(0, .inr (.inr (11, 1))), (1, .inl a1), (2, .inl a2), (3, .inl a3)]) [0, 1, 2, 3] rfl ?_
      exact wa_wid (Nat.le_of_ble_eq_true rfl) (Nat.le_of_ble_eq_true rfl) (k21 _  (by rw [if_neg c23, if_pos c24]))
    · refine wa_iconst X dX11_enter_16 kc1 ?_
      refine wa_goto X (tgt := 21) dX11_enter_17 (by decide) ?_
      refine wa_lv (lv' := [(0, .inr (.inr (11, 1))), (1, .inl a1), (2, .inl a2), (3, .inl a3)]) [0, 1, 2, 3] rfl ?_
      exact wa_wid (Nat.le_of_ble_eq_true rfl) (Nat.le_of_ble_eq_true rfl) (k21 _  (by rw [if_neg c23, if_neg c24]))

def m_M_empty (a1 : Int32) (a2 : Int32) (a3 : Int32) (S : hs_S) (Q : Int32 → hs_S → Prop) : Prop := hs_M 3 yX11_empty (.code yX11_empty cX11_empty 4 (some FieldType.int)) [.inr (.inr (11, 1)), .inl a1, .inl a2, .inl a3] S 0 0 (hs_qI Q) hs_nX
def vc_M_empty (a1 : Int32) (a2 : Int32) (a3 : Int32) (S : hs_S) (Q : Int32 → hs_S → Prop) : Prop := (∀ x1 : Int32, x1 = (if (F_isOwner a1) = 0 then (0 : Int32) else (if (F_isCell a2 a3) = 0 then (0 : Int32) else (1 : Int32))) → ((P_asks x1 S) ∧ (∀ S3 : hs_S, S3 = (E_asks x1 S) → ((¬ x1 = 0 → ((P_ownerAt (((6 : Int32) * a2) + a3) (S3.1 11 1 0) S3) ∧ ((¬ (F_ownerAt (((6 : Int32) * a2) + a3) (S3.1 11 1 0) S3) = a1 → (∀ S7 : hs_S, S7 = (E_fails (2 : Int32) S3) → (Q (0 : Int32) S7))) ∧ ((F_ownerAt (((6 : Int32) * a2) + a3) (S3.1 11 1 0) S3) = a1 → ((0 ≤ a2.toInt ∧ a2.toInt < 4) ∧ ((¬ (S3.1 62 1 a2.toNatClampNeg) = (-1 : Int32) → (∀ S10 : hs_S, S10 = (E_fails (2 : Int32) S3) → (Q (0 : Int32) S10))) ∧ ((S3.1 62 1 a2.toNatClampNeg) = (-1 : Int32) → ((¬ (S3.1 11 1 12) = (60 : Int32) → ((P_tellsEdit a1 (((6 : Int32) * a2) + a3) (0 : Int32) S3) ∧ (∀ r14 : Int32, ∀ S13 : hs_S, R_tellsEdit a1 (((6 : Int32) * a2) + a3) (0 : Int32) S3 r14 S13 → (Q r14 S13)))) ∧ ((S3.1 11 1 12) = (60 : Int32) → (∀ S16 : hs_S, S16 = (E_fails (2 : Int32) S3) → (Q (0 : Int32) S16))))))))))) ∧ (x1 = 0 → (Q (0 : Int32) S3))))))
set_option maxRecDepth 100000 in
set_option maxHeartbeats 4000000 in
theorem ok_M_empty {a1 : Int32} {a2 : Int32} {a3 : Int32} {S : hs_S} {Q : Int32 → hs_S → Prop} (hw : hs_Wi S) (hv : vc_M_empty a1 a2 a3 S Q) : m_M_empty a1 a2 a3 S Q := by
  unfold vc_M_empty at hv
  refine hs_body (own := RX11) rfl rfl (Nat.le_of_ble_eq_true rfl) (fun Z X E N J0 => ?_)
  show wa Z 0 0 S 0 [(0, .inr (.inr (11, 1))), (1, .inl a1), (2, .inl a2), (3, .inl a3)] []
  refine wa_aload_n X 0 rfl dX11_empty_0 rfl ?_
  refine wa_iload_n X 1 rfl dX11_empty_1 rfl ?_
  refine wa_callS X (As := [.inl a1]) (f_M_isOwner hw) kw_1376 kw_66 kw_1374 kw_1375 nd_X11_isOwner rfl rfl (Nat.le_of_ble_eq_true rfl) dX11_empty_2 ⟨⟨Nat.le_of_ble_eq_true rfl, Nat.le_of_ble_eq_true rfl⟩, Nat.le_of_ble_eq_true rfl, Nat.le_of_ble_eq_true rfl⟩ (hs_pdk0 ?_) (fun _ _ h => h.elim)
  have k17 : ∀ (x1 : Int32), x1 = (if (F_isOwner a1) = 0 then (0 : Int32) else (if (F_isCell a2 a3) = 0 then (0 : Int32) else (1 : Int32))) → wa Z 0 0 S 21 [(0, .inr (.inr (11, 1))), (1, .inl a1), (2, .inl a2), (3, .inl a3)] [.inl x1, .inr (.inr (11, 1))] := by
    intro x1 hE
    replace hv := hv _ hE
    obtain ⟨o2, hv⟩ := hv
    refine wa_callV X (As := [.inl x1]) (f_M_asks hw o2) hk_11 hc_11 rfl kw_1383 kw_66 kw_1380 kw_1382 kw_20 nd_X11_asks rfl rfl (Nat.le_of_ble_eq_true rfl) dX11_empty_21 hs_1ne ⟨⟨Nat.le_of_ble_eq_true rfl, Nat.le_of_ble_eq_true rfl⟩, Nat.le_of_ble_eq_true rfl, Nat.le_of_ble_eq_true rfl⟩ (hs_pdk fun S3 hS3 hw => ?_) (fun _ _ h => h.elim)
    replace hv := hv S3 hS3
    refine wa_if_ne X (tgt := 29) dX11_empty_24 (by decide) (fun c4 => ?_) (fun c4 => ?_)
    · replace hv := hv.1 c4
      refine wa_aload_n X 0 rfl dX11_empty_29 rfl ?_
      refine wa_bipush X dX11_empty_30 kb6 ?_
      refine wa_iload_n X 2 rfl dX11_empty_32 rfl ?_
      refine wa_imul X dX11_empty_33 ?_
      refine wa_iload_n X 3 rfl dX11_empty_34 rfl ?_
      refine wa_iadd X dX11_empty_35 ?_
      refine wa_aload_n X 0 rfl dX11_empty_36 rfl ?_
      refine wa_getI X (j := 0) hk_11 hc_11 i_11 (by decide) kw_1184 rfl dX11_empty_37 hs_1ne ?_
      obtain ⟨o5, hv⟩ := hv
      refine wa_callV X (As := [.inl (((6 : Int32) * a2) + a3), .inl (S3.1 11 1 0)]) (f_M_ownerAt hw o5) hk_11 hc_11 rfl kw_1387 kw_66 kw_1384 kw_1386 kw_21 nd_X11_ownerAt rfl rfl (Nat.le_of_ble_eq_true rfl) dX11_empty_40 hs_1ne ⟨⟨Nat.le_of_ble_eq_true rfl, Nat.le_of_ble_eq_true rfl⟩, Nat.le_of_ble_eq_true rfl, Nat.le_of_ble_eq_true rfl⟩ (hs_pdk0 ?_) (fun _ _ h => h.elim)
      refine wa_iload_n X 1 rfl dX11_empty_43 rfl ?_
      refine wa_icmp_ne X (tgt := 66) dX11_empty_44 (by decide) (fun c6 => ?_) (fun c6 => ?_)
      · replace hv := hv.1 c6
        refine wa_aload_n X 0 rfl dX11_empty_66 rfl ?_
        refine wa_iconst X dX11_empty_67 kc2 ?_
        refine wa_callV X (As := [.inl (2 : Int32)]) (f_M_fails hw) hk_11 hc_11 rfl kw_1391 kw_66 kw_1388 kw_1390 kw_22 nd_X11_fails rfl rfl (Nat.le_of_ble_eq_true rfl) dX11_empty_68 hs_1ne ⟨⟨Nat.le_of_ble_eq_true rfl, Nat.le_of_ble_eq_true rfl⟩, Nat.le_of_ble_eq_true rfl, Nat.le_of_ble_eq_true rfl⟩ (hs_pdk fun S7 hS7 hw => ?_) (fun _ _ h => h.elim)
        replace hv := hv S7 hS7
        exact wa_ireturn X E dX11_empty_71 (Nat.le_of_ble_eq_true rfl) (Nat.le_of_ble_eq_true rfl) (Or.inl rfl) ⟨hw, _, rfl, hv⟩
      · replace hv := hv.2 c6
        refine wa_aload_n X 0 rfl dX11_empty_47 rfl ?_
        refine wa_getfw X hw (j := 22) (r := 1) hk_11 hc_11 i_11 (by decide) kw_1206 rfl rfl (by decide) rfl dX11_empty_48 hs_1ne ?_
        refine wa_iload_n X 2 rfl dX11_empty_51 rfl ?_
        obtain ⟨o8, hv⟩ := hv
        refine wa_iald X hk_62 dX11_empty_52 hs_1ne o8 ?_
        refine wa_iconst X dX11_empty_53 kcm1 ?_
        refine wa_icmp_ne X (tgt := 66) dX11_empty_54 (by decide) (fun c9 => ?_) (fun c9 => ?_)
        · replace hv := hv.1 c9
          refine wa_aload_n X 0 rfl dX11_empty_66 rfl ?_
          refine wa_iconst X dX11_empty_67 kc2 ?_
          refine wa_callV X (As := [.inl (2 : Int32)]) (f_M_fails hw) hk_11 hc_11 rfl kw_1391 kw_66 kw_1388 kw_1390 kw_22 nd_X11_fails rfl rfl (Nat.le_of_ble_eq_true rfl) dX11_empty_68 hs_1ne ⟨⟨Nat.le_of_ble_eq_true rfl, Nat.le_of_ble_eq_true rfl⟩, Nat.le_of_ble_eq_true rfl, Nat.le_of_ble_eq_true rfl⟩ (hs_pdk fun S10 hS10 hw => ?_) (fun _ _ h => h.elim)
          replace hv := hv S10 hS10
          exact wa_ireturn X E dX11_empty_71 (Nat.le_of_ble_eq_true rfl) (Nat.le_of_ble_eq_true rfl) (Or.inl rfl) ⟨hw, _, rfl, hv⟩
        · replace hv := hv.2 c9
          refine wa_aload_n X 0 rfl dX11_empty_57 rfl ?_
          refine wa_getI X (j := 12) hk_11 hc_11 i_11 (by decide) kw_1196 rfl dX11_empty_58 hs_1ne ?_
          refine wa_bipush X dX11_empty_61 kb60 ?_
          refine wa_icmp_ne X (tgt := 72) dX11_empty_63 (by decide) (fun c11 => ?_) (fun c11 => ?_)
          · replace hv := hv.1 c11
            refine wa_aload_n X 0 rfl dX11_empty_72 rfl ?_
            refine wa_iload_n X 1 rfl dX11_empty_73 rfl ?_
            refine wa_bipush X dX11_empty_74 kb6 ?_
            refine wa_iload_n X 2 rfl dX11_empty_76 rfl ?_
            refine wa_imul X dX11_empty_77 ?_
            refine wa_iload_n X 3 rfl dX11_empty_78 rfl ?_
            refine wa_iadd X dX11_empty_79 ?_
            refine wa_iconst X dX11_empty_80 kc0 ?_
            obtain ⟨o12, hv⟩ := hv
            refine wa_callV X (As := [.inl a1, .inl (((6 : Int32) * a2) + a3), .inl (0 : Int32)]) (ok_M_tellsEdit hw (v_M_tellsEdit o12)) hk_11 hc_11 rfl kw_1439 kw_66 kw_1436 kw_1438 kw_26 nd_X11_tellsEdit rfl rfl (Nat.le_of_ble_eq_true rfl) dX11_empty_81 hs_1ne ⟨⟨Nat.le_of_ble_eq_true rfl, Nat.le_of_ble_eq_true rfl⟩, Nat.le_of_ble_eq_true rfl, Nat.le_of_ble_eq_true rfl⟩ (fun _ S13 h => ?_) (fun _ _ h => h.elim)
            obtain ⟨hw, r14, rfl, g15⟩ := h
            replace hv := hv r14 S13 g15
            exact wa_ireturn X E dX11_empty_84 (Nat.le_of_ble_eq_true rfl) (Nat.le_of_ble_eq_true rfl) (Or.inl rfl) ⟨hw, _, rfl, hv⟩
          · replace hv := hv.2 c11
            refine wa_aload_n X 0 rfl dX11_empty_66 rfl ?_
            refine wa_iconst X dX11_empty_67 kc2 ?_
            refine wa_callV X (As := [.inl (2 : Int32)]) (f_M_fails hw) hk_11 hc_11 rfl kw_1391 kw_66 kw_1388 kw_1390 kw_22 nd_X11_fails rfl rfl (Nat.le_of_ble_eq_true rfl) dX11_empty_68 hs_1ne ⟨⟨Nat.le_of_ble_eq_true rfl, Nat.le_of_ble_eq_true rfl⟩, Nat.le_of_ble_eq_true rfl, Nat.le_of_ble_eq_true rfl⟩ (hs_pdk fun S16 hS16 hw => ?_) (fun _ _ h => h.elim)
            replace hv := hv S16 hS16
            exact wa_ireturn X E dX11_empty_71 (Nat.le_of_ble_eq_true rfl) (Nat.le_of_ble_eq_true rfl) (Or.inl rfl) ⟨hw, _, rfl, hv⟩
    · replace hv := hv.2 c4
      refine wa_iconst X dX11_empty_27 kc0 ?_
      exact wa_ireturn X E dX11_empty_28 (Nat.le_of_ble_eq_true rfl) (Nat.le_of_ble_eq_true rfl) (Or.inl rfl) ⟨hw, _, rfl, hv⟩
  clear hv
  refine wa_if_eq X (tgt := 20) dX11_empty_5 (by decide) (fun c19 => ?_) (fun c19 => ?_)
  · refine wa_iconst X dX11_empty_20 kc0 ?_
    refine wa_lv (lv' := [(0, .inr (.inr (11, 1))), (1, .inl a1), (2, .inl a2), (3, .inl a3)]) [0, 1, 2, 3] rfl ?_
    exact wa_wid (Nat.le_of_ble_eq_true rfl) (Nat.le_of_ble_eq_true rfl) (k17 _  (by rw [if_pos c19]))
  · refine wa_iload_n X 2 rfl dX11_empty_8 rfl ?_
    refine wa_iload_n X 3 rfl dX11_empty_9 rfl ?_
    refine wa_callS X (As := [.inl a2, .inl a3]) (f_M_isCell hw) kw_1379 kw_66 kw_1377 kw_1378 nd_X11_isCell rfl rfl (Nat.le_of_ble_eq_true rfl) dX11_empty_10 ⟨⟨Nat.le_of_ble_eq_true rfl, Nat.le_of_ble_eq_true rfl⟩, Nat.le_of_ble_eq_true rfl, Nat.le_of_ble_eq_true rfl⟩ (hs_pdk0 ?_) (fun _ _ h => h.elim)
    refine wa_if_eq X (tgt := 20) dX11_empty_13 (by decide) (fun c20 => ?_) (fun c20 => ?_)
    · refine wa_iconst X dX11_empty_20 kc0 ?_
      refine wa_lv (lv' := [(0, .inr (.inr (11, 1))), (1, .inl a1), (2, .inl a2), (3, .inl a3)]) [0, 1, 2, 3] rfl ?_
      exact wa_wid (Nat.le_of_ble_eq_true rfl) (Nat.le_of_ble_eq_true rfl) (k17 _  (by rw [if_neg c19, if_pos c20]))
    · refine wa_iconst X dX11_empty_16 kc1 ?_
      refine wa_goto X (tgt := 21) dX11_empty_17 (by decide) ?_
      refine wa_lv (lv' := [(0, .inr (.inr (11, 1))), (1, .inl a1), (2, .inl a2), (3, .inl a3)]) [0, 1, 2, 3] rfl ?_
      exact wa_wid (Nat.le_of_ble_eq_true rfl) (Nat.le_of_ble_eq_true rfl) (k17 _  (by rw [if_neg c19, if_neg c20]))

def m_M_notice (a1 : Int32) (a2 : Int32) (S : hs_S) (Q : Int32 → hs_S → Prop) : Prop := hs_M 2 yX11_notice (.code yX11_notice cX11_notice 4 (some FieldType.int)) [.inr (.inr (11, 1)), .inl a1, .inl a2] S 0 0 (hs_qI Q) hs_nX
def vc_M_notice (a1 : Int32) (a2 : Int32) (S : hs_S) (Q : Int32 → hs_S → Prop) : Prop := (∀ x1 : Int32, x1 = (if a1 < 0 then (0 : Int32) else (if (4 : Int32) ≤ a1 then (0 : Int32) else (1 : Int32))) → ((P_asks x1 S) ∧ (∀ S3 : hs_S, S3 = (E_asks x1 S) → ((¬ x1 = 0 → ((¬ (F_in a2 (0 : Int32) (50 : Int32)) = 0 → ((0 ≤ a1.toInt ∧ a1.toInt < 4) ∧ (∀ S7 : hs_S, S7 = (hs_wI S3 60 1 a1.toNatClampNeg a2) → (∀ S8 : hs_S, S8 = (E_act (S3.1 60 1 a1.toNatClampNeg) S7) → (Q (S3.1 60 1 a1.toNatClampNeg) S8))))) ∧ ((F_in a2 (0 : Int32) (50 : Int32)) = 0 → (∀ S9 : hs_S, S9 = (E_fails (2 : Int32) S3) → (Q (0 : Int32) S9))))) ∧ (x1 = 0 → (Q (0 : Int32) S3))))))
set_option maxRecDepth 100000 in
set_option maxHeartbeats 4000000 in
theorem ok_M_notice {a1 : Int32} {a2 : Int32} {S : hs_S} {Q : Int32 → hs_S → Prop} (hw : hs_Wi S) (hv : vc_M_notice a1 a2 S Q) : m_M_notice a1 a2 S Q := by
  unfold vc_M_notice at hv
  refine hs_body (own := RX11) rfl rfl (Nat.le_of_ble_eq_true rfl) (fun Z X E N J0 => ?_)
  show wa Z 0 0 S 0 [(0, .inr (.inr (11, 1))), (1, .inl a1), (2, .inl a2)] []
  refine wa_aload_n X 0 rfl dX11_notice_0 rfl ?_
  refine wa_iload_n X 1 rfl dX11_notice_1 rfl ?_
  have k10 : ∀ (x1 : Int32), x1 = (if a1 < 0 then (0 : Int32) else (if (4 : Int32) ≤ a1 then (0 : Int32) else (1 : Int32))) → wa Z 0 0 S 15 [(0, .inr (.inr (11, 1))), (1, .inl a1), (2, .inl a2)] [.inl x1, .inr (.inr (11, 1))] := by
    intro x1 hE
    replace hv := hv _ hE
    obtain ⟨o2, hv⟩ := hv
    refine wa_callV X (As := [.inl x1]) (f_M_asks hw o2) hk_11 hc_11 rfl kw_1383 kw_66 kw_1380 kw_1382 kw_20 nd_X11_asks rfl rfl (Nat.le_of_ble_eq_true rfl) dX11_notice_15 hs_1ne ⟨⟨Nat.le_of_ble_eq_true rfl, Nat.le_of_ble_eq_true rfl⟩, Nat.le_of_ble_eq_true rfl, Nat.le_of_ble_eq_true rfl⟩ (hs_pdk fun S3 hS3 hw => ?_) (fun _ _ h => h.elim)
    replace hv := hv S3 hS3
    refine wa_if_ne X (tgt := 23) dX11_notice_18 (by decide) (fun c4 => ?_) (fun c4 => ?_)
    · replace hv := hv.1 c4
      refine wa_iload_n X 2 rfl dX11_notice_23 rfl ?_
      refine wa_iconst X dX11_notice_24 kc0 ?_
      refine wa_bipush X dX11_notice_25 kb50 ?_
      refine wa_callS X (As := [.inl a2, .inl (0 : Int32), .inl (50 : Int32)]) (f_M_in hw) kw_1420 kw_66 kw_1418 kw_1419 nd_X11_in rfl rfl (Nat.le_of_ble_eq_true rfl) dX11_notice_27 ⟨⟨Nat.le_of_ble_eq_true rfl, Nat.le_of_ble_eq_true rfl⟩, Nat.le_of_ble_eq_true rfl, Nat.le_of_ble_eq_true rfl⟩ (hs_pdk0 ?_) (fun _ _ h => h.elim)
      refine wa_if_ne X (tgt := 39) dX11_notice_30 (by decide) (fun c5 => ?_) (fun c5 => ?_)
      · replace hv := hv.1 c5
        refine wa_aload_n X 0 rfl dX11_notice_39 rfl ?_
        refine wa_getfw X hw (j := 20) (r := 1) hk_11 hc_11 i_11 (by decide) kw_1204 rfl rfl (by decide) rfl dX11_notice_40 hs_1ne ?_
        refine wa_iload_n X 1 rfl dX11_notice_43 rfl ?_
        obtain ⟨o6, hv⟩ := hv
        refine wa_iald X hk_60 dX11_notice_44 hs_1ne o6 ?_
        refine wa_istore_n X (lv' := [(3, .inl (S3.1 60 1 a1.toNatClampNeg)), (0, .inr (.inr (11, 1))), (1, .inl a1), (2, .inl a2)]) dX11_notice_45 rfl (by decide) rfl ?_
        refine wa_aload_n X 1 rfl dX11_notice_46 rfl ?_
        refine wa_getfw X hw (j := 20) (r := 1) hk_11 hc_11 i_11 (by decide) kw_1204 rfl rfl (by decide) rfl dX11_notice_47 hs_1ne ?_
        refine wa_iload_n X 2 rfl dX11_notice_50 rfl ?_
        refine wa_iload_n X 3 rfl dX11_notice_51 rfl ?_
        refine wa_iast X hk_60 dX11_notice_52 hs_1ne o6 (hs_eqS fun S7 hS7 => ?_)
        replace hv := hv S7 hS7
        replace hw : hs_Wi S7 := hS7 ▸ hs_Wi_I hw
        refine wa_aload_n X 1 rfl dX11_notice_53 rfl ?_
        refine wa_iload_n X 0 rfl dX11_notice_54 rfl ?_
        refine wa_callV X (As := [.inl (S3.1 60 1 a1.toNatClampNeg)]) (f_M_act hw) hk_11 hc_11 rfl kw_1399 kw_66 kw_1396 kw_1398 kw_23 nd_X11_act rfl rfl (Nat.le_of_ble_eq_true rfl) dX11_notice_55 hs_1ne ⟨⟨Nat.le_of_ble_eq_true rfl, Nat.le_of_ble_eq_true rfl⟩, Nat.le_of_ble_eq_true rfl, Nat.le_of_ble_eq_true rfl⟩ (hs_pdk fun S8 hS8 hw => ?_) (fun _ _ h => h.elim)
        replace hv := hv S8 hS8
        exact wa_ireturn X E dX11_notice_58 (Nat.le_of_ble_eq_true rfl) (Nat.le_of_ble_eq_true rfl) (Or.inl rfl) ⟨hw, _, rfl, hv⟩
      · replace hv := hv.2 c5
        refine wa_aload_n X 0 rfl dX11_notice_33 rfl ?_
        refine wa_iconst X dX11_notice_34 kc2 ?_
        refine wa_callV X (As := [.inl (2 : Int32)]) (f_M_fails hw) hk_11 hc_11 rfl kw_1391 kw_66 kw_1388 kw_1390 kw_22 nd_X11_fails rfl rfl (Nat.le_of_ble_eq_true rfl) dX11_notice_35 hs_1ne ⟨⟨Nat.le_of_ble_eq_true rfl, Nat.le_of_ble_eq_true rfl⟩, Nat.le_of_ble_eq_true rfl, Nat.le_of_ble_eq_true rfl⟩ (hs_pdk fun S9 hS9 hw => ?_) (fun _ _ h => h.elim)
        replace hv := hv S9 hS9
        exact wa_ireturn X E dX11_notice_38 (Nat.le_of_ble_eq_true rfl) (Nat.le_of_ble_eq_true rfl) (Or.inl rfl) ⟨hw, _, rfl, hv⟩
    · replace hv := hv.2 c4
      refine wa_iconst X dX11_notice_21 kc0 ?_
      exact wa_ireturn X E dX11_notice_22 (Nat.le_of_ble_eq_true rfl) (Nat.le_of_ble_eq_true rfl) (Or.inl rfl) ⟨hw, _, rfl, hv⟩
  clear hv
  refine wa_if_lt X (tgt := 14) dX11_notice_2 (by decide) (fun c12 => ?_) (fun c12 => ?_)
  · refine wa_iconst X dX11_notice_14 kc0 ?_
    refine wa_lv (lv' := [(0, .inr (.inr (11, 1))), (1, .inl a1), (2, .inl a2)]) [0, 1, 2] rfl ?_
    exact wa_wid (Nat.le_of_ble_eq_true rfl) (Nat.le_of_ble_eq_true rfl) (k10 _  (by rw [if_pos c12]))
  · refine wa_iload_n X 1 rfl dX11_notice_5 rfl ?_
    refine wa_iconst X dX11_notice_6 kc4 ?_
    refine wa_icmp_ge X (tgt := 14) dX11_notice_7 (by decide) (fun c13 => ?_) (fun c13 => ?_)
    · refine wa_iconst X dX11_notice_14 kc0 ?_
      refine wa_lv (lv' := [(0, .inr (.inr (11, 1))), (1, .inl a1), (2, .inl a2)]) [0, 1, 2] rfl ?_
      exact wa_wid (Nat.le_of_ble_eq_true rfl) (Nat.le_of_ble_eq_true rfl) (k10 _  (by rw [if_neg c12, if_pos c13]))
    · refine wa_iconst X dX11_notice_10 kc1 ?_
      refine wa_goto X (tgt := 15) dX11_notice_11 (by decide) ?_
      refine wa_lv (lv' := [(0, .inr (.inr (11, 1))), (1, .inl a1), (2, .inl a2)]) [0, 1, 2] rfl ?_
      exact wa_wid (Nat.le_of_ble_eq_true rfl) (Nat.le_of_ble_eq_true rfl) (k10 _  (by rw [if_neg c12, if_neg c13]))

def m_M_asked (a1 : Int32) (a2 : Int32) (a3 : Int32) (a4 : Int32) (S : hs_S) (Q : Int32 → hs_S → Prop) : Prop := hs_M 6 yX11_asked (.code yX11_asked cX11_asked 6 (some FieldType.int)) [.inr (.inr (11, 1)), .inl a1, .inl a2, .inl a3, .inl a4] S 0 0 (hs_qI Q) hs_nX
def vc_M_asked (a1 : Int32) (a2 : Int32) (a3 : Int32) (a4 : Int32) (S : hs_S) (Q : Int32 → hs_S → Prop) : Prop := (∀ x1 : Int32, x1 = (if (F_isOwner a1) = 0 then (0 : Int32) else (if (F_isCell a2 a3) = 0 then (0 : Int32) else (1 : Int32))) → ((P_asks x1 S) ∧ (∀ S3 : hs_S, S3 = (E_asks x1 S) → ((¬ x1 = 0 → ((P_readsAt a1 (((6 : Int32) * a2) + a3) (S3.1 11 1 0) S3) ∧ ((¬ (F_readsAt a1 (((6 : Int32) * a2) + a3) (S3.1 11 1 0) S3) = 0 → ((P_valueAt (((6 : Int32) * a2) + a3) (S3.1 11 1 0) S3) ∧ (∀ r9 : Int32, ∀ S8 : hs_S, R_valueAt (((6 : Int32) * a2) + a3) (S3.1 11 1 0) S3 r9 S8 → ((a4 = 0 → (Q r9 S8)) ∧ (¬ a4 = 0 → (Q (S8.1 11 1 58) S8)))))) ∧ ((F_readsAt a1 (((6 : Int32) * a2) + a3) (S3.1 11 1 0) S3) = 0 → (∀ S12 : hs_S, S12 = (E_fails (2 : Int32) S3) → (Q (0 : Int32) S12)))))) ∧ (x1 = 0 → (Q (0 : Int32) S3))))))
set_option maxRecDepth 100000 in
set_option maxHeartbeats 4000000 in
theorem ok_M_asked {a1 : Int32} {a2 : Int32} {a3 : Int32} {a4 : Int32} {S : hs_S} {Q : Int32 → hs_S → Prop} (hw : hs_Wi S) (hv : vc_M_asked a1 a2 a3 a4 S Q) : m_M_asked a1 a2 a3 a4 S Q := by
  unfold vc_M_asked at hv
  refine hs_body (own := RX11) rfl rfl (Nat.le_of_ble_eq_true rfl) (fun Z X E N J0 => ?_)
  show wa Z 0 0 S 0 [(0, .inr (.inr (11, 1))), (1, .inl a1), (2, .inl a2), (3, .inl a3), (4, .inl a4)] []
  refine wa_aload_n X 0 rfl dX11_asked_0 rfl ?_
  refine wa_iload_n X 1 rfl dX11_asked_1 rfl ?_
  refine wa_callS X (As := [.inl a1]) (f_M_isOwner hw) kw_1376 kw_66 kw_1374 kw_1375 nd_X11_isOwner rfl rfl (Nat.le_of_ble_eq_true rfl) dX11_asked_2 ⟨⟨Nat.le_of_ble_eq_true rfl, Nat.le_of_ble_eq_true rfl⟩, Nat.le_of_ble_eq_true rfl, Nat.le_of_ble_eq_true rfl⟩ (hs_pdk0 ?_) (fun _ _ h => h.elim)
  have k13 : ∀ (x1 : Int32), x1 = (if (F_isOwner a1) = 0 then (0 : Int32) else (if (F_isCell a2 a3) = 0 then (0 : Int32) else (1 : Int32))) → wa Z 0 0 S 21 [(0, .inr (.inr (11, 1))), (1, .inl a1), (2, .inl a2), (3, .inl a3), (4, .inl a4)] [.inl x1, .inr (.inr (11, 1))] := by
    intro x1 hE
    replace hv := hv _ hE
    obtain ⟨o2, hv⟩ := hv
    refine wa_callV X (As := [.inl x1]) (f_M_asks hw o2) hk_11 hc_11 rfl kw_1383 kw_66 kw_1380 kw_1382 kw_20 nd_X11_asks rfl rfl (Nat.le_of_ble_eq_true rfl) dX11_asked_21 hs_1ne ⟨⟨Nat.le_of_ble_eq_true rfl, Nat.le_of_ble_eq_true rfl⟩, Nat.le_of_ble_eq_true rfl, Nat.le_of_ble_eq_true rfl⟩ (hs_pdk fun S3 hS3 hw => ?_) (fun _ _ h => h.elim)
    replace hv := hv S3 hS3
    refine wa_if_ne X (tgt := 29) dX11_asked_24 (by decide) (fun c4 => ?_) (fun c4 => ?_)
    · replace hv := hv.1 c4
      refine wa_aload_n X 0 rfl dX11_asked_29 rfl ?_
      refine wa_iload_n X 1 rfl dX11_asked_30 rfl ?_
      refine wa_bipush X dX11_asked_31 kb6 ?_
      refine wa_iload_n X 2 rfl dX11_asked_33 rfl ?_
      refine wa_imul X dX11_asked_34 ?_
      refine wa_iload_n X 3 rfl dX11_asked_35 rfl ?_
      refine wa_iadd X dX11_asked_36 ?_
      refine wa_aload_n X 0 rfl dX11_asked_37 rfl ?_
      refine wa_getI X (j := 0) hk_11 hc_11 i_11 (by decide) kw_1184 rfl dX11_asked_38 hs_1ne ?_
      obtain ⟨o5, hv⟩ := hv
      refine wa_callV X (As := [.inl a1, .inl (((6 : Int32) * a2) + a3), .inl (S3.1 11 1 0)]) (f_M_readsAt hw o5) hk_11 hc_11 rfl kw_1411 kw_66 kw_1408 kw_1410 kw_24 nd_X11_readsAt rfl rfl (Nat.le_of_ble_eq_true rfl) dX11_asked_41 hs_1ne ⟨⟨Nat.le_of_ble_eq_true rfl, Nat.le_of_ble_eq_true rfl⟩, Nat.le_of_ble_eq_true rfl, Nat.le_of_ble_eq_true rfl⟩ (hs_pdk0 ?_) (fun _ _ h => h.elim)
      refine wa_if_ne X (tgt := 53) dX11_asked_44 (by decide) (fun c6 => ?_) (fun c6 => ?_)
      · replace hv := hv.1 c6
        refine wa_aload_n X 0 rfl dX11_asked_53 rfl ?_
        refine wa_bipush X dX11_asked_54 kb6 ?_
        refine wa_iload_n X 2 rfl dX11_asked_56 rfl ?_
        refine wa_imul X dX11_asked_57 ?_
        refine wa_iload_n X 3 rfl dX11_asked_58 rfl ?_
        refine wa_iadd X dX11_asked_59 ?_
        refine wa_aload_n X 0 rfl dX11_asked_60 rfl ?_
        refine wa_getI X (j := 0) hk_11 hc_11 i_11 (by decide) kw_1184 rfl dX11_asked_61 hs_1ne ?_
        obtain ⟨o7, hv⟩ := hv
        refine wa_callV X (As := [.inl (((6 : Int32) * a2) + a3), .inl (S3.1 11 1 0)]) (ok_M_valueAt hw (v_M_valueAt o7)) hk_11 hc_11 rfl kw_1459 kw_66 kw_1456 kw_1458 kw_28 nd_X11_valueAt rfl rfl (Nat.le_of_ble_eq_true rfl) dX11_asked_64 hs_1ne ⟨⟨Nat.le_of_ble_eq_true rfl, Nat.le_of_ble_eq_true rfl⟩, Nat.le_of_ble_eq_true rfl, Nat.le_of_ble_eq_true rfl⟩ (fun _ S8 h => ?_) (fun _ _ h => h.elim)
        obtain ⟨hw, r9, rfl, g10⟩ := h
        replace hv := hv r9 S8 g10
        refine wa_istore X (lv' := [(5, .inl r9), (0, .inr (.inr (11, 1))), (1, .inl a1), (2, .inl a2), (3, .inl a3), (4, .inl a4)]) dX11_asked_67 (by decide) rfl ?_
        refine wa_iload X 5 rfl dX11_asked_69 ?_
        refine wa_if_eq X (tgt := 81) dX11_asked_71 (by decide) (fun c11 => ?_) (fun c11 => ?_)
        · replace hv := hv.1 c11
          refine wa_iload X 0 rfl dX11_asked_81 ?_
          exact wa_ireturn X E dX11_asked_83 (Nat.le_of_ble_eq_true rfl) (Nat.le_of_ble_eq_true rfl) (Or.inl rfl) ⟨hw, _, rfl, hv⟩
        · replace hv := hv.2 c11
          refine wa_aload_n X 1 rfl dX11_asked_74 rfl ?_
          refine wa_getI X (j := 58) hk_11 hc_11 i_11 (by decide) kw_1242 rfl dX11_asked_75 hs_1ne ?_
          refine wa_goto X (tgt := 83) dX11_asked_78 (by decide) ?_
          exact wa_ireturn X E dX11_asked_83 (Nat.le_of_ble_eq_true rfl) (Nat.le_of_ble_eq_true rfl) (Or.inl rfl) ⟨hw, _, rfl, hv⟩
      · replace hv := hv.2 c6
        refine wa_aload_n X 0 rfl dX11_asked_47 rfl ?_
        refine wa_iconst X dX11_asked_48 kc2 ?_
        refine wa_callV X (As := [.inl (2 : Int32)]) (f_M_fails hw) hk_11 hc_11 rfl kw_1391 kw_66 kw_1388 kw_1390 kw_22 nd_X11_fails rfl rfl (Nat.le_of_ble_eq_true rfl) dX11_asked_49 hs_1ne ⟨⟨Nat.le_of_ble_eq_true rfl, Nat.le_of_ble_eq_true rfl⟩, Nat.le_of_ble_eq_true rfl, Nat.le_of_ble_eq_true rfl⟩ (hs_pdk fun S12 hS12 hw => ?_) (fun _ _ h => h.elim)
        replace hv := hv S12 hS12
        exact wa_ireturn X E dX11_asked_52 (Nat.le_of_ble_eq_true rfl) (Nat.le_of_ble_eq_true rfl) (Or.inl rfl) ⟨hw, _, rfl, hv⟩
    · replace hv := hv.2 c4
      refine wa_iconst X dX11_asked_27 kc0 ?_
      exact wa_ireturn X E dX11_asked_28 (Nat.le_of_ble_eq_true rfl) (Nat.le_of_ble_eq_true rfl) (Or.inl rfl) ⟨hw, _, rfl, hv⟩
  clear hv
  refine wa_if_eq X (tgt := 20) dX11_asked_5 (by decide) (fun c15 => ?_) (fun c15 => ?_)
  · refine wa_iconst X dX11_asked_20 kc0 ?_
    refine wa_lv (lv' := [(0, .inr (.inr (11, 1))), (1, .inl a1), (2, .inl a2), (3, .inl a3), (4, .inl a4)]) [0, 1, 2, 3, 4] rfl ?_
    exact wa_wid (Nat.le_of_ble_eq_true rfl) (Nat.le_of_ble_eq_true rfl) (k13 _  (by rw [if_pos c15]))
  · refine wa_iload_n X 2 rfl dX11_asked_8 rfl ?_
    refine wa_iload_n X 3 rfl dX11_asked_9 rfl ?_
    refine wa_callS X (As := [.inl a2, .inl a3]) (f_M_isCell hw) kw_1379 kw_66 kw_1377 kw_1378 nd_X11_isCell rfl rfl (Nat.le_of_ble_eq_true rfl) dX11_asked_10 ⟨⟨Nat.le_of_ble_eq_true rfl, Nat.le_of_ble_eq_true rfl⟩, Nat.le_of_ble_eq_true rfl, Nat.le_of_ble_eq_true rfl⟩ (hs_pdk0 ?_) (fun _ _ h => h.elim)
    refine wa_if_eq X (tgt := 20) dX11_asked_13 (by decide) (fun c16 => ?_) (fun c16 => ?_)
    · refine wa_iconst X dX11_asked_20 kc0 ?_
      refine wa_lv (lv' := [(0, .inr (.inr (11, 1))), (1, .inl a1), (2, .inl a2), (3, .inl a3), (4, .inl a4)]) [0, 1, 2, 3, 4] rfl ?_
      exact wa_wid (Nat.le_of_ble_eq_true rfl) (Nat.le_of_ble_eq_true rfl) (k13 _  (by rw [if_neg c15, if_pos c16]))
    · refine wa_iconst X dX11_asked_16 kc1 ?_
      refine wa_goto X (tgt := 21) dX11_asked_17 (by decide) ?_
      refine wa_lv (lv' := [(0, .inr (.inr (11, 1))), (1, .inl a1), (2, .inl a2), (3, .inl a3), (4, .inl a4)]) [0, 1, 2, 3, 4] rfl ?_
      exact wa_wid (Nat.le_of_ble_eq_true rfl) (Nat.le_of_ble_eq_true rfl) (k13 _  (by rw [if_neg c15, if_neg c16]))

def m_M_value (a1 : Int32) (a2 : Int32) (a3 : Int32) (S : hs_S) (Q : Int32 → hs_S → Prop) : Prop := hs_M 7 yX11_value (.code yX11_value cX11_value 4 (some FieldType.int)) [.inr (.inr (11, 1)), .inl a1, .inl a2, .inl a3] S 0 0 (hs_qI Q) hs_nX
def vc_M_value (a1 : Int32) (a2 : Int32) (a3 : Int32) (S : hs_S) (Q : Int32 → hs_S → Prop) : Prop := (hs_Wi S → (m_M_asked a1 a2 a3 (0 : Int32) S (fun r2 S1 => (Q r2 S1))))
set_option maxRecDepth 100000 in
set_option maxHeartbeats 4000000 in
theorem ok_M_value {a1 : Int32} {a2 : Int32} {a3 : Int32} {S : hs_S} {Q : Int32 → hs_S → Prop} (hw : hs_Wi S) (hv : vc_M_value a1 a2 a3 S Q) : m_M_value a1 a2 a3 S Q := by
  unfold vc_M_value at hv
  refine hs_body (own := RX11) rfl rfl (Nat.le_of_ble_eq_true rfl) (fun Z X E N J0 => ?_)
  show wa Z 0 0 S 0 [(0, .inr (.inr (11, 1))), (1, .inl a1), (2, .inl a2), (3, .inl a3)] []
  refine wa_aload_n X 0 rfl dX11_value_0 rfl ?_
  refine wa_iload_n X 1 rfl dX11_value_1 rfl ?_
  refine wa_iload_n X 2 rfl dX11_value_2 rfl ?_
  refine wa_iload_n X 3 rfl dX11_value_3 rfl ?_
  refine wa_iconst X dX11_value_4 kc0 ?_
  refine wa_callV X (As := [.inl a1, .inl a2, .inl a3, .inl (0 : Int32)]) (hv hw) hk_11 hc_11 rfl kw_1455 kw_66 kw_1452 kw_1454 kw_27 nd_X11_asked rfl rfl (Nat.le_of_ble_eq_true rfl) dX11_value_5 hs_1ne ⟨⟨Nat.le_of_ble_eq_true rfl, Nat.le_of_ble_eq_true rfl⟩, Nat.le_of_ble_eq_true rfl, Nat.le_of_ble_eq_true rfl⟩ (fun v S1 h => ?_) (fun _ _ h => h.elim)
  obtain ⟨hw, r2, rfl, hv⟩ := h
  exact wa_ireturn X E dX11_value_8 (Nat.le_of_ble_eq_true rfl) (Nat.le_of_ble_eq_true rfl) (Or.inl rfl) ⟨hw, _, rfl, hv⟩

def m_M_fault (a1 : Int32) (a2 : Int32) (a3 : Int32) (S : hs_S) (Q : Int32 → hs_S → Prop) : Prop := hs_M 7 yX11_fault (.code yX11_fault cX11_fault 4 (some FieldType.int)) [.inr (.inr (11, 1)), .inl a1, .inl a2, .inl a3] S 0 0 (hs_qI Q) hs_nX
def vc_M_fault (a1 : Int32) (a2 : Int32) (a3 : Int32) (S : hs_S) (Q : Int32 → hs_S → Prop) : Prop := (hs_Wi S → (m_M_asked a1 a2 a3 (1 : Int32) S (fun r2 S1 => (Q r2 S1))))
set_option maxRecDepth 100000 in
set_option maxHeartbeats 4000000 in
theorem ok_M_fault {a1 : Int32} {a2 : Int32} {a3 : Int32} {S : hs_S} {Q : Int32 → hs_S → Prop} (hw : hs_Wi S) (hv : vc_M_fault a1 a2 a3 S Q) : m_M_fault a1 a2 a3 S Q := by
  unfold vc_M_fault at hv
  refine hs_body (own := RX11) rfl rfl (Nat.le_of_ble_eq_true rfl) (fun Z X E N J0 => ?_)
  show wa Z 0 0 S 0 [(0, .inr (.inr (11, 1))), (1, .inl a1), (2, .inl a2), (3, .inl a3)] []
  refine wa_aload_n X 0 rfl dX11_fault_0 rfl ?_
  refine wa_iload_n X 1 rfl dX11_fault_1 rfl ?_
  refine wa_iload_n X 2 rfl dX11_fault_2 rfl ?_
  refine wa_iload_n X 3 rfl dX11_fault_3 rfl ?_
  refine wa_iconst X dX11_fault_4 kc1 ?_
  refine wa_callV X (As := [.inl a1, .inl a2, .inl a3, .inl (1 : Int32)]) (hv hw) hk_11 hc_11 rfl kw_1455 kw_66 kw_1452 kw_1454 kw_27 nd_X11_asked rfl rfl (Nat.le_of_ble_eq_true rfl) dX11_fault_5 hs_1ne ⟨⟨Nat.le_of_ble_eq_true rfl, Nat.le_of_ble_eq_true rfl⟩, Nat.le_of_ble_eq_true rfl, Nat.le_of_ble_eq_true rfl⟩ (fun v S1 h => ?_) (fun _ _ h => h.elim)
  obtain ⟨hw, r2, rfl, hv⟩ := h
  exact wa_ireturn X E dX11_fault_8 (Nat.le_of_ble_eq_true rfl) (Nat.le_of_ble_eq_true rfl) (Or.inl rfl) ⟨hw, _, rfl, hv⟩

def m_M_edits (a1 : Int32) (a2 : Int32) (S : hs_S) (Q : Int32 → hs_S → Prop) : Prop := hs_M 2 yX11_edits (.code yX11_edits cX11_edits 3 (some FieldType.int)) [.inr (.inr (11, 1)), .inl a1, .inl a2] S 0 0 (hs_qI Q) hs_nX
def vc_M_edits (a1 : Int32) (a2 : Int32) (S : hs_S) (Q : Int32 → hs_S → Prop) : Prop := ((P_asks (F_isCell a1 a2) S) ∧ (∀ S2 : hs_S, S2 = (E_asks (F_isCell a1 a2) S) → (((F_isCell a1 a2) = 0 → (Q (0 : Int32) S2)) ∧ (¬ (F_isCell a1 a2) = 0 → ((P_editsOf (((6 : Int32) * a1) + a2) S2) ∧ (Q (F_editsOf (((6 : Int32) * a1) + a2) S2) S2))))))
set_option maxRecDepth 100000 in
set_option maxHeartbeats 4000000 in
theorem ok_M_edits {a1 : Int32} {a2 : Int32} {S : hs_S} {Q : Int32 → hs_S → Prop} (hw : hs_Wi S) (hv : vc_M_edits a1 a2 S Q) : m_M_edits a1 a2 S Q := by
  unfold vc_M_edits at hv
  refine hs_body (own := RX11) rfl rfl (Nat.le_of_ble_eq_true rfl) (fun Z X E N J0 => ?_)
  show wa Z 0 0 S 0 [(0, .inr (.inr (11, 1))), (1, .inl a1), (2, .inl a2)] []
  refine wa_aload_n X 0 rfl dX11_edits_0 rfl ?_
  refine wa_iload_n X 1 rfl dX11_edits_1 rfl ?_
  refine wa_iload_n X 2 rfl dX11_edits_2 rfl ?_
  refine wa_callS X (As := [.inl a1, .inl a2]) (f_M_isCell hw) kw_1379 kw_66 kw_1377 kw_1378 nd_X11_isCell rfl rfl (Nat.le_of_ble_eq_true rfl) dX11_edits_3 ⟨⟨Nat.le_of_ble_eq_true rfl, Nat.le_of_ble_eq_true rfl⟩, Nat.le_of_ble_eq_true rfl, Nat.le_of_ble_eq_true rfl⟩ (hs_pdk0 ?_) (fun _ _ h => h.elim)
  obtain ⟨o1, hv⟩ := hv
  refine wa_callV X (As := [.inl (F_isCell a1 a2)]) (f_M_asks hw o1) hk_11 hc_11 rfl kw_1383 kw_66 kw_1380 kw_1382 kw_20 nd_X11_asks rfl rfl (Nat.le_of_ble_eq_true rfl) dX11_edits_6 hs_1ne ⟨⟨Nat.le_of_ble_eq_true rfl, Nat.le_of_ble_eq_true rfl⟩, Nat.le_of_ble_eq_true rfl, Nat.le_of_ble_eq_true rfl⟩ (hs_pdk fun S2 hS2 hw => ?_) (fun _ _ h => h.elim)
  replace hv := hv S2 hS2
  refine wa_if_eq X (tgt := 25) dX11_edits_9 (by decide) (fun c3 => ?_) (fun c3 => ?_)
  · replace hv := hv.1 c3
    refine wa_iconst X dX11_edits_25 kc0 ?_
    exact wa_ireturn X E dX11_edits_26 (Nat.le_of_ble_eq_true rfl) (Nat.le_of_ble_eq_true rfl) (Or.inl rfl) ⟨hw, _, rfl, hv⟩
  · replace hv := hv.2 c3
    refine wa_aload_n X 0 rfl dX11_edits_12 rfl ?_
    refine wa_bipush X dX11_edits_13 kb6 ?_
    refine wa_iload_n X 1 rfl dX11_edits_15 rfl ?_
    refine wa_imul X dX11_edits_16 ?_
    refine wa_iload_n X 2 rfl dX11_edits_17 rfl ?_
    refine wa_iadd X dX11_edits_18 ?_
    obtain ⟨o4, hv⟩ := hv
    refine wa_callV X (As := [.inl (((6 : Int32) * a1) + a2)]) (f_M_editsOf hw o4) hk_11 hc_11 rfl kw_1513 kw_66 kw_1510 kw_1512 kw_39 nd_X11_editsOf rfl rfl (Nat.le_of_ble_eq_true rfl) dX11_edits_19 hs_1ne ⟨⟨Nat.le_of_ble_eq_true rfl, Nat.le_of_ble_eq_true rfl⟩, Nat.le_of_ble_eq_true rfl, Nat.le_of_ble_eq_true rfl⟩ (hs_pdk0 ?_) (fun _ _ h => h.elim)
    refine wa_goto X (tgt := 26) dX11_edits_22 (by decide) ?_
    exact wa_ireturn X E dX11_edits_26 (Nat.le_of_ble_eq_true rfl) (Nat.le_of_ble_eq_true rfl) (Or.inl rfl) ⟨hw, _, rfl, hv⟩

def m_M_bid (a1 : Int32) (a2 : Int32) (a3 : Int32) (a4 : Int32) (a5 : Int32) (S : hs_S) (Q : Int32 → hs_S → Prop) : Prop := hs_M 6 yX11_bid (.code yX11_bid cX11_bid 6 (some FieldType.int)) [.inr (.inr (11, 1)), .inl a1, .inl a2, .inl a3, .inl a4, .inl a5] S 0 0 (hs_qI Q) hs_nX
def vc_M_bid (a1 : Int32) (a2 : Int32) (a3 : Int32) (a4 : Int32) (a5 : Int32) (S : hs_S) (Q : Int32 → hs_S → Prop) : Prop := (∀ x1 : Int32, x1 = (if (F_isOwner a1) = 0 then (0 : Int32) else (if a2 < 0 then (0 : Int32) else (if (4 : Int32) ≤ a2 then (0 : Int32) else (1 : Int32)))) → ((P_asks x1 S) ∧ (∀ S3 : hs_S, S3 = (E_asks x1 S) → ((¬ x1 = 0 → (((F_in a4 (1 : Int32) (100 : Int32)) = 0 → (∀ S6 : hs_S, S6 = (E_fails (2 : Int32) S3) → (Q (0 : Int32) S6))) ∧ (¬ (F_in a4 (1 : Int32) (100 : Int32)) = 0 → ((¬ (F_in a5 (0 : Int32) (9999 : Int32)) = 0 → ((0 ≤ a2.toInt ∧ a2.toInt < 4) ∧ ((¬ (S3.1 62 1 a2.toNatClampNeg) = (-1 : Int32) → (∀ S10 : hs_S, S10 = (E_fails (3 : Int32) S3) → (Q (0 : Int32) S10))) ∧ ((S3.1 62 1 a2.toNatClampNeg) = (-1 : Int32) → (((S3.1 11 1 24) = (80 : Int32) → (∀ S12 : hs_S, S12 = (E_fails (3 : Int32) S3) → (Q (0 : Int32) S12))) ∧ (¬ (S3.1 11 1 24) = (80 : Int32) → ((a3 = 0 → ((0 ≤ (S3.1 11 1 24).toInt ∧ (S3.1 11 1 24).toInt < 80) ∧ (∀ S15 : hs_S, S15 = (hs_wI S3 65 1 (S3.1 11 1 24).toNatClampNeg a1) → ((0 ≤ (S15.1 11 1 24).toInt ∧ (S15.1 11 1 24).toInt < 80) ∧ (∀ S17 : hs_S, S17 = (hs_wI S15 66 1 (S15.1 11 1 24).toNatClampNeg a2) → ((0 ≤ (S17.1 11 1 24).toInt ∧ (S17.1 11 1 24).toInt < 80) ∧ ((a3 = 0 ∨ a3 = 1) ∧ (∀ S20 : hs_S, S20 = (hs_wI S17 67 1 (S17.1 11 1 24).toNatClampNeg a3) → ((0 ≤ (S20.1 11 1 24).toInt ∧ (S20.1 11 1 24).toInt < 80) ∧ (∀ S22 : hs_S, S22 = (hs_wI S20 68 1 (S20.1 11 1 24).toNatClampNeg a4) → ((0 ≤ (S22.1 11 1 24).toInt ∧ (S22.1 11 1 24).toInt < 80) ∧ (∀ S24 : hs_S, S24 = (hs_wI S22 69 1 (S22.1 11 1 24).toNatClampNeg a5) → ((0 ≤ (S24.1 11 1 24).toInt ∧ (S24.1 11 1 24).toInt < 80) ∧ (∀ S26 : hs_S, S26 = (hs_wI S24 70 1 (S24.1 11 1 24).toNatClampNeg (S24.1 11 1 0)) → ((0 ≤ (S26.1 11 1 24).toInt ∧ (S26.1 11 1 24).toInt < 80) ∧ (∀ S28 : hs_S, S28 = (hs_wI S26 71 1 (S26.1 11 1 24).toNatClampNeg (-1 : Int32)) → ((0 ≤ (S28.1 11 1 24).toInt ∧ (S28.1 11 1 24).toInt < 80) ∧ (∀ S30 : hs_S, S30 = (hs_wI S28 72 1 (S28.1 11 1 24).toNatClampNeg (-1 : Int32)) → (∀ S31 : hs_S, S31 = (hs_wI S30 11 1 24 ((S30.1 11 1 24) + (1 : Int32))) → (∀ S32 : hs_S, S32 = (E_act ((S31.1 11 1 24) - (1 : Int32)) S31) → (Q ((S31.1 11 1 24) - (1 : Int32)) S32))))))))))))))))))))) ∧ (¬ a3 = 0 → ((P_exposureOf a1 S3) ∧ ((0 ≤ a1.toInt ∧ a1.toInt < 6) ∧ (((lg_cmp ((F_exposureOf a1 S3) + (a4.toInt64 * a5.toInt64)) (S3.1 88 1 a1.toNatClampNeg).toInt64) ≤ 0 → ((0 ≤ (S3.1 11 1 24).toInt ∧ (S3.1 11 1 24).toInt < 80) ∧ (∀ S37 : hs_S, S37 = (hs_wI S3 65 1 (S3.1 11 1 24).toNatClampNeg a1) → ((0 ≤ (S37.1 11 1 24).toInt ∧ (S37.1 11 1 24).toInt < 80) ∧ (∀ S39 : hs_S, S39 = (hs_wI S37 66 1 (S37.1 11 1 24).toNatClampNeg a2) → ((0 ≤ (S39.1 11 1 24).toInt ∧ (S39.1 11 1 24).toInt < 80) ∧ ((a3 = 0 ∨ a3 = 1) ∧ (∀ S42 : hs_S, S42 = (hs_wI S39 67 1 (S39.1 11 1 24).toNatClampNeg a3) → ((0 ≤ (S42.1 11 1 24).toInt ∧ (S42.1 11 1 24).toInt < 80) ∧ (∀ S44 : hs_S, S44 = (hs_wI S42 68 1 (S42.1 11 1 24).toNatClampNeg a4) → ((0 ≤ (S44.1 11 1 24).toInt ∧ (S44.1 11 1 24).toInt < 80) ∧ (∀ S46 : hs_S, S46 = (hs_wI S44 69 1 (S44.1 11 1 24).toNatClampNeg a5) → ((0 ≤ (S46.1 11 1 24).toInt ∧ (S46.1 11 1 24).toInt < 80) ∧ (∀ S48 : hs_S, S48 = (hs_wI S46 70 1 (S46.1 11 1 24).toNatClampNeg (S46.1 11 1 0)) → ((0 ≤ (S48.1 11 1 24).toInt ∧ (S48.1 11 1 24).toInt < 80) ∧ (∀ S50 : hs_S, S50 = (hs_wI S48 71 1 (S48.1 11 1 24).toNatClampNeg (-1 : Int32)) → ((0 ≤ (S50.1 11 1 24).toInt ∧ (S50.1 11 1 24).toInt < 80) ∧ (∀ S52 : hs_S, S52 = (hs_wI S50 72 1 (S50.1 11 1 24).toNatClampNeg (-1 : Int32)) → (∀ S53 : hs_S, S53 = (hs_wI S52 11 1 24 ((S52.1 11 1 24) + (1 : Int32))) → (∀ S54 : hs_S, S54 = (E_act ((S53.1 11 1 24) - (1 : Int32)) S53) → (Q ((S53.1 11 1 24) - (1 : Int32)) S54))))))))))))))))))))) ∧ (¬ (lg_cmp ((F_exposureOf a1 S3) + (a4.toInt64 * a5.toInt64)) (S3.1 88 1 a1.toNatClampNeg).toInt64) ≤ 0 → (∀ S55 : hs_S, S55 = (E_fails (3 : Int32) S3) → (Q (0 : Int32) S55)))))))))))))) ∧ ((F_in a5 (0 : Int32) (9999 : Int32)) = 0 → (∀ S56 : hs_S, S56 = (E_fails (2 : Int32) S3) → (Q (0 : Int32) S56))))))) ∧ (x1 = 0 → (Q (0 : Int32) S3))))))
set_option maxRecDepth 100000 in
set_option maxHeartbeats 4000000 in
theorem ok_M_bid {a1 : Int32} {a2 : Int32} {a3 : Int32} {a4 : Int32} {a5 : Int32} {S : hs_S} {Q : Int32 → hs_S → Prop} (hw : hs_Wi S) (hv : vc_M_bid a1 a2 a3 a4 a5 S Q) : m_M_bid a1 a2 a3 a4 a5 S Q := by
  unfold vc_M_bid at hv
  refine hs_body (own := RX11) rfl rfl (Nat.le_of_ble_eq_true rfl) (fun Z X E N J0 => ?_)
  show wa Z 0 0 S 0 [(0, .inr (.inr (11, 1))), (1, .inl a1), (2, .inl a2), (3, .inl a3), (4, .inl a4), (5, .inl a5)] []
  refine wa_aload_n X 0 rfl dX11_bid_0 rfl ?_
  refine wa_iload_n X 1 rfl dX11_bid_1 rfl ?_
  refine wa_callS X (As := [.inl a1]) (f_M_isOwner hw) kw_1376 kw_66 kw_1374 kw_1375 nd_X11_isOwner rfl rfl (Nat.le_of_ble_eq_true rfl) dX11_bid_2 ⟨⟨Nat.le_of_ble_eq_true rfl, Nat.le_of_ble_eq_true rfl⟩, Nat.le_of_ble_eq_true rfl, Nat.le_of_ble_eq_true rfl⟩ (hs_pdk0 ?_) (fun _ _ h => h.elim)
  have k57 : ∀ (x1 : Int32), x1 = (if (F_isOwner a1) = 0 then (0 : Int32) else (if a2 < 0 then (0 : Int32) else (if (4 : Int32) ≤ a2 then (0 : Int32) else (1 : Int32)))) → wa Z 0 0 S 22 [(0, .inr (.inr (11, 1))), (1, .inl a1), (2, .inl a2), (3, .inl a3), (4, .inl a4), (5, .inl a5)] [.inl x1, .inr (.inr (11, 1))] := by
    intro x1 hE
    replace hv := hv _ hE
    obtain ⟨o2, hv⟩ := hv
    refine wa_callV X (As := [.inl x1]) (f_M_asks hw o2) hk_11 hc_11 rfl kw_1383 kw_66 kw_1380 kw_1382 kw_20 nd_X11_asks rfl rfl (Nat.le_of_ble_eq_true rfl) dX11_bid_22 hs_1ne ⟨⟨Nat.le_of_ble_eq_true rfl, Nat.le_of_ble_eq_true rfl⟩, Nat.le_of_ble_eq_true rfl, Nat.le_of_ble_eq_true rfl⟩ (hs_pdk fun S3 hS3 hw => ?_) (fun _ _ h => h.elim)
    replace hv := hv S3 hS3
    refine wa_if_ne X (tgt := 30) dX11_bid_25 (by decide) (fun c4 => ?_) (fun c4 => ?_)
    · replace hv := hv.1 c4
      refine wa_iload X 4 rfl dX11_bid_30 ?_
      refine wa_iconst X dX11_bid_32 kc1 ?_
      refine wa_bipush X dX11_bid_33 kb100 ?_
      refine wa_callS X (As := [.inl a4, .inl (1 : Int32), .inl (100 : Int32)]) (f_M_in hw) kw_1420 kw_66 kw_1418 kw_1419 nd_X11_in rfl rfl (Nat.le_of_ble_eq_true rfl) dX11_bid_35 ⟨⟨Nat.le_of_ble_eq_true rfl, Nat.le_of_ble_eq_true rfl⟩, Nat.le_of_ble_eq_true rfl, Nat.le_of_ble_eq_true rfl⟩ (hs_pdk0 ?_) (fun _ _ h => h.elim)
      refine wa_if_eq X (tgt := 53) dX11_bid_38 (by decide) (fun c5 => ?_) (fun c5 => ?_)
      · replace hv := hv.1 c5
        refine wa_aload_n X 0 rfl dX11_bid_53 rfl ?_
        refine wa_iconst X dX11_bid_54 kc2 ?_
        refine wa_callV X (As := [.inl (2 : Int32)]) (f_M_fails hw) hk_11 hc_11 rfl kw_1391 kw_66 kw_1388 kw_1390 kw_22 nd_X11_fails rfl rfl (Nat.le_of_ble_eq_true rfl) dX11_bid_55 hs_1ne ⟨⟨Nat.le_of_ble_eq_true rfl, Nat.le_of_ble_eq_true rfl⟩, Nat.le_of_ble_eq_true rfl, Nat.le_of_ble_eq_true rfl⟩ (hs_pdk fun S6 hS6 hw => ?_) (fun _ _ h => h.elim)
        replace hv := hv S6 hS6
        exact wa_ireturn X E dX11_bid_58 (Nat.le_of_ble_eq_true rfl) (Nat.le_of_ble_eq_true rfl) (Or.inl rfl) ⟨hw, _, rfl, hv⟩
      · replace hv := hv.2 c5
        refine wa_iload X 5 rfl dX11_bid_41 ?_
        refine wa_iconst X dX11_bid_43 kc0 ?_
        refine wa_sipush X dX11_bid_44 ks9999 ?_
        refine wa_callS X (As := [.inl a5, .inl (0 : Int32), .inl (9999 : Int32)]) (f_M_in hw) kw_1420 kw_66 kw_1418 kw_1419 nd_X11_in rfl rfl (Nat.le_of_ble_eq_true rfl) dX11_bid_47 ⟨⟨Nat.le_of_ble_eq_true rfl, Nat.le_of_ble_eq_true rfl⟩, Nat.le_of_ble_eq_true rfl, Nat.le_of_ble_eq_true rfl⟩ (hs_pdk0 ?_) (fun _ _ h => h.elim)
        refine wa_if_ne X (tgt := 59) dX11_bid_50 (by decide) (fun c7 => ?_) (fun c7 => ?_)
        · replace hv := hv.1 c7
          refine wa_aload_n X 0 rfl dX11_bid_59 rfl ?_
          refine wa_getfw X hw (j := 22) (r := 1) hk_11 hc_11 i_11 (by decide) kw_1206 rfl rfl (by decide) rfl dX11_bid_60 hs_1ne ?_
          refine wa_iload_n X 2 rfl dX11_bid_63 rfl ?_
          obtain ⟨o8, hv⟩ := hv
          refine wa_iald X hk_62 dX11_bid_64 hs_1ne o8 ?_
          refine wa_iconst X dX11_bid_65 kcm1 ?_
          refine wa_icmp_ne X (tgt := 106) dX11_bid_66 (by decide) (fun c9 => ?_) (fun c9 => ?_)
          · replace hv := hv.1 c9
            refine wa_aload_n X 0 rfl dX11_bid_106 rfl ?_
            refine wa_iconst X dX11_bid_107 kc3 ?_
            refine wa_callV X (As := [.inl (3 : Int32)]) (f_M_fails hw) hk_11 hc_11 rfl kw_1391 kw_66 kw_1388 kw_1390 kw_22 nd_X11_fails rfl rfl (Nat.le_of_ble_eq_true rfl) dX11_bid_108 hs_1ne ⟨⟨Nat.le_of_ble_eq_true rfl, Nat.le_of_ble_eq_true rfl⟩, Nat.le_of_ble_eq_true rfl, Nat.le_of_ble_eq_true rfl⟩ (hs_pdk fun S10 hS10 hw => ?_) (fun _ _ h => h.elim)
            replace hv := hv S10 hS10
            exact wa_ireturn X E dX11_bid_111 (Nat.le_of_ble_eq_true rfl) (Nat.le_of_ble_eq_true rfl) (Or.inl rfl) ⟨hw, _, rfl, hv⟩
          · replace hv := hv.2 c9
            refine wa_aload_n X 0 rfl dX11_bid_69 rfl ?_
            refine wa_getI X (j := 24) hk_11 hc_11 i_11 (by decide) kw_1208 rfl dX11_bid_70 hs_1ne ?_
            refine wa_bipush X dX11_bid_73 kb80 ?_
            refine wa_icmp_eq X (tgt := 106) dX11_bid_75 (by decide) (fun c11 => ?_) (fun c11 => ?_)
            · replace hv := hv.1 c11
              refine wa_aload_n X 0 rfl dX11_bid_106 rfl ?_
              refine wa_iconst X dX11_bid_107 kc3 ?_
              refine wa_callV X (As := [.inl (3 : Int32)]) (f_M_fails hw) hk_11 hc_11 rfl kw_1391 kw_66 kw_1388 kw_1390 kw_22 nd_X11_fails rfl rfl (Nat.le_of_ble_eq_true rfl) dX11_bid_108 hs_1ne ⟨⟨Nat.le_of_ble_eq_true rfl, Nat.le_of_ble_eq_true rfl⟩, Nat.le_of_ble_eq_true rfl, Nat.le_of_ble_eq_true rfl⟩ (hs_pdk fun S12 hS12 hw => ?_) (fun _ _ h => h.elim)
              replace hv := hv S12 hS12
              exact wa_ireturn X E dX11_bid_111 (Nat.le_of_ble_eq_true rfl) (Nat.le_of_ble_eq_true rfl) (Or.inl rfl) ⟨hw, _, rfl, hv⟩
            · replace hv := hv.2 c11
              refine wa_iload_n X 3 rfl dX11_bid_78 rfl ?_
              refine wa_if_eq X (tgt := 112) dX11_bid_79 (by decide) (fun c13 => ?_) (fun c13 => ?_)
              · replace hv := hv.1 c13
                refine wa_aload_n X 0 rfl dX11_bid_112 rfl ?_
                refine wa_getfw X hw (j := 25) (r := 1) hk_11 hc_11 i_11 (by decide) kw_1209 rfl rfl (by decide) rfl dX11_bid_113 hs_1ne ?_
                refine wa_aload_n X 0 rfl dX11_bid_116 rfl ?_
                refine wa_getI X (j := 24) hk_11 hc_11 i_11 (by decide) kw_1208 rfl dX11_bid_117 hs_1ne ?_
                refine wa_iload_n X 1 rfl dX11_bid_120 rfl ?_
                obtain ⟨o14, hv⟩ := hv
                refine wa_iast X hk_65 dX11_bid_121 hs_1ne o14 (hs_eqS fun S15 hS15 => ?_)
                replace hv := hv S15 hS15
                replace hw : hs_Wi S15 := hS15 ▸ hs_Wi_I hw
                refine wa_aload_n X 0 rfl dX11_bid_122 rfl ?_
                refine wa_getfw X hw (j := 26) (r := 1) hk_11 hc_11 i_11 (by decide) kw_1210 rfl rfl (by decide) rfl dX11_bid_123 hs_1ne ?_
                refine wa_aload_n X 0 rfl dX11_bid_126 rfl ?_
                refine wa_getI X (j := 24) hk_11 hc_11 i_11 (by decide) kw_1208 rfl dX11_bid_127 hs_1ne ?_
                refine wa_iload_n X 2 rfl dX11_bid_130 rfl ?_
                obtain ⟨o16, hv⟩ := hv
                refine wa_iast X hk_66 dX11_bid_131 hs_1ne o16 (hs_eqS fun S17 hS17 => ?_)
                replace hv := hv S17 hS17
                replace hw : hs_Wi S17 := hS17 ▸ hs_Wi_I hw
                refine wa_aload_n X 0 rfl dX11_bid_132 rfl ?_
                refine wa_getfw X hw (j := 27) (r := 1) hk_11 hc_11 i_11 (by decide) kw_1211 rfl rfl (by decide) rfl dX11_bid_133 hs_1ne ?_
                refine wa_aload_n X 0 rfl dX11_bid_136 rfl ?_
                refine wa_getI X (j := 24) hk_11 hc_11 i_11 (by decide) kw_1208 rfl dX11_bid_137 hs_1ne ?_
                refine wa_iload_n X 3 rfl dX11_bid_140 rfl ?_
                obtain ⟨o18, hv⟩ := hv
                obtain ⟨o19, hv⟩ := hv
                refine wa_bast X hk_67 dX11_bid_141 hs_1ne o18 o19 (hs_eqS fun S20 hS20 => ?_)
                replace hv := hv S20 hS20
                replace hw : hs_Wi S20 := hS20 ▸ hs_Wi_I hw
                refine wa_aload_n X 0 rfl dX11_bid_142 rfl ?_
                refine wa_getfw X hw (j := 28) (r := 1) hk_11 hc_11 i_11 (by decide) kw_1212 rfl rfl (by decide) rfl dX11_bid_143 hs_1ne ?_
                refine wa_aload_n X 0 rfl dX11_bid_146 rfl ?_
                refine wa_getI X (j := 24) hk_11 hc_11 i_11 (by decide) kw_1208 rfl dX11_bid_147 hs_1ne ?_
                refine wa_iload X 4 rfl dX11_bid_150 ?_
                obtain ⟨o21, hv⟩ := hv
                refine wa_iast X hk_68 dX11_bid_152 hs_1ne o21 (hs_eqS fun S22 hS22 => ?_)
                replace hv := hv S22 hS22
                replace hw : hs_Wi S22 := hS22 ▸ hs_Wi_I hw
                refine wa_aload_n X 0 rfl dX11_bid_153 rfl ?_
                refine wa_getfw X hw (j := 29) (r := 1) hk_11 hc_11 i_11 (by decide) kw_1213 rfl rfl (by decide) rfl dX11_bid_154 hs_1ne ?_
                refine wa_aload_n X 0 rfl dX11_bid_157 rfl ?_
                refine wa_getI X (j := 24) hk_11 hc_11 i_11 (by decide) kw_1208 rfl dX11_bid_158 hs_1ne ?_
                refine wa_iload X 5 rfl dX11_bid_161 ?_
                obtain ⟨o23, hv⟩ := hv
                refine wa_iast X hk_69 dX11_bid_163 hs_1ne o23 (hs_eqS fun S24 hS24 => ?_)
                replace hv := hv S24 hS24
                replace hw : hs_Wi S24 := hS24 ▸ hs_Wi_I hw
                refine wa_aload_n X 0 rfl dX11_bid_164 rfl ?_
                refine wa_getfw X hw (j := 30) (r := 1) hk_11 hc_11 i_11 (by decide) kw_1214 rfl rfl (by decide) rfl dX11_bid_165 hs_1ne ?_
                refine wa_aload_n X 0 rfl dX11_bid_168 rfl ?_
                refine wa_getI X (j := 24) hk_11 hc_11 i_11 (by decide) kw_1208 rfl dX11_bid_169 hs_1ne ?_
                refine wa_aload_n X 0 rfl dX11_bid_172 rfl ?_
                refine wa_getI X (j := 0) hk_11 hc_11 i_11 (by decide) kw_1184 rfl dX11_bid_173 hs_1ne ?_
                obtain ⟨o25, hv⟩ := hv
                refine wa_iast X hk_70 dX11_bid_176 hs_1ne o25 (hs_eqS fun S26 hS26 => ?_)
                replace hv := hv S26 hS26
                replace hw : hs_Wi S26 := hS26 ▸ hs_Wi_I hw
                refine wa_aload_n X 0 rfl dX11_bid_177 rfl ?_
                refine wa_getfw X hw (j := 31) (r := 1) hk_11 hc_11 i_11 (by decide) kw_1215 rfl rfl (by decide) rfl dX11_bid_178 hs_1ne ?_
                refine wa_aload_n X 0 rfl dX11_bid_181 rfl ?_
                refine wa_getI X (j := 24) hk_11 hc_11 i_11 (by decide) kw_1208 rfl dX11_bid_182 hs_1ne ?_
                refine wa_iconst X dX11_bid_185 kcm1 ?_
                obtain ⟨o27, hv⟩ := hv
                refine wa_iast X hk_71 dX11_bid_186 hs_1ne o27 (hs_eqS fun S28 hS28 => ?_)
                replace hv := hv S28 hS28
                replace hw : hs_Wi S28 := hS28 ▸ hs_Wi_I hw
                refine wa_aload_n X 0 rfl dX11_bid_187 rfl ?_
                refine wa_getfw X hw (j := 32) (r := 1) hk_11 hc_11 i_11 (by decide) kw_1216 rfl rfl (by decide) rfl dX11_bid_188 hs_1ne ?_
                refine wa_aload_n X 0 rfl dX11_bid_191 rfl ?_
                refine wa_getI X (j := 24) hk_11 hc_11 i_11 (by decide) kw_1208 rfl dX11_bid_192 hs_1ne ?_
                refine wa_iconst X dX11_bid_195 kcm1 ?_
                obtain ⟨o29, hv⟩ := hv
                refine wa_iast X hk_72 dX11_bid_196 hs_1ne o29 (hs_eqS fun S30 hS30 => ?_)
                replace hv := hv S30 hS30
                replace hw : hs_Wi S30 := hS30 ▸ hs_Wi_I hw
                refine wa_aload_n X 0 rfl dX11_bid_197 rfl ?_
                refine wa_dup X dX11_bid_198 rfl ?_
                refine wa_getI X (j := 24) hk_11 hc_11 i_11 (by decide) kw_1208 rfl dX11_bid_199 hs_1ne ?_
                refine wa_iconst X dX11_bid_202 kc1 ?_
                refine wa_iadd X dX11_bid_203 ?_
                refine wa_putI X (j := 24) hk_11 hc_11 i_11 tyX11 tyX11_ok nmX11 (by decide) kw_1208 rfl rfl dX11_bid_204 hs_1ne ⟨rfl, Or.inl rfl⟩ (hs_eqS fun S31 hS31 => ?_)
                replace hv := hv S31 hS31
                replace hw : hs_Wi S31 := hS31 ▸ hs_Wi_I hw
                refine wa_aload_n X 0 rfl dX11_bid_207 rfl ?_
                refine wa_aload_n X 0 rfl dX11_bid_208 rfl ?_
                refine wa_getI X (j := 24) hk_11 hc_11 i_11 (by decide) kw_1208 rfl dX11_bid_209 hs_1ne ?_
                refine wa_iconst X dX11_bid_212 kc1 ?_
                refine wa_isub X dX11_bid_213 ?_
                refine wa_callV X (As := [.inl ((S31.1 11 1 24) - (1 : Int32))]) (f_M_act hw) hk_11 hc_11 rfl kw_1399 kw_66 kw_1396 kw_1398 kw_23 nd_X11_act rfl rfl (Nat.le_of_ble_eq_true rfl) dX11_bid_214 hs_1ne ⟨⟨Nat.le_of_ble_eq_true rfl, Nat.le_of_ble_eq_true rfl⟩, Nat.le_of_ble_eq_true rfl, Nat.le_of_ble_eq_true rfl⟩ (hs_pdk fun S32 hS32 hw => ?_) (fun _ _ h => h.elim)
                replace hv := hv S32 hS32
                exact wa_ireturn X E dX11_bid_217 (Nat.le_of_ble_eq_true rfl) (Nat.le_of_ble_eq_true rfl) (Or.inl rfl) ⟨hw, _, rfl, hv⟩
              · replace hv := hv.2 c13
                refine wa_aload_n X 0 rfl dX11_bid_82 rfl ?_
                refine wa_iload_n X 1 rfl dX11_bid_83 rfl ?_
                obtain ⟨o33, hv⟩ := hv
                refine wa_callV X (As := [.inl a1]) (f_M_exposureOf hw o33) hk_11 hc_11 rfl kw_1525 kw_66 kw_1522 kw_1524 kw_40 nd_X11_exposureOf rfl rfl (Nat.le_of_ble_eq_true rfl) dX11_bid_84 hs_1ne ⟨⟨Nat.le_of_ble_eq_true rfl, Nat.le_of_ble_eq_true rfl⟩, Nat.le_of_ble_eq_true rfl, Nat.le_of_ble_eq_true rfl⟩ (hs_pdk0 ?_) (fun _ _ h => h.elim)
                refine wa_iload X 4 rfl dX11_bid_87 ?_
                refine wa_i2l X dX11_bid_89 ?_
                refine wa_iload X 5 rfl dX11_bid_90 ?_
                refine wa_i2l X dX11_bid_92 ?_
                refine wa_lmul X dX11_bid_93 ?_
                refine wa_ladd X dX11_bid_94 ?_
                refine wa_aload_n X 0 rfl dX11_bid_95 rfl ?_
                refine wa_getfw X hw (j := 48) (r := 1) hk_11 hc_11 i_11 (by decide) kw_1232 rfl rfl (by decide) rfl dX11_bid_96 hs_1ne ?_
                refine wa_iload_n X 1 rfl dX11_bid_99 rfl ?_
                obtain ⟨o34, hv⟩ := hv
                refine wa_iald X hk_88 dX11_bid_100 hs_1ne o34 ?_
                refine wa_i2l X dX11_bid_101 ?_
                refine wa_lcmp X dX11_bid_102 ?_
                refine wa_if_le X (tgt := 112) dX11_bid_103 (by decide) (fun c35 => ?_) (fun c35 => ?_)
                · replace hv := hv.1 c35
                  refine wa_aload_n X 0 rfl dX11_bid_112 rfl ?_
                  refine wa_getfw X hw (j := 25) (r := 1) hk_11 hc_11 i_11 (by decide) kw_1209 rfl rfl (by decide) rfl dX11_bid_113 hs_1ne ?_
                  refine wa_aload_n X 0 rfl dX11_bid_116 rfl ?_
                  refine wa_getI X (j := 24) hk_11 hc_11 i_11 (by decide) kw_1208 rfl dX11_bid_117 hs_1ne ?_
                  refine wa_iload_n X 1 rfl dX11_bid_120 rfl ?_
                  obtain ⟨o36, hv⟩ := hv
                  refine wa_iast X hk_65 dX11_bid_121 hs_1ne o36 (hs_eqS fun S37 hS37 => ?_)
                  replace hv := hv S37 hS37
                  replace hw : hs_Wi S37 := hS37 ▸ hs_Wi_I hw
                  refine wa_aload_n X 0 rfl dX11_bid_122 rfl ?_
                  refine wa_getfw X hw (j := 26) (r := 1) hk_11 hc_11 i_11 (by decide) kw_1210 rfl rfl (by decide) rfl dX11_bid_123 hs_1ne ?_
                  refine wa_aload_n X 0 rfl dX11_bid_126 rfl ?_
                  refine wa_getI X (j := 24) hk_11 hc_11 i_11 (by decide) kw_1208 rfl dX11_bid_127 hs_1ne ?_
                  refine wa_iload_n X 2 rfl dX11_bid_130 rfl ?_
                  obtain ⟨o38, hv⟩ := hv
                  refine wa_iast X hk_66 dX11_bid_131 hs_1ne o38 (hs_eqS fun S39 hS39 => ?_)
                  replace hv := hv S39 hS39
                  replace hw : hs_Wi S39 := hS39 ▸ hs_Wi_I hw
                  refine wa_aload_n X 0 rfl dX11_bid_132 rfl ?_
                  refine wa_getfw X hw (j := 27) (r := 1) hk_11 hc_11 i_11 (by decide) kw_1211 rfl rfl (by decide) rfl dX11_bid_133 hs_1ne ?_
                  refine wa_aload_n X 0 rfl dX11_bid_136 rfl ?_
                  refine wa_getI X (j := 24) hk_11 hc_11 i_11 (by decide) kw_1208 rfl dX11_bid_137 hs_1ne ?_
                  refine wa_iload_n X 3 rfl dX11_bid_140 rfl ?_
                  obtain ⟨o40, hv⟩ := hv
                  obtain ⟨o41, hv⟩ := hv
                  refine wa_bast X hk_67 dX11_bid_141 hs_1ne o40 o41 (hs_eqS fun S42 hS42 => ?_)
                  replace hv := hv S42 hS42
                  replace hw : hs_Wi S42 := hS42 ▸ hs_Wi_I hw
                  refine wa_aload_n X 0 rfl dX11_bid_142 rfl ?_
                  refine wa_getfw X hw (j := 28) (r := 1) hk_11 hc_11 i_11 (by decide) kw_1212 rfl rfl (by decide) rfl dX11_bid_143 hs_1ne ?_
                  refine wa_aload_n X 0 rfl dX11_bid_146 rfl ?_
                  refine wa_getI X (j := 24) hk_11 hc_11 i_11 (by decide) kw_1208 rfl dX11_bid_147 hs_1ne ?_
                  refine wa_iload X 4 rfl dX11_bid_150 ?_
                  obtain ⟨o43, hv⟩ := hv
                  refine wa_iast X hk_68 dX11_bid_152 hs_1ne o43 (hs_eqS fun S44 hS44 => ?_)
                  replace hv := hv S44 hS44
                  replace hw : hs_Wi S44 := hS44 ▸ hs_Wi_I hw
                  refine wa_aload_n X 0 rfl dX11_bid_153 rfl ?_
                  refine wa_getfw X hw (j := 29) (r := 1) hk_11 hc_11 i_11 (by decide) kw_1213 rfl rfl (by decide) rfl dX11_bid_154 hs_1ne ?_
                  refine wa_aload_n X 0 rfl dX11_bid_157 rfl ?_
                  refine wa_getI X (j := 24) hk_11 hc_11 i_11 (by decide) kw_1208 rfl dX11_bid_158 hs_1ne ?_
                  refine wa_iload X 5 rfl dX11_bid_161 ?_
                  obtain ⟨o45, hv⟩ := hv
                  refine wa_iast X hk_69 dX11_bid_163 hs_1ne o45 (hs_eqS fun S46 hS46 => ?_)
                  replace hv := hv S46 hS46
                  replace hw : hs_Wi S46 := hS46 ▸ hs_Wi_I hw
                  refine wa_aload_n X 0 rfl dX11_bid_164 rfl ?_
                  refine wa_getfw X hw (j := 30) (r := 1) hk_11 hc_11 i_11 (by decide) kw_1214 rfl rfl (by decide) rfl dX11_bid_165 hs_1ne ?_
                  refine wa_aload_n X 0 rfl dX11_bid_168 rfl ?_
                  refine wa_getI X (j := 24) hk_11 hc_11 i_11 (by decide) kw_1208 rfl dX11_bid_169 hs_1ne ?_
                  refine wa_aload_n X 0 rfl dX11_bid_172 rfl ?_
                  refine wa_getI X (j := 0) hk_11 hc_11 i_11 (by decide) kw_1184 rfl dX11_bid_173 hs_1ne ?_
                  obtain ⟨o47, hv⟩ := hv
                  refine wa_iast X hk_70 dX11_bid_176 hs_1ne o47 (hs_eqS fun S48 hS48 => ?_)
                  replace hv := hv S48 hS48
                  replace hw : hs_Wi S48 := hS48 ▸ hs_Wi_I hw
                  refine wa_aload_n X 0 rfl dX11_bid_177 rfl ?_
                  refine wa_getfw X hw (j := 31) (r := 1) hk_11 hc_11 i_11 (by decide) kw_1215 rfl rfl (by decide) rfl dX11_bid_178 hs_1ne ?_
                  refine wa_aload_n X 0 rfl dX11_bid_181 rfl ?_
                  refine wa_getI X (j := 24) hk_11 hc_11 i_11 (by decide) kw_1208 rfl dX11_bid_182 hs_1ne ?_
                  refine wa_iconst X dX11_bid_185 kcm1 ?_
                  obtain ⟨o49, hv⟩ := hv
                  refine wa_iast X hk_71 dX11_bid_186 hs_1ne o49 (hs_eqS fun S50 hS50 => ?_)
                  replace hv := hv S50 hS50
                  replace hw : hs_Wi S50 := hS50 ▸ hs_Wi_I hw
                  refine wa_aload_n X 0 rfl dX11_bid_187 rfl ?_
                  refine wa_getfw X hw (j := 32) (r := 1) hk_11 hc_11 i_11 (by decide) kw_1216 rfl rfl (by decide) rfl dX11_bid_188 hs_1ne ?_
                  refine wa_aload_n X 0 rfl dX11_bid_191 rfl ?_
                  refine wa_getI X (j := 24) hk_11 hc_11 i_11 (by decide) kw_1208 rfl dX11_bid_192 hs_1ne ?_
                  refine wa_iconst X dX11_bid_195 kcm1 ?_
                  obtain ⟨o51, hv⟩ := hv
                  refine wa_iast X hk_72 dX11_bid_196 hs_1ne o51 (hs_eqS fun S52 hS52 => ?_)
                  replace hv := hv S52 hS52
                  replace hw : hs_Wi S52 := hS52 ▸ hs_Wi_I hw
                  refine wa_aload_n X 0 rfl dX11_bid_197 rfl ?_
                  refine wa_dup X dX11_bid_198 rfl ?_
                  refine wa_getI X (j := 24) hk_11 hc_11 i_11 (by decide) kw_1208 rfl dX11_bid_199 hs_1ne ?_
                  refine wa_iconst X dX11_bid_202 kc1 ?_
                  refine wa_iadd X dX11_bid_203 ?_
                  refine wa_putI X (j := 24) hk_11 hc_11 i_11 tyX11 tyX11_ok nmX11 (by decide) kw_1208 rfl rfl dX11_bid_204 hs_1ne ⟨rfl, Or.inl rfl⟩ (hs_eqS fun S53 hS53 => ?_)
                  replace hv := hv S53 hS53
                  replace hw : hs_Wi S53 := hS53 ▸ hs_Wi_I hw
                  refine wa_aload_n X 0 rfl dX11_bid_207 rfl ?_
                  refine wa_aload_n X 0 rfl dX11_bid_208 rfl ?_
                  refine wa_getI X (j := 24) hk_11 hc_11 i_11 (by decide) kw_1208 rfl dX11_bid_209 hs_1ne ?_
                  refine wa_iconst X dX11_bid_212 kc1 ?_
                  refine wa_isub X dX11_bid_213 ?_
                  refine wa_callV X (As := [.inl ((S53.1 11 1 24) - (1 : Int32))]) (f_M_act hw) hk_11 hc_11 rfl kw_1399 kw_66 kw_1396 kw_1398 kw_23 nd_X11_act rfl rfl (Nat.le_of_ble_eq_true rfl) dX11_bid_214 hs_1ne ⟨⟨Nat.le_of_ble_eq_true rfl, Nat.le_of_ble_eq_true rfl⟩, Nat.le_of_ble_eq_true rfl, Nat.le_of_ble_eq_true rfl⟩ (hs_pdk fun S54 hS54 hw => ?_) (fun _ _ h => h.elim)
                  replace hv := hv S54 hS54
                  exact wa_ireturn X E dX11_bid_217 (Nat.le_of_ble_eq_true rfl) (Nat.le_of_ble_eq_true rfl) (Or.inl rfl) ⟨hw, _, rfl, hv⟩
                · replace hv := hv.2 c35
                  refine wa_aload_n X 0 rfl dX11_bid_106 rfl ?_
                  refine wa_iconst X dX11_bid_107 kc3 ?_
                  refine wa_callV X (As := [.inl (3 : Int32)]) (f_M_fails hw) hk_11 hc_11 rfl kw_1391 kw_66 kw_1388 kw_1390 kw_22 nd_X11_fails rfl rfl (Nat.le_of_ble_eq_true rfl) dX11_bid_108 hs_1ne ⟨⟨Nat.le_of_ble_eq_true rfl, Nat.le_of_ble_eq_true rfl⟩, Nat.le_of_ble_eq_true rfl, Nat.le_of_ble_eq_true rfl⟩ (hs_pdk fun S55 hS55 hw => ?_) (fun _ _ h => h.elim)
                  replace hv := hv S55 hS55
                  exact wa_ireturn X E dX11_bid_111 (Nat.le_of_ble_eq_true rfl) (Nat.le_of_ble_eq_true rfl) (Or.inl rfl) ⟨hw, _, rfl, hv⟩
        · replace hv := hv.2 c7
          refine wa_aload_n X 0 rfl dX11_bid_53 rfl ?_
          refine wa_iconst X dX11_bid_54 kc2 ?_
          refine wa_callV X (As := [.inl (2 : Int32)]) (f_M_fails hw) hk_11 hc_11 rfl kw_1391 kw_66 kw_1388 kw_1390 kw_22 nd_X11_fails rfl rfl (Nat.le_of_ble_eq_true rfl) dX11_bid_55 hs_1ne ⟨⟨Nat.le_of_ble_eq_true rfl, Nat.le_of_ble_eq_true rfl⟩, Nat.le_of_ble_eq_true rfl, Nat.le_of_ble_eq_true rfl⟩ (hs_pdk fun S56 hS56 hw => ?_) (fun _ _ h => h.elim)
          replace hv := hv S56 hS56
          exact wa_ireturn X E dX11_bid_58 (Nat.le_of_ble_eq_true rfl) (Nat.le_of_ble_eq_true rfl) (Or.inl rfl) ⟨hw, _, rfl, hv⟩
    · replace hv := hv.2 c4
      refine wa_iconst X dX11_bid_28 kc0 ?_
      exact wa_ireturn X E dX11_bid_29 (Nat.le_of_ble_eq_true rfl) (Nat.le_of_ble_eq_true rfl) (Or.inl rfl) ⟨hw, _, rfl, hv⟩
  clear hv
  refine wa_if_eq X (tgt := 21) dX11_bid_5 (by decide) (fun c59 => ?_) (fun c59 => ?_)
  · refine wa_iconst X dX11_bid_21 kc0 ?_
    refine wa_lv (lv' := [(0, .inr (.inr (11, 1))), (1, .inl a1), (2, .inl a2), (3, .inl a3), (4, .inl a4), (5, .inl a5)]) [0, 1, 2, 3, 4, 5] rfl ?_
    exact wa_wid (Nat.le_of_ble_eq_true rfl) (Nat.le_of_ble_eq_true rfl) (k57 _  (by rw [if_pos c59]))
  · refine wa_iload_n X 2 rfl dX11_bid_8 rfl ?_
    refine wa_if_lt X (tgt := 21) dX11_bid_9 (by decide) (fun c60 => ?_) (fun c60 => ?_)
    · refine wa_iconst X dX11_bid_21 kc0 ?_
      refine wa_lv (lv' := [(0, .inr (.inr (11, 1))), (1, .inl a1), (2, .inl a2), (3, .inl a3), (4, .inl a4), (5, .inl a5)]) [0, 1, 2, 3, 4, 5] rfl ?_
      exact wa_wid (Nat.le_of_ble_eq_true rfl) (Nat.le_of_ble_eq_true rfl) (k57 _  (by rw [if_neg c59, if_pos c60]))
    · refine wa_iload_n X 2 rfl dX11_bid_12 rfl ?_
      refine wa_iconst X dX11_bid_13 kc4 ?_
      refine wa_icmp_ge X (tgt := 21) dX11_bid_14 (by decide) (fun c61 => ?_) (fun c61 => ?_)
      · refine wa_iconst X dX11_bid_21 kc0 ?_
        refine wa_lv (lv' := [(0, .inr (.inr (11, 1))), (1, .inl a1), (2, .inl a2), (3, .inl a3), (4, .inl a4), (5, .inl a5)]) [0, 1, 2, 3, 4, 5] rfl ?_
        exact wa_wid (Nat.le_of_ble_eq_true rfl) (Nat.le_of_ble_eq_true rfl) (k57 _  (by rw [if_neg c59, if_neg c60, if_pos c61]))
      · refine wa_iconst X dX11_bid_17 kc1 ?_
        refine wa_goto X (tgt := 22) dX11_bid_18 (by decide) ?_
        refine wa_lv (lv' := [(0, .inr (.inr (11, 1))), (1, .inl a1), (2, .inl a2), (3, .inl a3), (4, .inl a4), (5, .inl a5)]) [0, 1, 2, 3, 4, 5] rfl ?_
        exact wa_wid (Nat.le_of_ble_eq_true rfl) (Nat.le_of_ble_eq_true rfl) (k57 _  (by rw [if_neg c59, if_neg c60, if_neg c61]))

def m_M_withdraw (a1 : Int32) (a2 : Int32) (S : hs_S) (Q : Int32 → hs_S → Prop) : Prop := hs_M 2 yX11_withdraw (.code yX11_withdraw cX11_withdraw 3 (some FieldType.int)) [.inr (.inr (11, 1)), .inl a1, .inl a2] S 0 0 (hs_qI Q) hs_nX
def vc_M_withdraw (a1 : Int32) (a2 : Int32) (S : hs_S) (Q : Int32 → hs_S → Prop) : Prop := (∀ x1 : Int32, x1 = (if (F_isOwner a1) = 0 then (0 : Int32) else (if (F_isBid a2 S) = 0 then (0 : Int32) else (1 : Int32))) → ((P_asks x1 S) ∧ (∀ S3 : hs_S, S3 = (E_asks x1 S) → ((¬ x1 = 0 → ((0 ≤ a2.toInt ∧ a2.toInt < 80) ∧ ((¬ (S3.1 65 1 a2.toNatClampNeg) = a1 → (∀ S7 : hs_S, S7 = (E_fails (2 : Int32) S3) → (Q (0 : Int32) S7))) ∧ ((S3.1 65 1 a2.toNatClampNeg) = a1 → ((¬ (S3.1 71 1 a2.toNatClampNeg) = (-1 : Int32) → (∀ S9 : hs_S, S9 = (E_fails (2 : Int32) S3) → (Q (0 : Int32) S9))) ∧ ((S3.1 71 1 a2.toNatClampNeg) = (-1 : Int32) → ((0 ≤ (S3.1 66 1 a2.toNatClampNeg).toInt ∧ (S3.1 66 1 a2.toNatClampNeg).toInt < 4) ∧ ((¬ (S3.1 62 1 (S3.1 66 1 a2.toNatClampNeg).toNatClampNeg) = (-1 : Int32) → (∀ S12 : hs_S, S12 = (E_fails (2 : Int32) S3) → (Q (0 : Int32) S12))) ∧ ((S3.1 62 1 (S3.1 66 1 a2.toNatClampNeg).toNatClampNeg) = (-1 : Int32) → (((S3.1 72 1 a2.toNatClampNeg) = (-1 : Int32) → (∀ S14 : hs_S, S14 = (hs_wI S3 71 1 a2.toNatClampNeg (S3.1 11 1 0)) → (∀ S15 : hs_S, S15 = (E_act (S14.1 68 1 a2.toNatClampNeg) S14) → (Q (S14.1 68 1 a2.toNatClampNeg) S15)))) ∧ (¬ (S3.1 72 1 a2.toNatClampNeg) = (-1 : Int32) → (∀ S16 : hs_S, S16 = (E_fails (2 : Int32) S3) → (Q (0 : Int32) S16))))))))))))) ∧ (x1 = 0 → (Q (0 : Int32) S3))))))
set_option maxRecDepth 100000 in
set_option maxHeartbeats 4000000 in
theorem ok_M_withdraw {a1 : Int32} {a2 : Int32} {S : hs_S} {Q : Int32 → hs_S → Prop} (hw : hs_Wi S) (hv : vc_M_withdraw a1 a2 S Q) : m_M_withdraw a1 a2 S Q := by
  unfold vc_M_withdraw at hv
  refine hs_body (own := RX11) rfl rfl (Nat.le_of_ble_eq_true rfl) (fun Z X E N J0 => ?_)
  show wa Z 0 0 S 0 [(0, .inr (.inr (11, 1))), (1, .inl a1), (2, .inl a2)] []
  refine wa_aload_n X 0 rfl dX11_withdraw_0 rfl ?_
  refine wa_iload_n X 1 rfl dX11_withdraw_1 rfl ?_
  refine wa_callS X (As := [.inl a1]) (f_M_isOwner hw) kw_1376 kw_66 kw_1374 kw_1375 nd_X11_isOwner rfl rfl (Nat.le_of_ble_eq_true rfl) dX11_withdraw_2 ⟨⟨Nat.le_of_ble_eq_true rfl, Nat.le_of_ble_eq_true rfl⟩, Nat.le_of_ble_eq_true rfl, Nat.le_of_ble_eq_true rfl⟩ (hs_pdk0 ?_) (fun _ _ h => h.elim)
  have k17 : ∀ (x1 : Int32), x1 = (if (F_isOwner a1) = 0 then (0 : Int32) else (if (F_isBid a2 S) = 0 then (0 : Int32) else (1 : Int32))) → wa Z 0 0 S 21 [(0, .inr (.inr (11, 1))), (1, .inl a1), (2, .inl a2)] [.inl x1, .inr (.inr (11, 1))] := by
    intro x1 hE
    replace hv := hv _ hE
    obtain ⟨o2, hv⟩ := hv
    refine wa_callV X (As := [.inl x1]) (f_M_asks hw o2) hk_11 hc_11 rfl kw_1383 kw_66 kw_1380 kw_1382 kw_20 nd_X11_asks rfl rfl (Nat.le_of_ble_eq_true rfl) dX11_withdraw_21 hs_1ne ⟨⟨Nat.le_of_ble_eq_true rfl, Nat.le_of_ble_eq_true rfl⟩, Nat.le_of_ble_eq_true rfl, Nat.le_of_ble_eq_true rfl⟩ (hs_pdk fun S3 hS3 hw => ?_) (fun _ _ h => h.elim)
    replace hv := hv S3 hS3
    refine wa_if_ne X (tgt := 29) dX11_withdraw_24 (by decide) (fun c4 => ?_) (fun c4 => ?_)
    · replace hv := hv.1 c4
      refine wa_aload_n X 0 rfl dX11_withdraw_29 rfl ?_
      refine wa_getfw X hw (j := 25) (r := 1) hk_11 hc_11 i_11 (by decide) kw_1209 rfl rfl (by decide) rfl dX11_withdraw_30 hs_1ne ?_
      refine wa_iload_n X 2 rfl dX11_withdraw_33 rfl ?_
      obtain ⟨o5, hv⟩ := hv
      refine wa_iald X hk_65 dX11_withdraw_34 hs_1ne o5 ?_
      refine wa_iload_n X 1 rfl dX11_withdraw_35 rfl ?_
      refine wa_icmp_ne X (tgt := 74) dX11_withdraw_36 (by decide) (fun c6 => ?_) (fun c6 => ?_)
      · replace hv := hv.1 c6
        refine wa_aload_n X 0 rfl dX11_withdraw_74 rfl ?_
        refine wa_iconst X dX11_withdraw_75 kc2 ?_
        refine wa_callV X (As := [.inl (2 : Int32)]) (f_M_fails hw) hk_11 hc_11 rfl kw_1391 kw_66 kw_1388 kw_1390 kw_22 nd_X11_fails rfl rfl (Nat.le_of_ble_eq_true rfl) dX11_withdraw_76 hs_1ne ⟨⟨Nat.le_of_ble_eq_true rfl, Nat.le_of_ble_eq_true rfl⟩, Nat.le_of_ble_eq_true rfl, Nat.le_of_ble_eq_true rfl⟩ (hs_pdk fun S7 hS7 hw => ?_) (fun _ _ h => h.elim)
        replace hv := hv S7 hS7
        exact wa_ireturn X E dX11_withdraw_79 (Nat.le_of_ble_eq_true rfl) (Nat.le_of_ble_eq_true rfl) (Or.inl rfl) ⟨hw, _, rfl, hv⟩
      · replace hv := hv.2 c6
        refine wa_aload_n X 0 rfl dX11_withdraw_39 rfl ?_
        refine wa_getfw X hw (j := 31) (r := 1) hk_11 hc_11 i_11 (by decide) kw_1215 rfl rfl (by decide) rfl dX11_withdraw_40 hs_1ne ?_
        refine wa_iload_n X 2 rfl dX11_withdraw_43 rfl ?_
        refine wa_iald X hk_71 dX11_withdraw_44 hs_1ne o5 ?_
        refine wa_iconst X dX11_withdraw_45 kcm1 ?_
        refine wa_icmp_ne X (tgt := 74) dX11_withdraw_46 (by decide) (fun c8 => ?_) (fun c8 => ?_)
        · replace hv := hv.1 c8
          refine wa_aload_n X 0 rfl dX11_withdraw_74 rfl ?_
          refine wa_iconst X dX11_withdraw_75 kc2 ?_
          refine wa_callV X (As := [.inl (2 : Int32)]) (f_M_fails hw) hk_11 hc_11 rfl kw_1391 kw_66 kw_1388 kw_1390 kw_22 nd_X11_fails rfl rfl (Nat.le_of_ble_eq_true rfl) dX11_withdraw_76 hs_1ne ⟨⟨Nat.le_of_ble_eq_true rfl, Nat.le_of_ble_eq_true rfl⟩, Nat.le_of_ble_eq_true rfl, Nat.le_of_ble_eq_true rfl⟩ (hs_pdk fun S9 hS9 hw => ?_) (fun _ _ h => h.elim)
          replace hv := hv S9 hS9
          exact wa_ireturn X E dX11_withdraw_79 (Nat.le_of_ble_eq_true rfl) (Nat.le_of_ble_eq_true rfl) (Or.inl rfl) ⟨hw, _, rfl, hv⟩
        · replace hv := hv.2 c8
          refine wa_aload_n X 0 rfl dX11_withdraw_49 rfl ?_
          refine wa_getfw X hw (j := 22) (r := 1) hk_11 hc_11 i_11 (by decide) kw_1206 rfl rfl (by decide) rfl dX11_withdraw_50 hs_1ne ?_
          refine wa_aload_n X 0 rfl dX11_withdraw_53 rfl ?_
          refine wa_getfw X hw (j := 26) (r := 1) hk_11 hc_11 i_11 (by decide) kw_1210 rfl rfl (by decide) rfl dX11_withdraw_54 hs_1ne ?_
          refine wa_iload_n X 2 rfl dX11_withdraw_57 rfl ?_
          refine wa_iald X hk_66 dX11_withdraw_58 hs_1ne o5 ?_
          obtain ⟨o10, hv⟩ := hv
          refine wa_iald X hk_62 dX11_withdraw_59 hs_1ne o10 ?_
          refine wa_iconst X dX11_withdraw_60 kcm1 ?_
          refine wa_icmp_ne X (tgt := 74) dX11_withdraw_61 (by decide) (fun c11 => ?_) (fun c11 => ?_)
          · replace hv := hv.1 c11
            refine wa_aload_n X 0 rfl dX11_withdraw_74 rfl ?_
            refine wa_iconst X dX11_withdraw_75 kc2 ?_
            refine wa_callV X (As := [.inl (2 : Int32)]) (f_M_fails hw) hk_11 hc_11 rfl kw_1391 kw_66 kw_1388 kw_1390 kw_22 nd_X11_fails rfl rfl (Nat.le_of_ble_eq_true rfl) dX11_withdraw_76 hs_1ne ⟨⟨Nat.le_of_ble_eq_true rfl, Nat.le_of_ble_eq_true rfl⟩, Nat.le_of_ble_eq_true rfl, Nat.le_of_ble_eq_true rfl⟩ (hs_pdk fun S12 hS12 hw => ?_) (fun _ _ h => h.elim)
            replace hv := hv S12 hS12
            exact wa_ireturn X E dX11_withdraw_79 (Nat.le_of_ble_eq_true rfl) (Nat.le_of_ble_eq_true rfl) (Or.inl rfl) ⟨hw, _, rfl, hv⟩
          · replace hv := hv.2 c11
            refine wa_aload_n X 0 rfl dX11_withdraw_64 rfl ?_
            refine wa_getfw X hw (j := 32) (r := 1) hk_11 hc_11 i_11 (by decide) kw_1216 rfl rfl (by decide) rfl dX11_withdraw_65 hs_1ne ?_
            refine wa_iload_n X 2 rfl dX11_withdraw_68 rfl ?_
            refine wa_iald X hk_72 dX11_withdraw_69 hs_1ne o5 ?_
            refine wa_iconst X dX11_withdraw_70 kcm1 ?_
            refine wa_icmp_eq X (tgt := 80) dX11_withdraw_71 (by decide) (fun c13 => ?_) (fun c13 => ?_)
            · replace hv := hv.1 c13
              refine wa_aload_n X 0 rfl dX11_withdraw_80 rfl ?_
              refine wa_getfw X hw (j := 31) (r := 1) hk_11 hc_11 i_11 (by decide) kw_1215 rfl rfl (by decide) rfl dX11_withdraw_81 hs_1ne ?_
              refine wa_iload_n X 2 rfl dX11_withdraw_84 rfl ?_
              refine wa_aload_n X 0 rfl dX11_withdraw_85 rfl ?_
              refine wa_getI X (j := 0) hk_11 hc_11 i_11 (by decide) kw_1184 rfl dX11_withdraw_86 hs_1ne ?_
              refine wa_iast X hk_71 dX11_withdraw_89 hs_1ne o5 (hs_eqS fun S14 hS14 => ?_)
              replace hv := hv S14 hS14
              replace hw : hs_Wi S14 := hS14 ▸ hs_Wi_I hw
              refine wa_aload_n X 0 rfl dX11_withdraw_90 rfl ?_
              refine wa_aload_n X 0 rfl dX11_withdraw_91 rfl ?_
              refine wa_getfw X hw (j := 28) (r := 1) hk_11 hc_11 i_11 (by decide) kw_1212 rfl rfl (by decide) rfl dX11_withdraw_92 hs_1ne ?_
              refine wa_iload_n X 2 rfl dX11_withdraw_95 rfl ?_
              refine wa_iald X hk_68 dX11_withdraw_96 hs_1ne o5 ?_
              refine wa_callV X (As := [.inl (S14.1 68 1 a2.toNatClampNeg)]) (f_M_act hw) hk_11 hc_11 rfl kw_1399 kw_66 kw_1396 kw_1398 kw_23 nd_X11_act rfl rfl (Nat.le_of_ble_eq_true rfl) dX11_withdraw_97 hs_1ne ⟨⟨Nat.le_of_ble_eq_true rfl, Nat.le_of_ble_eq_true rfl⟩, Nat.le_of_ble_eq_true rfl, Nat.le_of_ble_eq_true rfl⟩ (hs_pdk fun S15 hS15 hw => ?_) (fun _ _ h => h.elim)
              replace hv := hv S15 hS15
              exact wa_ireturn X E dX11_withdraw_100 (Nat.le_of_ble_eq_true rfl) (Nat.le_of_ble_eq_true rfl) (Or.inl rfl) ⟨hw, _, rfl, hv⟩
            · replace hv := hv.2 c13
              refine wa_aload_n X 0 rfl dX11_withdraw_74 rfl ?_
              refine wa_iconst X dX11_withdraw_75 kc2 ?_
              refine wa_callV X (As := [.inl (2 : Int32)]) (f_M_fails hw) hk_11 hc_11 rfl kw_1391 kw_66 kw_1388 kw_1390 kw_22 nd_X11_fails rfl rfl (Nat.le_of_ble_eq_true rfl) dX11_withdraw_76 hs_1ne ⟨⟨Nat.le_of_ble_eq_true rfl, Nat.le_of_ble_eq_true rfl⟩, Nat.le_of_ble_eq_true rfl, Nat.le_of_ble_eq_true rfl⟩ (hs_pdk fun S16 hS16 hw => ?_) (fun _ _ h => h.elim)
              replace hv := hv S16 hS16
              exact wa_ireturn X E dX11_withdraw_79 (Nat.le_of_ble_eq_true rfl) (Nat.le_of_ble_eq_true rfl) (Or.inl rfl) ⟨hw, _, rfl, hv⟩
    · replace hv := hv.2 c4
      refine wa_iconst X dX11_withdraw_27 kc0 ?_
      exact wa_ireturn X E dX11_withdraw_28 (Nat.le_of_ble_eq_true rfl) (Nat.le_of_ble_eq_true rfl) (Or.inl rfl) ⟨hw, _, rfl, hv⟩
  clear hv
  refine wa_if_eq X (tgt := 20) dX11_withdraw_5 (by decide) (fun c19 => ?_) (fun c19 => ?_)
  · refine wa_iconst X dX11_withdraw_20 kc0 ?_
    refine wa_lv (lv' := [(0, .inr (.inr (11, 1))), (1, .inl a1), (2, .inl a2)]) [0, 1, 2] rfl ?_
    exact wa_wid (Nat.le_of_ble_eq_true rfl) (Nat.le_of_ble_eq_true rfl) (k17 _  (by rw [if_pos c19]))
  · refine wa_aload_n X 0 rfl dX11_withdraw_8 rfl ?_
    refine wa_iload_n X 2 rfl dX11_withdraw_9 rfl ?_
    refine wa_callV X (As := [.inl a2]) (f_M_isBid hw) hk_11 hc_11 rfl kw_1550 kw_66 kw_1547 kw_1549 kw_45 nd_X11_isBid rfl rfl (Nat.le_of_ble_eq_true rfl) dX11_withdraw_10 hs_1ne ⟨⟨Nat.le_of_ble_eq_true rfl, Nat.le_of_ble_eq_true rfl⟩, Nat.le_of_ble_eq_true rfl, Nat.le_of_ble_eq_true rfl⟩ (hs_pdk0 ?_) (fun _ _ h => h.elim)
    refine wa_if_eq X (tgt := 20) dX11_withdraw_13 (by decide) (fun c20 => ?_) (fun c20 => ?_)
    · refine wa_iconst X dX11_withdraw_20 kc0 ?_
      refine wa_lv (lv' := [(0, .inr (.inr (11, 1))), (1, .inl a1), (2, .inl a2)]) [0, 1, 2] rfl ?_
      exact wa_wid (Nat.le_of_ble_eq_true rfl) (Nat.le_of_ble_eq_true rfl) (k17 _  (by rw [if_neg c19, if_pos c20]))
    · refine wa_iconst X dX11_withdraw_16 kc1 ?_
      refine wa_goto X (tgt := 21) dX11_withdraw_17 (by decide) ?_
      refine wa_lv (lv' := [(0, .inr (.inr (11, 1))), (1, .inl a1), (2, .inl a2)]) [0, 1, 2] rfl ?_
      exact wa_wid (Nat.le_of_ble_eq_true rfl) (Nat.le_of_ble_eq_true rfl) (k17 _  (by rw [if_neg c19, if_neg c20]))

def m_M_share (a1 : Int32) (a2 : Int32) (S : hs_S) (Q : Int32 → hs_S → Prop) : Prop := hs_M 2 yX11_share (.code yX11_share cX11_share 4 (some FieldType.boolean)) [.inr (.inr (11, 1)), .inl a1, .inl a2] S 0 0 (hs_qI Q) hs_nX
def vc_M_share (a1 : Int32) (a2 : Int32) (S : hs_S) (Q : Int32 → hs_S → Prop) : Prop := (∀ x1 : Int32, x1 = (if a1 < 0 then (0 : Int32) else (if (4 : Int32) ≤ a1 then (0 : Int32) else (1 : Int32))) → ((P_asks x1 S) ∧ (∀ S3 : hs_S, S3 = (E_asks x1 S) → ((¬ x1 = 0 → ((0 ≤ a1.toInt ∧ a1.toInt < 4) ∧ ((a2 = 0 ∨ a2 = 1) ∧ (∀ S7 : hs_S, S7 = (hs_wI S3 61 1 a1.toNatClampNeg a2) → (∀ S8 : hs_S, S8 = (hs_wI S7 11 1 0 ((S7.1 11 1 0) + (1 : Int32))) → (((S3.1 61 1 a1.toNatClampNeg) = 0 ∨ (S3.1 61 1 a1.toNatClampNeg) = 1) ∧ (Q (S3.1 61 1 a1.toNatClampNeg) S8))))))) ∧ (x1 = 0 → (Q (0 : Int32) S3))))))
set_option maxRecDepth 100000 in
set_option maxHeartbeats 4000000 in
theorem ok_M_share {a1 : Int32} {a2 : Int32} {S : hs_S} {Q : Int32 → hs_S → Prop} (hw : hs_Wi S) (hv : vc_M_share a1 a2 S Q) : m_M_share a1 a2 S Q := by
  unfold vc_M_share at hv
  refine hs_body (own := RX11) rfl rfl (Nat.le_of_ble_eq_true rfl) (fun Z X E N J0 => ?_)
  show wa Z 0 0 S 0 [(0, .inr (.inr (11, 1))), (1, .inl a1), (2, .inl a2)] []
  refine wa_aload_n X 0 rfl dX11_share_0 rfl ?_
  refine wa_iload_n X 1 rfl dX11_share_1 rfl ?_
  have k10 : ∀ (x1 : Int32), x1 = (if a1 < 0 then (0 : Int32) else (if (4 : Int32) ≤ a1 then (0 : Int32) else (1 : Int32))) → wa Z 0 0 S 15 [(0, .inr (.inr (11, 1))), (1, .inl a1), (2, .inl a2)] [.inl x1, .inr (.inr (11, 1))] := by
    intro x1 hE
    replace hv := hv _ hE
    obtain ⟨o2, hv⟩ := hv
    refine wa_callV X (As := [.inl x1]) (f_M_asks hw o2) hk_11 hc_11 rfl kw_1383 kw_66 kw_1380 kw_1382 kw_20 nd_X11_asks rfl rfl (Nat.le_of_ble_eq_true rfl) dX11_share_15 hs_1ne ⟨⟨Nat.le_of_ble_eq_true rfl, Nat.le_of_ble_eq_true rfl⟩, Nat.le_of_ble_eq_true rfl, Nat.le_of_ble_eq_true rfl⟩ (hs_pdk fun S3 hS3 hw => ?_) (fun _ _ h => h.elim)
    replace hv := hv S3 hS3
    refine wa_if_ne X (tgt := 23) dX11_share_18 (by decide) (fun c4 => ?_) (fun c4 => ?_)
    · replace hv := hv.1 c4
      refine wa_aload_n X 0 rfl dX11_share_23 rfl ?_
      refine wa_getfw X hw (j := 21) (r := 1) hk_11 hc_11 i_11 (by decide) kw_1205 rfl rfl (by decide) rfl dX11_share_24 hs_1ne ?_
      refine wa_iload_n X 1 rfl dX11_share_27 rfl ?_
      obtain ⟨o5, hv⟩ := hv
      refine wa_bald X hk_61 dX11_share_28 hs_1ne o5 ?_
      refine wa_istore_n X (lv' := [(3, .inl (S3.1 61 1 a1.toNatClampNeg)), (0, .inr (.inr (11, 1))), (1, .inl a1), (2, .inl a2)]) dX11_share_29 rfl (by decide) rfl ?_
      refine wa_aload_n X 1 rfl dX11_share_30 rfl ?_
      refine wa_getfw X hw (j := 21) (r := 1) hk_11 hc_11 i_11 (by decide) kw_1205 rfl rfl (by decide) rfl dX11_share_31 hs_1ne ?_
      refine wa_iload_n X 2 rfl dX11_share_34 rfl ?_
      refine wa_iload_n X 3 rfl dX11_share_35 rfl ?_
      obtain ⟨o6, hv⟩ := hv
      refine wa_bast X hk_61 dX11_share_36 hs_1ne o5 o6 (hs_eqS fun S7 hS7 => ?_)
      replace hv := hv S7 hS7
      replace hw : hs_Wi S7 := hS7 ▸ hs_Wi_I hw
      refine wa_aload_n X 1 rfl dX11_share_37 rfl ?_
      refine wa_dup X dX11_share_38 rfl ?_
      refine wa_getI X (j := 0) hk_11 hc_11 i_11 (by decide) kw_1184 rfl dX11_share_39 hs_1ne ?_
      refine wa_iconst X dX11_share_42 kc1 ?_
      refine wa_iadd X dX11_share_43 ?_
      refine wa_putI X (j := 0) hk_11 hc_11 i_11 tyX11 tyX11_ok nmX11 (by decide) kw_1184 rfl rfl dX11_share_44 hs_1ne ⟨rfl, Or.inl rfl⟩ (hs_eqS fun S8 hS8 => ?_)
      replace hv := hv S8 hS8
      replace hw : hs_Wi S8 := hS8 ▸ hs_Wi_I hw
      refine wa_iload_n X 0 rfl dX11_share_47 rfl ?_
      obtain ⟨o9, hv⟩ := hv
      exact wa_ireturn X E dX11_share_48 (Nat.le_of_ble_eq_true rfl) (Nat.le_of_ble_eq_true rfl) (Or.inr ⟨rfl, o9⟩) ⟨hw, _, rfl, hv⟩
    · replace hv := hv.2 c4
      refine wa_iconst X dX11_share_21 kc0 ?_
      exact wa_ireturn X E dX11_share_22 (Nat.le_of_ble_eq_true rfl) (Nat.le_of_ble_eq_true rfl) (Or.inr ⟨rfl, Or.inl rfl⟩) ⟨hw, _, rfl, hv⟩
  clear hv
  refine wa_if_lt X (tgt := 14) dX11_share_2 (by decide) (fun c12 => ?_) (fun c12 => ?_)
  · refine wa_iconst X dX11_share_14 kc0 ?_
    refine wa_lv (lv' := [(0, .inr (.inr (11, 1))), (1, .inl a1), (2, .inl a2)]) [0, 1, 2] rfl ?_
    exact wa_wid (Nat.le_of_ble_eq_true rfl) (Nat.le_of_ble_eq_true rfl) (k10 _  (by rw [if_pos c12]))
  · refine wa_iload_n X 1 rfl dX11_share_5 rfl ?_
    refine wa_iconst X dX11_share_6 kc4 ?_
    refine wa_icmp_ge X (tgt := 14) dX11_share_7 (by decide) (fun c13 => ?_) (fun c13 => ?_)
    · refine wa_iconst X dX11_share_14 kc0 ?_
      refine wa_lv (lv' := [(0, .inr (.inr (11, 1))), (1, .inl a1), (2, .inl a2)]) [0, 1, 2] rfl ?_
      exact wa_wid (Nat.le_of_ble_eq_true rfl) (Nat.le_of_ble_eq_true rfl) (k10 _  (by rw [if_neg c12, if_pos c13]))
    · refine wa_iconst X dX11_share_10 kc1 ?_
      refine wa_goto X (tgt := 15) dX11_share_11 (by decide) ?_
      refine wa_lv (lv' := [(0, .inr (.inr (11, 1))), (1, .inl a1), (2, .inl a2)]) [0, 1, 2] rfl ?_
      exact wa_wid (Nat.le_of_ble_eq_true rfl) (Nat.le_of_ble_eq_true rfl) (k10 _  (by rw [if_neg c12, if_neg c13]))

def m_M_isFrozen (a1 : Int32) (S : hs_S) (Q : Int32 → hs_S → Prop) : Prop := hs_M 2 yX11_isFrozen (.code yX11_isFrozen cX11_isFrozen 2 (some FieldType.boolean)) [.inr (.inr (11, 1)), .inl a1] S 0 0 (hs_qI Q) hs_nX
def vc_M_isFrozen (a1 : Int32) (S : hs_S) (Q : Int32 → hs_S → Prop) : Prop := (∀ x1 : Int32, x1 = (if a1 < 0 then (0 : Int32) else (if (4 : Int32) ≤ a1 then (0 : Int32) else (1 : Int32))) → ((P_asks x1 S) ∧ (∀ S3 : hs_S, S3 = (E_asks x1 S) → ((x1 = 0 → (Q (0 : Int32) S3)) ∧ (¬ x1 = 0 → ((0 ≤ a1.toInt ∧ a1.toInt < 4) ∧ (((S3.1 62 1 a1.toNatClampNeg) = (-1 : Int32) → (Q (0 : Int32) S3)) ∧ (¬ (S3.1 62 1 a1.toNatClampNeg) = (-1 : Int32) → (Q (1 : Int32) S3)))))))))
set_option maxRecDepth 100000 in
set_option maxHeartbeats 4000000 in
theorem ok_M_isFrozen {a1 : Int32} {S : hs_S} {Q : Int32 → hs_S → Prop} (hw : hs_Wi S) (hv : vc_M_isFrozen a1 S Q) : m_M_isFrozen a1 S Q := by
  unfold vc_M_isFrozen at hv
  refine hs_body (own := RX11) rfl rfl (Nat.le_of_ble_eq_true rfl) (fun Z X E N J0 => ?_)
  show wa Z 0 0 S 0 [(0, .inr (.inr (11, 1))), (1, .inl a1)] []
  refine wa_aload_n X 0 rfl dX11_isFrozen_0 rfl ?_
  refine wa_iload_n X 1 rfl dX11_isFrozen_1 rfl ?_
  have k7 : ∀ (x1 : Int32), x1 = (if a1 < 0 then (0 : Int32) else (if (4 : Int32) ≤ a1 then (0 : Int32) else (1 : Int32))) → wa Z 0 0 S 15 [(0, .inr (.inr (11, 1))), (1, .inl a1)] [.inl x1, .inr (.inr (11, 1))] := by
    intro x1 hE
    replace hv := hv _ hE
    obtain ⟨o2, hv⟩ := hv
    refine wa_callV X (As := [.inl x1]) (f_M_asks hw o2) hk_11 hc_11 rfl kw_1383 kw_66 kw_1380 kw_1382 kw_20 nd_X11_asks rfl rfl (Nat.le_of_ble_eq_true rfl) dX11_isFrozen_15 hs_1ne ⟨⟨Nat.le_of_ble_eq_true rfl, Nat.le_of_ble_eq_true rfl⟩, Nat.le_of_ble_eq_true rfl, Nat.le_of_ble_eq_true rfl⟩ (hs_pdk fun S3 hS3 hw => ?_) (fun _ _ h => h.elim)
    replace hv := hv S3 hS3
    refine wa_if_eq X (tgt := 35) dX11_isFrozen_18 (by decide) (fun c4 => ?_) (fun c4 => ?_)
    · replace hv := hv.1 c4
      refine wa_iconst X dX11_isFrozen_35 kc0 ?_
      exact wa_ireturn X E dX11_isFrozen_36 (Nat.le_of_ble_eq_true rfl) (Nat.le_of_ble_eq_true rfl) (Or.inr ⟨rfl, Or.inl rfl⟩) ⟨hw, _, rfl, hv⟩
    · replace hv := hv.2 c4
      refine wa_aload_n X 0 rfl dX11_isFrozen_21 rfl ?_
      refine wa_getfw X hw (j := 22) (r := 1) hk_11 hc_11 i_11 (by decide) kw_1206 rfl rfl (by decide) rfl dX11_isFrozen_22 hs_1ne ?_
      refine wa_iload_n X 1 rfl dX11_isFrozen_25 rfl ?_
      obtain ⟨o5, hv⟩ := hv
      refine wa_iald X hk_62 dX11_isFrozen_26 hs_1ne o5 ?_
      refine wa_iconst X dX11_isFrozen_27 kcm1 ?_
      refine wa_icmp_eq X (tgt := 35) dX11_isFrozen_28 (by decide) (fun c6 => ?_) (fun c6 => ?_)
      · replace hv := hv.1 c6
        refine wa_iconst X dX11_isFrozen_35 kc0 ?_
        exact wa_ireturn X E dX11_isFrozen_36 (Nat.le_of_ble_eq_true rfl) (Nat.le_of_ble_eq_true rfl) (Or.inr ⟨rfl, Or.inl rfl⟩) ⟨hw, _, rfl, hv⟩
      · replace hv := hv.2 c6
        refine wa_iconst X dX11_isFrozen_31 kc1 ?_
        refine wa_goto X (tgt := 36) dX11_isFrozen_32 (by decide) ?_
        exact wa_ireturn X E dX11_isFrozen_36 (Nat.le_of_ble_eq_true rfl) (Nat.le_of_ble_eq_true rfl) (Or.inr ⟨rfl, Or.inr rfl⟩) ⟨hw, _, rfl, hv⟩
  clear hv
  refine wa_if_lt X (tgt := 14) dX11_isFrozen_2 (by decide) (fun c9 => ?_) (fun c9 => ?_)
  · refine wa_iconst X dX11_isFrozen_14 kc0 ?_
    refine wa_lv (lv' := [(0, .inr (.inr (11, 1))), (1, .inl a1)]) [0, 1] rfl ?_
    exact wa_wid (Nat.le_of_ble_eq_true rfl) (Nat.le_of_ble_eq_true rfl) (k7 _  (by rw [if_pos c9]))
  · refine wa_iload_n X 1 rfl dX11_isFrozen_5 rfl ?_
    refine wa_iconst X dX11_isFrozen_6 kc4 ?_
    refine wa_icmp_ge X (tgt := 14) dX11_isFrozen_7 (by decide) (fun c10 => ?_) (fun c10 => ?_)
    · refine wa_iconst X dX11_isFrozen_14 kc0 ?_
      refine wa_lv (lv' := [(0, .inr (.inr (11, 1))), (1, .inl a1)]) [0, 1] rfl ?_
      exact wa_wid (Nat.le_of_ble_eq_true rfl) (Nat.le_of_ble_eq_true rfl) (k7 _  (by rw [if_neg c9, if_pos c10]))
    · refine wa_iconst X dX11_isFrozen_10 kc1 ?_
      refine wa_goto X (tgt := 15) dX11_isFrozen_11 (by decide) ?_
      refine wa_lv (lv' := [(0, .inr (.inr (11, 1))), (1, .inl a1)]) [0, 1] rfl ?_
      exact wa_wid (Nat.le_of_ble_eq_true rfl) (Nat.le_of_ble_eq_true rfl) (k7 _  (by rw [if_neg c9, if_neg c10]))

def m_M_round (a1 : Int32) (a2 : Int32) (S : hs_S) (Q : Int32 → hs_S → Prop) : Prop := hs_M 4 yX11_round (.code yX11_round cX11_round 3 (some FieldType.int)) [.inr (.inr (11, 1)), .inl a1, .inl a2] S 0 0 (hs_qI Q) hs_nX
def vc_M_round (a1 : Int32) (a2 : Int32) (S : hs_S) (Q : Int32 → hs_S → Prop) : Prop := (∀ x1 : Int32, x1 = (if a1 < 0 then (0 : Int32) else (if (S.1 11 1 36) ≤ a1 then (0 : Int32) else (1 : Int32))) → ((P_asks x1 S) ∧ (∀ S3 : hs_S, S3 = (E_asks x1 S) → ((¬ x1 = 0 → ((¬ (F_in a2 (0 : Int32) (5 : Int32)) = 0 → ((a2 ≤ (2 : Int32) → ((¬ a2 = 0 → ((¬ a2 = (1 : Int32) → ((0 ≤ a1.toInt ∧ a1.toInt < 30) ∧ (Q (S3.1 82 1 a1.toNatClampNeg) S3))) ∧ (a2 = (1 : Int32) → ((0 ≤ a1.toInt ∧ a1.toInt < 30) ∧ (Q (S3.1 81 1 a1.toNatClampNeg) S3))))) ∧ (a2 = 0 → ((0 ≤ a1.toInt ∧ a1.toInt < 30) ∧ (Q (S3.1 77 1 a1.toNatClampNeg) S3))))) ∧ (¬ a2 ≤ (2 : Int32) → ((¬ a2 = (3 : Int32) → ((¬ a2 = (4 : Int32) → ((P_feesOf a1 S3) ∧ (Q (F_feesOf a1 S3).toInt32 S3))) ∧ (a2 = (4 : Int32) → ((0 ≤ a1.toInt ∧ a1.toInt < 30) ∧ (Q (S3.1 84 1 a1.toNatClampNeg) S3))))) ∧ (a2 = (3 : Int32) → ((0 ≤ a1.toInt ∧ a1.toInt < 30) ∧ (Q (S3.1 83 1 a1.toNatClampNeg) S3))))))) ∧ ((F_in a2 (0 : Int32) (5 : Int32)) = 0 → (∀ S17 : hs_S, S17 = (E_fails (2 : Int32) S3) → (Q (0 : Int32) S17))))) ∧ (x1 = 0 → (Q (0 : Int32) S3))))))
set_option maxRecDepth 100000 in
set_option maxHeartbeats 4000000 in
theorem ok_M_round {a1 : Int32} {a2 : Int32} {S : hs_S} {Q : Int32 → hs_S → Prop} (hw : hs_Wi S) (hv : vc_M_round a1 a2 S Q) : m_M_round a1 a2 S Q := by
  unfold vc_M_round at hv
  refine hs_body (own := RX11) rfl rfl (Nat.le_of_ble_eq_true rfl) (fun Z X E N J0 => ?_)
  show wa Z 0 0 S 0 [(0, .inr (.inr (11, 1))), (1, .inl a1), (2, .inl a2)] []
  refine wa_aload_n X 0 rfl dX11_round_0 rfl ?_
  refine wa_iload_n X 1 rfl dX11_round_1 rfl ?_
  have k18 : ∀ (x1 : Int32), x1 = (if a1 < 0 then (0 : Int32) else (if (S.1 11 1 36) ≤ a1 then (0 : Int32) else (1 : Int32))) → wa Z 0 0 S 18 [(0, .inr (.inr (11, 1))), (1, .inl a1), (2, .inl a2)] [.inl x1, .inr (.inr (11, 1))] := by
    intro x1 hE
    replace hv := hv _ hE
    obtain ⟨o2, hv⟩ := hv
    refine wa_callV X (As := [.inl x1]) (f_M_asks hw o2) hk_11 hc_11 rfl kw_1383 kw_66 kw_1380 kw_1382 kw_20 nd_X11_asks rfl rfl (Nat.le_of_ble_eq_true rfl) dX11_round_18 hs_1ne ⟨⟨Nat.le_of_ble_eq_true rfl, Nat.le_of_ble_eq_true rfl⟩, Nat.le_of_ble_eq_true rfl, Nat.le_of_ble_eq_true rfl⟩ (hs_pdk fun S3 hS3 hw => ?_) (fun _ _ h => h.elim)
    replace hv := hv S3 hS3
    refine wa_if_ne X (tgt := 26) dX11_round_21 (by decide) (fun c4 => ?_) (fun c4 => ?_)
    · replace hv := hv.1 c4
      refine wa_iload_n X 2 rfl dX11_round_26 rfl ?_
      refine wa_iconst X dX11_round_27 kc0 ?_
      refine wa_iconst X dX11_round_28 kc5 ?_
      refine wa_callS X (As := [.inl a2, .inl (0 : Int32), .inl (5 : Int32)]) (f_M_in hw) kw_1420 kw_66 kw_1418 kw_1419 nd_X11_in rfl rfl (Nat.le_of_ble_eq_true rfl) dX11_round_29 ⟨⟨Nat.le_of_ble_eq_true rfl, Nat.le_of_ble_eq_true rfl⟩, Nat.le_of_ble_eq_true rfl, Nat.le_of_ble_eq_true rfl⟩ (hs_pdk0 ?_) (fun _ _ h => h.elim)
      refine wa_if_ne X (tgt := 41) dX11_round_32 (by decide) (fun c5 => ?_) (fun c5 => ?_)
      · replace hv := hv.1 c5
        refine wa_iload_n X 2 rfl dX11_round_41 rfl ?_
        refine wa_iconst X dX11_round_42 kc2 ?_
        refine wa_icmp_le X (tgt := 81) dX11_round_43 (by decide) (fun c6 => ?_) (fun c6 => ?_)
        · replace hv := hv.1 c6
          refine wa_iload_n X 2 rfl dX11_round_81 rfl ?_
          refine wa_if_ne X (tgt := 94) dX11_round_82 (by decide) (fun c7 => ?_) (fun c7 => ?_)
          · replace hv := hv.1 c7
            refine wa_iload_n X 2 rfl dX11_round_94 rfl ?_
            refine wa_iconst X dX11_round_95 kc1 ?_
            refine wa_icmp_ne X (tgt := 108) dX11_round_96 (by decide) (fun c8 => ?_) (fun c8 => ?_)
            · replace hv := hv.1 c8
              refine wa_aload_n X 0 rfl dX11_round_108 rfl ?_
              refine wa_getfw X hw (j := 42) (r := 1) hk_11 hc_11 i_11 (by decide) kw_1226 rfl rfl (by decide) rfl dX11_round_109 hs_1ne ?_
              refine wa_iload_n X 1 rfl dX11_round_112 rfl ?_
              obtain ⟨o9, hv⟩ := hv
              refine wa_iald X hk_82 dX11_round_113 hs_1ne o9 ?_
              exact wa_ireturn X E dX11_round_114 (Nat.le_of_ble_eq_true rfl) (Nat.le_of_ble_eq_true rfl) (Or.inl rfl) ⟨hw, _, rfl, hv⟩
            · replace hv := hv.2 c8
              refine wa_aload_n X 0 rfl dX11_round_99 rfl ?_
              refine wa_getfw X hw (j := 41) (r := 1) hk_11 hc_11 i_11 (by decide) kw_1225 rfl rfl (by decide) rfl dX11_round_100 hs_1ne ?_
              refine wa_iload_n X 1 rfl dX11_round_103 rfl ?_
              obtain ⟨o10, hv⟩ := hv
              refine wa_iald X hk_81 dX11_round_104 hs_1ne o10 ?_
              refine wa_goto X (tgt := 114) dX11_round_105 (by decide) ?_
              exact wa_ireturn X E dX11_round_114 (Nat.le_of_ble_eq_true rfl) (Nat.le_of_ble_eq_true rfl) (Or.inl rfl) ⟨hw, _, rfl, hv⟩
          · replace hv := hv.2 c7
            refine wa_aload_n X 0 rfl dX11_round_85 rfl ?_
            refine wa_getfw X hw (j := 37) (r := 1) hk_11 hc_11 i_11 (by decide) kw_1221 rfl rfl (by decide) rfl dX11_round_86 hs_1ne ?_
            refine wa_iload_n X 1 rfl dX11_round_89 rfl ?_
            obtain ⟨o11, hv⟩ := hv
            refine wa_iald X hk_77 dX11_round_90 hs_1ne o11 ?_
            refine wa_goto X (tgt := 114) dX11_round_91 (by decide) ?_
            exact wa_ireturn X E dX11_round_114 (Nat.le_of_ble_eq_true rfl) (Nat.le_of_ble_eq_true rfl) (Or.inl rfl) ⟨hw, _, rfl, hv⟩
        · replace hv := hv.2 c6
          refine wa_iload_n X 2 rfl dX11_round_46 rfl ?_
          refine wa_iconst X dX11_round_47 kc3 ?_
          refine wa_icmp_ne X (tgt := 60) dX11_round_48 (by decide) (fun c12 => ?_) (fun c12 => ?_)
          · replace hv := hv.1 c12
            refine wa_iload_n X 2 rfl dX11_round_60 rfl ?_
            refine wa_iconst X dX11_round_61 kc4 ?_
            refine wa_icmp_ne X (tgt := 74) dX11_round_62 (by decide) (fun c13 => ?_) (fun c13 => ?_)
            · replace hv := hv.1 c13
              refine wa_aload_n X 0 rfl dX11_round_74 rfl ?_
              refine wa_iload_n X 1 rfl dX11_round_75 rfl ?_
              obtain ⟨o14, hv⟩ := hv
              refine wa_callV X (As := [.inl a1]) (f_M_feesOf hw o14) hk_11 hc_11 rfl kw_1533 kw_66 kw_1530 kw_1532 kw_42 nd_X11_feesOf rfl rfl (Nat.le_of_ble_eq_true rfl) dX11_round_76 hs_1ne ⟨⟨Nat.le_of_ble_eq_true rfl, Nat.le_of_ble_eq_true rfl⟩, Nat.le_of_ble_eq_true rfl, Nat.le_of_ble_eq_true rfl⟩ (hs_pdk0 ?_) (fun _ _ h => h.elim)
              refine wa_l2i X dX11_round_79 ?_
              exact wa_ireturn X E dX11_round_80 (Nat.le_of_ble_eq_true rfl) (Nat.le_of_ble_eq_true rfl) (Or.inl rfl) ⟨hw, _, rfl, hv⟩
            · replace hv := hv.2 c13
              refine wa_aload_n X 0 rfl dX11_round_65 rfl ?_
              refine wa_getfw X hw (j := 44) (r := 1) hk_11 hc_11 i_11 (by decide) kw_1228 rfl rfl (by decide) rfl dX11_round_66 hs_1ne ?_
              refine wa_iload_n X 1 rfl dX11_round_69 rfl ?_
              obtain ⟨o15, hv⟩ := hv
              refine wa_iald X hk_84 dX11_round_70 hs_1ne o15 ?_
              refine wa_goto X (tgt := 80) dX11_round_71 (by decide) ?_
              exact wa_ireturn X E dX11_round_80 (Nat.le_of_ble_eq_true rfl) (Nat.le_of_ble_eq_true rfl) (Or.inl rfl) ⟨hw, _, rfl, hv⟩
          · replace hv := hv.2 c12
            refine wa_aload_n X 0 rfl dX11_round_51 rfl ?_
            refine wa_getfw X hw (j := 43) (r := 1) hk_11 hc_11 i_11 (by decide) kw_1227 rfl rfl (by decide) rfl dX11_round_52 hs_1ne ?_
            refine wa_iload_n X 1 rfl dX11_round_55 rfl ?_
            obtain ⟨o16, hv⟩ := hv
            refine wa_iald X hk_83 dX11_round_56 hs_1ne o16 ?_
            refine wa_goto X (tgt := 80) dX11_round_57 (by decide) ?_
            exact wa_ireturn X E dX11_round_80 (Nat.le_of_ble_eq_true rfl) (Nat.le_of_ble_eq_true rfl) (Or.inl rfl) ⟨hw, _, rfl, hv⟩
      · replace hv := hv.2 c5
        refine wa_aload_n X 0 rfl dX11_round_35 rfl ?_
        refine wa_iconst X dX11_round_36 kc2 ?_
        refine wa_callV X (As := [.inl (2 : Int32)]) (f_M_fails hw) hk_11 hc_11 rfl kw_1391 kw_66 kw_1388 kw_1390 kw_22 nd_X11_fails rfl rfl (Nat.le_of_ble_eq_true rfl) dX11_round_37 hs_1ne ⟨⟨Nat.le_of_ble_eq_true rfl, Nat.le_of_ble_eq_true rfl⟩, Nat.le_of_ble_eq_true rfl, Nat.le_of_ble_eq_true rfl⟩ (hs_pdk fun S17 hS17 hw => ?_) (fun _ _ h => h.elim)
        replace hv := hv S17 hS17
        exact wa_ireturn X E dX11_round_40 (Nat.le_of_ble_eq_true rfl) (Nat.le_of_ble_eq_true rfl) (Or.inl rfl) ⟨hw, _, rfl, hv⟩
    · replace hv := hv.2 c4
      refine wa_iconst X dX11_round_24 kc0 ?_
      exact wa_ireturn X E dX11_round_25 (Nat.le_of_ble_eq_true rfl) (Nat.le_of_ble_eq_true rfl) (Or.inl rfl) ⟨hw, _, rfl, hv⟩
  clear hv
  refine wa_if_lt X (tgt := 17) dX11_round_2 (by decide) (fun c20 => ?_) (fun c20 => ?_)
  · refine wa_iconst X dX11_round_17 kc0 ?_
    refine wa_lv (lv' := [(0, .inr (.inr (11, 1))), (1, .inl a1), (2, .inl a2)]) [0, 1, 2] rfl ?_
    exact wa_wid (Nat.le_of_ble_eq_true rfl) (Nat.le_of_ble_eq_true rfl) (k18 _  (by rw [if_pos c20]))
  · refine wa_iload_n X 1 rfl dX11_round_5 rfl ?_
    refine wa_aload_n X 0 rfl dX11_round_6 rfl ?_
    refine wa_getI X (j := 36) hk_11 hc_11 i_11 (by decide) kw_1220 rfl dX11_round_7 hs_1ne ?_
    refine wa_icmp_ge X (tgt := 17) dX11_round_10 (by decide) (fun c21 => ?_) (fun c21 => ?_)
    · refine wa_iconst X dX11_round_17 kc0 ?_
      refine wa_lv (lv' := [(0, .inr (.inr (11, 1))), (1, .inl a1), (2, .inl a2)]) [0, 1, 2] rfl ?_
      exact wa_wid (Nat.le_of_ble_eq_true rfl) (Nat.le_of_ble_eq_true rfl) (k18 _  (by rw [if_neg c20, if_pos c21]))
    · refine wa_iconst X dX11_round_13 kc1 ?_
      refine wa_goto X (tgt := 18) dX11_round_14 (by decide) ?_
      refine wa_lv (lv' := [(0, .inr (.inr (11, 1))), (1, .inl a1), (2, .inl a2)]) [0, 1, 2] rfl ?_
      exact wa_wid (Nat.le_of_ble_eq_true rfl) (Nat.le_of_ble_eq_true rfl) (k18 _  (by rw [if_neg c20, if_neg c21]))

def m_M_priceAnew (a1 : Int32) (S : hs_S) (Q : Int32 → hs_S → Prop) : Prop := hs_M 2 yX11_priceAnew (.code yX11_priceAnew cX11_priceAnew 2 (some FieldType.int)) [.inr (.inr (11, 1)), .inl a1] S 0 0 (hs_qI Q) hs_nX
def vc_M_priceAnew (a1 : Int32) (S : hs_S) (Q : Int32 → hs_S → Prop) : Prop := (∀ x1 : Int32, x1 = (if a1 < 0 then (0 : Int32) else (if (S.1 11 1 36) ≤ a1 then (0 : Int32) else (1 : Int32))) → ((P_asks x1 S) ∧ (∀ S3 : hs_S, S3 = (E_asks x1 S) → ((x1 = 0 → (Q (0 : Int32) S3)) ∧ (¬ x1 = 0 → ((0 ≤ a1.toInt ∧ a1.toInt < 30) ∧ (Q (S3.1 81 1 a1.toNatClampNeg) S3)))))))
set_option maxRecDepth 100000 in
set_option maxHeartbeats 4000000 in
theorem ok_M_priceAnew {a1 : Int32} {S : hs_S} {Q : Int32 → hs_S → Prop} (hw : hs_Wi S) (hv : vc_M_priceAnew a1 S Q) : m_M_priceAnew a1 S Q := by
  unfold vc_M_priceAnew at hv
  refine hs_body (own := RX11) rfl rfl (Nat.le_of_ble_eq_true rfl) (fun Z X E N J0 => ?_)
  show wa Z 0 0 S 0 [(0, .inr (.inr (11, 1))), (1, .inl a1)] []
  refine wa_aload_n X 0 rfl dX11_priceAnew_0 rfl ?_
  refine wa_iload_n X 1 rfl dX11_priceAnew_1 rfl ?_
  have k6 : ∀ (x1 : Int32), x1 = (if a1 < 0 then (0 : Int32) else (if (S.1 11 1 36) ≤ a1 then (0 : Int32) else (1 : Int32))) → wa Z 0 0 S 18 [(0, .inr (.inr (11, 1))), (1, .inl a1)] [.inl x1, .inr (.inr (11, 1))] := by
    intro x1 hE
    replace hv := hv _ hE
    obtain ⟨o2, hv⟩ := hv
    refine wa_callV X (As := [.inl x1]) (f_M_asks hw o2) hk_11 hc_11 rfl kw_1383 kw_66 kw_1380 kw_1382 kw_20 nd_X11_asks rfl rfl (Nat.le_of_ble_eq_true rfl) dX11_priceAnew_18 hs_1ne ⟨⟨Nat.le_of_ble_eq_true rfl, Nat.le_of_ble_eq_true rfl⟩, Nat.le_of_ble_eq_true rfl, Nat.le_of_ble_eq_true rfl⟩ (hs_pdk fun S3 hS3 hw => ?_) (fun _ _ h => h.elim)
    replace hv := hv S3 hS3
    refine wa_if_eq X (tgt := 33) dX11_priceAnew_21 (by decide) (fun c4 => ?_) (fun c4 => ?_)
    · replace hv := hv.1 c4
      refine wa_iconst X dX11_priceAnew_33 kc0 ?_
      exact wa_ireturn X E dX11_priceAnew_34 (Nat.le_of_ble_eq_true rfl) (Nat.le_of_ble_eq_true rfl) (Or.inl rfl) ⟨hw, _, rfl, hv⟩
    · replace hv := hv.2 c4
      refine wa_aload_n X 0 rfl dX11_priceAnew_24 rfl ?_
      refine wa_getfw X hw (j := 41) (r := 1) hk_11 hc_11 i_11 (by decide) kw_1225 rfl rfl (by decide) rfl dX11_priceAnew_25 hs_1ne ?_
      refine wa_iload_n X 1 rfl dX11_priceAnew_28 rfl ?_
      obtain ⟨o5, hv⟩ := hv
      refine wa_iald X hk_81 dX11_priceAnew_29 hs_1ne o5 ?_
      refine wa_goto X (tgt := 34) dX11_priceAnew_30 (by decide) ?_
      exact wa_ireturn X E dX11_priceAnew_34 (Nat.le_of_ble_eq_true rfl) (Nat.le_of_ble_eq_true rfl) (Or.inl rfl) ⟨hw, _, rfl, hv⟩
  clear hv
  refine wa_if_lt X (tgt := 17) dX11_priceAnew_2 (by decide) (fun c8 => ?_) (fun c8 => ?_)
  · refine wa_iconst X dX11_priceAnew_17 kc0 ?_
    refine wa_lv (lv' := [(0, .inr (.inr (11, 1))), (1, .inl a1)]) [0, 1] rfl ?_
    exact wa_wid (Nat.le_of_ble_eq_true rfl) (Nat.le_of_ble_eq_true rfl) (k6 _  (by rw [if_pos c8]))
  · refine wa_iload_n X 1 rfl dX11_priceAnew_5 rfl ?_
    refine wa_aload_n X 0 rfl dX11_priceAnew_6 rfl ?_
    refine wa_getI X (j := 36) hk_11 hc_11 i_11 (by decide) kw_1220 rfl dX11_priceAnew_7 hs_1ne ?_
    refine wa_icmp_ge X (tgt := 17) dX11_priceAnew_10 (by decide) (fun c9 => ?_) (fun c9 => ?_)
    · refine wa_iconst X dX11_priceAnew_17 kc0 ?_
      refine wa_lv (lv' := [(0, .inr (.inr (11, 1))), (1, .inl a1)]) [0, 1] rfl ?_
      exact wa_wid (Nat.le_of_ble_eq_true rfl) (Nat.le_of_ble_eq_true rfl) (k6 _  (by rw [if_neg c8, if_pos c9]))
    · refine wa_iconst X dX11_priceAnew_13 kc1 ?_
      refine wa_goto X (tgt := 18) dX11_priceAnew_14 (by decide) ?_
      refine wa_lv (lv' := [(0, .inr (.inr (11, 1))), (1, .inl a1)]) [0, 1] rfl ?_
      exact wa_wid (Nat.le_of_ble_eq_true rfl) (Nat.le_of_ble_eq_true rfl) (k6 _  (by rw [if_neg c8, if_neg c9]))

def m_M_got (a1 : Int32) (S : hs_S) (Q : Int32 → hs_S → Prop) : Prop := hs_M 2 yX11_got (.code yX11_got cX11_got 2 (some FieldType.int)) [.inr (.inr (11, 1)), .inl a1] S 0 0 (hs_qI Q) hs_nX
def vc_M_got (a1 : Int32) (S : hs_S) (Q : Int32 → hs_S → Prop) : Prop := ((P_asks (F_isBid a1 S) S) ∧ (∀ S2 : hs_S, S2 = (E_asks (F_isBid a1 S) S) → (((F_isBid a1 S) = 0 → (Q (0 : Int32) S2)) ∧ (¬ (F_isBid a1 S) = 0 → ((0 ≤ a1.toInt ∧ a1.toInt < 80) ∧ (Q (S2.1 74 1 a1.toNatClampNeg) S2))))))
set_option maxRecDepth 100000 in
set_option maxHeartbeats 4000000 in
theorem ok_M_got {a1 : Int32} {S : hs_S} {Q : Int32 → hs_S → Prop} (hw : hs_Wi S) (hv : vc_M_got a1 S Q) : m_M_got a1 S Q := by
  unfold vc_M_got at hv
  refine hs_body (own := RX11) rfl rfl (Nat.le_of_ble_eq_true rfl) (fun Z X E N J0 => ?_)
  show wa Z 0 0 S 0 [(0, .inr (.inr (11, 1))), (1, .inl a1)] []
  refine wa_aload_n X 0 rfl dX11_got_0 rfl ?_
  refine wa_aload_n X 0 rfl dX11_got_1 rfl ?_
  refine wa_iload_n X 1 rfl dX11_got_2 rfl ?_
  refine wa_callV X (As := [.inl a1]) (f_M_isBid hw) hk_11 hc_11 rfl kw_1550 kw_66 kw_1547 kw_1549 kw_45 nd_X11_isBid rfl rfl (Nat.le_of_ble_eq_true rfl) dX11_got_3 hs_1ne ⟨⟨Nat.le_of_ble_eq_true rfl, Nat.le_of_ble_eq_true rfl⟩, Nat.le_of_ble_eq_true rfl, Nat.le_of_ble_eq_true rfl⟩ (hs_pdk0 ?_) (fun _ _ h => h.elim)
  obtain ⟨o1, hv⟩ := hv
  refine wa_callV X (As := [.inl (F_isBid a1 S)]) (f_M_asks hw o1) hk_11 hc_11 rfl kw_1383 kw_66 kw_1380 kw_1382 kw_20 nd_X11_asks rfl rfl (Nat.le_of_ble_eq_true rfl) dX11_got_6 hs_1ne ⟨⟨Nat.le_of_ble_eq_true rfl, Nat.le_of_ble_eq_true rfl⟩, Nat.le_of_ble_eq_true rfl, Nat.le_of_ble_eq_true rfl⟩ (hs_pdk fun S2 hS2 hw => ?_) (fun _ _ h => h.elim)
  replace hv := hv S2 hS2
  refine wa_if_eq X (tgt := 21) dX11_got_9 (by decide) (fun c3 => ?_) (fun c3 => ?_)
  · replace hv := hv.1 c3
    refine wa_iconst X dX11_got_21 kc0 ?_
    exact wa_ireturn X E dX11_got_22 (Nat.le_of_ble_eq_true rfl) (Nat.le_of_ble_eq_true rfl) (Or.inl rfl) ⟨hw, _, rfl, hv⟩
  · replace hv := hv.2 c3
    refine wa_aload_n X 0 rfl dX11_got_12 rfl ?_
    refine wa_getfw X hw (j := 34) (r := 1) hk_11 hc_11 i_11 (by decide) kw_1218 rfl rfl (by decide) rfl dX11_got_13 hs_1ne ?_
    refine wa_iload_n X 1 rfl dX11_got_16 rfl ?_
    obtain ⟨o4, hv⟩ := hv
    refine wa_iald X hk_74 dX11_got_17 hs_1ne o4 ?_
    refine wa_goto X (tgt := 22) dX11_got_18 (by decide) ?_
    exact wa_ireturn X E dX11_got_22 (Nat.le_of_ble_eq_true rfl) (Nat.le_of_ble_eq_true rfl) (Or.inl rfl) ⟨hw, _, rfl, hv⟩

def m_M_due (a1 : Int32) (a2 : Int32) (S : hs_S) (Q : Int32 → hs_S → Prop) : Prop := hs_M 5 yX11_due (.code yX11_due cX11_due 3 (some FieldType.int)) [.inr (.inr (11, 1)), .inl a1, .inl a2] S 0 0 (hs_qI Q) hs_nX
def vc_M_due (a1 : Int32) (a2 : Int32) (S : hs_S) (Q : Int32 → hs_S → Prop) : Prop := (∀ x1 : Int32, x1 = (if (F_isOwner a1) = 0 then (0 : Int32) else (if a2 < 0 then (0 : Int32) else (if (4 : Int32) ≤ a2 then (0 : Int32) else (1 : Int32)))) → ((P_asks x1 S) ∧ (∀ S3 : hs_S, S3 = (E_asks x1 S) → ((x1 = 0 → (Q (0 : Int32) S3)) ∧ (¬ x1 = 0 → ((P_dueOf a1 a2 S3) ∧ (Q (F_dueOf a1 a2 S3).toInt32 S3)))))))
set_option maxRecDepth 100000 in
set_option maxHeartbeats 4000000 in
theorem ok_M_due {a1 : Int32} {a2 : Int32} {S : hs_S} {Q : Int32 → hs_S → Prop} (hw : hs_Wi S) (hv : vc_M_due a1 a2 S Q) : m_M_due a1 a2 S Q := by
  unfold vc_M_due at hv
  refine hs_body (own := RX11) rfl rfl (Nat.le_of_ble_eq_true rfl) (fun Z X E N J0 => ?_)
  show wa Z 0 0 S 0 [(0, .inr (.inr (11, 1))), (1, .inl a1), (2, .inl a2)] []
  refine wa_aload_n X 0 rfl dX11_due_0 rfl ?_
  refine wa_iload_n X 1 rfl dX11_due_1 rfl ?_
  refine wa_callS X (As := [.inl a1]) (f_M_isOwner hw) kw_1376 kw_66 kw_1374 kw_1375 nd_X11_isOwner rfl rfl (Nat.le_of_ble_eq_true rfl) dX11_due_2 ⟨⟨Nat.le_of_ble_eq_true rfl, Nat.le_of_ble_eq_true rfl⟩, Nat.le_of_ble_eq_true rfl, Nat.le_of_ble_eq_true rfl⟩ (hs_pdk0 ?_) (fun _ _ h => h.elim)
  have k6 : ∀ (x1 : Int32), x1 = (if (F_isOwner a1) = 0 then (0 : Int32) else (if a2 < 0 then (0 : Int32) else (if (4 : Int32) ≤ a2 then (0 : Int32) else (1 : Int32)))) → wa Z 0 0 S 22 [(0, .inr (.inr (11, 1))), (1, .inl a1), (2, .inl a2)] [.inl x1, .inr (.inr (11, 1))] := by
    intro x1 hE
    replace hv := hv _ hE
    obtain ⟨o2, hv⟩ := hv
    refine wa_callV X (As := [.inl x1]) (f_M_asks hw o2) hk_11 hc_11 rfl kw_1383 kw_66 kw_1380 kw_1382 kw_20 nd_X11_asks rfl rfl (Nat.le_of_ble_eq_true rfl) dX11_due_22 hs_1ne ⟨⟨Nat.le_of_ble_eq_true rfl, Nat.le_of_ble_eq_true rfl⟩, Nat.le_of_ble_eq_true rfl, Nat.le_of_ble_eq_true rfl⟩ (hs_pdk fun S3 hS3 hw => ?_) (fun _ _ h => h.elim)
    replace hv := hv S3 hS3
    refine wa_if_eq X (tgt := 38) dX11_due_25 (by decide) (fun c4 => ?_) (fun c4 => ?_)
    · replace hv := hv.1 c4
      refine wa_iconst X dX11_due_38 kc0 ?_
      exact wa_ireturn X E dX11_due_39 (Nat.le_of_ble_eq_true rfl) (Nat.le_of_ble_eq_true rfl) (Or.inl rfl) ⟨hw, _, rfl, hv⟩
    · replace hv := hv.2 c4
      refine wa_aload_n X 0 rfl dX11_due_28 rfl ?_
      refine wa_iload_n X 1 rfl dX11_due_29 rfl ?_
      refine wa_iload_n X 2 rfl dX11_due_30 rfl ?_
      obtain ⟨o5, hv⟩ := hv
      refine wa_callV X (As := [.inl a1, .inl a2]) (f_M_dueOf hw o5) hk_11 hc_11 rfl kw_1529 kw_66 kw_1526 kw_1528 kw_41 nd_X11_dueOf rfl rfl (Nat.le_of_ble_eq_true rfl) dX11_due_31 hs_1ne ⟨⟨Nat.le_of_ble_eq_true rfl, Nat.le_of_ble_eq_true rfl⟩, Nat.le_of_ble_eq_true rfl, Nat.le_of_ble_eq_true rfl⟩ (hs_pdk0 ?_) (fun _ _ h => h.elim)
      refine wa_l2i X dX11_due_34 ?_
      refine wa_goto X (tgt := 39) dX11_due_35 (by decide) ?_
      exact wa_ireturn X E dX11_due_39 (Nat.le_of_ble_eq_true rfl) (Nat.le_of_ble_eq_true rfl) (Or.inl rfl) ⟨hw, _, rfl, hv⟩
  clear hv
  refine wa_if_eq X (tgt := 21) dX11_due_5 (by decide) (fun c8 => ?_) (fun c8 => ?_)
  · refine wa_iconst X dX11_due_21 kc0 ?_
    refine wa_lv (lv' := [(0, .inr (.inr (11, 1))), (1, .inl a1), (2, .inl a2)]) [0, 1, 2] rfl ?_
    exact wa_wid (Nat.le_of_ble_eq_true rfl) (Nat.le_of_ble_eq_true rfl) (k6 _  (by rw [if_pos c8]))
  · refine wa_iload_n X 2 rfl dX11_due_8 rfl ?_
    refine wa_if_lt X (tgt := 21) dX11_due_9 (by decide) (fun c9 => ?_) (fun c9 => ?_)
    · refine wa_iconst X dX11_due_21 kc0 ?_
      refine wa_lv (lv' := [(0, .inr (.inr (11, 1))), (1, .inl a1), (2, .inl a2)]) [0, 1, 2] rfl ?_
      exact wa_wid (Nat.le_of_ble_eq_true rfl) (Nat.le_of_ble_eq_true rfl) (k6 _  (by rw [if_neg c8, if_pos c9]))
    · refine wa_iload_n X 2 rfl dX11_due_12 rfl ?_
      refine wa_iconst X dX11_due_13 kc4 ?_
      refine wa_icmp_ge X (tgt := 21) dX11_due_14 (by decide) (fun c10 => ?_) (fun c10 => ?_)
      · refine wa_iconst X dX11_due_21 kc0 ?_
        refine wa_lv (lv' := [(0, .inr (.inr (11, 1))), (1, .inl a1), (2, .inl a2)]) [0, 1, 2] rfl ?_
        exact wa_wid (Nat.le_of_ble_eq_true rfl) (Nat.le_of_ble_eq_true rfl) (k6 _  (by rw [if_neg c8, if_neg c9, if_pos c10]))
      · refine wa_iconst X dX11_due_17 kc1 ?_
        refine wa_goto X (tgt := 22) dX11_due_18 (by decide) ?_
        refine wa_lv (lv' := [(0, .inr (.inr (11, 1))), (1, .inl a1), (2, .inl a2)]) [0, 1, 2] rfl ?_
        exact wa_wid (Nat.le_of_ble_eq_true rfl) (Nat.le_of_ble_eq_true rfl) (k6 _  (by rw [if_neg c8, if_neg c9, if_neg c10]))

def m_M_cash (a1 : Int32) (S : hs_S) (Q : Int32 → hs_S → Prop) : Prop := hs_M 2 yX11_cash (.code yX11_cash cX11_cash 2 (some FieldType.int)) [.inr (.inr (11, 1)), .inl a1] S 0 0 (hs_qI Q) hs_nX
def vc_M_cash (a1 : Int32) (S : hs_S) (Q : Int32 → hs_S → Prop) : Prop := ((P_asks (F_isOwner a1) S) ∧ (∀ S2 : hs_S, S2 = (E_asks (F_isOwner a1) S) → (((F_isOwner a1) = 0 → (Q (0 : Int32) S2)) ∧ (¬ (F_isOwner a1) = 0 → ((0 ≤ a1.toInt ∧ a1.toInt < 6) ∧ (Q (S2.1 87 1 a1.toNatClampNeg) S2))))))
set_option maxRecDepth 100000 in
set_option maxHeartbeats 4000000 in
theorem ok_M_cash {a1 : Int32} {S : hs_S} {Q : Int32 → hs_S → Prop} (hw : hs_Wi S) (hv : vc_M_cash a1 S Q) : m_M_cash a1 S Q := by
  unfold vc_M_cash at hv
  refine hs_body (own := RX11) rfl rfl (Nat.le_of_ble_eq_true rfl) (fun Z X E N J0 => ?_)
  show wa Z 0 0 S 0 [(0, .inr (.inr (11, 1))), (1, .inl a1)] []
  refine wa_aload_n X 0 rfl dX11_cash_0 rfl ?_
  refine wa_iload_n X 1 rfl dX11_cash_1 rfl ?_
  refine wa_callS X (As := [.inl a1]) (f_M_isOwner hw) kw_1376 kw_66 kw_1374 kw_1375 nd_X11_isOwner rfl rfl (Nat.le_of_ble_eq_true rfl) dX11_cash_2 ⟨⟨Nat.le_of_ble_eq_true rfl, Nat.le_of_ble_eq_true rfl⟩, Nat.le_of_ble_eq_true rfl, Nat.le_of_ble_eq_true rfl⟩ (hs_pdk0 ?_) (fun _ _ h => h.elim)
  obtain ⟨o1, hv⟩ := hv
  refine wa_callV X (As := [.inl (F_isOwner a1)]) (f_M_asks hw o1) hk_11 hc_11 rfl kw_1383 kw_66 kw_1380 kw_1382 kw_20 nd_X11_asks rfl rfl (Nat.le_of_ble_eq_true rfl) dX11_cash_5 hs_1ne ⟨⟨Nat.le_of_ble_eq_true rfl, Nat.le_of_ble_eq_true rfl⟩, Nat.le_of_ble_eq_true rfl, Nat.le_of_ble_eq_true rfl⟩ (hs_pdk fun S2 hS2 hw => ?_) (fun _ _ h => h.elim)
  replace hv := hv S2 hS2
  refine wa_if_eq X (tgt := 20) dX11_cash_8 (by decide) (fun c3 => ?_) (fun c3 => ?_)
  · replace hv := hv.1 c3
    refine wa_iconst X dX11_cash_20 kc0 ?_
    exact wa_ireturn X E dX11_cash_21 (Nat.le_of_ble_eq_true rfl) (Nat.le_of_ble_eq_true rfl) (Or.inl rfl) ⟨hw, _, rfl, hv⟩
  · replace hv := hv.2 c3
    refine wa_aload_n X 0 rfl dX11_cash_11 rfl ?_
    refine wa_getfw X hw (j := 47) (r := 1) hk_11 hc_11 i_11 (by decide) kw_1231 rfl rfl (by decide) rfl dX11_cash_12 hs_1ne ?_
    refine wa_iload_n X 1 rfl dX11_cash_15 rfl ?_
    obtain ⟨o4, hv⟩ := hv
    refine wa_iald X hk_87 dX11_cash_16 hs_1ne o4 ?_
    refine wa_goto X (tgt := 21) dX11_cash_17 (by decide) ?_
    exact wa_ireturn X E dX11_cash_21 (Nat.le_of_ble_eq_true rfl) (Nat.le_of_ble_eq_true rfl) (Or.inl rfl) ⟨hw, _, rfl, hv⟩

def m_M_limit (a1 : Int32) (a2 : Int32) (S : hs_S) (Q : Int32 → hs_S → Prop) : Prop := hs_M 2 yX11_limit (.code yX11_limit cX11_limit 4 (some FieldType.int)) [.inr (.inr (11, 1)), .inl a1, .inl a2] S 0 0 (hs_qI Q) hs_nX
def vc_M_limit (a1 : Int32) (a2 : Int32) (S : hs_S) (Q : Int32 → hs_S → Prop) : Prop := ((P_asks (F_isOwner a1) S) ∧ (∀ S2 : hs_S, S2 = (E_asks (F_isOwner a1) S) → ((¬ (F_isOwner a1) = 0 → ((¬ (F_in a2 (0 : Int32) (1000000000 : Int32)) = 0 → ((0 ≤ a1.toInt ∧ a1.toInt < 6) ∧ (∀ S6 : hs_S, S6 = (hs_wI S2 88 1 a1.toNatClampNeg a2) → (∀ S7 : hs_S, S7 = (E_act (S2.1 88 1 a1.toNatClampNeg) S6) → (Q (S2.1 88 1 a1.toNatClampNeg) S7))))) ∧ ((F_in a2 (0 : Int32) (1000000000 : Int32)) = 0 → (∀ S8 : hs_S, S8 = (E_fails (2 : Int32) S2) → (Q (0 : Int32) S8))))) ∧ ((F_isOwner a1) = 0 → (Q (0 : Int32) S2)))))
set_option maxRecDepth 100000 in
set_option maxHeartbeats 4000000 in
theorem ok_M_limit {a1 : Int32} {a2 : Int32} {S : hs_S} {Q : Int32 → hs_S → Prop} (hw : hs_Wi S) (hv : vc_M_limit a1 a2 S Q) : m_M_limit a1 a2 S Q := by
  unfold vc_M_limit at hv
  refine hs_body (own := RX11) rfl rfl (Nat.le_of_ble_eq_true rfl) (fun Z X E N J0 => ?_)
  show wa Z 0 0 S 0 [(0, .inr (.inr (11, 1))), (1, .inl a1), (2, .inl a2)] []
  refine wa_aload_n X 0 rfl dX11_limit_0 rfl ?_
  refine wa_iload_n X 1 rfl dX11_limit_1 rfl ?_
  refine wa_callS X (As := [.inl a1]) (f_M_isOwner hw) kw_1376 kw_66 kw_1374 kw_1375 nd_X11_isOwner rfl rfl (Nat.le_of_ble_eq_true rfl) dX11_limit_2 ⟨⟨Nat.le_of_ble_eq_true rfl, Nat.le_of_ble_eq_true rfl⟩, Nat.le_of_ble_eq_true rfl, Nat.le_of_ble_eq_true rfl⟩ (hs_pdk0 ?_) (fun _ _ h => h.elim)
  obtain ⟨o1, hv⟩ := hv
  refine wa_callV X (As := [.inl (F_isOwner a1)]) (f_M_asks hw o1) hk_11 hc_11 rfl kw_1383 kw_66 kw_1380 kw_1382 kw_20 nd_X11_asks rfl rfl (Nat.le_of_ble_eq_true rfl) dX11_limit_5 hs_1ne ⟨⟨Nat.le_of_ble_eq_true rfl, Nat.le_of_ble_eq_true rfl⟩, Nat.le_of_ble_eq_true rfl, Nat.le_of_ble_eq_true rfl⟩ (hs_pdk fun S2 hS2 hw => ?_) (fun _ _ h => h.elim)
  replace hv := hv S2 hS2
  refine wa_if_ne X (tgt := 13) dX11_limit_8 (by decide) (fun c3 => ?_) (fun c3 => ?_)
  · replace hv := hv.1 c3
    refine wa_iload_n X 2 rfl dX11_limit_13 rfl ?_
    refine wa_iconst X dX11_limit_14 kc0 ?_
    refine wa_ldc_w X kw_1620 dX11_limit_15 ?_
    refine wa_callS X (As := [.inl a2, .inl (0 : Int32), .inl (1000000000 : Int32)]) (f_M_in hw) kw_1420 kw_66 kw_1418 kw_1419 nd_X11_in rfl rfl (Nat.le_of_ble_eq_true rfl) dX11_limit_18 ⟨⟨Nat.le_of_ble_eq_true rfl, Nat.le_of_ble_eq_true rfl⟩, Nat.le_of_ble_eq_true rfl, Nat.le_of_ble_eq_true rfl⟩ (hs_pdk0 ?_) (fun _ _ h => h.elim)
    refine wa_if_ne X (tgt := 30) dX11_limit_21 (by decide) (fun c4 => ?_) (fun c4 => ?_)
    · replace hv := hv.1 c4
      refine wa_aload_n X 0 rfl dX11_limit_30 rfl ?_
      refine wa_getfw X hw (j := 48) (r := 1) hk_11 hc_11 i_11 (by decide) kw_1232 rfl rfl (by decide) rfl dX11_limit_31 hs_1ne ?_
      refine wa_iload_n X 1 rfl dX11_limit_34 rfl ?_
      obtain ⟨o5, hv⟩ := hv
      refine wa_iald X hk_88 dX11_limit_35 hs_1ne o5 ?_
      refine wa_istore_n X (lv' := [(3, .inl (S2.1 88 1 a1.toNatClampNeg)), (0, .inr (.inr (11, 1))), (1, .inl a1), (2, .inl a2)]) dX11_limit_36 rfl (by decide) rfl ?_
      refine wa_aload_n X 1 rfl dX11_limit_37 rfl ?_
      refine wa_getfw X hw (j := 48) (r := 1) hk_11 hc_11 i_11 (by decide) kw_1232 rfl rfl (by decide) rfl dX11_limit_38 hs_1ne ?_
      refine wa_iload_n X 2 rfl dX11_limit_41 rfl ?_
      refine wa_iload_n X 3 rfl dX11_limit_42 rfl ?_
      refine wa_iast X hk_88 dX11_limit_43 hs_1ne o5 (hs_eqS fun S6 hS6 => ?_)
      replace hv := hv S6 hS6
      replace hw : hs_Wi S6 := hS6 ▸ hs_Wi_I hw
      refine wa_aload_n X 1 rfl dX11_limit_44 rfl ?_
      refine wa_iload_n X 0 rfl dX11_limit_45 rfl ?_
      refine wa_callV X (As := [.inl (S2.1 88 1 a1.toNatClampNeg)]) (f_M_act hw) hk_11 hc_11 rfl kw_1399 kw_66 kw_1396 kw_1398 kw_23 nd_X11_act rfl rfl (Nat.le_of_ble_eq_true rfl) dX11_limit_46 hs_1ne ⟨⟨Nat.le_of_ble_eq_true rfl, Nat.le_of_ble_eq_true rfl⟩, Nat.le_of_ble_eq_true rfl, Nat.le_of_ble_eq_true rfl⟩ (hs_pdk fun S7 hS7 hw => ?_) (fun _ _ h => h.elim)
      replace hv := hv S7 hS7
      exact wa_ireturn X E dX11_limit_49 (Nat.le_of_ble_eq_true rfl) (Nat.le_of_ble_eq_true rfl) (Or.inl rfl) ⟨hw, _, rfl, hv⟩
    · replace hv := hv.2 c4
      refine wa_aload_n X 0 rfl dX11_limit_24 rfl ?_
      refine wa_iconst X dX11_limit_25 kc2 ?_
      refine wa_callV X (As := [.inl (2 : Int32)]) (f_M_fails hw) hk_11 hc_11 rfl kw_1391 kw_66 kw_1388 kw_1390 kw_22 nd_X11_fails rfl rfl (Nat.le_of_ble_eq_true rfl) dX11_limit_26 hs_1ne ⟨⟨Nat.le_of_ble_eq_true rfl, Nat.le_of_ble_eq_true rfl⟩, Nat.le_of_ble_eq_true rfl, Nat.le_of_ble_eq_true rfl⟩ (hs_pdk fun S8 hS8 hw => ?_) (fun _ _ h => h.elim)
      replace hv := hv S8 hS8
      exact wa_ireturn X E dX11_limit_29 (Nat.le_of_ble_eq_true rfl) (Nat.le_of_ble_eq_true rfl) (Or.inl rfl) ⟨hw, _, rfl, hv⟩
  · replace hv := hv.2 c3
    refine wa_iconst X dX11_limit_11 kc0 ?_
    exact wa_ireturn X E dX11_limit_12 (Nat.le_of_ble_eq_true rfl) (Nat.le_of_ble_eq_true rfl) (Or.inl rfl) ⟨hw, _, rfl, hv⟩

def m_M_exposure (a1 : Int32) (S : hs_S) (Q : Int32 → hs_S → Prop) : Prop := hs_M 6 yX11_exposure (.code yX11_exposure cX11_exposure 2 (some FieldType.int)) [.inr (.inr (11, 1)), .inl a1] S 0 0 (hs_qI Q) hs_nX
def vc_M_exposure (a1 : Int32) (S : hs_S) (Q : Int32 → hs_S → Prop) : Prop := ((P_asks (F_isOwner a1) S) ∧ (∀ S2 : hs_S, S2 = (E_asks (F_isOwner a1) S) → (((F_isOwner a1) = 0 → (Q (0 : Int32) S2)) ∧ (¬ (F_isOwner a1) = 0 → ((P_exposureOf a1 S2) ∧ (Q (F_exposureOf a1 S2).toInt32 S2))))))
set_option maxRecDepth 100000 in
set_option maxHeartbeats 4000000 in
theorem ok_M_exposure {a1 : Int32} {S : hs_S} {Q : Int32 → hs_S → Prop} (hw : hs_Wi S) (hv : vc_M_exposure a1 S Q) : m_M_exposure a1 S Q := by
  unfold vc_M_exposure at hv
  refine hs_body (own := RX11) rfl rfl (Nat.le_of_ble_eq_true rfl) (fun Z X E N J0 => ?_)
  show wa Z 0 0 S 0 [(0, .inr (.inr (11, 1))), (1, .inl a1)] []
  refine wa_aload_n X 0 rfl dX11_exposure_0 rfl ?_
  refine wa_iload_n X 1 rfl dX11_exposure_1 rfl ?_
  refine wa_callS X (As := [.inl a1]) (f_M_isOwner hw) kw_1376 kw_66 kw_1374 kw_1375 nd_X11_isOwner rfl rfl (Nat.le_of_ble_eq_true rfl) dX11_exposure_2 ⟨⟨Nat.le_of_ble_eq_true rfl, Nat.le_of_ble_eq_true rfl⟩, Nat.le_of_ble_eq_true rfl, Nat.le_of_ble_eq_true rfl⟩ (hs_pdk0 ?_) (fun _ _ h => h.elim)
  obtain ⟨o1, hv⟩ := hv
  refine wa_callV X (As := [.inl (F_isOwner a1)]) (f_M_asks hw o1) hk_11 hc_11 rfl kw_1383 kw_66 kw_1380 kw_1382 kw_20 nd_X11_asks rfl rfl (Nat.le_of_ble_eq_true rfl) dX11_exposure_5 hs_1ne ⟨⟨Nat.le_of_ble_eq_true rfl, Nat.le_of_ble_eq_true rfl⟩, Nat.le_of_ble_eq_true rfl, Nat.le_of_ble_eq_true rfl⟩ (hs_pdk fun S2 hS2 hw => ?_) (fun _ _ h => h.elim)
  replace hv := hv S2 hS2
  refine wa_if_eq X (tgt := 20) dX11_exposure_8 (by decide) (fun c3 => ?_) (fun c3 => ?_)
  · replace hv := hv.1 c3
    refine wa_iconst X dX11_exposure_20 kc0 ?_
    exact wa_ireturn X E dX11_exposure_21 (Nat.le_of_ble_eq_true rfl) (Nat.le_of_ble_eq_true rfl) (Or.inl rfl) ⟨hw, _, rfl, hv⟩
  · replace hv := hv.2 c3
    refine wa_aload_n X 0 rfl dX11_exposure_11 rfl ?_
    refine wa_iload_n X 1 rfl dX11_exposure_12 rfl ?_
    obtain ⟨o4, hv⟩ := hv
    refine wa_callV X (As := [.inl a1]) (f_M_exposureOf hw o4) hk_11 hc_11 rfl kw_1525 kw_66 kw_1522 kw_1524 kw_40 nd_X11_exposureOf rfl rfl (Nat.le_of_ble_eq_true rfl) dX11_exposure_13 hs_1ne ⟨⟨Nat.le_of_ble_eq_true rfl, Nat.le_of_ble_eq_true rfl⟩, Nat.le_of_ble_eq_true rfl, Nat.le_of_ble_eq_true rfl⟩ (hs_pdk0 ?_) (fun _ _ h => h.elim)
    refine wa_l2i X dX11_exposure_16 ?_
    refine wa_goto X (tgt := 21) dX11_exposure_17 (by decide) ?_
    exact wa_ireturn X E dX11_exposure_21 (Nat.le_of_ble_eq_true rfl) (Nat.le_of_ble_eq_true rfl) (Or.inl rfl) ⟨hw, _, rfl, hv⟩

def m_M_strikeBid (a1 : Int32) (S : hs_S) (Q : Int32 → hs_S → Prop) : Prop := hs_M 8 yX11_strikeBid (.code yX11_strikeBid cX11_strikeBid 2 (some FieldType.int)) [.inr (.inr (11, 1)), .inl a1] S 0 0 (hs_qI Q) hs_nX
def vc_M_strikeBid (a1 : Int32) (S : hs_S) (Q : Int32 → hs_S → Prop) : Prop := ((P_asks (F_isBid a1 S) S) ∧ (∀ S2 : hs_S, S2 = (E_asks (F_isBid a1 S) S) → ((¬ (F_isBid a1 S) = 0 → ((0 ≤ a1.toInt ∧ a1.toInt < 80) ∧ (((S2.1 72 1 a1.toNatClampNeg) = (-1 : Int32) → (∀ S6 : hs_S, S6 = (E_fails (2 : Int32) S2) → (Q (0 : Int32) S6))) ∧ (¬ (S2.1 72 1 a1.toNatClampNeg) = (-1 : Int32) → (((S2.1 73 1 a1.toNatClampNeg) = 0 → (∀ S8 : hs_S, S8 = (hs_wI S2 73 1 a1.toNatClampNeg (1 : Int32)) → ((P_clearsAll S8) ∧ (∀ r11 : Int32, ∀ S10 : hs_S, R_clearsAll S8 r11 S10 → (∀ S13 : hs_S, S13 = (E_act r11 S10) → (Q r11 S13)))))) ∧ (¬ (S2.1 73 1 a1.toNatClampNeg) = 0 → (∀ S14 : hs_S, S14 = (E_fails (2 : Int32) S2) → (Q (0 : Int32) S14)))))))) ∧ ((F_isBid a1 S) = 0 → (Q (0 : Int32) S2)))))
set_option maxRecDepth 100000 in
set_option maxHeartbeats 4000000 in
theorem ok_M_strikeBid {a1 : Int32} {S : hs_S} {Q : Int32 → hs_S → Prop} (hw : hs_Wi S) (hv : vc_M_strikeBid a1 S Q) : m_M_strikeBid a1 S Q := by
  unfold vc_M_strikeBid at hv
  refine hs_body (own := RX11) rfl rfl (Nat.le_of_ble_eq_true rfl) (fun Z X E N J0 => ?_)
  show wa Z 0 0 S 0 [(0, .inr (.inr (11, 1))), (1, .inl a1)] []
  refine wa_aload_n X 0 rfl dX11_strikeBid_0 rfl ?_
  refine wa_aload_n X 0 rfl dX11_strikeBid_1 rfl ?_
  refine wa_iload_n X 1 rfl dX11_strikeBid_2 rfl ?_
  refine wa_callV X (As := [.inl a1]) (f_M_isBid hw) hk_11 hc_11 rfl kw_1550 kw_66 kw_1547 kw_1549 kw_45 nd_X11_isBid rfl rfl (Nat.le_of_ble_eq_true rfl) dX11_strikeBid_3 hs_1ne ⟨⟨Nat.le_of_ble_eq_true rfl, Nat.le_of_ble_eq_true rfl⟩, Nat.le_of_ble_eq_true rfl, Nat.le_of_ble_eq_true rfl⟩ (hs_pdk0 ?_) (fun _ _ h => h.elim)
  obtain ⟨o1, hv⟩ := hv
  refine wa_callV X (As := [.inl (F_isBid a1 S)]) (f_M_asks hw o1) hk_11 hc_11 rfl kw_1383 kw_66 kw_1380 kw_1382 kw_20 nd_X11_asks rfl rfl (Nat.le_of_ble_eq_true rfl) dX11_strikeBid_6 hs_1ne ⟨⟨Nat.le_of_ble_eq_true rfl, Nat.le_of_ble_eq_true rfl⟩, Nat.le_of_ble_eq_true rfl, Nat.le_of_ble_eq_true rfl⟩ (hs_pdk fun S2 hS2 hw => ?_) (fun _ _ h => h.elim)
  replace hv := hv S2 hS2
  refine wa_if_ne X (tgt := 14) dX11_strikeBid_9 (by decide) (fun c3 => ?_) (fun c3 => ?_)
  · replace hv := hv.1 c3
    refine wa_aload_n X 0 rfl dX11_strikeBid_14 rfl ?_
    refine wa_getfw X hw (j := 32) (r := 1) hk_11 hc_11 i_11 (by decide) kw_1216 rfl rfl (by decide) rfl dX11_strikeBid_15 hs_1ne ?_
    refine wa_iload_n X 1 rfl dX11_strikeBid_18 rfl ?_
    obtain ⟨o4, hv⟩ := hv
    refine wa_iald X hk_72 dX11_strikeBid_19 hs_1ne o4 ?_
    refine wa_iconst X dX11_strikeBid_20 kcm1 ?_
    refine wa_icmp_eq X (tgt := 33) dX11_strikeBid_21 (by decide) (fun c5 => ?_) (fun c5 => ?_)
    · replace hv := hv.1 c5
      refine wa_aload_n X 0 rfl dX11_strikeBid_33 rfl ?_
      refine wa_iconst X dX11_strikeBid_34 kc2 ?_
      refine wa_callV X (As := [.inl (2 : Int32)]) (f_M_fails hw) hk_11 hc_11 rfl kw_1391 kw_66 kw_1388 kw_1390 kw_22 nd_X11_fails rfl rfl (Nat.le_of_ble_eq_true rfl) dX11_strikeBid_35 hs_1ne ⟨⟨Nat.le_of_ble_eq_true rfl, Nat.le_of_ble_eq_true rfl⟩, Nat.le_of_ble_eq_true rfl, Nat.le_of_ble_eq_true rfl⟩ (hs_pdk fun S6 hS6 hw => ?_) (fun _ _ h => h.elim)
      replace hv := hv S6 hS6
      exact wa_ireturn X E dX11_strikeBid_38 (Nat.le_of_ble_eq_true rfl) (Nat.le_of_ble_eq_true rfl) (Or.inl rfl) ⟨hw, _, rfl, hv⟩
    · replace hv := hv.2 c5
      refine wa_aload_n X 0 rfl dX11_strikeBid_24 rfl ?_
      refine wa_getfw X hw (j := 33) (r := 1) hk_11 hc_11 i_11 (by decide) kw_1217 rfl rfl (by decide) rfl dX11_strikeBid_25 hs_1ne ?_
      refine wa_iload_n X 1 rfl dX11_strikeBid_28 rfl ?_
      refine wa_bald X hk_73 dX11_strikeBid_29 hs_1ne o4 ?_
      refine wa_if_eq X (tgt := 39) dX11_strikeBid_30 (by decide) (fun c7 => ?_) (fun c7 => ?_)
      · replace hv := hv.1 c7
        refine wa_aload_n X 0 rfl dX11_strikeBid_39 rfl ?_
        refine wa_getfw X hw (j := 33) (r := 1) hk_11 hc_11 i_11 (by decide) kw_1217 rfl rfl (by decide) rfl dX11_strikeBid_40 hs_1ne ?_
        refine wa_iload_n X 1 rfl dX11_strikeBid_43 rfl ?_
        refine wa_iconst X dX11_strikeBid_44 kc1 ?_
        refine wa_bast X hk_73 dX11_strikeBid_45 hs_1ne o4 (Or.inr rfl) (hs_eqS fun S8 hS8 => ?_)
        replace hv := hv S8 hS8
        replace hw : hs_Wi S8 := hS8 ▸ hs_Wi_I hw
        refine wa_aload_n X 0 rfl dX11_strikeBid_46 rfl ?_
        refine wa_aload_n X 0 rfl dX11_strikeBid_47 rfl ?_
        obtain ⟨o9, hv⟩ := hv
        refine wa_callV X (As := []) (ok_M_clearsAll hw (v_M_clearsAll o9)) hk_11 hc_11 rfl kw_1632 kw_66 kw_1629 kw_1631 kw_52 nd_X11_clearsAll rfl rfl (Nat.le_of_ble_eq_true rfl) dX11_strikeBid_48 hs_1ne ⟨⟨Nat.le_of_ble_eq_true rfl, Nat.le_of_ble_eq_true rfl⟩, Nat.le_of_ble_eq_true rfl, Nat.le_of_ble_eq_true rfl⟩ (fun _ S10 h => ?_) (fun _ _ h => h.elim)
        obtain ⟨hw, r11, rfl, g12⟩ := h
        replace hv := hv r11 S10 g12
        refine wa_callV X (As := [.inl r11]) (f_M_act hw) hk_11 hc_11 rfl kw_1399 kw_66 kw_1396 kw_1398 kw_23 nd_X11_act rfl rfl (Nat.le_of_ble_eq_true rfl) dX11_strikeBid_51 hs_1ne ⟨⟨Nat.le_of_ble_eq_true rfl, Nat.le_of_ble_eq_true rfl⟩, Nat.le_of_ble_eq_true rfl, Nat.le_of_ble_eq_true rfl⟩ (hs_pdk fun S13 hS13 hw => ?_) (fun _ _ h => h.elim)
        replace hv := hv S13 hS13
        exact wa_ireturn X E dX11_strikeBid_54 (Nat.le_of_ble_eq_true rfl) (Nat.le_of_ble_eq_true rfl) (Or.inl rfl) ⟨hw, _, rfl, hv⟩
      · replace hv := hv.2 c7
        refine wa_aload_n X 0 rfl dX11_strikeBid_33 rfl ?_
        refine wa_iconst X dX11_strikeBid_34 kc2 ?_
        refine wa_callV X (As := [.inl (2 : Int32)]) (f_M_fails hw) hk_11 hc_11 rfl kw_1391 kw_66 kw_1388 kw_1390 kw_22 nd_X11_fails rfl rfl (Nat.le_of_ble_eq_true rfl) dX11_strikeBid_35 hs_1ne ⟨⟨Nat.le_of_ble_eq_true rfl, Nat.le_of_ble_eq_true rfl⟩, Nat.le_of_ble_eq_true rfl, Nat.le_of_ble_eq_true rfl⟩ (hs_pdk fun S14 hS14 hw => ?_) (fun _ _ h => h.elim)
        replace hv := hv S14 hS14
        exact wa_ireturn X E dX11_strikeBid_38 (Nat.le_of_ble_eq_true rfl) (Nat.le_of_ble_eq_true rfl) (Or.inl rfl) ⟨hw, _, rfl, hv⟩
  · replace hv := hv.2 c3
    refine wa_iconst X dX11_strikeBid_12 kc0 ?_
    exact wa_ireturn X E dX11_strikeBid_13 (Nat.le_of_ble_eq_true rfl) (Nat.le_of_ble_eq_true rfl) (Or.inl rfl) ⟨hw, _, rfl, hv⟩

def m_M_strikeEdit (a1 : Int32) (S : hs_S) (Q : Int32 → hs_S → Prop) : Prop := hs_M 8 yX11_strikeEdit (.code yX11_strikeEdit cX11_strikeEdit 2 (some FieldType.int)) [.inr (.inr (11, 1)), .inl a1] S 0 0 (hs_qI Q) hs_nX
def vc_M_strikeEdit (a1 : Int32) (S : hs_S) (Q : Int32 → hs_S → Prop) : Prop := (∀ x1 : Int32, x1 = (if a1 < 0 then (0 : Int32) else (if (S.1 11 1 12) ≤ a1 then (0 : Int32) else (1 : Int32))) → ((P_asks x1 S) ∧ (∀ S3 : hs_S, S3 = (E_asks x1 S) → ((¬ x1 = 0 → ((0 ≤ a1.toInt ∧ a1.toInt < 60) ∧ (((S3.1 58 1 a1.toNatClampNeg) = 0 → (∀ S7 : hs_S, S7 = (hs_wI S3 58 1 a1.toNatClampNeg (1 : Int32)) → ((P_clearsAll S7) ∧ (∀ r10 : Int32, ∀ S9 : hs_S, R_clearsAll S7 r10 S9 → (∀ S12 : hs_S, S12 = (E_act r10 S9) → (Q r10 S12)))))) ∧ (¬ (S3.1 58 1 a1.toNatClampNeg) = 0 → (∀ S13 : hs_S, S13 = (E_fails (2 : Int32) S3) → (Q (0 : Int32) S13)))))) ∧ (x1 = 0 → (Q (0 : Int32) S3))))))
set_option maxRecDepth 100000 in
set_option maxHeartbeats 4000000 in
theorem ok_M_strikeEdit {a1 : Int32} {S : hs_S} {Q : Int32 → hs_S → Prop} (hw : hs_Wi S) (hv : vc_M_strikeEdit a1 S Q) : m_M_strikeEdit a1 S Q := by
  unfold vc_M_strikeEdit at hv
  refine hs_body (own := RX11) rfl rfl (Nat.le_of_ble_eq_true rfl) (fun Z X E N J0 => ?_)
  show wa Z 0 0 S 0 [(0, .inr (.inr (11, 1))), (1, .inl a1)] []
  refine wa_aload_n X 0 rfl dX11_strikeEdit_0 rfl ?_
  refine wa_iload_n X 1 rfl dX11_strikeEdit_1 rfl ?_
  have k14 : ∀ (x1 : Int32), x1 = (if a1 < 0 then (0 : Int32) else (if (S.1 11 1 12) ≤ a1 then (0 : Int32) else (1 : Int32))) → wa Z 0 0 S 18 [(0, .inr (.inr (11, 1))), (1, .inl a1)] [.inl x1, .inr (.inr (11, 1))] := by
    intro x1 hE
    replace hv := hv _ hE
    obtain ⟨o2, hv⟩ := hv
    refine wa_callV X (As := [.inl x1]) (f_M_asks hw o2) hk_11 hc_11 rfl kw_1383 kw_66 kw_1380 kw_1382 kw_20 nd_X11_asks rfl rfl (Nat.le_of_ble_eq_true rfl) dX11_strikeEdit_18 hs_1ne ⟨⟨Nat.le_of_ble_eq_true rfl, Nat.le_of_ble_eq_true rfl⟩, Nat.le_of_ble_eq_true rfl, Nat.le_of_ble_eq_true rfl⟩ (hs_pdk fun S3 hS3 hw => ?_) (fun _ _ h => h.elim)
    replace hv := hv S3 hS3
    refine wa_if_ne X (tgt := 26) dX11_strikeEdit_21 (by decide) (fun c4 => ?_) (fun c4 => ?_)
    · replace hv := hv.1 c4
      refine wa_aload_n X 0 rfl dX11_strikeEdit_26 rfl ?_
      refine wa_getfw X hw (j := 18) (r := 1) hk_11 hc_11 i_11 (by decide) kw_1202 rfl rfl (by decide) rfl dX11_strikeEdit_27 hs_1ne ?_
      refine wa_iload_n X 1 rfl dX11_strikeEdit_30 rfl ?_
      obtain ⟨o5, hv⟩ := hv
      refine wa_bald X hk_58 dX11_strikeEdit_31 hs_1ne o5 ?_
      refine wa_if_eq X (tgt := 41) dX11_strikeEdit_32 (by decide) (fun c6 => ?_) (fun c6 => ?_)
      · replace hv := hv.1 c6
        refine wa_aload_n X 0 rfl dX11_strikeEdit_41 rfl ?_
        refine wa_getfw X hw (j := 18) (r := 1) hk_11 hc_11 i_11 (by decide) kw_1202 rfl rfl (by decide) rfl dX11_strikeEdit_42 hs_1ne ?_
        refine wa_iload_n X 1 rfl dX11_strikeEdit_45 rfl ?_
        refine wa_iconst X dX11_strikeEdit_46 kc1 ?_
        refine wa_bast X hk_58 dX11_strikeEdit_47 hs_1ne o5 (Or.inr rfl) (hs_eqS fun S7 hS7 => ?_)
        replace hv := hv S7 hS7
        replace hw : hs_Wi S7 := hS7 ▸ hs_Wi_I hw
        refine wa_aload_n X 0 rfl dX11_strikeEdit_48 rfl ?_
        refine wa_aload_n X 0 rfl dX11_strikeEdit_49 rfl ?_
        obtain ⟨o8, hv⟩ := hv
        refine wa_callV X (As := []) (ok_M_clearsAll hw (v_M_clearsAll o8)) hk_11 hc_11 rfl kw_1632 kw_66 kw_1629 kw_1631 kw_52 nd_X11_clearsAll rfl rfl (Nat.le_of_ble_eq_true rfl) dX11_strikeEdit_50 hs_1ne ⟨⟨Nat.le_of_ble_eq_true rfl, Nat.le_of_ble_eq_true rfl⟩, Nat.le_of_ble_eq_true rfl, Nat.le_of_ble_eq_true rfl⟩ (fun _ S9 h => ?_) (fun _ _ h => h.elim)
        obtain ⟨hw, r10, rfl, g11⟩ := h
        replace hv := hv r10 S9 g11
        refine wa_callV X (As := [.inl r10]) (f_M_act hw) hk_11 hc_11 rfl kw_1399 kw_66 kw_1396 kw_1398 kw_23 nd_X11_act rfl rfl (Nat.le_of_ble_eq_true rfl) dX11_strikeEdit_53 hs_1ne ⟨⟨Nat.le_of_ble_eq_true rfl, Nat.le_of_ble_eq_true rfl⟩, Nat.le_of_ble_eq_true rfl, Nat.le_of_ble_eq_true rfl⟩ (hs_pdk fun S12 hS12 hw => ?_) (fun _ _ h => h.elim)
        replace hv := hv S12 hS12
        exact wa_ireturn X E dX11_strikeEdit_56 (Nat.le_of_ble_eq_true rfl) (Nat.le_of_ble_eq_true rfl) (Or.inl rfl) ⟨hw, _, rfl, hv⟩
      · replace hv := hv.2 c6
        refine wa_aload_n X 0 rfl dX11_strikeEdit_35 rfl ?_
        refine wa_iconst X dX11_strikeEdit_36 kc2 ?_
        refine wa_callV X (As := [.inl (2 : Int32)]) (f_M_fails hw) hk_11 hc_11 rfl kw_1391 kw_66 kw_1388 kw_1390 kw_22 nd_X11_fails rfl rfl (Nat.le_of_ble_eq_true rfl) dX11_strikeEdit_37 hs_1ne ⟨⟨Nat.le_of_ble_eq_true rfl, Nat.le_of_ble_eq_true rfl⟩, Nat.le_of_ble_eq_true rfl, Nat.le_of_ble_eq_true rfl⟩ (hs_pdk fun S13 hS13 hw => ?_) (fun _ _ h => h.elim)
        replace hv := hv S13 hS13
        exact wa_ireturn X E dX11_strikeEdit_40 (Nat.le_of_ble_eq_true rfl) (Nat.le_of_ble_eq_true rfl) (Or.inl rfl) ⟨hw, _, rfl, hv⟩
    · replace hv := hv.2 c4
      refine wa_iconst X dX11_strikeEdit_24 kc0 ?_
      exact wa_ireturn X E dX11_strikeEdit_25 (Nat.le_of_ble_eq_true rfl) (Nat.le_of_ble_eq_true rfl) (Or.inl rfl) ⟨hw, _, rfl, hv⟩
  clear hv
  refine wa_if_lt X (tgt := 17) dX11_strikeEdit_2 (by decide) (fun c16 => ?_) (fun c16 => ?_)
  · refine wa_iconst X dX11_strikeEdit_17 kc0 ?_
    refine wa_lv (lv' := [(0, .inr (.inr (11, 1))), (1, .inl a1)]) [0, 1] rfl ?_
    exact wa_wid (Nat.le_of_ble_eq_true rfl) (Nat.le_of_ble_eq_true rfl) (k14 _  (by rw [if_pos c16]))
  · refine wa_iload_n X 1 rfl dX11_strikeEdit_5 rfl ?_
    refine wa_aload_n X 0 rfl dX11_strikeEdit_6 rfl ?_
    refine wa_getI X (j := 12) hk_11 hc_11 i_11 (by decide) kw_1196 rfl dX11_strikeEdit_7 hs_1ne ?_
    refine wa_icmp_ge X (tgt := 17) dX11_strikeEdit_10 (by decide) (fun c17 => ?_) (fun c17 => ?_)
    · refine wa_iconst X dX11_strikeEdit_17 kc0 ?_
      refine wa_lv (lv' := [(0, .inr (.inr (11, 1))), (1, .inl a1)]) [0, 1] rfl ?_
      exact wa_wid (Nat.le_of_ble_eq_true rfl) (Nat.le_of_ble_eq_true rfl) (k14 _  (by rw [if_neg c16, if_pos c17]))
    · refine wa_iconst X dX11_strikeEdit_13 kc1 ?_
      refine wa_goto X (tgt := 18) dX11_strikeEdit_14 (by decide) ?_
      refine wa_lv (lv' := [(0, .inr (.inr (11, 1))), (1, .inl a1)]) [0, 1] rfl ?_
      exact wa_wid (Nat.le_of_ble_eq_true rfl) (Nat.le_of_ble_eq_true rfl) (k14 _  (by rw [if_neg c16, if_neg c17]))

def m_M_events (S : hs_S) (Q : Int32 → hs_S → Prop) : Prop := hs_M 1 yX11_events (.code yX11_events cX11_events 1 (some FieldType.int)) [.inr (.inr (11, 1))] S 0 0 (hs_qI Q) hs_nX
def vc_M_events (S : hs_S) (Q : Int32 → hs_S → Prop) : Prop := (∀ S1 : hs_S, S1 = (hs_wI S 11 1 59 (0 : Int32)) → (Q (S1.1 11 1 0) S1))
set_option maxRecDepth 100000 in
set_option maxHeartbeats 4000000 in
theorem ok_M_events {S : hs_S} {Q : Int32 → hs_S → Prop} (hw : hs_Wi S) (hv : vc_M_events S Q) : m_M_events S Q := by
  unfold vc_M_events at hv
  refine hs_body (own := RX11) rfl rfl (Nat.le_of_ble_eq_true rfl) (fun Z X E N J0 => ?_)
  show wa Z 0 0 S 0 [(0, .inr (.inr (11, 1)))] []
  refine wa_aload_n X 0 rfl dX11_events_0 rfl ?_
  refine wa_iconst X dX11_events_1 kc0 ?_
  refine wa_putI X (j := 59) hk_11 hc_11 i_11 tyX11 tyX11_ok nmX11 (by decide) kw_1243 rfl rfl dX11_events_2 hs_1ne ⟨rfl, Or.inl rfl⟩ (hs_eqS fun S1 hS1 => ?_)
  replace hv := hv S1 hS1
  replace hw : hs_Wi S1 := hS1 ▸ hs_Wi_I hw
  refine wa_aload_n X 0 rfl dX11_events_5 rfl ?_
  refine wa_getI X (j := 0) hk_11 hc_11 i_11 (by decide) kw_1184 rfl dX11_events_6 hs_1ne ?_
  exact wa_ireturn X E dX11_events_9 (Nat.le_of_ble_eq_true rfl) (Nat.le_of_ble_eq_true rfl) (Or.inl rfl) ⟨hw, _, rfl, hv⟩

