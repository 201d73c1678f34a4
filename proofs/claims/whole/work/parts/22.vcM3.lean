abbrev mTP (S : hs_S) (b : Nat) (r : Int32) : Prop := S.1 72 1 b = r ∧ S.1 71 1 b = -1 ∧ S.1 73 1 b = 0 ∧ ¬ S.1 81 1 r.toNatClampNeg = -1 ∧ (if S.1 67 1 b = 0 then ¬ S.1 81 1 r.toNatClampNeg < S.1 69 1 b else ¬ S.1 69 1 b < S.1 81 1 r.toNatClampNeg)
def F_takesPart (a1 a2 : Int32) (S : hs_S) : Int32 := bI (mTP S a1.toNatClampNeg a2)
def P_takesPart (a1 a2 : Int32) (S : hs_S) : Prop := (0 ≤ a1.toInt ∧ a1.toInt < 80) ∧ 0 ≤ a2.toInt ∧ a2.toInt < 30
def m_M_takesPart (a1 : Int32) (a2 : Int32) (S : hs_S) (Q : Int32 → hs_S → Prop) : Prop := hs_M 1 yX11_takesPart (.code yX11_takesPart cX11_takesPart 3 (some FieldType.boolean)) [.inr (.inr (11, 1)), .inl a1, .inl a2] S 0 0 (hs_qI Q) hs_nX
def vc_M_takesPart (a1 : Int32) (a2 : Int32) (S : hs_S) (Q : Int32 → hs_S → Prop) : Prop := ((0 ≤ a1.toInt ∧ a1.toInt < 80) ∧ ((¬ (S.1 72 1 a1.toNatClampNeg) = a2 → (Q (0 : Int32) S)) ∧ ((S.1 72 1 a1.toNatClampNeg) = a2 → ((¬ (S.1 71 1 a1.toNatClampNeg) = (-1 : Int32) → (Q (0 : Int32) S)) ∧ ((S.1 71 1 a1.toNatClampNeg) = (-1 : Int32) → ((¬ (S.1 73 1 a1.toNatClampNeg) = 0 → (Q (0 : Int32) S)) ∧ ((S.1 73 1 a1.toNatClampNeg) = 0 → ((0 ≤ a2.toInt ∧ a2.toInt < 30) ∧ (((S.1 81 1 a2.toNatClampNeg) = (-1 : Int32) → (Q (0 : Int32) S)) ∧ (¬ (S.1 81 1 a2.toNatClampNeg) = (-1 : Int32) → (((S.1 67 1 a1.toNatClampNeg) = 0 → (((S.1 81 1 a2.toNatClampNeg) < (S.1 69 1 a1.toNatClampNeg) → (Q (0 : Int32) S)) ∧ (¬ (S.1 81 1 a2.toNatClampNeg) < (S.1 69 1 a1.toNatClampNeg) → (Q (1 : Int32) S)))) ∧ (¬ (S.1 67 1 a1.toNatClampNeg) = 0 → (((S.1 69 1 a1.toNatClampNeg) < (S.1 81 1 a2.toNatClampNeg) → (Q (0 : Int32) S)) ∧ (¬ (S.1 69 1 a1.toNatClampNeg) < (S.1 81 1 a2.toNatClampNeg) → (Q (1 : Int32) S)))))))))))))))
set_option maxRecDepth 100000 in
set_option maxHeartbeats 4000000 in
theorem ok_M_takesPart {a1 : Int32} {a2 : Int32} {S : hs_S} {Q : Int32 → hs_S → Prop} (hw : hs_Wi S) (hv : vc_M_takesPart a1 a2 S Q) : m_M_takesPart a1 a2 S Q := by
  unfold vc_M_takesPart at hv
  refine hs_body (own := RX11) rfl rfl (Nat.le_of_ble_eq_true rfl) (fun Z X E N J0 => ?_)
  show wa Z 0 0 S 0 [(0, .inr (.inr (11, 1))), (1, .inl a1), (2, .inl a2)] []
  refine wa_aload_n X 0 rfl dX11_takesPart_0 rfl ?_
  refine wa_getfw X hw (j := 32) (r := 1) hk_11 hc_11 i_11 (by decide) kw_1216 rfl rfl (by decide) rfl dX11_takesPart_1 hs_1ne ?_
  refine wa_iload_n X 1 rfl dX11_takesPart_4 rfl ?_
  obtain ⟨o1, hv⟩ := hv
  refine wa_iald X hk_72 dX11_takesPart_5 hs_1ne o1 ?_
  refine wa_iload_n X 2 rfl dX11_takesPart_6 rfl ?_
  refine wa_icmp_ne X (tgt := 85) dX11_takesPart_7 (by decide) (fun c2 => ?_) (fun c2 => ?_)
  · replace hv := hv.1 c2
    refine wa_iconst X dX11_takesPart_85 kc0 ?_
    exact wa_ireturn X E dX11_takesPart_86 (Nat.le_of_ble_eq_true rfl) (Nat.le_of_ble_eq_true rfl) (Or.inr ⟨rfl, Or.inl rfl⟩) ⟨hw, _, rfl, hv⟩
  · replace hv := hv.2 c2
    refine wa_aload_n X 0 rfl dX11_takesPart_10 rfl ?_
    refine wa_getfw X hw (j := 31) (r := 1) hk_11 hc_11 i_11 (by decide) kw_1215 rfl rfl (by decide) rfl dX11_takesPart_11 hs_1ne ?_
    refine wa_iload_n X 1 rfl dX11_takesPart_14 rfl ?_
    refine wa_iald X hk_71 dX11_takesPart_15 hs_1ne o1 ?_
    refine wa_iconst X dX11_takesPart_16 kcm1 ?_
    refine wa_icmp_ne X (tgt := 85) dX11_takesPart_17 (by decide) (fun c3 => ?_) (fun c3 => ?_)
    · replace hv := hv.1 c3
      refine wa_iconst X dX11_takesPart_85 kc0 ?_
      exact wa_ireturn X E dX11_takesPart_86 (Nat.le_of_ble_eq_true rfl) (Nat.le_of_ble_eq_true rfl) (Or.inr ⟨rfl, Or.inl rfl⟩) ⟨hw, _, rfl, hv⟩
    · replace hv := hv.2 c3
      refine wa_aload_n X 0 rfl dX11_takesPart_20 rfl ?_
      refine wa_getfw X hw (j := 33) (r := 1) hk_11 hc_11 i_11 (by decide) kw_1217 rfl rfl (by decide) rfl dX11_takesPart_21 hs_1ne ?_
      refine wa_iload_n X 1 rfl dX11_takesPart_24 rfl ?_
      refine wa_bald X hk_73 dX11_takesPart_25 hs_1ne o1 ?_
      refine wa_if_ne X (tgt := 85) dX11_takesPart_26 (by decide) (fun c4 => ?_) (fun c4 => ?_)
      · replace hv := hv.1 c4
        refine wa_iconst X dX11_takesPart_85 kc0 ?_
        exact wa_ireturn X E dX11_takesPart_86 (Nat.le_of_ble_eq_true rfl) (Nat.le_of_ble_eq_true rfl) (Or.inr ⟨rfl, Or.inl rfl⟩) ⟨hw, _, rfl, hv⟩
      · replace hv := hv.2 c4
        refine wa_aload_n X 0 rfl dX11_takesPart_29 rfl ?_
        refine wa_getfw X hw (j := 41) (r := 1) hk_11 hc_11 i_11 (by decide) kw_1225 rfl rfl (by decide) rfl dX11_takesPart_30 hs_1ne ?_
        refine wa_iload_n X 2 rfl dX11_takesPart_33 rfl ?_
        obtain ⟨o5, hv⟩ := hv
        refine wa_iald X hk_81 dX11_takesPart_34 hs_1ne o5 ?_
        refine wa_iconst X dX11_takesPart_35 kcm1 ?_
        refine wa_icmp_eq X (tgt := 85) dX11_takesPart_36 (by decide) (fun c6 => ?_) (fun c6 => ?_)
        · replace hv := hv.1 c6
          refine wa_iconst X dX11_takesPart_85 kc0 ?_
          exact wa_ireturn X E dX11_takesPart_86 (Nat.le_of_ble_eq_true rfl) (Nat.le_of_ble_eq_true rfl) (Or.inr ⟨rfl, Or.inl rfl⟩) ⟨hw, _, rfl, hv⟩
        · replace hv := hv.2 c6
          refine wa_aload_n X 0 rfl dX11_takesPart_39 rfl ?_
          refine wa_getfw X hw (j := 27) (r := 1) hk_11 hc_11 i_11 (by decide) kw_1211 rfl rfl (by decide) rfl dX11_takesPart_40 hs_1ne ?_
          refine wa_iload_n X 1 rfl dX11_takesPart_43 rfl ?_
          refine wa_bald X hk_67 dX11_takesPart_44 hs_1ne o1 ?_
          refine wa_if_eq X (tgt := 66) dX11_takesPart_45 (by decide) (fun c7 => ?_) (fun c7 => ?_)
          · replace hv := hv.1 c7
            refine wa_aload_n X 0 rfl dX11_takesPart_66 rfl ?_
            refine wa_getfw X hw (j := 29) (r := 1) hk_11 hc_11 i_11 (by decide) kw_1213 rfl rfl (by decide) rfl dX11_takesPart_67 hs_1ne ?_
            refine wa_iload_n X 1 rfl dX11_takesPart_70 rfl ?_
            refine wa_iald X hk_69 dX11_takesPart_71 hs_1ne o1 ?_
            refine wa_aload_n X 0 rfl dX11_takesPart_72 rfl ?_
            refine wa_getfw X hw (j := 41) (r := 1) hk_11 hc_11 i_11 (by decide) kw_1225 rfl rfl (by decide) rfl dX11_takesPart_73 hs_1ne ?_
            refine wa_iload_n X 2 rfl dX11_takesPart_76 rfl ?_
            refine wa_iald X hk_81 dX11_takesPart_77 hs_1ne o5 ?_
            refine wa_icmp_gt X (tgt := 85) dX11_takesPart_78 (by decide) (fun c8 => ?_) (fun c8 => ?_)
            · replace hv := hv.1 c8
              refine wa_iconst X dX11_takesPart_85 kc0 ?_
              exact wa_ireturn X E dX11_takesPart_86 (Nat.le_of_ble_eq_true rfl) (Nat.le_of_ble_eq_true rfl) (Or.inr ⟨rfl, Or.inl rfl⟩) ⟨hw, _, rfl, hv⟩
            · replace hv := hv.2 c8
              refine wa_iconst X dX11_takesPart_81 kc1 ?_
              refine wa_goto X (tgt := 86) dX11_takesPart_82 (by decide) ?_
              exact wa_ireturn X E dX11_takesPart_86 (Nat.le_of_ble_eq_true rfl) (Nat.le_of_ble_eq_true rfl) (Or.inr ⟨rfl, Or.inr rfl⟩) ⟨hw, _, rfl, hv⟩
          · replace hv := hv.2 c7
            refine wa_aload_n X 0 rfl dX11_takesPart_48 rfl ?_
            refine wa_getfw X hw (j := 29) (r := 1) hk_11 hc_11 i_11 (by decide) kw_1213 rfl rfl (by decide) rfl dX11_takesPart_49 hs_1ne ?_
            refine wa_iload_n X 1 rfl dX11_takesPart_52 rfl ?_
            refine wa_iald X hk_69 dX11_takesPart_53 hs_1ne o1 ?_
            refine wa_aload_n X 0 rfl dX11_takesPart_54 rfl ?_
            refine wa_getfw X hw (j := 41) (r := 1) hk_11 hc_11 i_11 (by decide) kw_1225 rfl rfl (by decide) rfl dX11_takesPart_55 hs_1ne ?_
            refine wa_iload_n X 2 rfl dX11_takesPart_58 rfl ?_
            refine wa_iald X hk_81 dX11_takesPart_59 hs_1ne o5 ?_
            refine wa_icmp_lt X (tgt := 85) dX11_takesPart_60 (by decide) (fun c9 => ?_) (fun c9 => ?_)
            · replace hv := hv.1 c9
              refine wa_iconst X dX11_takesPart_85 kc0 ?_
              exact wa_ireturn X E dX11_takesPart_86 (Nat.le_of_ble_eq_true rfl) (Nat.le_of_ble_eq_true rfl) (Or.inr ⟨rfl, Or.inl rfl⟩) ⟨hw, _, rfl, hv⟩
            · replace hv := hv.2 c9
              refine wa_goto X (tgt := 81) dX11_takesPart_63 (by decide) ?_
              refine wa_iconst X dX11_takesPart_81 kc1 ?_
              refine wa_goto X (tgt := 86) dX11_takesPart_82 (by decide) ?_
              exact wa_ireturn X E dX11_takesPart_86 (Nat.le_of_ble_eq_true rfl) (Nat.le_of_ble_eq_true rfl) (Or.inr ⟨rfl, Or.inr rfl⟩) ⟨hw, _, rfl, hv⟩
theorem v_M_takesPart {a1 a2 : Int32} {S : hs_S} (hP : P_takesPart a1 a2 S) : vc_M_takesPart a1 a2 S (fun r S' => r = F_takesPart a1 a2 S ∧ S' = S) := by
  unfold vc_M_takesPart F_takesPart
  generalize hb : a1.toNatClampNeg = b at *
  refine ⟨hP.1, fun h => ⟨(bI_f fun q => h q.1).symm, rfl⟩, fun h1 => ⟨fun h => ⟨(bI_f fun q => h q.2.1).symm, rfl⟩, fun h2 => ⟨fun h => ⟨(bI_f fun q => h q.2.2.1).symm, rfl⟩, fun h3 => ⟨hP.2, fun h => ⟨(bI_f fun q => q.2.2.2.1 h).symm, rfl⟩, fun h4 => ⟨fun h5 => ⟨fun h => ⟨(bI_f fun q => by have := q.2.2.2.2; rw [if_pos h5] at this; exact this h).symm, rfl⟩, fun h => ⟨(bI_t ⟨h1, h2, h3, h4, by rw [if_pos h5]; exact h⟩).symm, rfl⟩⟩, fun h5 => ⟨fun h => ⟨(bI_f fun q => by have := q.2.2.2.2; rw [if_neg h5] at this; exact this h).symm, rfl⟩, fun h => ⟨(bI_t ⟨h1, h2, h3, h4, by rw [if_neg h5]; exact h⟩).symm, rfl⟩⟩⟩⟩⟩⟩⟩
theorem f_M_takesPart {a1 : Int32} {a2 : Int32} {S : hs_S} (hw : hs_Wi S) (hP : P_takesPart a1 a2 S) : hs_M 1 yX11_takesPart (.code yX11_takesPart cX11_takesPart 3 (some FieldType.boolean)) [.inr (.inr (11, 1)), .inl a1, .inl a2] S 0 0 (hs_pd (some (.inl (F_takesPart a1 a2 S))) S) hs_nX := hs_pdI (ok_M_takesPart hw (v_M_takesPart hP))

def mSum (S : hs_S) (r : Int32) (w : Int32) : Nat → Int32
  | 0 => 0
  | k + 1 => if S.1 67 1 k = w ∧ ¬ F_takesPart (nI k) r S = 0 then mSum S r w k + S.1 68 1 k else mSum S r w k + 0
def F_sumOf (a1 a2 : Int32) (S : hs_S) : Int32 := mSum S a1 a2 (S.1 11 1 24).toNatClampNeg
def P_sumOf (a1 a2 : Int32) (S : hs_S) : Prop := cN (S.1 11 1 24) 80 ∧ 0 ≤ a1.toInt ∧ a1.toInt < 30
def m_M_sumOf (a1 : Int32) (a2 : Int32) (S : hs_S) (Q : Int32 → hs_S → Prop) : Prop := hs_M 2 yX11_sumOf (.code yX11_sumOf cX11_sumOf 5 (some FieldType.int)) [.inr (.inr (11, 1)), .inl a1, .inl a2] S 0 0 (hs_qI Q) hs_nX
def vc_M_sumOf (a1 : Int32) (a2 : Int32) (S : hs_S) (Q : Int32 → hs_S → Prop) : Prop := (∃ I3 : Nat → Int32 → Int32 → Prop, (∃ n7, I3 n7 (0 : Int32) (0 : Int32)) ∧ (∀ N4 : Nat, ∀ x1 : Int32, ∀ x2 : Int32, I3 N4 x1 x2 → (((S.1 11 1 24) ≤ x2 → (Q x1 S)) ∧ (¬ (S.1 11 1 24) ≤ x2 → ((0 ≤ x2.toInt ∧ x2.toInt < 80) ∧ ((¬ (S.1 67 1 x2.toNatClampNeg) = a2 → (∃ q14, q14 < N4 ∧ I3 q14 (x1 + (0 : Int32)) (x2 + 1))) ∧ ((S.1 67 1 x2.toNatClampNeg) = a2 → ((P_takesPart x2 a1 S) ∧ (((F_takesPart x2 a1 S) = 0 → (∃ q18, q18 < N4 ∧ I3 q18 (x1 + (0 : Int32)) (x2 + 1))) ∧ (¬ (F_takesPart x2 a1 S) = 0 → (∃ q20, q20 < N4 ∧ I3 q20 (x1 + (S.1 68 1 x2.toNatClampNeg)) (x2 + 1))))))))))))
set_option maxRecDepth 100000 in
set_option maxHeartbeats 4000000 in
theorem ok_M_sumOf {a1 : Int32} {a2 : Int32} {S : hs_S} {Q : Int32 → hs_S → Prop} (hw : hs_Wi S) (hv : vc_M_sumOf a1 a2 S Q) : m_M_sumOf a1 a2 S Q := by
  unfold vc_M_sumOf at hv
  refine hs_body (own := RX11) rfl rfl (Nat.le_of_ble_eq_true rfl) (fun Z X E N J0 => ?_)
  show wa Z 0 0 S 0 [(0, .inr (.inr (11, 1))), (1, .inl a1), (2, .inl a2)] []
  refine wa_iconst X dX11_sumOf_0 kc0 ?_
  refine wa_istore_n X (lv' := [(3, .inl (0 : Int32)), (0, .inr (.inr (11, 1))), (1, .inl a1), (2, .inl a2)]) dX11_sumOf_1 rfl (by decide) rfl ?_
  refine wa_iconst X dX11_sumOf_2 kc0 ?_
  refine wa_istore X (lv' := [(4, .inl (0 : Int32)), (3, .inl (0 : Int32)), (0, .inr (.inr (11, 1))), (1, .inl a1), (2, .inl a2)]) dX11_sumOf_3 (by decide) rfl ?_
  obtain ⟨I3, ⟨n7, i5⟩, b6⟩ := hv
  refine wa_lv (lv' := [(0, .inr (.inr (11, 1))), (1, .inl a1), (2, .inl a2), (3, .inl (0 : Int32)), (4, .inl (0 : Int32))]) [2, 3, 4, 1, 0] rfl ?_
  suffices L8 : ∀ N4 : Nat, ∀ x1 : Int32, ∀ x2 : Int32, I3 N4 x1 x2 → wa Z 0 0 S 5 [(0, .inr (.inr (11, 1))), (1, .inl a1), (2, .inl a2), (3, .inl x1), (4, .inl x2)] [] from L8 _ _ _ i5
  clear i5
  intro N4
  induction N4 using Nat.strongRecOn with
  | _ N4 h9 =>
    intro x1 x2 j10
    have hv := b6 N4 x1 x2 j10
    refine wa_iload X 4 rfl dX11_sumOf_5 ?_
    refine wa_aload_n X 0 rfl dX11_sumOf_7 rfl ?_
    refine wa_getI X (j := 24) hk_11 hc_11 i_11 (by decide) kw_1208 rfl dX11_sumOf_8 hs_1ne ?_
    refine wa_icmp_ge X (tgt := 55) dX11_sumOf_11 (by decide) (fun c11 => ?_) (fun c11 => ?_)
    · replace hv := hv.1 c11
      refine wa_iload_n X 3 rfl dX11_sumOf_55 rfl ?_
      exact wa_ireturn X E dX11_sumOf_56 (Nat.le_of_ble_eq_true rfl) (Nat.le_of_ble_eq_true rfl) (Or.inl rfl) ⟨hw, _, rfl, hv⟩
    · replace hv := hv.2 c11
      refine wa_iload_n X 3 rfl dX11_sumOf_14 rfl ?_
      refine wa_aload_n X 0 rfl dX11_sumOf_15 rfl ?_
      refine wa_getfw X hw (j := 27) (r := 1) hk_11 hc_11 i_11 (by decide) kw_1211 rfl rfl (by decide) rfl dX11_sumOf_16 hs_1ne ?_
      refine wa_iload X 4 rfl dX11_sumOf_19 ?_
      obtain ⟨o12, hv⟩ := hv
      refine wa_bald X hk_67 dX11_sumOf_21 hs_1ne o12 ?_
      refine wa_iload_n X 2 rfl dX11_sumOf_22 rfl ?_
      refine wa_icmp_ne X (tgt := 46) dX11_sumOf_23 (by decide) (fun c13 => ?_) (fun c13 => ?_)
      · replace hv := hv.1 c13
        refine wa_iconst X dX11_sumOf_46 kc0 ?_
        refine wa_iadd X dX11_sumOf_47 ?_
        refine wa_istore_n X (lv' := [(3, .inl (x1 + (0 : Int32))), (0, .inr (.inr (11, 1))), (1, .inl a1), (2, .inl a2), (4, .inl x2)]) dX11_sumOf_48 rfl (by decide) rfl ?_
        refine wa_iinc X (v := (x2 + 1)) (lv' := [(4, .inl (x2 + 1)), (3, .inl (x1 + (0 : Int32))), (0, .inr (.inr (11, 1))), (1, .inl a1), (2, .inl a2)]) 4 rfl dX11_sumOf_49 rfl (by decide) rfl ?_
        refine wa_goto X (tgt := 5) dX11_sumOf_52 (by decide) ?_
        obtain ⟨q14, p15, hv⟩ := hv
        refine wa_lv (lv' := [(0, .inr (.inr (11, 1))), (1, .inl a1), (2, .inl a2), (3, .inl (x1 + (0 : Int32))), (4, .inl (x2 + 1))]) [2, 3, 4, 1, 0] rfl ?_
        exact h9 q14 p15 _ _ hv
      · replace hv := hv.2 c13
        refine wa_aload_n X 0 rfl dX11_sumOf_26 rfl ?_
        refine wa_iload X 4 rfl dX11_sumOf_27 ?_
        refine wa_iload_n X 1 rfl dX11_sumOf_29 rfl ?_
        obtain ⟨o16, hv⟩ := hv
        refine wa_callV X (As := [.inl x2, .inl a1]) (f_M_takesPart hw o16) hk_11 hc_11 rfl kw_1570 kw_66 kw_1567 kw_1569 kw_48 nd_X11_takesPart rfl rfl (Nat.le_of_ble_eq_true rfl) dX11_sumOf_30 hs_1ne ⟨⟨Nat.le_of_ble_eq_true rfl, Nat.le_of_ble_eq_true rfl⟩, Nat.le_of_ble_eq_true rfl, Nat.le_of_ble_eq_true rfl⟩ (hs_pdk0 ?_) (fun _ _ h => h.elim)
        refine wa_if_eq X (tgt := 46) dX11_sumOf_33 (by decide) (fun c17 => ?_) (fun c17 => ?_)
        · replace hv := hv.1 c17
          refine wa_iconst X dX11_sumOf_46 kc0 ?_
          refine wa_iadd X dX11_sumOf_47 ?_
          refine wa_istore_n X (lv' := [(3, .inl (x1 + (0 : Int32))), (0, .inr (.inr (11, 1))), (1, .inl a1), (2, .inl a2), (4, .inl x2)]) dX11_sumOf_48 rfl (by decide) rfl ?_
          refine wa_iinc X (v := (x2 + 1)) (lv' := [(4, .inl (x2 + 1)), (3, .inl (x1 + (0 : Int32))), (0, .inr (.inr (11, 1))), (1, .inl a1), (2, .inl a2)]) 4 rfl dX11_sumOf_49 rfl (by decide) rfl ?_
          refine wa_goto X (tgt := 5) dX11_sumOf_52 (by decide) ?_
          obtain ⟨q18, p19, hv⟩ := hv
          refine wa_lv (lv' := [(0, .inr (.inr (11, 1))), (1, .inl a1), (2, .inl a2), (3, .inl (x1 + (0 : Int32))), (4, .inl (x2 + 1))]) [2, 3, 4, 1, 0] rfl ?_
          exact h9 q18 p19 _ _ hv
        · replace hv := hv.2 c17
          refine wa_aload_n X 0 rfl dX11_sumOf_36 rfl ?_
          refine wa_getfw X hw (j := 28) (r := 1) hk_11 hc_11 i_11 (by decide) kw_1212 rfl rfl (by decide) rfl dX11_sumOf_37 hs_1ne ?_
          refine wa_iload X 4 rfl dX11_sumOf_40 ?_
          refine wa_iald X hk_68 dX11_sumOf_42 hs_1ne o12 ?_
          refine wa_goto X (tgt := 47) dX11_sumOf_43 (by decide) ?_
          refine wa_iadd X dX11_sumOf_47 ?_
          refine wa_istore_n X (lv' := [(3, .inl (x1 + (S.1 68 1 x2.toNatClampNeg))), (0, .inr (.inr (11, 1))), (1, .inl a1), (2, .inl a2), (4, .inl x2)]) dX11_sumOf_48 rfl (by decide) rfl ?_
          refine wa_iinc X (v := (x2 + 1)) (lv' := [(4, .inl (x2 + 1)), (3, .inl (x1 + (S.1 68 1 x2.toNatClampNeg))), (0, .inr (.inr (11, 1))), (1, .inl a1), (2, .inl a2)]) 4 rfl dX11_sumOf_49 rfl (by decide) rfl ?_
          refine wa_goto X (tgt := 5) dX11_sumOf_52 (by decide) ?_
          obtain ⟨q20, p21, hv⟩ := hv
          refine wa_lv (lv' := [(0, .inr (.inr (11, 1))), (1, .inl a1), (2, .inl a2), (3, .inl (x1 + (S.1 68 1 x2.toNatClampNeg))), (4, .inl (x2 + 1))]) [2, 3, 4, 1, 0] rfl ?_
          exact h9 q20 p21 _ _ hv
theorem v_M_sumOf {a1 a2 : Int32} {S : hs_S} (hP : P_sumOf a1 a2 S) : vc_M_sumOf a1 a2 S (fun r S' => r = F_sumOf a1 a2 S ∧ S' = S) := by
  obtain ⟨⟨g, hg, eg⟩, h30⟩ := hP
  unfold vc_M_sumOf F_sumOf
  rw [eg, hl_cl (by omega)]
  refine ⟨fun N x1 x2 => ∃ k, k ≤ g ∧ x2 = nI k ∧ x1 = mSum S a1 a2 k ∧ N = g - k, ⟨g, 0, Nat.zero_le _, rfl, rfl, rfl⟩, ?_⟩
  rintro N x1 x2 ⟨k, hk, rfl, rfl, rfl⟩
  refine ⟨fun h => ?_, fun h => ?_⟩
  · have := hl_end (by omega) hk h
    subst this
    exact ⟨rfl, rfl⟩
  · have hk1 := hl_go (by omega) hk h
    have hc : (nI k).toNatClampNeg = k := hl_cl (by omega)
    rw [hc]
    have hx := hl_ix (k := k) (n := 80) (by omega) (by omega)
    exact ⟨hx, fun h1 => hl_nx hk1 (if_neg fun q => h1 q.1).symm, fun h1 => ⟨⟨hx, h30⟩, fun h2 => hl_nx hk1 (if_neg fun q => q.2 h2).symm, fun h2 => hl_nx hk1 (if_pos ⟨h1, h2⟩).symm⟩⟩
theorem f_M_sumOf {a1 : Int32} {a2 : Int32} {S : hs_S} (hw : hs_Wi S) (hP : P_sumOf a1 a2 S) : hs_M 2 yX11_sumOf (.code yX11_sumOf cX11_sumOf 5 (some FieldType.int)) [.inr (.inr (11, 1)), .inl a1, .inl a2] S 0 0 (hs_pd (some (.inl (F_sumOf a1 a2 S))) S) hs_nX := hs_pdI (ok_M_sumOf hw (v_M_sumOf hP))

abbrev mAh (S : hs_S) (b o r : Nat) (all : Int32) : Prop := if S.1 80 1 r = 0 then (if S.1 67 1 b = 0 then ¬ S.1 69 1 o ≤ S.1 69 1 b else ¬ S.1 69 1 b ≤ S.1 69 1 o) else ¬ S.1 82 1 r * S.1 68 1 b - S.1 82 1 r * S.1 68 1 b / all * all ≤ S.1 82 1 r * S.1 68 1 o - S.1 82 1 r * S.1 68 1 o / all * all
def F_isAhead (a1 a2 a3 a4 : Int32) (S : hs_S) : Int32 := bI (mAh S a1.toNatClampNeg a2.toNatClampNeg a3.toNatClampNeg a4)
def P_isAhead (a1 a2 a3 a4 : Int32) (S : hs_S) : Prop := (0 ≤ a1.toInt ∧ a1.toInt < 80) ∧ (0 ≤ a2.toInt ∧ a2.toInt < 80) ∧ (0 ≤ a3.toInt ∧ a3.toInt < 30) ∧ ¬ a4 = 0
def m_M_isAhead (a1 : Int32) (a2 : Int32) (a3 : Int32) (a4 : Int32) (S : hs_S) (Q : Int32 → hs_S → Prop) : Prop := hs_M 1 yX11_isAhead (.code yX11_isAhead cX11_isAhead 5 (some FieldType.boolean)) [.inr (.inr (11, 1)), .inl a1, .inl a2, .inl a3, .inl a4] S 0 0 (hs_qI Q) hs_nX
def vc_M_isAhead (a1 : Int32) (a2 : Int32) (a3 : Int32) (a4 : Int32) (S : hs_S) (Q : Int32 → hs_S → Prop) : Prop := ((0 ≤ a3.toInt ∧ a3.toInt < 30) ∧ (((S.1 80 1 a3.toNatClampNeg) = 0 → ((0 ≤ a1.toInt ∧ a1.toInt < 80) ∧ (((S.1 67 1 a1.toNatClampNeg) = 0 → ((0 ≤ a2.toInt ∧ a2.toInt < 80) ∧ (((S.1 69 1 a2.toNatClampNeg) ≤ (S.1 69 1 a1.toNatClampNeg) → (Q (0 : Int32) S)) ∧ (¬ (S.1 69 1 a2.toNatClampNeg) ≤ (S.1 69 1 a1.toNatClampNeg) → (Q (1 : Int32) S))))) ∧ (¬ (S.1 67 1 a1.toNatClampNeg) = 0 → ((0 ≤ a2.toInt ∧ a2.toInt < 80) ∧ (((S.1 69 1 a1.toNatClampNeg) ≤ (S.1 69 1 a2.toNatClampNeg) → (Q (0 : Int32) S)) ∧ (¬ (S.1 69 1 a1.toNatClampNeg) ≤ (S.1 69 1 a2.toNatClampNeg) → (Q (1 : Int32) S)))))))) ∧ (¬ (S.1 80 1 a3.toNatClampNeg) = 0 → ((0 ≤ a1.toInt ∧ a1.toInt < 80) ∧ ((¬ a4 = 0) ∧ ((0 ≤ a2.toInt ∧ a2.toInt < 80) ∧ (((((S.1 82 1 a3.toNatClampNeg) * (S.1 68 1 a1.toNatClampNeg)) - ((S.1 82 1 a3.toNatClampNeg) * (S.1 68 1 a1.toNatClampNeg)) / a4 * a4) ≤ (((S.1 82 1 a3.toNatClampNeg) * (S.1 68 1 a2.toNatClampNeg)) - ((S.1 82 1 a3.toNatClampNeg) * (S.1 68 1 a2.toNatClampNeg)) / a4 * a4) → (Q (0 : Int32) S)) ∧ (¬ (((S.1 82 1 a3.toNatClampNeg) * (S.1 68 1 a1.toNatClampNeg)) - ((S.1 82 1 a3.toNatClampNeg) * (S.1 68 1 a1.toNatClampNeg)) / a4 * a4) ≤ (((S.1 82 1 a3.toNatClampNeg) * (S.1 68 1 a2.toNatClampNeg)) - ((S.1 82 1 a3.toNatClampNeg) * (S.1 68 1 a2.toNatClampNeg)) / a4 * a4) → (Q (1 : Int32) S)))))))))
set_option maxRecDepth 100000 in
set_option maxHeartbeats 4000000 in
theorem ok_M_isAhead {a1 : Int32} {a2 : Int32} {a3 : Int32} {a4 : Int32} {S : hs_S} {Q : Int32 → hs_S → Prop} (hw : hs_Wi S) (hv : vc_M_isAhead a1 a2 a3 a4 S Q) : m_M_isAhead a1 a2 a3 a4 S Q := by
  unfold vc_M_isAhead at hv
  refine hs_body (own := RX11) rfl rfl (Nat.le_of_ble_eq_true rfl) (fun Z X E N J0 => ?_)
  show wa Z 0 0 S 0 [(0, .inr (.inr (11, 1))), (1, .inl a1), (2, .inl a2), (3, .inl a3), (4, .inl a4)] []
  refine wa_aload_n X 0 rfl dX11_isAhead_0 rfl ?_
  refine wa_getfw X hw (j := 40) (r := 1) hk_11 hc_11 i_11 (by decide) kw_1224 rfl rfl (by decide) rfl dX11_isAhead_1 hs_1ne ?_
  refine wa_iload_n X 3 rfl dX11_isAhead_4 rfl ?_
  obtain ⟨o1, hv⟩ := hv
  refine wa_bald X hk_80 dX11_isAhead_5 hs_1ne o1 ?_
  refine wa_if_eq X (tgt := 50) dX11_isAhead_6 (by decide) (fun c2 => ?_) (fun c2 => ?_)
  · replace hv := hv.1 c2
    refine wa_aload_n X 0 rfl dX11_isAhead_50 rfl ?_
    refine wa_getfw X hw (j := 27) (r := 1) hk_11 hc_11 i_11 (by decide) kw_1211 rfl rfl (by decide) rfl dX11_isAhead_51 hs_1ne ?_
    refine wa_iload_n X 1 rfl dX11_isAhead_54 rfl ?_
    obtain ⟨o3, hv⟩ := hv
    refine wa_bald X hk_67 dX11_isAhead_55 hs_1ne o3 ?_
    refine wa_if_eq X (tgt := 82) dX11_isAhead_56 (by decide) (fun c4 => ?_) (fun c4 => ?_)
    · replace hv := hv.1 c4
      refine wa_aload_n X 0 rfl dX11_isAhead_82 rfl ?_
      refine wa_getfw X hw (j := 29) (r := 1) hk_11 hc_11 i_11 (by decide) kw_1213 rfl rfl (by decide) rfl dX11_isAhead_83 hs_1ne ?_
      refine wa_iload_n X 1 rfl dX11_isAhead_86 rfl ?_
      refine wa_iald X hk_69 dX11_isAhead_87 hs_1ne o3 ?_
      refine wa_aload_n X 0 rfl dX11_isAhead_88 rfl ?_
      refine wa_getfw X hw (j := 29) (r := 1) hk_11 hc_11 i_11 (by decide) kw_1213 rfl rfl (by decide) rfl dX11_isAhead_89 hs_1ne ?_
      refine wa_iload_n X 2 rfl dX11_isAhead_92 rfl ?_
      obtain ⟨o5, hv⟩ := hv
      refine wa_iald X hk_69 dX11_isAhead_93 hs_1ne o5 ?_
      refine wa_icmp_ge X (tgt := 101) dX11_isAhead_94 (by decide) (fun c6 => ?_) (fun c6 => ?_)
      · replace hv := hv.1 c6
        refine wa_iconst X dX11_isAhead_101 kc0 ?_
        exact wa_ireturn X E dX11_isAhead_102 (Nat.le_of_ble_eq_true rfl) (Nat.le_of_ble_eq_true rfl) (Or.inr ⟨rfl, Or.inl rfl⟩) ⟨hw, _, rfl, hv⟩
      · replace hv := hv.2 c6
        refine wa_iconst X dX11_isAhead_97 kc1 ?_
        refine wa_goto X (tgt := 102) dX11_isAhead_98 (by decide) ?_
        exact wa_ireturn X E dX11_isAhead_102 (Nat.le_of_ble_eq_true rfl) (Nat.le_of_ble_eq_true rfl) (Or.inr ⟨rfl, Or.inr rfl⟩) ⟨hw, _, rfl, hv⟩
    · replace hv := hv.2 c4
      refine wa_aload_n X 0 rfl dX11_isAhead_59 rfl ?_
      refine wa_getfw X hw (j := 29) (r := 1) hk_11 hc_11 i_11 (by decide) kw_1213 rfl rfl (by decide) rfl dX11_isAhead_60 hs_1ne ?_
      refine wa_iload_n X 1 rfl dX11_isAhead_63 rfl ?_
      refine wa_iald X hk_69 dX11_isAhead_64 hs_1ne o3 ?_
      refine wa_aload_n X 0 rfl dX11_isAhead_65 rfl ?_
      refine wa_getfw X hw (j := 29) (r := 1) hk_11 hc_11 i_11 (by decide) kw_1213 rfl rfl (by decide) rfl dX11_isAhead_66 hs_1ne ?_
      refine wa_iload_n X 2 rfl dX11_isAhead_69 rfl ?_
      obtain ⟨o7, hv⟩ := hv
      refine wa_iald X hk_69 dX11_isAhead_70 hs_1ne o7 ?_
      refine wa_icmp_le X (tgt := 78) dX11_isAhead_71 (by decide) (fun c8 => ?_) (fun c8 => ?_)
      · replace hv := hv.1 c8
        refine wa_iconst X dX11_isAhead_78 kc0 ?_
        refine wa_goto X (tgt := 102) dX11_isAhead_79 (by decide) ?_
        exact wa_ireturn X E dX11_isAhead_102 (Nat.le_of_ble_eq_true rfl) (Nat.le_of_ble_eq_true rfl) (Or.inr ⟨rfl, Or.inl rfl⟩) ⟨hw, _, rfl, hv⟩
      · replace hv := hv.2 c8
        refine wa_iconst X dX11_isAhead_74 kc1 ?_
        refine wa_goto X (tgt := 102) dX11_isAhead_75 (by decide) ?_
        exact wa_ireturn X E dX11_isAhead_102 (Nat.le_of_ble_eq_true rfl) (Nat.le_of_ble_eq_true rfl) (Or.inr ⟨rfl, Or.inr rfl⟩) ⟨hw, _, rfl, hv⟩
  · replace hv := hv.2 c2
    refine wa_aload_n X 0 rfl dX11_isAhead_9 rfl ?_
    refine wa_getfw X hw (j := 42) (r := 1) hk_11 hc_11 i_11 (by decide) kw_1226 rfl rfl (by decide) rfl dX11_isAhead_10 hs_1ne ?_
    refine wa_iload_n X 3 rfl dX11_isAhead_13 rfl ?_
    refine wa_iald X hk_82 dX11_isAhead_14 hs_1ne o1 ?_
    refine wa_aload_n X 0 rfl dX11_isAhead_15 rfl ?_
    refine wa_getfw X hw (j := 28) (r := 1) hk_11 hc_11 i_11 (by decide) kw_1212 rfl rfl (by decide) rfl dX11_isAhead_16 hs_1ne ?_
    refine wa_iload_n X 1 rfl dX11_isAhead_19 rfl ?_
    obtain ⟨o9, hv⟩ := hv
    refine wa_iald X hk_68 dX11_isAhead_20 hs_1ne o9 ?_
    refine wa_imul X dX11_isAhead_21 ?_
    refine wa_iload X 4 rfl dX11_isAhead_22 ?_
    obtain ⟨o10, hv⟩ := hv
    refine wa_irem X dX11_isAhead_24 o10 ?_
    refine wa_aload_n X 0 rfl dX11_isAhead_25 rfl ?_
    refine wa_getfw X hw (j := 42) (r := 1) hk_11 hc_11 i_11 (by decide) kw_1226 rfl rfl (by decide) rfl dX11_isAhead_26 hs_1ne ?_
    refine wa_iload_n X 3 rfl dX11_isAhead_29 rfl ?_
    refine wa_iald X hk_82 dX11_isAhead_30 hs_1ne o1 ?_
    refine wa_aload_n X 0 rfl dX11_isAhead_31 rfl ?_
    refine wa_getfw X hw (j := 28) (r := 1) hk_11 hc_11 i_11 (by decide) kw_1212 rfl rfl (by decide) rfl dX11_isAhead_32 hs_1ne ?_
    refine wa_iload_n X 2 rfl dX11_isAhead_35 rfl ?_
    obtain ⟨o11, hv⟩ := hv
    refine wa_iald X hk_68 dX11_isAhead_36 hs_1ne o11 ?_
    refine wa_imul X dX11_isAhead_37 ?_
    refine wa_iload X 4 rfl dX11_isAhead_38 ?_
    refine wa_irem X dX11_isAhead_40 o10 ?_
    refine wa_icmp_le X (tgt := 48) dX11_isAhead_41 (by decide) (fun c12 => ?_) (fun c12 => ?_)
    · replace hv := hv.1 c12
      refine wa_iconst X dX11_isAhead_48 kc0 ?_
      exact wa_ireturn X E dX11_isAhead_49 (Nat.le_of_ble_eq_true rfl) (Nat.le_of_ble_eq_true rfl) (Or.inr ⟨rfl, Or.inl rfl⟩) ⟨hw, _, rfl, hv⟩
    · replace hv := hv.2 c12
      refine wa_iconst X dX11_isAhead_44 kc1 ?_
      refine wa_goto X (tgt := 49) dX11_isAhead_45 (by decide) ?_
      exact wa_ireturn X E dX11_isAhead_49 (Nat.le_of_ble_eq_true rfl) (Nat.le_of_ble_eq_true rfl) (Or.inr ⟨rfl, Or.inr rfl⟩) ⟨hw, _, rfl, hv⟩
theorem v_M_isAhead {a1 a2 a3 a4 : Int32} {S : hs_S} (hP : P_isAhead a1 a2 a3 a4 S) : vc_M_isAhead a1 a2 a3 a4 S (fun r S' => r = F_isAhead a1 a2 a3 a4 S ∧ S' = S) := by
  unfold vc_M_isAhead F_isAhead mAh
  generalize a1.toNatClampNeg = b at *
  generalize a2.toNatClampNeg = o at *
  generalize a3.toNatClampNeg = r at *
  refine ⟨hP.2.2.1, fun h => ⟨hP.1, fun h2 => ⟨hP.2.1, fun q => ⟨(bI_f fun z => by rw [if_pos h, if_pos h2] at z; exact z q).symm, rfl⟩, fun q => ⟨(bI_t (by rw [if_pos h, if_pos h2]; exact q)).symm, rfl⟩⟩, fun h2 => ⟨hP.2.1, fun q => ⟨(bI_f fun z => by rw [if_pos h, if_neg h2] at z; exact z q).symm, rfl⟩, fun q => ⟨(bI_t (by rw [if_pos h, if_neg h2]; exact q)).symm, rfl⟩⟩⟩, fun h => ⟨hP.1, hP.2.2.2, hP.2.1, fun q => ⟨(bI_f fun z => by rw [if_neg h] at z; exact z q).symm, rfl⟩, fun q => ⟨(bI_t (by rw [if_neg h]; exact q)).symm, rfl⟩⟩⟩
theorem f_M_isAhead {a1 : Int32} {a2 : Int32} {a3 : Int32} {a4 : Int32} {S : hs_S} (hw : hs_Wi S) (hP : P_isAhead a1 a2 a3 a4 S) : hs_M 1 yX11_isAhead (.code yX11_isAhead cX11_isAhead 5 (some FieldType.boolean)) [.inr (.inr (11, 1)), .inl a1, .inl a2, .inl a3, .inl a4] S 0 0 (hs_pd (some (.inl (F_isAhead a1 a2 a3 a4 S))) S) hs_nX := hs_pdI (ok_M_isAhead hw (v_M_isAhead hP))

def F_down (a1 : Int64) : Int64 := if a1 < 0 then -((9 - a1) / 10) else a1 / 10
def m_M_down (a1 : Int64) (S : hs_S) (Q : Int64 → hs_S → Prop) : Prop := hs_M 1 yX11_down (.code yX11_down cX11_down 2 (some FieldType.long)) [.inr (.inl a1)] S 0 0 (hs_qL Q) hs_nX
def vc_M_down (a1 : Int64) (S : hs_S) (Q : Int64 → hs_S → Prop) : Prop := (((lg_cmp a1 (0 : Int64)) < 0 → (Q (-(((9 : Int64) - a1) / (10 : Int64))) S)) ∧ (¬ (lg_cmp a1 (0 : Int64)) < 0 → (Q (a1 / (10 : Int64)) S)))
set_option maxRecDepth 100000 in
set_option maxHeartbeats 4000000 in
theorem ok_M_down {a1 : Int64} {S : hs_S} {Q : Int64 → hs_S → Prop} (hw : hs_Wi S) (hv : vc_M_down a1 S Q) : m_M_down a1 S Q := by
  unfold vc_M_down at hv
  refine hs_body (own := RX11) rfl rfl (Nat.le_of_ble_eq_true rfl) (fun Z X E N J0 => ?_)
  show wa Z 0 0 S 0 [(0, .inr (.inl a1))] []
  refine wa_lload_n X 0 rfl dX11_down_0 rfl ?_
  refine wa_lconst X dX11_down_1 kl0 ?_
  refine wa_lcmp X dX11_down_2 ?_
  refine wa_if_lt X (tgt := 14) dX11_down_3 (by decide) (fun c1 => ?_) (fun c1 => ?_)
  · replace hv := hv.1 c1
    refine wa_ldc2 X kw_1607 dX11_down_14 ?_
    refine wa_lload_n X 0 rfl dX11_down_17 rfl ?_
    refine wa_lsub X dX11_down_18 ?_
    refine wa_ldc2 X kw_1606 dX11_down_19 ?_
    refine wa_ldiv X dX11_down_22 (by decide) ?_
    refine wa_lneg X dX11_down_23 ?_
    exact wa_lreturn X E dX11_down_24 (Nat.le_of_ble_eq_true rfl) (Nat.le_of_ble_eq_true rfl) ⟨hw, _, rfl, hv⟩
  · replace hv := hv.2 c1
    refine wa_lload_n X 0 rfl dX11_down_6 rfl ?_
    refine wa_ldc2 X kw_1606 dX11_down_7 ?_
    refine wa_ldiv X dX11_down_10 (by decide) ?_
    refine wa_goto X (tgt := 24) dX11_down_11 (by decide) ?_
    exact wa_lreturn X E dX11_down_24 (Nat.le_of_ble_eq_true rfl) (Nat.le_of_ble_eq_true rfl) ⟨hw, _, rfl, hv⟩
theorem v_M_down {a1 : Int64} {S : hs_S} : vc_M_down a1 S (fun r S' => r = F_down a1 ∧ S' = S) := by
  unfold vc_M_down F_down
  refine ⟨fun h => ⟨(if_pos ((lg_cmp_lt _ _).mp h)).symm, rfl⟩, fun h => ⟨(if_neg fun q => h ((lg_cmp_lt _ _).mpr q)).symm, rfl⟩⟩
theorem f_M_down {a1 : Int64} {S : hs_S} (hw : hs_Wi S) : hs_M 1 yX11_down (.code yX11_down cX11_down 2 (some FieldType.long)) [.inr (.inl a1)] S 0 0 (hs_pd (some (.inr (.inl (F_down a1)))) S) hs_nX := hs_pdL (ok_M_down hw (v_M_down))

def mDueT (S : hs_S) (o r : Int32) (b : Nat) : Int64 := if S.1 72 1 b = r ∧ S.1 65 1 b = o then (if S.1 67 1 b = 0 then -F_costOf (nI b) S else F_costOf (nI b) S + F_feeOf (nI b) S) else 0
def mDueI (S : hs_S) (o r : Int32) (acc : Int64) : Nat → Int64
  | 0 => acc
  | b + 1 => mDueI S o r acc b + mDueT S o r b
def mDue (S : hs_S) (o col : Int32) : Nat → Int64
  | 0 => -(S.2.2.1 86 1 (4 * o + col).toNatClampNeg)
  | r + 1 => if S.1 77 1 r = col ∧ ¬ S.1 81 1 r = -1 then mDueI S o (nI r) (mDue S o col r - (if F_ownerAt (6 * col + 1) (S.1 78 1 r) S = o then F_feesOf (nI r) S else 0)) (S.1 11 1 24).toNatClampNeg else mDue S o col r
def F_dueOf (a1 a2 : Int32) (S : hs_S) : Int64 := mDue S a1 a2 (S.1 11 1 36).toNatClampNeg
def P_dueOf (a1 a2 : Int32) (S : hs_S) : Prop := (0 ≤ (4 * a1 + a2).toInt ∧ (4 * a1 + a2).toInt < 24) ∧ cN (S.1 11 1 36) 30 ∧ cN (S.1 11 1 24) 80 ∧ cN (S.1 11 1 1) 1200
def m_M_dueOf (a1 : Int32) (a2 : Int32) (S : hs_S) (Q : Int64 → hs_S → Prop) : Prop := hs_M 4 yX11_dueOf (.code yX11_dueOf cX11_dueOf 8 (some FieldType.long)) [.inr (.inr (11, 1)), .inl a1, .inl a2] S 0 0 (hs_qL Q) hs_nX
def vc_M_dueOf (a1 : Int32) (a2 : Int32) (S : hs_S) (Q : Int64 → hs_S → Prop) : Prop := ((0 ≤ (((4 : Int32) * a1) + a2).toInt ∧ (((4 : Int32) * a1) + a2).toInt < 24) ∧ (∃ I4 : Nat → Int64 → Int32 → Prop, (∃ n8, I4 n8 (-(S.2.2.1 86 1 (((4 : Int32) * a1) + a2).toNatClampNeg)) (0 : Int32)) ∧ (∀ N5 : Nat, ∀ x2 : Int64, ∀ x3 : Int32, I4 N5 x2 x3 → (((S.1 11 1 36) ≤ x3 → (Q x2 S)) ∧ (¬ (S.1 11 1 36) ≤ x3 → ((0 ≤ x3.toInt ∧ x3.toInt < 30) ∧ ((¬ (S.1 77 1 x3.toNatClampNeg) = a2 → (∃ q15, q15 < N5 ∧ I4 q15 x2 (x3 + 1))) ∧ ((S.1 77 1 x3.toNatClampNeg) = a2 → (((S.1 81 1 x3.toNatClampNeg) = (-1 : Int32) → (∃ q18, q18 < N5 ∧ I4 q18 x2 (x3 + 1))) ∧ (¬ (S.1 81 1 x3.toNatClampNeg) = (-1 : Int32) → ((P_ownerAt (((6 : Int32) * a2) + (1 : Int32)) (S.1 78 1 x3.toNatClampNeg) S) ∧ (((¬ (F_ownerAt (((6 : Int32) * a2) + (1 : Int32)) (S.1 78 1 x3.toNatClampNeg) S) = a1 → True) ∧ ((F_ownerAt (((6 : Int32) * a2) + (1 : Int32)) (S.1 78 1 x3.toNatClampNeg) S) = a1 → ((P_feesOf x3 S) ∧ True))) ∧ (∀ x21 : Int64, x21 = (if (F_ownerAt (((6 : Int32) * a2) + (1 : Int32)) (S.1 78 1 x3.toNatClampNeg) S) = a1 then (F_feesOf x3 S) else (0 : Int64)) → (∃ I24 : Nat → Int64 → Int32 → Prop, (∃ n28, I24 n28 (x2 - x21) (0 : Int32)) ∧ (∀ N25 : Nat, ∀ x22 : Int64, ∀ x23 : Int32, I24 N25 x22 x23 → (((S.1 11 1 24) ≤ x23 → (∃ q33, q33 < N5 ∧ I4 q33 x22 (x3 + 1))) ∧ (¬ (S.1 11 1 24) ≤ x23 → ((0 ≤ x23.toInt ∧ x23.toInt < 80) ∧ (∀ x36 : Int32, x36 = (if (S.1 72 1 x23.toNatClampNeg) = x3 then (if (S.1 65 1 x23.toNatClampNeg) = a1 then (1 : Int32) else (0 : Int32)) else (0 : Int32)) → ((¬ x36 = 0 → (((S.1 67 1 x23.toNatClampNeg) = 0 → ((P_costOf x23 S) ∧ (∃ q40, q40 < N25 ∧ I24 q40 (x22 + (-(F_costOf x23 S))) (x23 + 1)))) ∧ (¬ (S.1 67 1 x23.toNatClampNeg) = 0 → ((P_costOf x23 S) ∧ ((P_feeOf x23 S) ∧ (∃ q44, q44 < N25 ∧ I24 q44 (x22 + ((F_costOf x23 S) + (F_feeOf x23 S))) (x23 + 1))))))) ∧ (x36 = 0 → (∃ q46, q46 < N25 ∧ I24 q46 (x22 + (0 : Int64)) (x23 + 1)))))))))))))))))))))))
set_option maxRecDepth 100000 in
set_option maxHeartbeats 4000000 in
theorem ok_M_dueOf {a1 : Int32} {a2 : Int32} {S : hs_S} {Q : Int64 → hs_S → Prop} (hw : hs_Wi S) (hv : vc_M_dueOf a1 a2 S Q) : m_M_dueOf a1 a2 S Q := by
  unfold vc_M_dueOf at hv
  refine hs_body (own := RX11) rfl rfl (Nat.le_of_ble_eq_true rfl) (fun Z X E N J0 => ?_)
  show wa Z 0 0 S 0 [(0, .inr (.inr (11, 1))), (1, .inl a1), (2, .inl a2)] []
  refine wa_aload_n X 0 rfl dX11_dueOf_0 rfl ?_
  refine wa_getfw X hw (j := 46) (r := 1) hk_11 hc_11 i_11 (by decide) kw_1230 rfl rfl (by decide) rfl dX11_dueOf_1 hs_1ne ?_
  refine wa_iconst X dX11_dueOf_4 kc4 ?_
  refine wa_iload_n X 1 rfl dX11_dueOf_5 rfl ?_
  refine wa_imul X dX11_dueOf_6 ?_
  refine wa_iload_n X 2 rfl dX11_dueOf_7 rfl ?_
  refine wa_iadd X dX11_dueOf_8 ?_
  obtain ⟨o1, hv⟩ := hv
  refine wa_lald X hk_86 dX11_dueOf_9 hs_1ne o1 ?_
  refine wa_lneg X dX11_dueOf_10 ?_
  refine wa_lstore_n X (lv' := [(3, .inr (.inl (-(S.2.2.1 86 1 (((4 : Int32) * a1) + a2).toNatClampNeg)))), (0, .inr (.inr (11, 1))), (1, .inl a1), (2, .inl a2)]) dX11_dueOf_11 rfl (by decide) rfl ?_
  refine wa_iconst X dX11_dueOf_12 kc0 ?_
  refine wa_istore X (lv' := [(5, .inl (0 : Int32)), (3, .inr (.inl (-(S.2.2.1 86 1 (((4 : Int32) * a1) + a2).toNatClampNeg)))), (0, .inr (.inr (11, 1))), (1, .inl a1), (2, .inl a2)]) dX11_dueOf_13 (by decide) rfl ?_
  obtain ⟨I4, ⟨n8, i6⟩, b7⟩ := hv
  refine wa_lv (lv' := [(0, .inr (.inr (11, 1))), (1, .inl a1), (2, .inl a2), (3, .inr (.inl (-(S.2.2.1 86 1 (((4 : Int32) * a1) + a2).toNatClampNeg)))), (5, .inl (0 : Int32))]) [2, 3, 4, 1, 0] rfl ?_
  suffices L9 : ∀ N5 : Nat, ∀ x2 : Int64, ∀ x3 : Int32, I4 N5 x2 x3 → wa Z 0 0 S 15 [(0, .inr (.inr (11, 1))), (1, .inl a1), (2, .inl a2), (3, .inr (.inl x2)), (5, .inl x3)] [] from L9 _ _ _ i6
  clear i6
  intro N5
  induction N5 using Nat.strongRecOn with
  | _ N5 h10 =>
    intro x2 x3 j11
    have hv := b7 N5 x2 x3 j11
    refine wa_iload X 4 rfl dX11_dueOf_15 ?_
    refine wa_aload_n X 0 rfl dX11_dueOf_17 rfl ?_
    refine wa_getI X (j := 36) hk_11 hc_11 i_11 (by decide) kw_1220 rfl dX11_dueOf_18 hs_1ne ?_
    refine wa_icmp_ge X (tgt := 179) dX11_dueOf_21 (by decide) (fun c12 => ?_) (fun c12 => ?_)
    · replace hv := hv.1 c12
      refine wa_lload_n X 3 rfl dX11_dueOf_179 rfl ?_
      exact wa_lreturn X E dX11_dueOf_180 (Nat.le_of_ble_eq_true rfl) (Nat.le_of_ble_eq_true rfl) ⟨hw, _, rfl, hv⟩
    · replace hv := hv.2 c12
      refine wa_aload_n X 0 rfl dX11_dueOf_24 rfl ?_
      refine wa_getfw X hw (j := 37) (r := 1) hk_11 hc_11 i_11 (by decide) kw_1221 rfl rfl (by decide) rfl dX11_dueOf_25 hs_1ne ?_
      refine wa_iload X 4 rfl dX11_dueOf_28 ?_
      obtain ⟨o13, hv⟩ := hv
      refine wa_iald X hk_77 dX11_dueOf_30 hs_1ne o13 ?_
      refine wa_iload_n X 2 rfl dX11_dueOf_31 rfl ?_
      refine wa_icmp_ne X (tgt := 173) dX11_dueOf_32 (by decide) (fun c14 => ?_) (fun c14 => ?_)
      · replace hv := hv.1 c14
        refine wa_iinc X (v := (x3 + 1)) (lv' := [(5, .inl (x3 + 1)), (0, .inr (.inr (11, 1))), (1, .inl a1), (2, .inl a2), (3, .inr (.inl x2))]) 4 rfl dX11_dueOf_173 rfl (by decide) rfl ?_
        refine wa_goto X (tgt := 15) dX11_dueOf_176 (by decide) ?_
        obtain ⟨q15, p16, hv⟩ := hv
        refine wa_lv (lv' := [(0, .inr (.inr (11, 1))), (1, .inl a1), (2, .inl a2), (3, .inr (.inl x2)), (5, .inl (x3 + 1))]) [1, 2, 3, 4, 0] rfl ?_
        exact h10 q15 p16 _ _ hv
      · replace hv := hv.2 c14
        refine wa_aload_n X 0 rfl dX11_dueOf_35 rfl ?_
        refine wa_getfw X hw (j := 41) (r := 1) hk_11 hc_11 i_11 (by decide) kw_1225 rfl rfl (by decide) rfl dX11_dueOf_36 hs_1ne ?_
        refine wa_iload X 4 rfl dX11_dueOf_39 ?_
        refine wa_iald X hk_81 dX11_dueOf_41 hs_1ne o13 ?_
        refine wa_iconst X dX11_dueOf_42 kcm1 ?_
        refine wa_icmp_eq X (tgt := 173) dX11_dueOf_43 (by decide) (fun c17 => ?_) (fun c17 => ?_)
        · replace hv := hv.1 c17
          refine wa_iinc X (v := (x3 + 1)) (lv' := [(5, .inl (x3 + 1)), (0, .inr (.inr (11, 1))), (1, .inl a1), (2, .inl a2), (3, .inr (.inl x2))]) 4 rfl dX11_dueOf_173 rfl (by decide) rfl ?_
          refine wa_goto X (tgt := 15) dX11_dueOf_176 (by decide) ?_
          obtain ⟨q18, p19, hv⟩ := hv
          refine wa_lv (lv' := [(0, .inr (.inr (11, 1))), (1, .inl a1), (2, .inl a2), (3, .inr (.inl x2)), (5, .inl (x3 + 1))]) [1, 2, 3, 4, 0] rfl ?_
          exact h10 q18 p19 _ _ hv
        · replace hv := hv.2 c17
          refine wa_lload_n X 3 rfl dX11_dueOf_46 rfl ?_
          refine wa_aload_n X 0 rfl dX11_dueOf_47 rfl ?_
          refine wa_bipush X dX11_dueOf_48 kb6 ?_
          refine wa_iload_n X 2 rfl dX11_dueOf_50 rfl ?_
          refine wa_imul X dX11_dueOf_51 ?_
          refine wa_iconst X dX11_dueOf_52 kc1 ?_
          refine wa_iadd X dX11_dueOf_53 ?_
          refine wa_aload_n X 0 rfl dX11_dueOf_54 rfl ?_
          refine wa_getfw X hw (j := 38) (r := 1) hk_11 hc_11 i_11 (by decide) kw_1222 rfl rfl (by decide) rfl dX11_dueOf_55 hs_1ne ?_
          refine wa_iload X 4 rfl dX11_dueOf_58 ?_
          refine wa_iald X hk_78 dX11_dueOf_60 hs_1ne o13 ?_
          obtain ⟨o20, hv⟩ := hv
          refine wa_callV X (As := [.inl (((6 : Int32) * a2) + (1 : Int32)), .inl (S.1 78 1 x3.toNatClampNeg)]) (f_M_ownerAt hw o20) hk_11 hc_11 rfl kw_1387 kw_66 kw_1384 kw_1386 kw_21 nd_X11_ownerAt rfl rfl (Nat.le_of_ble_eq_true rfl) dX11_dueOf_61 hs_1ne ⟨⟨Nat.le_of_ble_eq_true rfl, Nat.le_of_ble_eq_true rfl⟩, Nat.le_of_ble_eq_true rfl, Nat.le_of_ble_eq_true rfl⟩ (hs_pdk0 ?_) (fun _ _ h => h.elim)
          refine wa_iload_n X 1 rfl dX11_dueOf_64 rfl ?_
          obtain ⟨o53, hv⟩ := hv
          have k52 : ∀ (x21 : Int64), x21 = (if (F_ownerAt (((6 : Int32) * a2) + (1 : Int32)) (S.1 78 1 x3.toNatClampNeg) S) = a1 then (F_feesOf x3 S) else (0 : Int64)) → wa Z 0 0 S 78 [(0, .inr (.inr (11, 1))), (1, .inl a1), (2, .inl a2), (5, .inl x3)] [.inr (.inl x21), .inr (.inl x2)] := by
            intro x21 hE
            replace hv := hv _ hE
            refine wa_lsub X dX11_dueOf_78 ?_
            refine wa_lstore_n X (lv' := [(3, .inr (.inl (x2 - x21))), (0, .inr (.inr (11, 1))), (1, .inl a1), (2, .inl a2), (5, .inl x3)]) dX11_dueOf_79 rfl (by decide) rfl ?_
            refine wa_iconst X dX11_dueOf_80 kc0 ?_
            refine wa_istore X (lv' := [(6, .inl (0 : Int32)), (3, .inr (.inl (x2 - x21))), (0, .inr (.inr (11, 1))), (1, .inl a1), (2, .inl a2), (5, .inl x3)]) dX11_dueOf_81 (by decide) rfl ?_
            obtain ⟨I24, ⟨n28, i26⟩, b27⟩ := hv
            refine wa_lv (lv' := [(0, .inr (.inr (11, 1))), (1, .inl a1), (2, .inl a2), (3, .inr (.inl (x2 - x21))), (5, .inl x3), (6, .inl (0 : Int32))]) [2, 3, 4, 1, 5, 0] rfl ?_
            suffices L29 : ∀ N25 : Nat, ∀ x22 : Int64, ∀ x23 : Int32, I24 N25 x22 x23 → wa Z 0 0 S 83 [(0, .inr (.inr (11, 1))), (1, .inl a1), (2, .inl a2), (3, .inr (.inl x22)), (5, .inl x3), (6, .inl x23)] [] from L29 _ _ _ i26
            clear i26
            intro N25
            induction N25 using Nat.strongRecOn with
            | _ N25 h30 =>
              intro x22 x23 j31
              have hv := b27 N25 x22 x23 j31
              refine wa_iload X 5 rfl dX11_dueOf_83 ?_
              refine wa_aload_n X 0 rfl dX11_dueOf_85 rfl ?_
              refine wa_getI X (j := 24) hk_11 hc_11 i_11 (by decide) kw_1208 rfl dX11_dueOf_86 hs_1ne ?_
              refine wa_icmp_ge X (tgt := 173) dX11_dueOf_89 (by decide) (fun c32 => ?_) (fun c32 => ?_)
              · replace hv := hv.1 c32
                refine wa_iinc X (v := (x3 + 1)) (lv' := [(5, .inl (x3 + 1)), (0, .inr (.inr (11, 1))), (1, .inl a1), (2, .inl a2), (3, .inr (.inl x22)), (6, .inl x23)]) 4 rfl dX11_dueOf_173 rfl (by decide) rfl ?_
                refine wa_goto X (tgt := 15) dX11_dueOf_176 (by decide) ?_
                obtain ⟨q33, p34, hv⟩ := hv
                refine wa_lv (lv' := [(0, .inr (.inr (11, 1))), (1, .inl a1), (2, .inl a2), (3, .inr (.inl x22)), (5, .inl (x3 + 1))]) [1, 2, 3, 4, 0] rfl ?_
                exact h10 q33 p34 _ _ hv
              · replace hv := hv.2 c32
                refine wa_aload_n X 0 rfl dX11_dueOf_92 rfl ?_
                refine wa_getfw X hw (j := 32) (r := 1) hk_11 hc_11 i_11 (by decide) kw_1216 rfl rfl (by decide) rfl dX11_dueOf_93 hs_1ne ?_
                refine wa_iload X 5 rfl dX11_dueOf_96 ?_
                obtain ⟨o35, hv⟩ := hv
                refine wa_iald X hk_72 dX11_dueOf_98 hs_1ne o35 ?_
                refine wa_iload X 4 rfl dX11_dueOf_99 ?_
                have k48 : ∀ (x36 : Int32), x36 = (if (S.1 72 1 x23.toNatClampNeg) = x3 then (if (S.1 65 1 x23.toNatClampNeg) = a1 then (1 : Int32) else (0 : Int32)) else (0 : Int32)) → wa Z 0 0 S 120 [(0, .inr (.inr (11, 1))), (1, .inl a1), (2, .inl a2), (3, .inr (.inl x22)), (5, .inl x3), (6, .inl x23)] [.inl x36] := by
                  intro x36 hE
                  replace hv := hv _ hE
                  refine wa_istore X (lv' := [(7, .inl x36), (0, .inr (.inr (11, 1))), (1, .inl a1), (2, .inl a2), (3, .inr (.inl x22)), (5, .inl x3), (6, .inl x23)]) dX11_dueOf_120 (by decide) rfl ?_
                  refine wa_lload_n X 4 rfl dX11_dueOf_122 rfl ?_
                  refine wa_iload X 0 rfl dX11_dueOf_123 ?_
                  refine wa_if_ne X (tgt := 132) dX11_dueOf_125 (by decide) (fun c37 => ?_) (fun c37 => ?_)
                  · replace hv := hv.1 c37
                    refine wa_aload_n X 1 rfl dX11_dueOf_132 rfl ?_
                    refine wa_getfw X hw (j := 27) (r := 1) hk_11 hc_11 i_11 (by decide) kw_1211 rfl rfl (by decide) rfl dX11_dueOf_133 hs_1ne ?_
                    refine wa_iload X 6 rfl dX11_dueOf_136 ?_
                    refine wa_bald X hk_67 dX11_dueOf_138 hs_1ne o35 ?_
                    refine wa_if_eq X (tgt := 158) dX11_dueOf_139 (by decide) (fun c38 => ?_) (fun c38 => ?_)
                    · replace hv := hv.1 c38
                      refine wa_aload_n X 1 rfl dX11_dueOf_158 rfl ?_
                      refine wa_iload X 6 rfl dX11_dueOf_159 ?_
                      obtain ⟨o39, hv⟩ := hv
                      refine wa_callV X (As := [.inl x23]) (f_M_costOf hw o39) hk_11 hc_11 rfl kw_1541 kw_66 kw_1538 kw_1540 kw_44 nd_X11_costOf rfl rfl (Nat.le_of_ble_eq_true rfl) dX11_dueOf_161 hs_1ne ⟨⟨Nat.le_of_ble_eq_true rfl, Nat.le_of_ble_eq_true rfl⟩, Nat.le_of_ble_eq_true rfl, Nat.le_of_ble_eq_true rfl⟩ (hs_pdk0 ?_) (fun _ _ h => h.elim)
                      refine wa_lneg X dX11_dueOf_164 ?_
                      refine wa_ladd X dX11_dueOf_165 ?_
                      refine wa_lstore_n X (lv' := [(3, .inr (.inl (x22 + (-(F_costOf x23 S))))), (7, .inl x36), (0, .inr (.inr (11, 1))), (1, .inl a1), (2, .inl a2), (5, .inl x3), (6, .inl x23)]) dX11_dueOf_166 rfl (by decide) rfl ?_
                      refine wa_iinc X (v := (x23 + 1)) (lv' := [(6, .inl (x23 + 1)), (3, .inr (.inl (x22 + (-(F_costOf x23 S))))), (7, .inl x36), (0, .inr (.inr (11, 1))), (1, .inl a1), (2, .inl a2), (5, .inl x3)]) 6 rfl dX11_dueOf_167 rfl (by decide) rfl ?_
                      refine wa_goto X (tgt := 83) dX11_dueOf_170 (by decide) ?_
                      obtain ⟨q40, p41, hv⟩ := hv
                      refine wa_lv (lv' := [(0, .inr (.inr (11, 1))), (1, .inl a1), (2, .inl a2), (3, .inr (.inl (x22 + (-(F_costOf x23 S))))), (5, .inl x3), (6, .inl (x23 + 1))]) [3, 4, 5, 1, 6, 0] rfl ?_
                      exact h30 q40 p41 _ _ hv
                    · replace hv := hv.2 c38
                      refine wa_aload_n X 1 rfl dX11_dueOf_142 rfl ?_
                      refine wa_iload X 6 rfl dX11_dueOf_143 ?_
                      obtain ⟨o42, hv⟩ := hv
                      refine wa_callV X (As := [.inl x23]) (f_M_costOf hw o42) hk_11 hc_11 rfl kw_1541 kw_66 kw_1538 kw_1540 kw_44 nd_X11_costOf rfl rfl (Nat.le_of_ble_eq_true rfl) dX11_dueOf_145 hs_1ne ⟨⟨Nat.le_of_ble_eq_true rfl, Nat.le_of_ble_eq_true rfl⟩, Nat.le_of_ble_eq_true rfl, Nat.le_of_ble_eq_true rfl⟩ (hs_pdk0 ?_) (fun _ _ h => h.elim)
                      refine wa_aload_n X 1 rfl dX11_dueOf_148 rfl ?_
                      refine wa_iload X 6 rfl dX11_dueOf_149 ?_
                      obtain ⟨o43, hv⟩ := hv
                      refine wa_callV X (As := [.inl x23]) (f_M_feeOf hw o43) hk_11 hc_11 rfl kw_1537 kw_66 kw_1534 kw_1536 kw_43 nd_X11_feeOf rfl rfl (Nat.le_of_ble_eq_true rfl) dX11_dueOf_151 hs_1ne ⟨⟨Nat.le_of_ble_eq_true rfl, Nat.le_of_ble_eq_true rfl⟩, Nat.le_of_ble_eq_true rfl, Nat.le_of_ble_eq_true rfl⟩ (hs_pdk0 ?_) (fun _ _ h => h.elim)
                      refine wa_ladd X dX11_dueOf_154 ?_
                      refine wa_goto X (tgt := 165) dX11_dueOf_155 (by decide) ?_
                      refine wa_ladd X dX11_dueOf_165 ?_
                      refine wa_lstore_n X (lv' := [(3, .inr (.inl (x22 + ((F_costOf x23 S) + (F_feeOf x23 S))))), (7, .inl x36), (0, .inr (.inr (11, 1))), (1, .inl a1), (2, .inl a2), (5, .inl x3), (6, .inl x23)]) dX11_dueOf_166 rfl (by decide) rfl ?_
                      refine wa_iinc X (v := (x23 + 1)) (lv' := [(6, .inl (x23 + 1)), (3, .inr (.inl (x22 + ((F_costOf x23 S) + (F_feeOf x23 S))))), (7, .inl x36), (0, .inr (.inr (11, 1))), (1, .inl a1), (2, .inl a2), (5, .inl x3)]) 6 rfl dX11_dueOf_167 rfl (by decide) rfl ?_
                      refine wa_goto X (tgt := 83) dX11_dueOf_170 (by decide) ?_
                      obtain ⟨q44, p45, hv⟩ := hv
                      refine wa_lv (lv' := [(0, .inr (.inr (11, 1))), (1, .inl a1), (2, .inl a2), (3, .inr (.inl (x22 + ((F_costOf x23 S) + (F_feeOf x23 S))))), (5, .inl x3), (6, .inl (x23 + 1))]) [3, 4, 5, 1, 6, 0] rfl ?_
                      exact h30 q44 p45 _ _ hv
                  · replace hv := hv.2 c37
                    refine wa_lconst X dX11_dueOf_128 kl0 ?_
                    refine wa_goto X (tgt := 165) dX11_dueOf_129 (by decide) ?_
                    refine wa_ladd X dX11_dueOf_165 ?_
                    refine wa_lstore_n X (lv' := [(3, .inr (.inl (x22 + (0 : Int64)))), (7, .inl x36), (0, .inr (.inr (11, 1))), (1, .inl a1), (2, .inl a2), (5, .inl x3), (6, .inl x23)]) dX11_dueOf_166 rfl (by decide) rfl ?_
                    refine wa_iinc X (v := (x23 + 1)) (lv' := [(6, .inl (x23 + 1)), (3, .inr (.inl (x22 + (0 : Int64)))), (7, .inl x36), (0, .inr (.inr (11, 1))), (1, .inl a1), (2, .inl a2), (5, .inl x3)]) 6 rfl dX11_dueOf_167 rfl (by decide) rfl ?_
                    refine wa_goto X (tgt := 83) dX11_dueOf_170 (by decide) ?_
                    obtain ⟨q46, p47, hv⟩ := hv
                    refine wa_lv (lv' := [(0, .inr (.inr (11, 1))), (1, .inl a1), (2, .inl a2), (3, .inr (.inl (x22 + (0 : Int64)))), (5, .inl x3), (6, .inl (x23 + 1))]) [3, 4, 5, 1, 6, 0] rfl ?_
                    exact h30 q46 p47 _ _ hv
                clear hv
                refine wa_icmp_ne X (tgt := 119) dX11_dueOf_101 (by decide) (fun c50 => ?_) (fun c50 => ?_)
                · refine wa_iconst X dX11_dueOf_119 kc0 ?_
                  refine wa_lv (lv' := [(0, .inr (.inr (11, 1))), (1, .inl a1), (2, .inl a2), (3, .inr (.inl x22)), (5, .inl x3), (6, .inl x23)]) [0, 1, 2, 3, 4, 5] rfl ?_
                  exact wa_wid (Nat.le_of_ble_eq_true rfl) (Nat.le_of_ble_eq_true rfl) (k48 _  (by rw [if_neg c50]))
                · refine wa_aload_n X 0 rfl dX11_dueOf_104 rfl ?_
                  refine wa_getfw X hw (j := 25) (r := 1) hk_11 hc_11 i_11 (by decide) kw_1209 rfl rfl (by decide) rfl dX11_dueOf_105 hs_1ne ?_
                  refine wa_iload X 5 rfl dX11_dueOf_108 ?_
                  refine wa_iald X hk_65 dX11_dueOf_110 hs_1ne o35 ?_
                  refine wa_iload_n X 1 rfl dX11_dueOf_111 rfl ?_
                  refine wa_icmp_ne X (tgt := 119) dX11_dueOf_112 (by decide) (fun c51 => ?_) (fun c51 => ?_)
                  · refine wa_iconst X dX11_dueOf_119 kc0 ?_
                    refine wa_lv (lv' := [(0, .inr (.inr (11, 1))), (1, .inl a1), (2, .inl a2), (3, .inr (.inl x22)), (5, .inl x3), (6, .inl x23)]) [0, 1, 2, 3, 4, 5] rfl ?_
                    exact wa_wid (Nat.le_of_ble_eq_true rfl) (Nat.le_of_ble_eq_true rfl) (k48 _  (by rw [if_pos c50, if_neg c51]))
                  · refine wa_iconst X dX11_dueOf_115 kc1 ?_
                    refine wa_goto X (tgt := 120) dX11_dueOf_116 (by decide) ?_
                    refine wa_lv (lv' := [(0, .inr (.inr (11, 1))), (1, .inl a1), (2, .inl a2), (3, .inr (.inl x22)), (5, .inl x3), (6, .inl x23)]) [0, 1, 2, 3, 4, 5] rfl ?_
                    exact wa_wid (Nat.le_of_ble_eq_true rfl) (Nat.le_of_ble_eq_true rfl) (k48 _  (by rw [if_pos c50, if_pos c51]))
          replace hv := o53
          refine wa_icmp_ne X (tgt := 77) dX11_dueOf_65 (by decide) (fun c55 => ?_) (fun c55 => ?_)
          · replace hv := hv.1 c55
            refine wa_lconst X dX11_dueOf_77 kl0 ?_
            refine wa_lv (lv' := [(0, .inr (.inr (11, 1))), (1, .inl a1), (2, .inl a2), (5, .inl x3)]) [0, 1, 2, 4] rfl ?_
            exact wa_wid (Nat.le_of_ble_eq_true rfl) (Nat.le_of_ble_eq_true rfl) (k52 _  (by rw [if_neg c55]))
          · replace hv := hv.2 c55
            refine wa_aload_n X 0 rfl dX11_dueOf_68 rfl ?_
            refine wa_iload X 4 rfl dX11_dueOf_69 ?_
            obtain ⟨o56, hv⟩ := hv
            refine wa_callV X (As := [.inl x3]) (f_M_feesOf hw o56) hk_11 hc_11 rfl kw_1533 kw_66 kw_1530 kw_1532 kw_42 nd_X11_feesOf rfl rfl (Nat.le_of_ble_eq_true rfl) dX11_dueOf_71 hs_1ne ⟨⟨Nat.le_of_ble_eq_true rfl, Nat.le_of_ble_eq_true rfl⟩, Nat.le_of_ble_eq_true rfl, Nat.le_of_ble_eq_true rfl⟩ (hs_pdk0 ?_) (fun _ _ h => h.elim)
            refine wa_goto X (tgt := 78) dX11_dueOf_74 (by decide) ?_
            refine wa_lv (lv' := [(0, .inr (.inr (11, 1))), (1, .inl a1), (2, .inl a2), (5, .inl x3)]) [0, 1, 2, 4] rfl ?_
            exact wa_wid (Nat.le_of_ble_eq_true rfl) (Nat.le_of_ble_eq_true rfl) (k52 _  (by rw [if_pos c55]))
theorem v_M_dueOf {a1 a2 : Int32} {S : hs_S} (hP : P_dueOf a1 a2 S) : vc_M_dueOf a1 a2 S (fun r S' => r = F_dueOf a1 a2 S ∧ S' = S) := by
  obtain ⟨hi, ⟨g, hg, eg⟩, hB, hO⟩ := hP
  have hB' := hB
  obtain ⟨n, hn, en⟩ := hB
  unfold vc_M_dueOf F_dueOf
  rw [eg, hl_cl (by omega)]
  refine ⟨hi, fun N x1 x2 => ∃ k, k ≤ g ∧ x2 = nI k ∧ x1 = mDue S a1 a2 k ∧ N = g - k, ⟨g, 0, Nat.zero_le _, rfl, rfl, rfl⟩, ?_⟩
  rintro N x1 x2 ⟨k, hk, rfl, rfl, rfl⟩
  refine ⟨fun h => ?_, fun h => ?_⟩
  · have := hl_end (by omega) hk h
    subst this
    exact ⟨rfl, rfl⟩
  · have hk1 := hl_go (by omega) hk h
    have hc : (nI k).toNatClampNeg = k := hl_cl (by omega)
    rw [hc]
    have hx := hl_ix (k := k) (n := 30) (by omega) (by omega)
    refine ⟨hx, fun h1 => hl_nx hk1 (if_neg fun q => h1 q.1).symm, fun h1 => ⟨fun h2 => hl_nx hk1 (if_neg fun q => q.2 h2).symm, fun h2 => ⟨hO, ⟨fun _ => trivial, fun _ => ⟨⟨hB', hx⟩, trivial⟩⟩, fun x hx3 => ?_⟩⟩⟩
    subst hx3
    have es : mDue S a1 a2 (k + 1) = mDueI S a1 (nI k) (mDue S a1 a2 k - (if F_ownerAt (6 * a2 + 1) (S.1 78 1 k) S = a1 then F_feesOf (nI k) S else 0)) n := by
      rw [mDue, if_pos ⟨h1, h2⟩, en, hl_cl (by omega)]
    rw [en]
    refine ⟨fun N2 y1 y2 => ∃ b, b ≤ n ∧ y2 = nI b ∧ y1 = mDueI S a1 (nI k) (mDue S a1 a2 k - (if F_ownerAt (6 * a2 + 1) (S.1 78 1 k) S = a1 then F_feesOf (nI k) S else 0)) b ∧ N2 = n - b, ⟨n, 0, Nat.zero_le _, rfl, rfl, rfl⟩, ?_⟩
    rintro N2 y1 y2 ⟨b, hb, rfl, rfl, rfl⟩
    refine ⟨fun q => ?_, fun q => ?_⟩
    · have := hl_end (by omega) hb q
      subst this
      exact hl_nx hk1 es.symm
    · have hb1 := hl_go (by omega) hb q
      have hcb : (nI b).toNatClampNeg = b := hl_cl (by omega)
      rw [hcb]
      have hxb := hl_ix (k := b) (n := 80) (by omega) (by omega)
      refine ⟨hxb, fun z hz => ?_⟩
      have hz2 : z = bI (S.1 72 1 b = nI k ∧ S.1 65 1 b = a1) := by
        rw [hz]; unfold bI
        by_cases p1 : S.1 72 1 b = nI k <;> by_cases p2 : S.1 65 1 b = a1 <;> simp only [p1, p2, if_true, if_false, and_true, true_and, and_false, false_and]
      clear hz
      subst hz2
      refine ⟨fun p => ?_, fun p => hl_nx hb1 ?_⟩
      · have p2 : S.1 72 1 b = nI k ∧ S.1 65 1 b = a1 := Classical.not_not.mp fun w => p (bI_eq0.mpr w)
        have pc : P_costOf (nI b) S := ⟨hxb, by rw [hcb, p2.1]; exact hx⟩
        refine ⟨fun p3 => ⟨pc, hl_nx hb1 ?_⟩, fun p3 => ⟨pc, pc, hl_nx hb1 ?_⟩⟩
        · show _ = mDueI S a1 (nI k) _ b + mDueT S a1 (nI k) b
          unfold mDueT
          rw [if_pos p2, if_pos p3]
        · show _ = mDueI S a1 (nI k) _ b + mDueT S a1 (nI k) b
          unfold mDueT
          rw [if_pos p2, if_neg p3]
      · show _ = mDueI S a1 (nI k) _ b + mDueT S a1 (nI k) b
        unfold mDueT
        rw [if_neg (bI_eq0.mp p)]
theorem f_M_dueOf {a1 : Int32} {a2 : Int32} {S : hs_S} (hw : hs_Wi S) (hP : P_dueOf a1 a2 S) : hs_M 4 yX11_dueOf (.code yX11_dueOf cX11_dueOf 8 (some FieldType.long)) [.inr (.inr (11, 1)), .inl a1, .inl a2] S 0 0 (hs_pd (some (.inr (.inl (F_dueOf a1 a2 S)))) S) hs_nX := hs_pdL (ok_M_dueOf hw (v_M_dueOf hP))

abbrev mExC (S : hs_S) (o : Int32) (b : Nat) : Prop := S.1 65 1 b = o ∧ ¬ S.1 67 1 b = 0 ∧ S.1 72 1 b = -1 ∧ S.1 71 1 b = -1
def mExB (S : hs_S) (o : Int32) : Nat → Int64
  | 0 => 0
  | b + 1 => if mExC S o b then mExB S o b + (S.1 68 1 b).toInt64 * (S.1 69 1 b).toInt64 else mExB S o b + 0
def mExD (S : hs_S) (o : Int32) (acc : Int64) : Nat → Int64
  | 0 => acc
  | c + 1 => if F_dueOf o (nI c) S ≤ 0 then mExD S o acc c + 0 else mExD S o acc c + F_dueOf o (nI c) S
def F_exposureOf (a1 : Int32) (S : hs_S) : Int64 := mExD S a1 (mExB S a1 (S.1 11 1 24).toNatClampNeg) 4
def P_exposureOf (a1 : Int32) (S : hs_S) : Prop := cN (S.1 11 1 24) 80 ∧ ∀ c, c < 4 → P_dueOf a1 (nI c) S
def m_M_exposureOf (a1 : Int32) (S : hs_S) (Q : Int64 → hs_S → Prop) : Prop := hs_M 5 yX11_exposureOf (.code yX11_exposureOf cX11_exposureOf 7 (some FieldType.long)) [.inr (.inr (11, 1)), .inl a1] S 0 0 (hs_qL Q) hs_nX
def vc_M_exposureOf (a1 : Int32) (S : hs_S) (Q : Int64 → hs_S → Prop) : Prop := (∃ I3 : Nat → Int64 → Int32 → Prop, (∃ n7, I3 n7 (0 : Int64) (0 : Int32)) ∧ (∀ N4 : Nat, ∀ x1 : Int64, ∀ x2 : Int32, I3 N4 x1 x2 → (((S.1 11 1 24) ≤ x2 → (∃ I14 : Nat → Int64 → Int32 → Prop, (∃ n18, I14 n18 x1 (0 : Int32)) ∧ (∀ N15 : Nat, ∀ x12 : Int64, ∀ x13 : Int32, I14 N15 x12 x13 → (((4 : Int32) ≤ x13 → (Q x12 S)) ∧ (¬ (4 : Int32) ≤ x13 → ((P_dueOf a1 x13 S) ∧ (((lg_cmp (F_dueOf a1 x13 S) (0 : Int64)) ≤ 0 → (∃ q25, q25 < N15 ∧ I14 q25 (x12 + (0 : Int64)) (x13 + 1))) ∧ (¬ (lg_cmp (F_dueOf a1 x13 S) (0 : Int64)) ≤ 0 → (∃ q27, q27 < N15 ∧ I14 q27 (x12 + (F_dueOf a1 x13 S)) (x13 + 1)))))))))) ∧ (¬ (S.1 11 1 24) ≤ x2 → ((0 ≤ x2.toInt ∧ x2.toInt < 80) ∧ (∀ x30 : Int32, x30 = (if (S.1 65 1 x2.toNatClampNeg) = a1 then (if (S.1 67 1 x2.toNatClampNeg) = 0 then (0 : Int32) else (if (S.1 72 1 x2.toNatClampNeg) = (-1 : Int32) then (if (S.1 71 1 x2.toNatClampNeg) = (-1 : Int32) then (1 : Int32) else (0 : Int32)) else (0 : Int32))) else (0 : Int32)) → ((x30 = 0 → (∃ q32, q32 < N4 ∧ I3 q32 (x1 + (0 : Int64)) (x2 + 1))) ∧ (¬ x30 = 0 → (∃ q34, q34 < N4 ∧ I3 q34 (x1 + ((S.1 68 1 x2.toNatClampNeg).toInt64 * (S.1 69 1 x2.toNatClampNeg).toInt64)) (x2 + 1))))))))))
set_option maxRecDepth 100000 in
set_option maxHeartbeats 4000000 in
theorem ok_M_exposureOf {a1 : Int32} {S : hs_S} {Q : Int64 → hs_S → Prop} (hw : hs_Wi S) (hv : vc_M_exposureOf a1 S Q) : m_M_exposureOf a1 S Q := by
  unfold vc_M_exposureOf at hv
  refine hs_body (own := RX11) rfl rfl (Nat.le_of_ble_eq_true rfl) (fun Z X E N J0 => ?_)
  show wa Z 0 0 S 0 [(0, .inr (.inr (11, 1))), (1, .inl a1)] []
  refine wa_lconst X dX11_exposureOf_0 kl0 ?_
  refine wa_lstore_n X (lv' := [(2, .inr (.inl (0 : Int64))), (0, .inr (.inr (11, 1))), (1, .inl a1)]) dX11_exposureOf_1 rfl (by decide) rfl ?_
  refine wa_iconst X dX11_exposureOf_2 kc0 ?_
  refine wa_istore X (lv' := [(4, .inl (0 : Int32)), (2, .inr (.inl (0 : Int64))), (0, .inr (.inr (11, 1))), (1, .inl a1)]) dX11_exposureOf_3 (by decide) rfl ?_
  obtain ⟨I3, ⟨n7, i5⟩, b6⟩ := hv
  refine wa_lv (lv' := [(0, .inr (.inr (11, 1))), (1, .inl a1), (2, .inr (.inl (0 : Int64))), (4, .inl (0 : Int32))]) [2, 3, 1, 0] rfl ?_
  suffices L8 : ∀ N4 : Nat, ∀ x1 : Int64, ∀ x2 : Int32, I3 N4 x1 x2 → wa Z 0 0 S 5 [(0, .inr (.inr (11, 1))), (1, .inl a1), (2, .inr (.inl x1)), (4, .inl x2)] [] from L8 _ _ _ i5
  clear i5
  intro N4
  induction N4 using Nat.strongRecOn with
  | _ N4 h9 =>
    intro x1 x2 j10
    have hv := b6 N4 x1 x2 j10
    refine wa_iload X 3 rfl dX11_exposureOf_5 ?_
    refine wa_aload_n X 0 rfl dX11_exposureOf_7 rfl ?_
    refine wa_getI X (j := 24) hk_11 hc_11 i_11 (by decide) kw_1208 rfl dX11_exposureOf_8 hs_1ne ?_
    refine wa_icmp_ge X (tgt := 99) dX11_exposureOf_11 (by decide) (fun c11 => ?_) (fun c11 => ?_)
    · replace hv := hv.1 c11
      refine wa_iconst X dX11_exposureOf_99 kc0 ?_
      refine wa_istore X (lv' := [(4, .inl (0 : Int32)), (0, .inr (.inr (11, 1))), (1, .inl a1), (2, .inr (.inl x1))]) dX11_exposureOf_100 (by decide) rfl ?_
      obtain ⟨I14, ⟨n18, i16⟩, b17⟩ := hv
      refine wa_lv (lv' := [(0, .inr (.inr (11, 1))), (1, .inl a1), (2, .inr (.inl x1)), (4, .inl (0 : Int32))]) [1, 2, 3, 0] rfl ?_
      suffices L19 : ∀ N15 : Nat, ∀ x12 : Int64, ∀ x13 : Int32, I14 N15 x12 x13 → wa Z 0 0 S 102 [(0, .inr (.inr (11, 1))), (1, .inl a1), (2, .inr (.inl x12)), (4, .inl x13)] [] from L19 _ _ _ i16
      clear i16
      intro N15
      induction N15 using Nat.strongRecOn with
      | _ N15 h20 =>
        intro x12 x13 j21
        have hv := b17 N15 x12 x13 j21
        refine wa_iload X 3 rfl dX11_exposureOf_102 ?_
        refine wa_iconst X dX11_exposureOf_104 kc4 ?_
        refine wa_icmp_ge X (tgt := 139) dX11_exposureOf_105 (by decide) (fun c22 => ?_) (fun c22 => ?_)
        · replace hv := hv.1 c22
          refine wa_lload_n X 2 rfl dX11_exposureOf_139 rfl ?_
          exact wa_lreturn X E dX11_exposureOf_140 (Nat.le_of_ble_eq_true rfl) (Nat.le_of_ble_eq_true rfl) ⟨hw, _, rfl, hv⟩
        · replace hv := hv.2 c22
          refine wa_aload_n X 0 rfl dX11_exposureOf_108 rfl ?_
          refine wa_iload_n X 1 rfl dX11_exposureOf_109 rfl ?_
          refine wa_iload X 3 rfl dX11_exposureOf_110 ?_
          obtain ⟨o23, hv⟩ := hv
          refine wa_callV X (As := [.inl a1, .inl x13]) (f_M_dueOf hw o23) hk_11 hc_11 rfl kw_1529 kw_66 kw_1526 kw_1528 kw_41 nd_X11_dueOf rfl rfl (Nat.le_of_ble_eq_true rfl) dX11_exposureOf_112 hs_1ne ⟨⟨Nat.le_of_ble_eq_true rfl, Nat.le_of_ble_eq_true rfl⟩, Nat.le_of_ble_eq_true rfl, Nat.le_of_ble_eq_true rfl⟩ (hs_pdk0 ?_) (fun _ _ h => h.elim)
          refine wa_lstore X (lv' := [(5, .inr (.inl (F_dueOf a1 x13 S))), (0, .inr (.inr (11, 1))), (1, .inl a1), (2, .inr (.inl x12)), (4, .inl x13)]) dX11_exposureOf_115 (by decide) rfl ?_
          refine wa_lload_n X 3 rfl dX11_exposureOf_117 rfl ?_
          refine wa_lload X 0 rfl dX11_exposureOf_118 ?_
          refine wa_lconst X dX11_exposureOf_120 kl0 ?_
          refine wa_lcmp X dX11_exposureOf_121 ?_
          refine wa_if_le X (tgt := 130) dX11_exposureOf_122 (by decide) (fun c24 => ?_) (fun c24 => ?_)
          · replace hv := hv.1 c24
            refine wa_lconst X dX11_exposureOf_130 kl0 ?_
            refine wa_ladd X dX11_exposureOf_131 ?_
            refine wa_lstore_n X (lv' := [(2, .inr (.inl (x12 + (0 : Int64)))), (5, .inr (.inl (F_dueOf a1 x13 S))), (0, .inr (.inr (11, 1))), (1, .inl a1), (4, .inl x13)]) dX11_exposureOf_132 rfl (by decide) rfl ?_
            refine wa_iinc X (v := (x13 + 1)) (lv' := [(4, .inl (x13 + 1)), (2, .inr (.inl (x12 + (0 : Int64)))), (5, .inr (.inl (F_dueOf a1 x13 S))), (0, .inr (.inr (11, 1))), (1, .inl a1)]) 4 rfl dX11_exposureOf_133 rfl (by decide) rfl ?_
            refine wa_goto X (tgt := 102) dX11_exposureOf_136 (by decide) ?_
            obtain ⟨q25, p26, hv⟩ := hv
            refine wa_lv (lv' := [(0, .inr (.inr (11, 1))), (1, .inl a1), (2, .inr (.inl (x12 + (0 : Int64)))), (4, .inl (x13 + 1))]) [3, 4, 1, 0] rfl ?_
            exact h20 q25 p26 _ _ hv
          · replace hv := hv.2 c24
            refine wa_lload X 0 rfl dX11_exposureOf_125 ?_
            refine wa_goto X (tgt := 131) dX11_exposureOf_127 (by decide) ?_
            refine wa_ladd X dX11_exposureOf_131 ?_
            refine wa_lstore_n X (lv' := [(2, .inr (.inl (x12 + (F_dueOf a1 x13 S)))), (5, .inr (.inl (F_dueOf a1 x13 S))), (0, .inr (.inr (11, 1))), (1, .inl a1), (4, .inl x13)]) dX11_exposureOf_132 rfl (by decide) rfl ?_
            refine wa_iinc X (v := (x13 + 1)) (lv' := [(4, .inl (x13 + 1)), (2, .inr (.inl (x12 + (F_dueOf a1 x13 S)))), (5, .inr (.inl (F_dueOf a1 x13 S))), (0, .inr (.inr (11, 1))), (1, .inl a1)]) 4 rfl dX11_exposureOf_133 rfl (by decide) rfl ?_
            refine wa_goto X (tgt := 102) dX11_exposureOf_136 (by decide) ?_
            obtain ⟨q27, p28, hv⟩ := hv
            refine wa_lv (lv' := [(0, .inr (.inr (11, 1))), (1, .inl a1), (2, .inr (.inl (x12 + (F_dueOf a1 x13 S)))), (4, .inl (x13 + 1))]) [3, 4, 1, 0] rfl ?_
            exact h20 q27 p28 _ _ hv
    · replace hv := hv.2 c11
      refine wa_aload_n X 0 rfl dX11_exposureOf_14 rfl ?_
      refine wa_getfw X hw (j := 25) (r := 1) hk_11 hc_11 i_11 (by decide) kw_1209 rfl rfl (by decide) rfl dX11_exposureOf_15 hs_1ne ?_
      refine wa_iload X 3 rfl dX11_exposureOf_18 ?_
      obtain ⟨o29, hv⟩ := hv
      refine wa_iald X hk_65 dX11_exposureOf_20 hs_1ne o29 ?_
      refine wa_iload_n X 1 rfl dX11_exposureOf_21 rfl ?_
      have k36 : ∀ (x30 : Int32), x30 = (if (S.1 65 1 x2.toNatClampNeg) = a1 then (if (S.1 67 1 x2.toNatClampNeg) = 0 then (0 : Int32) else (if (S.1 72 1 x2.toNatClampNeg) = (-1 : Int32) then (if (S.1 71 1 x2.toNatClampNeg) = (-1 : Int32) then (1 : Int32) else (0 : Int32)) else (0 : Int32))) else (0 : Int32)) → wa Z 0 0 S 62 [(0, .inr (.inr (11, 1))), (1, .inl a1), (2, .inr (.inl x1)), (4, .inl x2)] [.inl x30] := by
        intro x30 hE
        replace hv := hv _ hE
        refine wa_istore X (lv' := [(5, .inl x30), (0, .inr (.inr (11, 1))), (1, .inl a1), (2, .inr (.inl x1)), (4, .inl x2)]) dX11_exposureOf_62 (by decide) rfl ?_
        refine wa_lload_n X 3 rfl dX11_exposureOf_64 rfl ?_
        refine wa_iload X 0 rfl dX11_exposureOf_65 ?_
        refine wa_if_eq X (tgt := 90) dX11_exposureOf_67 (by decide) (fun c31 => ?_) (fun c31 => ?_)
        · replace hv := hv.1 c31
          refine wa_lconst X dX11_exposureOf_90 kl0 ?_
          refine wa_ladd X dX11_exposureOf_91 ?_
          refine wa_lstore_n X (lv' := [(2, .inr (.inl (x1 + (0 : Int64)))), (5, .inl x30), (0, .inr (.inr (11, 1))), (1, .inl a1), (4, .inl x2)]) dX11_exposureOf_92 rfl (by decide) rfl ?_
          refine wa_iinc X (v := (x2 + 1)) (lv' := [(4, .inl (x2 + 1)), (2, .inr (.inl (x1 + (0 : Int64)))), (5, .inl x30), (0, .inr (.inr (11, 1))), (1, .inl a1)]) 4 rfl dX11_exposureOf_93 rfl (by decide) rfl ?_
          refine wa_goto X (tgt := 5) dX11_exposureOf_96 (by decide) ?_
          obtain ⟨q32, p33, hv⟩ := hv
          refine wa_lv (lv' := [(0, .inr (.inr (11, 1))), (1, .inl a1), (2, .inr (.inl (x1 + (0 : Int64)))), (4, .inl (x2 + 1))]) [3, 4, 1, 0] rfl ?_
          exact h9 q32 p33 _ _ hv
        · replace hv := hv.2 c31
          refine wa_aload_n X 1 rfl dX11_exposureOf_70 rfl ?_
          refine wa_getfw X hw (j := 28) (r := 1) hk_11 hc_11 i_11 (by decide) kw_1212 rfl rfl (by decide) rfl dX11_exposureOf_71 hs_1ne ?_
          refine wa_iload X 4 rfl dX11_exposureOf_74 ?_
          refine wa_iald X hk_68 dX11_exposureOf_76 hs_1ne o29 ?_
          refine wa_i2l X dX11_exposureOf_77 ?_
          refine wa_aload_n X 1 rfl dX11_exposureOf_78 rfl ?_
          refine wa_getfw X hw (j := 29) (r := 1) hk_11 hc_11 i_11 (by decide) kw_1213 rfl rfl (by decide) rfl dX11_exposureOf_79 hs_1ne ?_
          refine wa_iload X 4 rfl dX11_exposureOf_82 ?_
          refine wa_iald X hk_69 dX11_exposureOf_84 hs_1ne o29 ?_
          refine wa_i2l X dX11_exposureOf_85 ?_
          refine wa_lmul X dX11_exposureOf_86 ?_
          refine wa_goto X (tgt := 91) dX11_exposureOf_87 (by decide) ?_
          refine wa_ladd X dX11_exposureOf_91 ?_
          refine wa_lstore_n X (lv' := [(2, .inr (.inl (x1 + ((S.1 68 1 x2.toNatClampNeg).toInt64 * (S.1 69 1 x2.toNatClampNeg).toInt64)))), (5, .inl x30), (0, .inr (.inr (11, 1))), (1, .inl a1), (4, .inl x2)]) dX11_exposureOf_92 rfl (by decide) rfl ?_
          refine wa_iinc X (v := (x2 + 1)) (lv' := [(4, .inl (x2 + 1)), (2, .inr (.inl (x1 + ((S.1 68 1 x2.toNatClampNeg).toInt64 * (S.1 69 1 x2.toNatClampNeg).toInt64)))), (5, .inl x30), (0, .inr (.inr (11, 1))), (1, .inl a1)]) 4 rfl dX11_exposureOf_93 rfl (by decide) rfl ?_
          refine wa_goto X (tgt := 5) dX11_exposureOf_96 (by decide) ?_
          obtain ⟨q34, p35, hv⟩ := hv
          refine wa_lv (lv' := [(0, .inr (.inr (11, 1))), (1, .inl a1), (2, .inr (.inl (x1 + ((S.1 68 1 x2.toNatClampNeg).toInt64 * (S.1 69 1 x2.toNatClampNeg).toInt64)))), (4, .inl (x2 + 1))]) [3, 4, 1, 0] rfl ?_
          exact h9 q34 p35 _ _ hv
      clear hv
      refine wa_icmp_ne X (tgt := 61) dX11_exposureOf_22 (by decide) (fun c38 => ?_) (fun c38 => ?_)
      · refine wa_iconst X dX11_exposureOf_61 kc0 ?_
        refine wa_lv (lv' := [(0, .inr (.inr (11, 1))), (1, .inl a1), (2, .inr (.inl x1)), (4, .inl x2)]) [0, 1, 2, 3] rfl ?_
        exact wa_wid (Nat.le_of_ble_eq_true rfl) (Nat.le_of_ble_eq_true rfl) (k36 _  (by rw [if_neg c38]))
      · refine wa_aload_n X 0 rfl dX11_exposureOf_25 rfl ?_
        refine wa_getfw X hw (j := 27) (r := 1) hk_11 hc_11 i_11 (by decide) kw_1211 rfl rfl (by decide) rfl dX11_exposureOf_26 hs_1ne ?_
        refine wa_iload X 3 rfl dX11_exposureOf_29 ?_
        refine wa_bald X hk_67 dX11_exposureOf_31 hs_1ne o29 ?_
        refine wa_if_eq X (tgt := 61) dX11_exposureOf_32 (by decide) (fun c39 => ?_) (fun c39 => ?_)
        · refine wa_iconst X dX11_exposureOf_61 kc0 ?_
          refine wa_lv (lv' := [(0, .inr (.inr (11, 1))), (1, .inl a1), (2, .inr (.inl x1)), (4, .inl x2)]) [0, 1, 2, 3] rfl ?_
          exact wa_wid (Nat.le_of_ble_eq_true rfl) (Nat.le_of_ble_eq_true rfl) (k36 _  (by rw [if_pos c38, if_pos c39]))
        · refine wa_aload_n X 0 rfl dX11_exposureOf_35 rfl ?_
          refine wa_getfw X hw (j := 32) (r := 1) hk_11 hc_11 i_11 (by decide) kw_1216 rfl rfl (by decide) rfl dX11_exposureOf_36 hs_1ne ?_
          refine wa_iload X 3 rfl dX11_exposureOf_39 ?_
          refine wa_iald X hk_72 dX11_exposureOf_41 hs_1ne o29 ?_
          refine wa_iconst X dX11_exposureOf_42 kcm1 ?_
          refine wa_icmp_ne X (tgt := 61) dX11_exposureOf_43 (by decide) (fun c40 => ?_) (fun c40 => ?_)
          · refine wa_iconst X dX11_exposureOf_61 kc0 ?_
            refine wa_lv (lv' := [(0, .inr (.inr (11, 1))), (1, .inl a1), (2, .inr (.inl x1)), (4, .inl x2)]) [0, 1, 2, 3] rfl ?_
            exact wa_wid (Nat.le_of_ble_eq_true rfl) (Nat.le_of_ble_eq_true rfl) (k36 _  (by rw [if_pos c38, if_neg c39, if_neg c40]))
          · refine wa_aload_n X 0 rfl dX11_exposureOf_46 rfl ?_
            refine wa_getfw X hw (j := 31) (r := 1) hk_11 hc_11 i_11 (by decide) kw_1215 rfl rfl (by decide) rfl dX11_exposureOf_47 hs_1ne ?_
            refine wa_iload X 3 rfl dX11_exposureOf_50 ?_
            refine wa_iald X hk_71 dX11_exposureOf_52 hs_1ne o29 ?_
            refine wa_iconst X dX11_exposureOf_53 kcm1 ?_
            refine wa_icmp_ne X (tgt := 61) dX11_exposureOf_54 (by decide) (fun c41 => ?_) (fun c41 => ?_)
            · refine wa_iconst X dX11_exposureOf_61 kc0 ?_
              refine wa_lv (lv' := [(0, .inr (.inr (11, 1))), (1, .inl a1), (2, .inr (.inl x1)), (4, .inl x2)]) [0, 1, 2, 3] rfl ?_
              exact wa_wid (Nat.le_of_ble_eq_true rfl) (Nat.le_of_ble_eq_true rfl) (k36 _  (by rw [if_pos c38, if_neg c39, if_pos c40, if_neg c41]))
            · refine wa_iconst X dX11_exposureOf_57 kc1 ?_
              refine wa_goto X (tgt := 62) dX11_exposureOf_58 (by decide) ?_
              refine wa_lv (lv' := [(0, .inr (.inr (11, 1))), (1, .inl a1), (2, .inr (.inl x1)), (4, .inl x2)]) [0, 1, 2, 3] rfl ?_
              exact wa_wid (Nat.le_of_ble_eq_true rfl) (Nat.le_of_ble_eq_true rfl) (k36 _  (by rw [if_pos c38, if_neg c39, if_pos c40, if_pos c41]))
theorem v_M_exposureOf {a1 : Int32} {S : hs_S} (hP : P_exposureOf a1 S) : vc_M_exposureOf a1 S (fun r S' => r = F_exposureOf a1 S ∧ S' = S) := by
  obtain ⟨⟨g, hg, eg⟩, hD⟩ := hP
  unfold vc_M_exposureOf F_exposureOf
  rw [eg, hl_cl (by omega)]
  refine ⟨fun N x1 x2 => ∃ k, k ≤ g ∧ x2 = nI k ∧ x1 = mExB S a1 k ∧ N = g - k, ⟨g, 0, Nat.zero_le _, rfl, rfl, rfl⟩, ?_⟩
  rintro N x1 x2 ⟨k, hk, rfl, rfl, rfl⟩
  refine ⟨fun h => ?_, fun h => ?_⟩
  · have := hl_end (by omega) hk h
    subst this
    refine ⟨fun N2 y1 y2 => ∃ b, b ≤ 4 ∧ y2 = nI b ∧ y1 = mExD S a1 (mExB S a1 k) b ∧ N2 = 4 - b, ⟨4, 0, Nat.zero_le _, rfl, rfl, rfl⟩, ?_⟩
    rintro N2 y1 y2 ⟨b, hb, rfl, rfl, rfl⟩
    refine ⟨fun q => ?_, fun q => ?_⟩
    · have := hl_end (g := 4) (by omega) hb q
      subst this
      exact ⟨rfl, rfl⟩
    · have hb1 := hl_go (g := 4) (by omega) hb q
      exact ⟨hD b hb1, fun z => hl_nx hb1 (if_pos ((lg_cmp_le _ _).mp z)).symm, fun z => hl_nx hb1 (if_neg fun w => z ((lg_cmp_le _ _).mpr w)).symm⟩
  · have hk1 := hl_go (by omega) hk h
    have hc : (nI k).toNatClampNeg = k := hl_cl (by omega)
    rw [hc]
    refine ⟨hl_ix (by omega) (by omega), fun z hz => ?_⟩
    have hz2 : z = bI (mExC S a1 k) := by
      rw [hz]; unfold bI mExC
      by_cases p1 : S.1 65 1 k = a1 <;> by_cases p2 : S.1 67 1 k = 0 <;> by_cases p3 : S.1 72 1 k = -1 <;> by_cases p4 : S.1 71 1 k = -1 <;> simp only [p1, p2, p3, p4, if_true, if_false, and_true, true_and, and_false, false_and, not_true, not_false_iff]
    clear hz
    subst hz2
    exact ⟨fun p => hl_nx hk1 (if_neg (bI_eq0.mp p)).symm, fun p => hl_nx hk1 (if_pos (Classical.not_not.mp fun w => p (bI_eq0.mpr w))).symm⟩
theorem f_M_exposureOf {a1 : Int32} {S : hs_S} (hw : hs_Wi S) (hP : P_exposureOf a1 S) : hs_M 5 yX11_exposureOf (.code yX11_exposureOf cX11_exposureOf 7 (some FieldType.long)) [.inr (.inr (11, 1)), .inl a1] S 0 0 (hs_pd (some (.inr (.inl (F_exposureOf a1 S)))) S) hs_nX := hs_pdL (ok_M_exposureOf hw (v_M_exposureOf hP))

def F_restOf (a1 a2 : Int32) (S : hs_S) : Int64 := F_dueOf a1 a2 S - 10 * F_down (F_dueOf a1 a2 S)
def P_restOf (a1 a2 : Int32) (S : hs_S) : Prop := P_dueOf a1 a2 S
def m_M_restOf (a1 : Int32) (a2 : Int32) (S : hs_S) (Q : Int64 → hs_S → Prop) : Prop := hs_M 5 yX11_restOf (.code yX11_restOf cX11_restOf 5 (some FieldType.long)) [.inr (.inr (11, 1)), .inl a1, .inl a2] S 0 0 (hs_qL Q) hs_nX
def vc_M_restOf (a1 : Int32) (a2 : Int32) (S : hs_S) (Q : Int64 → hs_S → Prop) : Prop := ((P_dueOf a1 a2 S) ∧ (Q ((F_dueOf a1 a2 S) - ((10 : Int64) * (F_down (F_dueOf a1 a2 S)))) S))
set_option maxRecDepth 100000 in
set_option maxHeartbeats 4000000 in
theorem ok_M_restOf {a1 : Int32} {a2 : Int32} {S : hs_S} {Q : Int64 → hs_S → Prop} (hw : hs_Wi S) (hv : vc_M_restOf a1 a2 S Q) : m_M_restOf a1 a2 S Q := by
  unfold vc_M_restOf at hv
  refine hs_body (own := RX11) rfl rfl (Nat.le_of_ble_eq_true rfl) (fun Z X E N J0 => ?_)
  show wa Z 0 0 S 0 [(0, .inr (.inr (11, 1))), (1, .inl a1), (2, .inl a2)] []
  refine wa_aload_n X 0 rfl dX11_restOf_0 rfl ?_
  refine wa_iload_n X 1 rfl dX11_restOf_1 rfl ?_
  refine wa_iload_n X 2 rfl dX11_restOf_2 rfl ?_
  obtain ⟨o1, hv⟩ := hv
  refine wa_callV X (As := [.inl a1, .inl a2]) (f_M_dueOf hw o1) hk_11 hc_11 rfl kw_1529 kw_66 kw_1526 kw_1528 kw_41 nd_X11_dueOf rfl rfl (Nat.le_of_ble_eq_true rfl) dX11_restOf_3 hs_1ne ⟨⟨Nat.le_of_ble_eq_true rfl, Nat.le_of_ble_eq_true rfl⟩, Nat.le_of_ble_eq_true rfl, Nat.le_of_ble_eq_true rfl⟩ (hs_pdk0 ?_) (fun _ _ h => h.elim)
  refine wa_lstore_n X (lv' := [(3, .inr (.inl (F_dueOf a1 a2 S))), (0, .inr (.inr (11, 1))), (1, .inl a1), (2, .inl a2)]) dX11_restOf_6 rfl (by decide) rfl ?_
  refine wa_lload_n X 0 rfl dX11_restOf_7 rfl ?_
  refine wa_ldc2 X kw_1606 dX11_restOf_8 ?_
  refine wa_lload_n X 0 rfl dX11_restOf_11 rfl ?_
  refine wa_callS X (As := [.inr (.inl (F_dueOf a1 a2 S))]) (f_M_down hw) kw_1605 kw_66 kw_1603 kw_1604 nd_X11_down rfl rfl (Nat.le_of_ble_eq_true rfl) dX11_restOf_12 ⟨⟨Nat.le_of_ble_eq_true rfl, Nat.le_of_ble_eq_true rfl⟩, Nat.le_of_ble_eq_true rfl, Nat.le_of_ble_eq_true rfl⟩ (hs_pdk0 ?_) (fun _ _ h => h.elim)
  refine wa_lmul X dX11_restOf_15 ?_
  refine wa_lsub X dX11_restOf_16 ?_
  exact wa_lreturn X E dX11_restOf_17 (Nat.le_of_ble_eq_true rfl) (Nat.le_of_ble_eq_true rfl) ⟨hw, _, rfl, hv⟩
theorem v_M_restOf {a1 a2 : Int32} {S : hs_S} (hP : P_restOf a1 a2 S) : vc_M_restOf a1 a2 S (fun r S' => r = F_restOf a1 a2 S ∧ S' = S) := ⟨hP, rfl, rfl⟩
theorem f_M_restOf {a1 : Int32} {a2 : Int32} {S : hs_S} (hw : hs_Wi S) (hP : P_restOf a1 a2 S) : hs_M 5 yX11_restOf (.code yX11_restOf cX11_restOf 5 (some FieldType.long)) [.inr (.inr (11, 1)), .inl a1, .inl a2] S 0 0 (hs_pd (some (.inr (.inl (F_restOf a1 a2 S)))) S) hs_nX := hs_pdL (ok_M_restOf hw (v_M_restOf hP))

