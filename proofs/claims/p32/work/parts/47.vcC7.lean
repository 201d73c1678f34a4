def cTo (S : hs_S) (r : Nat) (w : Int32) : Nat → Int32
  | 0 => 0
  | k + 1 => if F_Clr_isOnSide (bd S k) r w S = 0 then cTo S r w k else cTo S r w k + S.1 0 (bd S k) 4
def F_Clr_totalOf (r1 : Nat) (a2 : Int32) (S : hs_S) : Int32 := cTo S r1 a2 (hs_sz S 13)
def P_Clr_totalOf (r1 : Nat) (a2 : Int32) (S : hs_S) : Prop := cBd S
def m_Clr_totalOf (r1 : Nat) (a2 : Int32) (S : hs_S) (Q : Int32 → hs_S → Prop) : Prop := hs_M 5 yX2_totalOf (.code yX2_totalOf cX2_totalOf 6 (some FieldType.int)) [.inr (.inr (2, 1)), .inr (.inr (8, r1)), .inl a2] S 0 0 (hs_qI Q) hs_nX
def vc_Clr_totalOf (r1 : Nat) (a2 : Int32) (S : hs_S) (Q : Int32 → hs_S → Prop) : Prop := (∃ I3 : Nat → Int32 → Int32 → Prop, (∃ n7, I3 n7 (0 : Int32) (0 : Int32)) ∧ (∀ N4 : Nat, ∀ x1 : Int32, ∀ x2 : Int32, I3 N4 x1 x2 → (((nI (hs_sz S 13)) ≤ x2 → (Q x1 S)) ∧ (¬ (nI (hs_sz S 13)) ≤ x2 → ((0 ≤ x2.toInt ∧ x2.toInt < (hs_sz S 13)) ∧ (((S.2.1 13 1 x2.toNatClampNeg) ≠ 0) ∧ ((P_Clr_isOnSide (S.2.1 13 1 x2.toNatClampNeg) r1 a2 S) ∧ (((F_Clr_isOnSide (S.2.1 13 1 x2.toNatClampNeg) r1 a2 S) = 0 → (∃ q16, q16 < N4 ∧ I3 q16 x1 (x2 + 1))) ∧ (¬ (F_Clr_isOnSide (S.2.1 13 1 x2.toNatClampNeg) r1 a2 S) = 0 → (∃ q18, q18 < N4 ∧ I3 q18 (x1 + (S.1 0 (S.2.1 13 1 x2.toNatClampNeg) 4)) (x2 + 1)))))))))))
set_option maxRecDepth 100000 in
set_option maxHeartbeats 4000000 in
theorem ok_Clr_totalOf {r1 : Nat} {a2 : Int32} {S : hs_S} {Q : Int32 → hs_S → Prop} (hr1 : r1 ≠ 0) (hw : hs_Wi S) (hv : vc_Clr_totalOf r1 a2 S Q) : m_Clr_totalOf r1 a2 S Q := by
  unfold vc_Clr_totalOf at hv
  refine hs_body (own := RX2) rfl rfl (Nat.le_of_ble_eq_true rfl) (fun Z X E N J0 => ?_)
  show wa Z 0 0 S 0 [(0, .inr (.inr (2, 1))), (1, .inr (.inr (8, r1))), (2, .inl a2)] []
  refine wa_iconst X dX2_totalOf_0 kc0 ?_
  refine wa_istore_n X (lv' := [(3, .inl (0 : Int32)), (0, .inr (.inr (2, 1))), (1, .inr (.inr (8, r1))), (2, .inl a2)]) dX2_totalOf_1 rfl (by decide) rfl ?_
  refine wa_iconst X dX2_totalOf_2 kc0 ?_
  refine wa_istore X (lv' := [(4, .inl (0 : Int32)), (3, .inl (0 : Int32)), (0, .inr (.inr (2, 1))), (1, .inr (.inr (8, r1))), (2, .inl a2)]) dX2_totalOf_3 (by decide) rfl ?_
  obtain ⟨I3, ⟨n7, i5⟩, b6⟩ := hv
  refine wa_lv (lv' := [(0, .inr (.inr (2, 1))), (1, .inr (.inr (8, r1))), (2, .inl a2), (3, .inl (0 : Int32)), (4, .inl (0 : Int32))]) [2, 3, 4, 1, 0] rfl ?_
  suffices L8 : ∀ N4 : Nat, ∀ x1 : Int32, ∀ x2 : Int32, I3 N4 x1 x2 → wa Z 0 0 S 5 [(0, .inr (.inr (2, 1))), (1, .inr (.inr (8, r1))), (2, .inl a2), (3, .inl x1), (4, .inl x2)] [] from L8 _ _ _ i5
  clear i5
  intro N4
  induction N4 using Nat.strongRecOn with
  | _ N4 h9 =>
    intro x1 x2 j10
    have hv := b6 N4 x1 x2 j10
    refine wa_iload X 4 rfl dX2_totalOf_5 ?_
    refine wa_aload_n X 0 rfl dX2_totalOf_7 rfl ?_
    refine wa_getfw X hw (j := 0) (r := 1) hk_2 hc_2 i_2 (by decide) kw_292 rfl rfl (by decide) rfl dX2_totalOf_8 hs_1ne ?_
    refine wa_getfw X hw (j := 0) (r := 1) hk_1 hc_1 i_1 (by decide) kw_226 rfl rfl (by decide) rfl dX2_totalOf_11 hs_1ne ?_
    refine wa_lsize X hk_13 kw_957 dX2_totalOf_14 hs_1ne ⟨⟨Nat.le_of_ble_eq_true rfl, Nat.le_of_ble_eq_true rfl⟩, Nat.le_of_ble_eq_true rfl, Nat.le_of_ble_eq_true rfl⟩ (Nat.le_of_ble_eq_true rfl) ?_
    refine wa_icmp_ge X (tgt := 65) dX2_totalOf_19 (by decide) (fun c11 => ?_) (fun c11 => ?_)
    · replace hv := hv.1 c11
      refine wa_iload_n X 3 rfl dX2_totalOf_65 rfl ?_
      exact wa_ireturn X E dX2_totalOf_66 (Nat.le_of_ble_eq_true rfl) (Nat.le_of_ble_eq_true rfl) (Or.inl rfl) ⟨hw, _, rfl, hv⟩
    · replace hv := hv.2 c11
      refine wa_aload_n X 0 rfl dX2_totalOf_22 rfl ?_
      refine wa_getfw X hw (j := 0) (r := 1) hk_2 hc_2 i_2 (by decide) kw_292 rfl rfl (by decide) rfl dX2_totalOf_23 hs_1ne ?_
      refine wa_getfw X hw (j := 0) (r := 1) hk_1 hc_1 i_1 (by decide) kw_226 rfl rfl (by decide) rfl dX2_totalOf_26 hs_1ne ?_
      refine wa_iload X 4 rfl dX2_totalOf_29 ?_
      obtain ⟨o12, hv⟩ := hv
      refine wa_lget X hk_13 kw_959 dX2_totalOf_31 hs_1ne ⟨⟨Nat.le_of_ble_eq_true rfl, Nat.le_of_ble_eq_true rfl⟩, Nat.le_of_ble_eq_true rfl, Nat.le_of_ble_eq_true rfl⟩ (Nat.le_of_ble_eq_true rfl) o12 ?_
      obtain ⟨o13, hv⟩ := hv
      refine wa_cast X hk_0 hc_0 kw_960 dX2_totalOf_36 o13 ?_
      refine wa_astore X (lv' := [(5, .inr (.inr (0, (S.2.1 13 1 x2.toNatClampNeg)))), (0, .inr (.inr (2, 1))), (1, .inr (.inr (8, r1))), (2, .inl a2), (3, .inl x1), (4, .inl x2)]) dX2_totalOf_39 (by decide) rfl ?_
      refine wa_aload X 0 rfl dX2_totalOf_41 ?_
      refine wa_aload_n X 2 rfl dX2_totalOf_43 rfl ?_
      refine wa_iload_n X 3 rfl dX2_totalOf_44 rfl ?_
      obtain ⟨o14, hv⟩ := hv
      refine wa_callS X (As := [.inr (.inr (0, (S.2.1 13 1 x2.toNatClampNeg))), .inr (.inr (8, r1)), .inl a2]) (f_Clr_isOnSide o13 hr1 hw o14) kw_963 kw_31 kw_961 kw_962 nd_X2_isOnSide rfl rfl (Nat.le_of_ble_eq_true rfl) dX2_totalOf_45 ⟨⟨Nat.le_of_ble_eq_true rfl, Nat.le_of_ble_eq_true rfl⟩, Nat.le_of_ble_eq_true rfl, Nat.le_of_ble_eq_true rfl⟩ (hs_pdk0 ?_) (fun _ _ h => h.elim)
      refine wa_if_eq X (tgt := 59) dX2_totalOf_48 (by decide) (fun c15 => ?_) (fun c15 => ?_)
      · replace hv := hv.1 c15
        refine wa_iinc X (v := (x2 + 1)) (lv' := [(4, .inl (x2 + 1)), (5, .inr (.inr (0, (S.2.1 13 1 x2.toNatClampNeg)))), (0, .inr (.inr (2, 1))), (1, .inr (.inr (8, r1))), (2, .inl a2), (3, .inl x1)]) 5 rfl dX2_totalOf_59 rfl (by decide) rfl ?_
        refine wa_goto X (tgt := 5) dX2_totalOf_62 (by decide) ?_
        obtain ⟨q16, p17, hv⟩ := hv
        refine wa_lv (lv' := [(0, .inr (.inr (2, 1))), (1, .inr (.inr (8, r1))), (2, .inl a2), (3, .inl x1), (4, .inl (x2 + 1))]) [2, 3, 4, 5, 0] rfl ?_
        exact h9 q16 p17 _ _ hv
      · replace hv := hv.2 c15
        refine wa_iload_n X 4 rfl dX2_totalOf_51 rfl ?_
        refine wa_aload X 0 rfl dX2_totalOf_52 ?_
        refine wa_getI X (j := 4) hk_0 hc_0 i_0 (by decide) kw_852 rfl dX2_totalOf_54 o13 ?_
        refine wa_iadd X dX2_totalOf_57 ?_
        refine wa_istore_n X (lv' := [(3, .inl (x1 + (S.1 0 (S.2.1 13 1 x2.toNatClampNeg) 4))), (5, .inr (.inr (0, (S.2.1 13 1 x2.toNatClampNeg)))), (0, .inr (.inr (2, 1))), (1, .inr (.inr (8, r1))), (2, .inl a2), (4, .inl x2)]) dX2_totalOf_58 rfl (by decide) rfl ?_
        refine wa_iinc X (v := (x2 + 1)) (lv' := [(4, .inl (x2 + 1)), (3, .inl (x1 + (S.1 0 (S.2.1 13 1 x2.toNatClampNeg) 4))), (5, .inr (.inr (0, (S.2.1 13 1 x2.toNatClampNeg)))), (0, .inr (.inr (2, 1))), (1, .inr (.inr (8, r1))), (2, .inl a2)]) 5 rfl dX2_totalOf_59 rfl (by decide) rfl ?_
        refine wa_goto X (tgt := 5) dX2_totalOf_62 (by decide) ?_
        obtain ⟨q18, p19, hv⟩ := hv
        refine wa_lv (lv' := [(0, .inr (.inr (2, 1))), (1, .inr (.inr (8, r1))), (2, .inl a2), (3, .inl (x1 + (S.1 0 (S.2.1 13 1 x2.toNatClampNeg) 4))), (4, .inl (x2 + 1))]) [3, 4, 5, 1, 0] rfl ?_
        exact h9 q18 p19 _ _ hv
theorem v_Clr_totalOf {r1 : Nat} {a2 : Int32} {S : hs_S} (hP : P_Clr_totalOf r1 a2 S) : vc_Clr_totalOf r1 a2 S (fun r S' => r = F_Clr_totalOf r1 a2 S ∧ S' = S) := by
  obtain ⟨g, hg, eg, hb⟩ := hP
  unfold vc_Clr_totalOf F_Clr_totalOf
  rw [eg]
  refine ⟨fun N x1 x2 => ∃ k, k ≤ g ∧ x2 = nI k ∧ x1 = cTo S r1 a2 k ∧ N = g - k, ⟨g, 0, Nat.zero_le _, rfl, rfl, rfl⟩, ?_⟩
  rintro N x1 x2 ⟨k, hk, rfl, rfl, rfl⟩
  refine ⟨fun h => ?_, fun h => ?_⟩
  · have := hl_end (by omega) hk h
    subst this
    exact ⟨rfl, rfl⟩
  · have hk1 := hl_go (by omega) hk h
    rw [hl_cl (by omega)]
    exact ⟨hl_ix (by omega) (by omega), (hb k hk1).1, (hb k hk1).2, fun h1 => hl_nx hk1 (if_pos h1).symm, fun h1 => hl_nx hk1 (if_neg h1).symm⟩
theorem f_Clr_totalOf {r1 : Nat} {a2 : Int32} {S : hs_S} (hr1 : r1 ≠ 0) (hw : hs_Wi S) (hP : P_Clr_totalOf r1 a2 S) : hs_M 5 yX2_totalOf (.code yX2_totalOf cX2_totalOf 6 (some FieldType.int)) [.inr (.inr (2, 1)), .inr (.inr (8, r1)), .inl a2] S 0 0 (hs_pd (some (.inl (F_Clr_totalOf r1 a2 S))) S) hs_nX := hs_pdI (ok_Clr_totalOf hr1 hw (v_Clr_totalOf hP))

def cPo (S : hs_S) (r : Nat) : Nat → Int32
  | 0 => S.1 8 (S.2.1 0 r 2) 6
  | k + 1 => if F_Clr_isOnSide (bd S k) (S.2.1 0 r 2) (S.1 0 r 3) S = 0 then cPo S r k else if F_Bid_goesAhead (bd S k) r S = 0 then cPo S r k else cPo S r k - S.1 0 (bd S k) 4
def F_Clr_partByOrder (r1 : Nat) (S : hs_S) : Int32 := if (0 : Int32) < (if cPo S r1 (hs_sz S 13) < S.1 0 r1 4 then cPo S r1 (hs_sz S 13) else S.1 0 r1 4) then (if cPo S r1 (hs_sz S 13) < S.1 0 r1 4 then cPo S r1 (hs_sz S 13) else S.1 0 r1 4) else 0
def P_Clr_partByOrder (r1 : Nat) (S : hs_S) : Prop := S.2.1 0 r1 2 ≠ 0 ∧ cBd S
def m_Clr_partByOrder (r1 : Nat) (S : hs_S) (Q : Int32 → hs_S → Prop) : Prop := hs_M 5 yX2_partByOrder (.code yX2_partByOrder cX2_partByOrder 5 (some FieldType.int)) [.inr (.inr (2, 1)), .inr (.inr (0, r1))] S 0 0 (hs_qI Q) hs_nX
def vc_Clr_partByOrder (r1 : Nat) (S : hs_S) (Q : Int32 → hs_S → Prop) : Prop := (((S.2.1 0 r1 2) ≠ 0) ∧ (∃ I4 : Nat → Int32 → Int32 → Prop, (∃ n8, I4 n8 (S.1 8 (S.2.1 0 r1 2) 6) (0 : Int32)) ∧ (∀ N5 : Nat, ∀ x2 : Int32, ∀ x3 : Int32, I4 N5 x2 x3 → (((nI (hs_sz S 13)) ≤ x3 → (Q (if (0 : Int32) < (if x2 < (S.1 0 r1 4) then x2 else (S.1 0 r1 4)) then (if x2 < (S.1 0 r1 4) then x2 else (S.1 0 r1 4)) else (0 : Int32)) S)) ∧ (¬ (nI (hs_sz S 13)) ≤ x3 → ((0 ≤ x3.toInt ∧ x3.toInt < (hs_sz S 13)) ∧ (((S.2.1 13 1 x3.toNatClampNeg) ≠ 0) ∧ ((P_Clr_isOnSide (S.2.1 13 1 x3.toNatClampNeg) (S.2.1 0 r1 2) (S.1 0 r1 3) S) ∧ (((F_Clr_isOnSide (S.2.1 13 1 x3.toNatClampNeg) (S.2.1 0 r1 2) (S.1 0 r1 3) S) = 0 → (∃ q17, q17 < N5 ∧ I4 q17 x2 (x3 + 1))) ∧ (¬ (F_Clr_isOnSide (S.2.1 13 1 x3.toNatClampNeg) (S.2.1 0 r1 2) (S.1 0 r1 3) S) = 0 → (((F_Bid_goesAhead (S.2.1 13 1 x3.toNatClampNeg) r1 S) = 0 → (∃ q20, q20 < N5 ∧ I4 q20 x2 (x3 + 1))) ∧ (¬ (F_Bid_goesAhead (S.2.1 13 1 x3.toNatClampNeg) r1 S) = 0 → (∃ q22, q22 < N5 ∧ I4 q22 (x2 - (S.1 0 (S.2.1 13 1 x3.toNatClampNeg) 4)) (x3 + 1))))))))))))))
set_option maxRecDepth 100000 in
set_option maxHeartbeats 4000000 in
theorem ok_Clr_partByOrder {r1 : Nat} {S : hs_S} {Q : Int32 → hs_S → Prop} (hr1 : r1 ≠ 0) (hw : hs_Wi S) (hv : vc_Clr_partByOrder r1 S Q) : m_Clr_partByOrder r1 S Q := by
  unfold vc_Clr_partByOrder at hv
  refine hs_body (own := RX2) rfl rfl (Nat.le_of_ble_eq_true rfl) (fun Z X E N J0 => ?_)
  show wa Z 0 0 S 0 [(0, .inr (.inr (2, 1))), (1, .inr (.inr (0, r1)))] []
  refine wa_aload_n X 1 rfl dX2_partByOrder_0 rfl ?_
  refine wa_getR X (j := 2) hk_0 hc_0 i_0 (by decide) kw_843 rfl dX2_partByOrder_1 hr1 ?_
  obtain ⟨o1, hv⟩ := hv
  refine wa_getI X (j := 6) hk_8 hc_8 i_8 (by decide) kw_195 rfl dX2_partByOrder_4 o1 ?_
  refine wa_istore_n X (lv' := [(2, .inl (S.1 8 (S.2.1 0 r1 2) 6)), (0, .inr (.inr (2, 1))), (1, .inr (.inr (0, r1)))]) dX2_partByOrder_7 rfl (by decide) rfl ?_
  refine wa_iconst X dX2_partByOrder_8 kc0 ?_
  refine wa_istore_n X (lv' := [(3, .inl (0 : Int32)), (2, .inl (S.1 8 (S.2.1 0 r1 2) 6)), (0, .inr (.inr (2, 1))), (1, .inr (.inr (0, r1)))]) dX2_partByOrder_9 rfl (by decide) rfl ?_
  obtain ⟨I4, ⟨n8, i6⟩, b7⟩ := hv
  refine wa_lv (lv' := [(0, .inr (.inr (2, 1))), (1, .inr (.inr (0, r1))), (2, .inl (S.1 8 (S.2.1 0 r1 2) 6)), (3, .inl (0 : Int32))]) [2, 3, 1, 0] rfl ?_
  suffices L9 : ∀ N5 : Nat, ∀ x2 : Int32, ∀ x3 : Int32, I4 N5 x2 x3 → wa Z 0 0 S 10 [(0, .inr (.inr (2, 1))), (1, .inr (.inr (0, r1))), (2, .inl x2), (3, .inl x3)] [] from L9 _ _ _ i6
  clear i6
  intro N5
  induction N5 using Nat.strongRecOn with
  | _ N5 h10 =>
    intro x2 x3 j11
    have hv := b7 N5 x2 x3 j11
    refine wa_iload_n X 3 rfl dX2_partByOrder_10 rfl ?_
    refine wa_aload_n X 0 rfl dX2_partByOrder_11 rfl ?_
    refine wa_getfw X hw (j := 0) (r := 1) hk_2 hc_2 i_2 (by decide) kw_292 rfl rfl (by decide) rfl dX2_partByOrder_12 hs_1ne ?_
    refine wa_getfw X hw (j := 0) (r := 1) hk_1 hc_1 i_1 (by decide) kw_226 rfl rfl (by decide) rfl dX2_partByOrder_15 hs_1ne ?_
    refine wa_lsize X hk_13 kw_957 dX2_partByOrder_18 hs_1ne ⟨⟨Nat.le_of_ble_eq_true rfl, Nat.le_of_ble_eq_true rfl⟩, Nat.le_of_ble_eq_true rfl, Nat.le_of_ble_eq_true rfl⟩ (Nat.le_of_ble_eq_true rfl) ?_
    refine wa_icmp_ge X (tgt := 83) dX2_partByOrder_23 (by decide) (fun c12 => ?_) (fun c12 => ?_)
    · replace hv := hv.1 c12
      refine wa_iconst X dX2_partByOrder_83 kc0 ?_
      refine wa_aload_n X 1 rfl dX2_partByOrder_84 rfl ?_
      refine wa_getI X (j := 4) hk_0 hc_0 i_0 (by decide) kw_852 rfl dX2_partByOrder_85 hr1 ?_
      refine wa_iload_n X 2 rfl dX2_partByOrder_88 rfl ?_
      refine wa_mmin X kw_946 kw_703 kw_39 kw_704 (Nat.le_of_ble_eq_true rfl) dX2_partByOrder_89 ⟨⟨Nat.le_of_ble_eq_true rfl, Nat.le_of_ble_eq_true rfl⟩, Nat.le_of_ble_eq_true rfl, Nat.le_of_ble_eq_true rfl⟩ ?_
      refine wa_mmax X kw_947 kw_607 kw_39 kw_608 (Nat.le_of_ble_eq_true rfl) dX2_partByOrder_92 ⟨⟨Nat.le_of_ble_eq_true rfl, Nat.le_of_ble_eq_true rfl⟩, Nat.le_of_ble_eq_true rfl, Nat.le_of_ble_eq_true rfl⟩ ?_
      exact wa_ireturn X E dX2_partByOrder_95 (Nat.le_of_ble_eq_true rfl) (Nat.le_of_ble_eq_true rfl) (Or.inl rfl) ⟨hw, _, rfl, hv⟩
    · replace hv := hv.2 c12
      refine wa_aload_n X 0 rfl dX2_partByOrder_26 rfl ?_
      refine wa_getfw X hw (j := 0) (r := 1) hk_2 hc_2 i_2 (by decide) kw_292 rfl rfl (by decide) rfl dX2_partByOrder_27 hs_1ne ?_
      refine wa_getfw X hw (j := 0) (r := 1) hk_1 hc_1 i_1 (by decide) kw_226 rfl rfl (by decide) rfl dX2_partByOrder_30 hs_1ne ?_
      refine wa_iload_n X 3 rfl dX2_partByOrder_33 rfl ?_
      obtain ⟨o13, hv⟩ := hv
      refine wa_lget X hk_13 kw_959 dX2_partByOrder_34 hs_1ne ⟨⟨Nat.le_of_ble_eq_true rfl, Nat.le_of_ble_eq_true rfl⟩, Nat.le_of_ble_eq_true rfl, Nat.le_of_ble_eq_true rfl⟩ (Nat.le_of_ble_eq_true rfl) o13 ?_
      obtain ⟨o14, hv⟩ := hv
      refine wa_cast X hk_0 hc_0 kw_960 dX2_partByOrder_39 o14 ?_
      refine wa_astore X (lv' := [(4, .inr (.inr (0, (S.2.1 13 1 x3.toNatClampNeg)))), (0, .inr (.inr (2, 1))), (1, .inr (.inr (0, r1))), (2, .inl x2), (3, .inl x3)]) dX2_partByOrder_42 (by decide) rfl ?_
      refine wa_aload X 0 rfl dX2_partByOrder_44 ?_
      refine wa_aload_n X 2 rfl dX2_partByOrder_46 rfl ?_
      refine wa_getR X (j := 2) hk_0 hc_0 i_0 (by decide) kw_843 rfl dX2_partByOrder_47 hr1 ?_
      refine wa_aload_n X 2 rfl dX2_partByOrder_50 rfl ?_
      refine wa_getI X (j := 3) hk_0 hc_0 i_0 (by decide) kw_848 rfl dX2_partByOrder_51 hr1 ?_
      obtain ⟨o15, hv⟩ := hv
      refine wa_callS X (As := [.inr (.inr (0, (S.2.1 13 1 x3.toNatClampNeg))), .inr (.inr (8, (S.2.1 0 r1 2))), .inl (S.1 0 r1 3)]) (f_Clr_isOnSide o14 o1 hw o15) kw_963 kw_31 kw_961 kw_962 nd_X2_isOnSide rfl rfl (Nat.le_of_ble_eq_true rfl) dX2_partByOrder_54 ⟨⟨Nat.le_of_ble_eq_true rfl, Nat.le_of_ble_eq_true rfl⟩, Nat.le_of_ble_eq_true rfl, Nat.le_of_ble_eq_true rfl⟩ (hs_pdk0 ?_) (fun _ _ h => h.elim)
      refine wa_if_eq X (tgt := 77) dX2_partByOrder_57 (by decide) (fun c16 => ?_) (fun c16 => ?_)
      · replace hv := hv.1 c16
        refine wa_iinc X (v := (x3 + 1)) (lv' := [(3, .inl (x3 + 1)), (4, .inr (.inr (0, (S.2.1 13 1 x3.toNatClampNeg)))), (0, .inr (.inr (2, 1))), (1, .inr (.inr (0, r1))), (2, .inl x2)]) 4 rfl dX2_partByOrder_77 rfl (by decide) rfl ?_
        refine wa_goto X (tgt := 10) dX2_partByOrder_80 (by decide) ?_
        obtain ⟨q17, p18, hv⟩ := hv
        refine wa_lv (lv' := [(0, .inr (.inr (2, 1))), (1, .inr (.inr (0, r1))), (2, .inl x2), (3, .inl (x3 + 1))]) [2, 3, 4, 0] rfl ?_
        exact h10 q17 p18 _ _ hv
      · replace hv := hv.2 c16
        refine wa_aload X 0 rfl dX2_partByOrder_60 ?_
        refine wa_aload_n X 2 rfl dX2_partByOrder_62 rfl ?_
        refine wa_callV X (As := [.inr (.inr (0, r1))]) (f_Bid_goesAhead o14 hr1 hw) hk_0 hc_0 rfl kw_979 kw_46 kw_976 kw_977 kw_978 nd_X0_goesAhead rfl rfl (Nat.le_of_ble_eq_true rfl) dX2_partByOrder_63 o14 ⟨⟨Nat.le_of_ble_eq_true rfl, Nat.le_of_ble_eq_true rfl⟩, Nat.le_of_ble_eq_true rfl, Nat.le_of_ble_eq_true rfl⟩ (hs_pdk0 ?_) (fun _ _ h => h.elim)
        refine wa_if_eq X (tgt := 77) dX2_partByOrder_66 (by decide) (fun c19 => ?_) (fun c19 => ?_)
        · replace hv := hv.1 c19
          refine wa_iinc X (v := (x3 + 1)) (lv' := [(3, .inl (x3 + 1)), (4, .inr (.inr (0, (S.2.1 13 1 x3.toNatClampNeg)))), (0, .inr (.inr (2, 1))), (1, .inr (.inr (0, r1))), (2, .inl x2)]) 4 rfl dX2_partByOrder_77 rfl (by decide) rfl ?_
          refine wa_goto X (tgt := 10) dX2_partByOrder_80 (by decide) ?_
          obtain ⟨q20, p21, hv⟩ := hv
          refine wa_lv (lv' := [(0, .inr (.inr (2, 1))), (1, .inr (.inr (0, r1))), (2, .inl x2), (3, .inl (x3 + 1))]) [2, 3, 4, 0] rfl ?_
          exact h10 q20 p21 _ _ hv
        · replace hv := hv.2 c19
          refine wa_iload_n X 3 rfl dX2_partByOrder_69 rfl ?_
          refine wa_aload X 0 rfl dX2_partByOrder_70 ?_
          refine wa_getI X (j := 4) hk_0 hc_0 i_0 (by decide) kw_852 rfl dX2_partByOrder_72 o14 ?_
          refine wa_isub X dX2_partByOrder_75 ?_
          refine wa_istore_n X (lv' := [(2, .inl (x2 - (S.1 0 (S.2.1 13 1 x3.toNatClampNeg) 4))), (4, .inr (.inr (0, (S.2.1 13 1 x3.toNatClampNeg)))), (0, .inr (.inr (2, 1))), (1, .inr (.inr (0, r1))), (3, .inl x3)]) dX2_partByOrder_76 rfl (by decide) rfl ?_
          refine wa_iinc X (v := (x3 + 1)) (lv' := [(3, .inl (x3 + 1)), (2, .inl (x2 - (S.1 0 (S.2.1 13 1 x3.toNatClampNeg) 4))), (4, .inr (.inr (0, (S.2.1 13 1 x3.toNatClampNeg)))), (0, .inr (.inr (2, 1))), (1, .inr (.inr (0, r1)))]) 4 rfl dX2_partByOrder_77 rfl (by decide) rfl ?_
          refine wa_goto X (tgt := 10) dX2_partByOrder_80 (by decide) ?_
          obtain ⟨q22, p23, hv⟩ := hv
          refine wa_lv (lv' := [(0, .inr (.inr (2, 1))), (1, .inr (.inr (0, r1))), (2, .inl (x2 - (S.1 0 (S.2.1 13 1 x3.toNatClampNeg) 4))), (3, .inl (x3 + 1))]) [3, 4, 1, 0] rfl ?_
          exact h10 q22 p23 _ _ hv
theorem v_Clr_partByOrder {r1 : Nat} {S : hs_S} (hP : P_Clr_partByOrder r1 S) : vc_Clr_partByOrder r1 S (fun r S' => r = F_Clr_partByOrder r1 S ∧ S' = S) := by
  obtain ⟨hr, g, hg, eg, hb⟩ := hP
  unfold vc_Clr_partByOrder F_Clr_partByOrder
  rw [eg]
  refine ⟨hr, fun N x1 x2 => ∃ k, k ≤ g ∧ x2 = nI k ∧ x1 = cPo S r1 k ∧ N = g - k, ⟨g, 0, Nat.zero_le _, rfl, rfl, rfl⟩, ?_⟩
  rintro N x1 x2 ⟨k, hk, rfl, rfl, rfl⟩
  refine ⟨fun h => ?_, fun h => ?_⟩
  · have := hl_end (by omega) hk h
    subst this
    exact ⟨rfl, rfl⟩
  · have hk1 := hl_go (by omega) hk h
    rw [hl_cl (by omega)]
    refine ⟨hl_ix (by omega) (by omega), (hb k hk1).1, (hb k hk1).2, fun h1 => hl_nx hk1 (if_pos h1).symm, fun h1 => ⟨fun h2 => hl_nx hk1 ?_, fun h2 => hl_nx hk1 ?_⟩⟩
    · show _ = cPo S r1 (k + 1)
      rw [cPo, if_neg h1, if_pos h2]
    · show _ = cPo S r1 (k + 1)
      rw [cPo, if_neg h1, if_neg h2]
theorem f_Clr_partByOrder {r1 : Nat} {S : hs_S} (hr1 : r1 ≠ 0) (hw : hs_Wi S) (hP : P_Clr_partByOrder r1 S) : hs_M 5 yX2_partByOrder (.code yX2_partByOrder cX2_partByOrder 5 (some FieldType.int)) [.inr (.inr (2, 1)), .inr (.inr (0, r1))] S 0 0 (hs_pd (some (.inl (F_Clr_partByOrder r1 S))) S) hs_nX := hs_pdI (ok_Clr_partByOrder hr1 hw (v_Clr_partByOrder hP))

abbrev cRs (S : hs_S) (r i : Nat) (all : Int32) : Int32 := S.1 8 (S.2.1 0 r 2) 6 * S.1 0 i 4 - S.1 8 (S.2.1 0 r 2) 6 * S.1 0 i 4 / all * all
def cPl (S : hs_S) (r : Nat) (all : Int32) : Nat → Int32
  | 0 => S.1 8 (S.2.1 0 r 2) 6
  | k + 1 => if F_Clr_isOnSide (bd S k) (S.2.1 0 r 2) (S.1 0 r 3) S = 0 then cPl S r all k else cPl S r all k - S.1 8 (S.2.1 0 r 2) 6 * S.1 0 (bd S k) 4 / all
abbrev cPaC (S : hs_S) (r i : Nat) (all : Int32) : Prop := cRs S r r all < cRs S r i all ∨ (cRs S r i all = cRs S r r all ∧ ¬ S.1 0 r 0 ≤ S.1 0 i 0)
def cPa (S : hs_S) (r : Nat) (all : Int32) : Nat → Int32
  | 0 => 0
  | k + 1 => if F_Clr_isOnSide (bd S k) (S.2.1 0 r 2) (S.1 0 r 3) S = 0 then cPa S r all k else if cPaC S r (bd S k) all then cPa S r all k + 1 else cPa S r all k
def F_Clr_partByShares (r1 : Nat) (a2 : Int32) (S : hs_S) : Int32 := if 0 < a2 then S.1 8 (S.2.1 0 r1 2) 6 * S.1 0 r1 4 / a2 + (if cPl S r1 a2 (hs_sz S 13) ≤ cPa S r1 a2 (hs_sz S 13) then 0 else 1) else 0
def P_Clr_partByShares (r1 : Nat) (a2 : Int32) (S : hs_S) : Prop := S.2.1 0 r1 2 ≠ 0 ∧ cBd S
def m_Clr_partByShares (r1 : Nat) (a2 : Int32) (S : hs_S) (Q : Int32 → hs_S → Prop) : Prop := hs_M 5 yX2_partByShares (.code yX2_partByShares cX2_partByShares 10 (some FieldType.int)) [.inr (.inr (2, 1)), .inr (.inr (0, r1)), .inl a2] S 0 0 (hs_qI Q) hs_nX
def vc_Clr_partByShares (r1 : Nat) (a2 : Int32) (S : hs_S) (Q : Int32 → hs_S → Prop) : Prop := ((0 < a2 → (((S.2.1 0 r1 2) ≠ 0) ∧ ((¬ a2 = 0) ∧ (∃ I7 : Nat → Int32 → Int32 → Int32 → Prop, (∃ n11, I7 n11 (S.1 8 (S.2.1 0 r1 2) 6) (0 : Int32) (0 : Int32)) ∧ (∀ N8 : Nat, ∀ x4 : Int32, ∀ x5 : Int32, ∀ x6 : Int32, I7 N8 x4 x5 x6 → (((nI (hs_sz S 13)) ≤ x6 → ((x4 ≤ x5 → (Q ((((S.1 8 (S.2.1 0 r1 2) 6) * (S.1 0 r1 4)) / a2) + (0 : Int32)) S)) ∧ (¬ x4 ≤ x5 → (Q ((((S.1 8 (S.2.1 0 r1 2) 6) * (S.1 0 r1 4)) / a2) + (1 : Int32)) S)))) ∧ (¬ (nI (hs_sz S 13)) ≤ x6 → ((0 ≤ x6.toInt ∧ x6.toInt < (hs_sz S 13)) ∧ (((S.2.1 13 1 x6.toNatClampNeg) ≠ 0) ∧ ((P_Clr_isOnSide (S.2.1 13 1 x6.toNatClampNeg) (S.2.1 0 r1 2) (S.1 0 r1 3) S) ∧ (((F_Clr_isOnSide (S.2.1 13 1 x6.toNatClampNeg) (S.2.1 0 r1 2) (S.1 0 r1 3) S) = 0 → (∃ q21, q21 < N8 ∧ I7 q21 x4 x5 (x6 + 1))) ∧ (¬ (F_Clr_isOnSide (S.2.1 13 1 x6.toNatClampNeg) (S.2.1 0 r1 2) (S.1 0 r1 3) S) = 0 → (((((S.1 8 (S.2.1 0 r1 2) 6) * (S.1 0 r1 4)) - ((S.1 8 (S.2.1 0 r1 2) 6) * (S.1 0 r1 4)) / a2 * a2) < (((S.1 8 (S.2.1 0 r1 2) 6) * (S.1 0 (S.2.1 13 1 x6.toNatClampNeg) 4)) - ((S.1 8 (S.2.1 0 r1 2) 6) * (S.1 0 (S.2.1 13 1 x6.toNatClampNeg) 4)) / a2 * a2) → (∃ q24, q24 < N8 ∧ I7 q24 (x4 - (((S.1 8 (S.2.1 0 r1 2) 6) * (S.1 0 (S.2.1 13 1 x6.toNatClampNeg) 4)) / a2)) (x5 + 1) (x6 + 1))) ∧ (¬ (((S.1 8 (S.2.1 0 r1 2) 6) * (S.1 0 r1 4)) - ((S.1 8 (S.2.1 0 r1 2) 6) * (S.1 0 r1 4)) / a2 * a2) < (((S.1 8 (S.2.1 0 r1 2) 6) * (S.1 0 (S.2.1 13 1 x6.toNatClampNeg) 4)) - ((S.1 8 (S.2.1 0 r1 2) 6) * (S.1 0 (S.2.1 13 1 x6.toNatClampNeg) 4)) / a2 * a2) → ((¬ (((S.1 8 (S.2.1 0 r1 2) 6) * (S.1 0 (S.2.1 13 1 x6.toNatClampNeg) 4)) - ((S.1 8 (S.2.1 0 r1 2) 6) * (S.1 0 (S.2.1 13 1 x6.toNatClampNeg) 4)) / a2 * a2) = (((S.1 8 (S.2.1 0 r1 2) 6) * (S.1 0 r1 4)) - ((S.1 8 (S.2.1 0 r1 2) 6) * (S.1 0 r1 4)) / a2 * a2) → (∃ q27, q27 < N8 ∧ I7 q27 (x4 - (((S.1 8 (S.2.1 0 r1 2) 6) * (S.1 0 (S.2.1 13 1 x6.toNatClampNeg) 4)) / a2)) x5 (x6 + 1))) ∧ ((((S.1 8 (S.2.1 0 r1 2) 6) * (S.1 0 (S.2.1 13 1 x6.toNatClampNeg) 4)) - ((S.1 8 (S.2.1 0 r1 2) 6) * (S.1 0 (S.2.1 13 1 x6.toNatClampNeg) 4)) / a2 * a2) = (((S.1 8 (S.2.1 0 r1 2) 6) * (S.1 0 r1 4)) - ((S.1 8 (S.2.1 0 r1 2) 6) * (S.1 0 r1 4)) / a2 * a2) → (((S.1 0 r1 0) ≤ (S.1 0 (S.2.1 13 1 x6.toNatClampNeg) 0) → (∃ q30, q30 < N8 ∧ I7 q30 (x4 - (((S.1 8 (S.2.1 0 r1 2) 6) * (S.1 0 (S.2.1 13 1 x6.toNatClampNeg) 4)) / a2)) x5 (x6 + 1))) ∧ (¬ (S.1 0 r1 0) ≤ (S.1 0 (S.2.1 13 1 x6.toNatClampNeg) 0) → (∃ q32, q32 < N8 ∧ I7 q32 (x4 - (((S.1 8 (S.2.1 0 r1 2) 6) * (S.1 0 (S.2.1 13 1 x6.toNatClampNeg) 4)) / a2)) (x5 + 1) (x6 + 1)))))))))))))))))))) ∧ (¬ 0 < a2 → (Q (0 : Int32) S)))
set_option maxRecDepth 100000 in
set_option maxHeartbeats 4000000 in
theorem ok_Clr_partByShares {r1 : Nat} {a2 : Int32} {S : hs_S} {Q : Int32 → hs_S → Prop} (hr1 : r1 ≠ 0) (hw : hs_Wi S) (hv : vc_Clr_partByShares r1 a2 S Q) : m_Clr_partByShares r1 a2 S Q := by
  unfold vc_Clr_partByShares at hv
  refine hs_body (own := RX2) rfl rfl (Nat.le_of_ble_eq_true rfl) (fun Z X E N J0 => ?_)
  show wa Z 0 0 S 0 [(0, .inr (.inr (2, 1))), (1, .inr (.inr (0, r1))), (2, .inl a2)] []
  refine wa_iload_n X 2 rfl dX2_partByShares_0 rfl ?_
  refine wa_if_gt X (tgt := 6) dX2_partByShares_1 (by decide) (fun c1 => ?_) (fun c1 => ?_)
  · replace hv := hv.1 c1
    refine wa_aload_n X 1 rfl dX2_partByShares_6 rfl ?_
    refine wa_getR X (j := 2) hk_0 hc_0 i_0 (by decide) kw_843 rfl dX2_partByShares_7 hr1 ?_
    obtain ⟨o2, hv⟩ := hv
    refine wa_getI X (j := 6) hk_8 hc_8 i_8 (by decide) kw_195 rfl dX2_partByShares_10 o2 ?_
    refine wa_istore_n X (lv' := [(3, .inl (S.1 8 (S.2.1 0 r1 2) 6)), (0, .inr (.inr (2, 1))), (1, .inr (.inr (0, r1))), (2, .inl a2)]) dX2_partByShares_13 rfl (by decide) rfl ?_
    refine wa_iload_n X 0 rfl dX2_partByShares_14 rfl ?_
    refine wa_aload_n X 2 rfl dX2_partByShares_15 rfl ?_
    refine wa_getI X (j := 4) hk_0 hc_0 i_0 (by decide) kw_852 rfl dX2_partByShares_16 hr1 ?_
    refine wa_imul X dX2_partByShares_19 ?_
    refine wa_iload_n X 3 rfl dX2_partByShares_20 rfl ?_
    obtain ⟨o3, hv⟩ := hv
    refine wa_irem X dX2_partByShares_21 o3 ?_
    refine wa_istore X (lv' := [(4, .inl (((S.1 8 (S.2.1 0 r1 2) 6) * (S.1 0 r1 4)) - ((S.1 8 (S.2.1 0 r1 2) 6) * (S.1 0 r1 4)) / a2 * a2)), (3, .inl (S.1 8 (S.2.1 0 r1 2) 6)), (0, .inr (.inr (2, 1))), (1, .inr (.inr (0, r1))), (2, .inl a2)]) dX2_partByShares_22 (by decide) rfl ?_
    refine wa_iload_n X 1 rfl dX2_partByShares_24 rfl ?_
    refine wa_istore X (lv' := [(5, .inl (S.1 8 (S.2.1 0 r1 2) 6)), (4, .inl (((S.1 8 (S.2.1 0 r1 2) 6) * (S.1 0 r1 4)) - ((S.1 8 (S.2.1 0 r1 2) 6) * (S.1 0 r1 4)) / a2 * a2)), (3, .inl (S.1 8 (S.2.1 0 r1 2) 6)), (0, .inr (.inr (2, 1))), (1, .inr (.inr (0, r1))), (2, .inl a2)]) dX2_partByShares_25 (by decide) rfl ?_
    refine wa_iconst X dX2_partByShares_27 kc0 ?_
    refine wa_istore X (lv' := [(6, .inl (0 : Int32)), (5, .inl (S.1 8 (S.2.1 0 r1 2) 6)), (4, .inl (((S.1 8 (S.2.1 0 r1 2) 6) * (S.1 0 r1 4)) - ((S.1 8 (S.2.1 0 r1 2) 6) * (S.1 0 r1 4)) / a2 * a2)), (3, .inl (S.1 8 (S.2.1 0 r1 2) 6)), (0, .inr (.inr (2, 1))), (1, .inr (.inr (0, r1))), (2, .inl a2)]) dX2_partByShares_28 (by decide) rfl ?_
    refine wa_iconst X dX2_partByShares_30 kc0 ?_
    refine wa_istore X (lv' := [(7, .inl (0 : Int32)), (6, .inl (0 : Int32)), (5, .inl (S.1 8 (S.2.1 0 r1 2) 6)), (4, .inl (((S.1 8 (S.2.1 0 r1 2) 6) * (S.1 0 r1 4)) - ((S.1 8 (S.2.1 0 r1 2) 6) * (S.1 0 r1 4)) / a2 * a2)), (3, .inl (S.1 8 (S.2.1 0 r1 2) 6)), (0, .inr (.inr (2, 1))), (1, .inr (.inr (0, r1))), (2, .inl a2)]) dX2_partByShares_31 (by decide) rfl ?_
    obtain ⟨I7, ⟨n11, i9⟩, b10⟩ := hv
    refine wa_lv (lv' := [(0, .inr (.inr (2, 1))), (1, .inr (.inr (0, r1))), (2, .inl a2), (3, .inl (S.1 8 (S.2.1 0 r1 2) 6)), (4, .inl (((S.1 8 (S.2.1 0 r1 2) 6) * (S.1 0 r1 4)) - ((S.1 8 (S.2.1 0 r1 2) 6) * (S.1 0 r1 4)) / a2 * a2)), (5, .inl (S.1 8 (S.2.1 0 r1 2) 6)), (6, .inl (0 : Int32)), (7, .inl (0 : Int32))]) [5, 6, 7, 4, 3, 2, 1, 0] rfl ?_
    suffices L12 : ∀ N8 : Nat, ∀ x4 : Int32, ∀ x5 : Int32, ∀ x6 : Int32, I7 N8 x4 x5 x6 → wa Z 0 0 S 33 [(0, .inr (.inr (2, 1))), (1, .inr (.inr (0, r1))), (2, .inl a2), (3, .inl (S.1 8 (S.2.1 0 r1 2) 6)), (4, .inl (((S.1 8 (S.2.1 0 r1 2) 6) * (S.1 0 r1 4)) - ((S.1 8 (S.2.1 0 r1 2) 6) * (S.1 0 r1 4)) / a2 * a2)), (5, .inl x4), (6, .inl x5), (7, .inl x6)] [] from L12 _ _ _ _ i9
    clear i9
    intro N8
    induction N8 using Nat.strongRecOn with
    | _ N8 h13 =>
      intro x4 x5 x6 j14
      have hv := b10 N8 x4 x5 x6 j14
      refine wa_iload X 7 rfl dX2_partByShares_33 ?_
      refine wa_aload_n X 0 rfl dX2_partByShares_35 rfl ?_
      refine wa_getfw X hw (j := 0) (r := 1) hk_2 hc_2 i_2 (by decide) kw_292 rfl rfl (by decide) rfl dX2_partByShares_36 hs_1ne ?_
      refine wa_getfw X hw (j := 0) (r := 1) hk_1 hc_1 i_1 (by decide) kw_226 rfl rfl (by decide) rfl dX2_partByShares_39 hs_1ne ?_
      refine wa_lsize X hk_13 kw_957 dX2_partByShares_42 hs_1ne ⟨⟨Nat.le_of_ble_eq_true rfl, Nat.le_of_ble_eq_true rfl⟩, Nat.le_of_ble_eq_true rfl, Nat.le_of_ble_eq_true rfl⟩ (Nat.le_of_ble_eq_true rfl) ?_
      refine wa_icmp_ge X (tgt := 145) dX2_partByShares_47 (by decide) (fun c15 => ?_) (fun c15 => ?_)
      · replace hv := hv.1 c15
        refine wa_iload_n X 3 rfl dX2_partByShares_145 rfl ?_
        refine wa_aload_n X 1 rfl dX2_partByShares_146 rfl ?_
        refine wa_getI X (j := 4) hk_0 hc_0 i_0 (by decide) kw_852 rfl dX2_partByShares_147 hr1 ?_
        refine wa_imul X dX2_partByShares_150 ?_
        refine wa_iload_n X 2 rfl dX2_partByShares_151 rfl ?_
        refine wa_idiv X dX2_partByShares_152 o3 ?_
        refine wa_iload X 6 rfl dX2_partByShares_153 ?_
        refine wa_iload X 5 rfl dX2_partByShares_155 ?_
        refine wa_icmp_ge X (tgt := 164) dX2_partByShares_157 (by decide) (fun c16 => ?_) (fun c16 => ?_)
        · replace hv := hv.1 c16
          refine wa_iconst X dX2_partByShares_164 kc0 ?_
          refine wa_iadd X dX2_partByShares_165 ?_
          exact wa_ireturn X E dX2_partByShares_166 (Nat.le_of_ble_eq_true rfl) (Nat.le_of_ble_eq_true rfl) (Or.inl rfl) ⟨hw, _, rfl, hv⟩
        · replace hv := hv.2 c16
          refine wa_iconst X dX2_partByShares_160 kc1 ?_
          refine wa_goto X (tgt := 165) dX2_partByShares_161 (by decide) ?_
          refine wa_iadd X dX2_partByShares_165 ?_
          exact wa_ireturn X E dX2_partByShares_166 (Nat.le_of_ble_eq_true rfl) (Nat.le_of_ble_eq_true rfl) (Or.inl rfl) ⟨hw, _, rfl, hv⟩
      · replace hv := hv.2 c15
        refine wa_aload_n X 0 rfl dX2_partByShares_50 rfl ?_
        refine wa_getfw X hw (j := 0) (r := 1) hk_2 hc_2 i_2 (by decide) kw_292 rfl rfl (by decide) rfl dX2_partByShares_51 hs_1ne ?_
        refine wa_getfw X hw (j := 0) (r := 1) hk_1 hc_1 i_1 (by decide) kw_226 rfl rfl (by decide) rfl dX2_partByShares_54 hs_1ne ?_
        refine wa_iload X 7 rfl dX2_partByShares_57 ?_
        obtain ⟨o17, hv⟩ := hv
        refine wa_lget X hk_13 kw_959 dX2_partByShares_59 hs_1ne ⟨⟨Nat.le_of_ble_eq_true rfl, Nat.le_of_ble_eq_true rfl⟩, Nat.le_of_ble_eq_true rfl, Nat.le_of_ble_eq_true rfl⟩ (Nat.le_of_ble_eq_true rfl) o17 ?_
        obtain ⟨o18, hv⟩ := hv
        refine wa_cast X hk_0 hc_0 kw_960 dX2_partByShares_64 o18 ?_
        refine wa_astore X (lv' := [(8, .inr (.inr (0, (S.2.1 13 1 x6.toNatClampNeg)))), (0, .inr (.inr (2, 1))), (1, .inr (.inr (0, r1))), (2, .inl a2), (3, .inl (S.1 8 (S.2.1 0 r1 2) 6)), (4, .inl (((S.1 8 (S.2.1 0 r1 2) 6) * (S.1 0 r1 4)) - ((S.1 8 (S.2.1 0 r1 2) 6) * (S.1 0 r1 4)) / a2 * a2)), (5, .inl x4), (6, .inl x5), (7, .inl x6)]) dX2_partByShares_67 (by decide) rfl ?_
        refine wa_aload X 0 rfl dX2_partByShares_69 ?_
        refine wa_aload_n X 2 rfl dX2_partByShares_71 rfl ?_
        refine wa_getR X (j := 2) hk_0 hc_0 i_0 (by decide) kw_843 rfl dX2_partByShares_72 hr1 ?_
        refine wa_aload_n X 2 rfl dX2_partByShares_75 rfl ?_
        refine wa_getI X (j := 3) hk_0 hc_0 i_0 (by decide) kw_848 rfl dX2_partByShares_76 hr1 ?_
        obtain ⟨o19, hv⟩ := hv
        refine wa_callS X (As := [.inr (.inr (0, (S.2.1 13 1 x6.toNatClampNeg))), .inr (.inr (8, (S.2.1 0 r1 2))), .inl (S.1 0 r1 3)]) (f_Clr_isOnSide o18 o2 hw o19) kw_963 kw_31 kw_961 kw_962 nd_X2_isOnSide rfl rfl (Nat.le_of_ble_eq_true rfl) dX2_partByShares_79 ⟨⟨Nat.le_of_ble_eq_true rfl, Nat.le_of_ble_eq_true rfl⟩, Nat.le_of_ble_eq_true rfl, Nat.le_of_ble_eq_true rfl⟩ (hs_pdk0 ?_) (fun _ _ h => h.elim)
        refine wa_if_eq X (tgt := 139) dX2_partByShares_82 (by decide) (fun c20 => ?_) (fun c20 => ?_)
        · replace hv := hv.1 c20
          refine wa_iinc X (v := (x6 + 1)) (lv' := [(7, .inl (x6 + 1)), (8, .inr (.inr (0, (S.2.1 13 1 x6.toNatClampNeg)))), (0, .inr (.inr (2, 1))), (1, .inr (.inr (0, r1))), (2, .inl a2), (3, .inl (S.1 8 (S.2.1 0 r1 2) 6)), (4, .inl (((S.1 8 (S.2.1 0 r1 2) 6) * (S.1 0 r1 4)) - ((S.1 8 (S.2.1 0 r1 2) 6) * (S.1 0 r1 4)) / a2 * a2)), (5, .inl x4), (6, .inl x5)]) 8 rfl dX2_partByShares_139 rfl (by decide) rfl ?_
          refine wa_goto X (tgt := 33) dX2_partByShares_142 (by decide) ?_
          obtain ⟨q21, p22, hv⟩ := hv
          refine wa_lv (lv' := [(0, .inr (.inr (2, 1))), (1, .inr (.inr (0, r1))), (2, .inl a2), (3, .inl (S.1 8 (S.2.1 0 r1 2) 6)), (4, .inl (((S.1 8 (S.2.1 0 r1 2) 6) * (S.1 0 r1 4)) - ((S.1 8 (S.2.1 0 r1 2) 6) * (S.1 0 r1 4)) / a2 * a2)), (5, .inl x4), (6, .inl x5), (7, .inl (x6 + 1))]) [2, 3, 4, 5, 6, 7, 8, 0] rfl ?_
          exact h13 q21 p22 _ _ _ hv
        · replace hv := hv.2 c20
          refine wa_iload_n X 4 rfl dX2_partByShares_85 rfl ?_
          refine wa_aload X 0 rfl dX2_partByShares_86 ?_
          refine wa_getI X (j := 4) hk_0 hc_0 i_0 (by decide) kw_852 rfl dX2_partByShares_88 o18 ?_
          refine wa_imul X dX2_partByShares_91 ?_
          refine wa_iload_n X 3 rfl dX2_partByShares_92 rfl ?_
          refine wa_irem X dX2_partByShares_93 o3 ?_
          refine wa_istore X (lv' := [(9, .inl (((S.1 8 (S.2.1 0 r1 2) 6) * (S.1 0 (S.2.1 13 1 x6.toNatClampNeg) 4)) - ((S.1 8 (S.2.1 0 r1 2) 6) * (S.1 0 (S.2.1 13 1 x6.toNatClampNeg) 4)) / a2 * a2)), (8, .inr (.inr (0, (S.2.1 13 1 x6.toNatClampNeg)))), (0, .inr (.inr (2, 1))), (1, .inr (.inr (0, r1))), (2, .inl a2), (3, .inl (S.1 8 (S.2.1 0 r1 2) 6)), (4, .inl (((S.1 8 (S.2.1 0 r1 2) 6) * (S.1 0 r1 4)) - ((S.1 8 (S.2.1 0 r1 2) 6) * (S.1 0 r1 4)) / a2 * a2)), (5, .inl x4), (6, .inl x5), (7, .inl x6)]) dX2_partByShares_94 (by decide) rfl ?_
          refine wa_iload X 7 rfl dX2_partByShares_96 ?_
          refine wa_iload_n X 5 rfl dX2_partByShares_98 rfl ?_
          refine wa_aload X 1 rfl dX2_partByShares_99 ?_
          refine wa_getI X (j := 4) hk_0 hc_0 i_0 (by decide) kw_852 rfl dX2_partByShares_101 o18 ?_
          refine wa_imul X dX2_partByShares_104 ?_
          refine wa_iload_n X 4 rfl dX2_partByShares_105 rfl ?_
          refine wa_idiv X dX2_partByShares_106 o3 ?_
          refine wa_isub X dX2_partByShares_107 ?_
          refine wa_istore X (lv' := [(5, .inl (x4 - (((S.1 8 (S.2.1 0 r1 2) 6) * (S.1 0 (S.2.1 13 1 x6.toNatClampNeg) 4)) / a2))), (9, .inl (((S.1 8 (S.2.1 0 r1 2) 6) * (S.1 0 (S.2.1 13 1 x6.toNatClampNeg) 4)) - ((S.1 8 (S.2.1 0 r1 2) 6) * (S.1 0 (S.2.1 13 1 x6.toNatClampNeg) 4)) / a2 * a2)), (8, .inr (.inr (0, (S.2.1 13 1 x6.toNatClampNeg)))), (0, .inr (.inr (2, 1))), (1, .inr (.inr (0, r1))), (2, .inl a2), (3, .inl (S.1 8 (S.2.1 0 r1 2) 6)), (4, .inl (((S.1 8 (S.2.1 0 r1 2) 6) * (S.1 0 r1 4)) - ((S.1 8 (S.2.1 0 r1 2) 6) * (S.1 0 r1 4)) / a2 * a2)), (6, .inl x5), (7, .inl x6)]) dX2_partByShares_108 (by decide) rfl ?_
          refine wa_iload X 1 rfl dX2_partByShares_110 ?_
          refine wa_iload X 7 rfl dX2_partByShares_112 ?_
          refine wa_icmp_gt X (tgt := 136) dX2_partByShares_114 (by decide) (fun c23 => ?_) (fun c23 => ?_)
          · replace hv := hv.1 c23
            refine wa_iinc X (v := (x5 + 1)) (lv' := [(6, .inl (x5 + 1)), (5, .inl (x4 - (((S.1 8 (S.2.1 0 r1 2) 6) * (S.1 0 (S.2.1 13 1 x6.toNatClampNeg) 4)) / a2))), (9, .inl (((S.1 8 (S.2.1 0 r1 2) 6) * (S.1 0 (S.2.1 13 1 x6.toNatClampNeg) 4)) - ((S.1 8 (S.2.1 0 r1 2) 6) * (S.1 0 (S.2.1 13 1 x6.toNatClampNeg) 4)) / a2 * a2)), (8, .inr (.inr (0, (S.2.1 13 1 x6.toNatClampNeg)))), (0, .inr (.inr (2, 1))), (1, .inr (.inr (0, r1))), (2, .inl a2), (3, .inl (S.1 8 (S.2.1 0 r1 2) 6)), (4, .inl (((S.1 8 (S.2.1 0 r1 2) 6) * (S.1 0 r1 4)) - ((S.1 8 (S.2.1 0 r1 2) 6) * (S.1 0 r1 4)) / a2 * a2)), (7, .inl x6)]) 8 rfl dX2_partByShares_136 rfl (by decide) rfl ?_
            refine wa_iinc X (v := (x6 + 1)) (lv' := [(7, .inl (x6 + 1)), (6, .inl (x5 + 1)), (5, .inl (x4 - (((S.1 8 (S.2.1 0 r1 2) 6) * (S.1 0 (S.2.1 13 1 x6.toNatClampNeg) 4)) / a2))), (9, .inl (((S.1 8 (S.2.1 0 r1 2) 6) * (S.1 0 (S.2.1 13 1 x6.toNatClampNeg) 4)) - ((S.1 8 (S.2.1 0 r1 2) 6) * (S.1 0 (S.2.1 13 1 x6.toNatClampNeg) 4)) / a2 * a2)), (8, .inr (.inr (0, (S.2.1 13 1 x6.toNatClampNeg)))), (0, .inr (.inr (2, 1))), (1, .inr (.inr (0, r1))), (2, .inl a2), (3, .inl (S.1 8 (S.2.1 0 r1 2) 6)), (4, .inl (((S.1 8 (S.2.1 0 r1 2) 6) * (S.1 0 r1 4)) - ((S.1 8 (S.2.1 0 r1 2) 6) * (S.1 0 r1 4)) / a2 * a2))]) 9 rfl dX2_partByShares_139 rfl (by decide) rfl ?_
            refine wa_goto X (tgt := 33) dX2_partByShares_142 (by decide) ?_
            obtain ⟨q24, p25, hv⟩ := hv
            refine wa_lv (lv' := [(0, .inr (.inr (2, 1))), (1, .inr (.inr (0, r1))), (2, .inl a2), (3, .inl (S.1 8 (S.2.1 0 r1 2) 6)), (4, .inl (((S.1 8 (S.2.1 0 r1 2) 6) * (S.1 0 r1 4)) - ((S.1 8 (S.2.1 0 r1 2) 6) * (S.1 0 r1 4)) / a2 * a2)), (5, .inl (x4 - (((S.1 8 (S.2.1 0 r1 2) 6) * (S.1 0 (S.2.1 13 1 x6.toNatClampNeg) 4)) / a2))), (6, .inl (x5 + 1)), (7, .inl (x6 + 1))]) [5, 6, 7, 8, 9, 2, 1, 0] rfl ?_
            exact h13 q24 p25 _ _ _ hv
          · replace hv := hv.2 c23
            refine wa_iload X 1 rfl dX2_partByShares_117 ?_
            refine wa_iload X 7 rfl dX2_partByShares_119 ?_
            refine wa_icmp_ne X (tgt := 139) dX2_partByShares_121 (by decide) (fun c26 => ?_) (fun c26 => ?_)
            · replace hv := hv.1 c26
              refine wa_iinc X (v := (x6 + 1)) (lv' := [(7, .inl (x6 + 1)), (5, .inl (x4 - (((S.1 8 (S.2.1 0 r1 2) 6) * (S.1 0 (S.2.1 13 1 x6.toNatClampNeg) 4)) / a2))), (9, .inl (((S.1 8 (S.2.1 0 r1 2) 6) * (S.1 0 (S.2.1 13 1 x6.toNatClampNeg) 4)) - ((S.1 8 (S.2.1 0 r1 2) 6) * (S.1 0 (S.2.1 13 1 x6.toNatClampNeg) 4)) / a2 * a2)), (8, .inr (.inr (0, (S.2.1 13 1 x6.toNatClampNeg)))), (0, .inr (.inr (2, 1))), (1, .inr (.inr (0, r1))), (2, .inl a2), (3, .inl (S.1 8 (S.2.1 0 r1 2) 6)), (4, .inl (((S.1 8 (S.2.1 0 r1 2) 6) * (S.1 0 r1 4)) - ((S.1 8 (S.2.1 0 r1 2) 6) * (S.1 0 r1 4)) / a2 * a2)), (6, .inl x5)]) 9 rfl dX2_partByShares_139 rfl (by decide) rfl ?_
              refine wa_goto X (tgt := 33) dX2_partByShares_142 (by decide) ?_
              obtain ⟨q27, p28, hv⟩ := hv
              refine wa_lv (lv' := [(0, .inr (.inr (2, 1))), (1, .inr (.inr (0, r1))), (2, .inl a2), (3, .inl (S.1 8 (S.2.1 0 r1 2) 6)), (4, .inl (((S.1 8 (S.2.1 0 r1 2) 6) * (S.1 0 r1 4)) - ((S.1 8 (S.2.1 0 r1 2) 6) * (S.1 0 r1 4)) / a2 * a2)), (5, .inl (x4 - (((S.1 8 (S.2.1 0 r1 2) 6) * (S.1 0 (S.2.1 13 1 x6.toNatClampNeg) 4)) / a2))), (6, .inl x5), (7, .inl (x6 + 1))]) [4, 5, 6, 7, 8, 1, 9, 0] rfl ?_
              exact h13 q27 p28 _ _ _ hv
            · replace hv := hv.2 c26
              refine wa_aload X 2 rfl dX2_partByShares_124 ?_
              refine wa_getI X (j := 0) hk_0 hc_0 i_0 (by decide) kw_837 rfl dX2_partByShares_126 o18 ?_
              refine wa_aload_n X 4 rfl dX2_partByShares_129 rfl ?_
              refine wa_getI X (j := 0) hk_0 hc_0 i_0 (by decide) kw_837 rfl dX2_partByShares_130 hr1 ?_
              refine wa_icmp_ge X (tgt := 139) dX2_partByShares_133 (by decide) (fun c29 => ?_) (fun c29 => ?_)
              · replace hv := hv.1 c29
                refine wa_iinc X (v := (x6 + 1)) (lv' := [(7, .inl (x6 + 1)), (5, .inl (x4 - (((S.1 8 (S.2.1 0 r1 2) 6) * (S.1 0 (S.2.1 13 1 x6.toNatClampNeg) 4)) / a2))), (9, .inl (((S.1 8 (S.2.1 0 r1 2) 6) * (S.1 0 (S.2.1 13 1 x6.toNatClampNeg) 4)) - ((S.1 8 (S.2.1 0 r1 2) 6) * (S.1 0 (S.2.1 13 1 x6.toNatClampNeg) 4)) / a2 * a2)), (8, .inr (.inr (0, (S.2.1 13 1 x6.toNatClampNeg)))), (0, .inr (.inr (2, 1))), (1, .inr (.inr (0, r1))), (2, .inl a2), (3, .inl (S.1 8 (S.2.1 0 r1 2) 6)), (4, .inl (((S.1 8 (S.2.1 0 r1 2) 6) * (S.1 0 r1 4)) - ((S.1 8 (S.2.1 0 r1 2) 6) * (S.1 0 r1 4)) / a2 * a2)), (6, .inl x5)]) 9 rfl dX2_partByShares_139 rfl (by decide) rfl ?_
                refine wa_goto X (tgt := 33) dX2_partByShares_142 (by decide) ?_
                obtain ⟨q30, p31, hv⟩ := hv
                refine wa_lv (lv' := [(0, .inr (.inr (2, 1))), (1, .inr (.inr (0, r1))), (2, .inl a2), (3, .inl (S.1 8 (S.2.1 0 r1 2) 6)), (4, .inl (((S.1 8 (S.2.1 0 r1 2) 6) * (S.1 0 r1 4)) - ((S.1 8 (S.2.1 0 r1 2) 6) * (S.1 0 r1 4)) / a2 * a2)), (5, .inl (x4 - (((S.1 8 (S.2.1 0 r1 2) 6) * (S.1 0 (S.2.1 13 1 x6.toNatClampNeg) 4)) / a2))), (6, .inl x5), (7, .inl (x6 + 1))]) [4, 5, 6, 7, 8, 1, 9, 0] rfl ?_
                exact h13 q30 p31 _ _ _ hv
              · replace hv := hv.2 c29
                refine wa_iinc X (v := (x5 + 1)) (lv' := [(6, .inl (x5 + 1)), (5, .inl (x4 - (((S.1 8 (S.2.1 0 r1 2) 6) * (S.1 0 (S.2.1 13 1 x6.toNatClampNeg) 4)) / a2))), (9, .inl (((S.1 8 (S.2.1 0 r1 2) 6) * (S.1 0 (S.2.1 13 1 x6.toNatClampNeg) 4)) - ((S.1 8 (S.2.1 0 r1 2) 6) * (S.1 0 (S.2.1 13 1 x6.toNatClampNeg) 4)) / a2 * a2)), (8, .inr (.inr (0, (S.2.1 13 1 x6.toNatClampNeg)))), (0, .inr (.inr (2, 1))), (1, .inr (.inr (0, r1))), (2, .inl a2), (3, .inl (S.1 8 (S.2.1 0 r1 2) 6)), (4, .inl (((S.1 8 (S.2.1 0 r1 2) 6) * (S.1 0 r1 4)) - ((S.1 8 (S.2.1 0 r1 2) 6) * (S.1 0 r1 4)) / a2 * a2)), (7, .inl x6)]) 8 rfl dX2_partByShares_136 rfl (by decide) rfl ?_
                refine wa_iinc X (v := (x6 + 1)) (lv' := [(7, .inl (x6 + 1)), (6, .inl (x5 + 1)), (5, .inl (x4 - (((S.1 8 (S.2.1 0 r1 2) 6) * (S.1 0 (S.2.1 13 1 x6.toNatClampNeg) 4)) / a2))), (9, .inl (((S.1 8 (S.2.1 0 r1 2) 6) * (S.1 0 (S.2.1 13 1 x6.toNatClampNeg) 4)) - ((S.1 8 (S.2.1 0 r1 2) 6) * (S.1 0 (S.2.1 13 1 x6.toNatClampNeg) 4)) / a2 * a2)), (8, .inr (.inr (0, (S.2.1 13 1 x6.toNatClampNeg)))), (0, .inr (.inr (2, 1))), (1, .inr (.inr (0, r1))), (2, .inl a2), (3, .inl (S.1 8 (S.2.1 0 r1 2) 6)), (4, .inl (((S.1 8 (S.2.1 0 r1 2) 6) * (S.1 0 r1 4)) - ((S.1 8 (S.2.1 0 r1 2) 6) * (S.1 0 r1 4)) / a2 * a2))]) 9 rfl dX2_partByShares_139 rfl (by decide) rfl ?_
                refine wa_goto X (tgt := 33) dX2_partByShares_142 (by decide) ?_
                obtain ⟨q32, p33, hv⟩ := hv
                refine wa_lv (lv' := [(0, .inr (.inr (2, 1))), (1, .inr (.inr (0, r1))), (2, .inl a2), (3, .inl (S.1 8 (S.2.1 0 r1 2) 6)), (4, .inl (((S.1 8 (S.2.1 0 r1 2) 6) * (S.1 0 r1 4)) - ((S.1 8 (S.2.1 0 r1 2) 6) * (S.1 0 r1 4)) / a2 * a2)), (5, .inl (x4 - (((S.1 8 (S.2.1 0 r1 2) 6) * (S.1 0 (S.2.1 13 1 x6.toNatClampNeg) 4)) / a2))), (6, .inl (x5 + 1)), (7, .inl (x6 + 1))]) [5, 6, 7, 8, 9, 2, 1, 0] rfl ?_
                exact h13 q32 p33 _ _ _ hv
  · replace hv := hv.2 c1
    refine wa_iconst X dX2_partByShares_4 kc0 ?_
    exact wa_ireturn X E dX2_partByShares_5 (Nat.le_of_ble_eq_true rfl) (Nat.le_of_ble_eq_true rfl) (Or.inl rfl) ⟨hw, _, rfl, hv⟩
theorem v_Clr_partByShares {r1 : Nat} {a2 : Int32} {S : hs_S} (hP : P_Clr_partByShares r1 a2 S) : vc_Clr_partByShares r1 a2 S (fun r S' => r = F_Clr_partByShares r1 a2 S ∧ S' = S) := by
  obtain ⟨hr, g, hg, eg, hb⟩ := hP
  unfold vc_Clr_partByShares F_Clr_partByShares
  rw [eg]
  refine ⟨fun h0 => ⟨hr, fun z => by rw [z] at h0; exact absurd h0 (by decide), fun N x1 x2 x3 => ∃ k, k ≤ g ∧ x3 = nI k ∧ (x1 = cPl S r1 a2 k ∧ x2 = cPa S r1 a2 k) ∧ N = g - k, ⟨g, 0, Nat.zero_le _, rfl, ⟨rfl, rfl⟩, rfl⟩, ?_⟩, fun h0 => ⟨(if_neg h0).symm, rfl⟩⟩
  rintro N x1 x2 x3 ⟨k, hk, rfl, ⟨rfl, rfl⟩, rfl⟩
  refine ⟨fun h => ?_, fun h => ?_⟩
  · have := hl_end (by omega) hk h
    subst this
    refine ⟨fun q => ⟨?_, rfl⟩, fun q => ⟨?_, rfl⟩⟩
    · rw [if_pos h0, if_pos q]
    · rw [if_pos h0, if_neg q]
  · have hk1 := hl_go (by omega) hk h
    rw [hl_cl (by omega)]
    refine ⟨hl_ix (by omega) (by omega), (hb k hk1).1, (hb k hk1).2, fun h1 => hl_nx hk1 ⟨(if_pos h1).symm, (if_pos h1).symm⟩, fun h1 => ⟨fun h2 => hl_nx hk1 ⟨(if_neg h1).symm, ?_⟩, fun h2 => ⟨fun h3 => hl_nx hk1 ⟨(if_neg h1).symm, ?_⟩, fun h3 => ⟨fun h4 => hl_nx hk1 ⟨(if_neg h1).symm, ?_⟩, fun h4 => hl_nx hk1 ⟨(if_neg h1).symm, ?_⟩⟩⟩⟩⟩
    · show _ = cPa S r1 a2 (k + 1)
      rw [cPa, if_neg h1, if_pos (Or.inl h2)]
    · show _ = cPa S r1 a2 (k + 1)
      rw [cPa, if_neg h1, if_neg fun z => z.elim h2 fun w => h3 w.1]
    · show _ = cPa S r1 a2 (k + 1)
      rw [cPa, if_neg h1, if_neg fun z => z.elim h2 fun w => w.2 h4]
    · show _ = cPa S r1 a2 (k + 1)
      rw [cPa, if_neg h1, if_pos (Or.inr ⟨h3, h4⟩)]
theorem f_Clr_partByShares {r1 : Nat} {a2 : Int32} {S : hs_S} (hr1 : r1 ≠ 0) (hw : hs_Wi S) (hP : P_Clr_partByShares r1 a2 S) : hs_M 5 yX2_partByShares (.code yX2_partByShares cX2_partByShares 10 (some FieldType.int)) [.inr (.inr (2, 1)), .inr (.inr (0, r1)), .inl a2] S 0 0 (hs_pd (some (.inl (F_Clr_partByShares r1 a2 S))) S) hs_nX := hs_pdI (ok_Clr_partByShares hr1 hw (v_Clr_partByShares hP))

def F_Ldg_dueOf (a1 a2 : Int32) (S : hs_S) : Int32 := F_Book_owedBy a1 a2 S - S.1 35 1 (a1 * 4 + a2).toNatClampNeg
def P_Ldg_dueOf (a1 a2 : Int32) (S : hs_S) : Prop := P_Book_owedBy a1 a2 S ∧ 0 ≤ (a1 * 4 + a2).toInt ∧ (a1 * 4 + a2).toInt < 24
def m_Ldg_dueOf (a1 : Int32) (a2 : Int32) (S : hs_S) (Q : Int32 → hs_S → Prop) : Prop := hs_M 6 yX6_dueOf (.code yX6_dueOf cX6_dueOf 3 (some FieldType.int)) [.inr (.inr (6, 1)), .inl a1, .inl a2] S 0 0 (hs_qI Q) hs_nX
def vc_Ldg_dueOf (a1 : Int32) (a2 : Int32) (S : hs_S) (Q : Int32 → hs_S → Prop) : Prop := ((P_Book_owedBy a1 a2 S) ∧ ((0 ≤ ((a1 * (4 : Int32)) + a2).toInt ∧ ((a1 * (4 : Int32)) + a2).toInt < 24) ∧ (Q ((F_Book_owedBy a1 a2 S) - (S.1 35 1 ((a1 * (4 : Int32)) + a2).toNatClampNeg)) S)))
set_option maxRecDepth 100000 in
set_option maxHeartbeats 4000000 in
theorem ok_Ldg_dueOf {a1 : Int32} {a2 : Int32} {S : hs_S} {Q : Int32 → hs_S → Prop} (hw : hs_Wi S) (hv : vc_Ldg_dueOf a1 a2 S Q) : m_Ldg_dueOf a1 a2 S Q := by
  unfold vc_Ldg_dueOf at hv
  refine hs_body (own := RX6) rfl rfl (Nat.le_of_ble_eq_true rfl) (fun Z X E N J0 => ?_)
  show wa Z 0 0 S 0 [(0, .inr (.inr (6, 1))), (1, .inl a1), (2, .inl a2)] []
  refine wa_aload_n X 0 rfl dX6_dueOf_0 rfl ?_
  refine wa_getfw X hw (j := 0) (r := 1) hk_6 hc_6 i_6 (by decide) kw_306 rfl rfl (by decide) rfl dX6_dueOf_1 hs_1ne ?_
  refine wa_iload_n X 1 rfl dX6_dueOf_4 rfl ?_
  refine wa_iload_n X 2 rfl dX6_dueOf_5 rfl ?_
  obtain ⟨o1, hv⟩ := hv
  refine wa_callV X (As := [.inl a1, .inl a2]) (f_Book_owedBy hw o1) hk_1 hc_1 rfl kw_474 kw_28 kw_471 kw_472 kw_473 nd_X1_owedBy rfl rfl (Nat.le_of_ble_eq_true rfl) dX6_dueOf_6 hs_1ne ⟨⟨Nat.le_of_ble_eq_true rfl, Nat.le_of_ble_eq_true rfl⟩, Nat.le_of_ble_eq_true rfl, Nat.le_of_ble_eq_true rfl⟩ (hs_pdk0 ?_) (fun _ _ h => h.elim)
  refine wa_aload_n X 0 rfl dX6_dueOf_9 rfl ?_
  refine wa_getfw X hw (j := 1) (r := 1) hk_6 hc_6 i_6 (by decide) kw_307 rfl rfl (by decide) rfl dX6_dueOf_10 hs_1ne ?_
  refine wa_iload_n X 1 rfl dX6_dueOf_13 rfl ?_
  refine wa_iconst X dX6_dueOf_14 kc4 ?_
  refine wa_imul X dX6_dueOf_15 ?_
  refine wa_iload_n X 2 rfl dX6_dueOf_16 rfl ?_
  refine wa_iadd X dX6_dueOf_17 ?_
  obtain ⟨o2, hv⟩ := hv
  refine wa_iald X hk_35 dX6_dueOf_18 hs_1ne o2 ?_
  refine wa_isub X dX6_dueOf_19 ?_
  exact wa_ireturn X E dX6_dueOf_20 (Nat.le_of_ble_eq_true rfl) (Nat.le_of_ble_eq_true rfl) (Or.inl rfl) ⟨hw, _, rfl, hv⟩
theorem v_Ldg_dueOf {a1 a2 : Int32} {S : hs_S} (hP : P_Ldg_dueOf a1 a2 S) : vc_Ldg_dueOf a1 a2 S (fun r S' => r = F_Ldg_dueOf a1 a2 S ∧ S' = S) := ⟨hP.1, hP.2, rfl, rfl⟩
theorem f_Ldg_dueOf {a1 : Int32} {a2 : Int32} {S : hs_S} (hw : hs_Wi S) (hP : P_Ldg_dueOf a1 a2 S) : hs_M 6 yX6_dueOf (.code yX6_dueOf cX6_dueOf 3 (some FieldType.int)) [.inr (.inr (6, 1)), .inl a1, .inl a2] S 0 0 (hs_pd (some (.inl (F_Ldg_dueOf a1 a2 S))) S) hs_nX := hs_pdI (ok_Ldg_dueOf hw (v_Ldg_dueOf hP))

def cEx (S : hs_S) (o : Int32) : Nat → Int32
  | 0 => F_Book_offeredBy o S
  | c + 1 => cEx S o c + (if 0 < F_Ldg_dueOf o (nI c) S then F_Ldg_dueOf o (nI c) S else 0)
def F_Ldg_exposureOf (a1 : Int32) (S : hs_S) : Int32 := cEx S a1 4
def P_Ldg_exposureOf (a1 : Int32) (S : hs_S) : Prop := cBd S ∧ ∀ c, c < 4 → P_Ldg_dueOf a1 (nI c) S
def m_Ldg_exposureOf (a1 : Int32) (S : hs_S) (Q : Int32 → hs_S → Prop) : Prop := hs_M 7 yX6_exposureOf (.code yX6_exposureOf cX6_exposureOf 4 (some FieldType.int)) [.inr (.inr (6, 1)), .inl a1] S 0 0 (hs_qI Q) hs_nX
def vc_Ldg_exposureOf (a1 : Int32) (S : hs_S) (Q : Int32 → hs_S → Prop) : Prop := ((P_Book_offeredBy a1 S) ∧ (∃ I4 : Nat → Int32 → Int32 → Prop, (∃ n8, I4 n8 (F_Book_offeredBy a1 S) (0 : Int32)) ∧ (∀ N5 : Nat, ∀ x2 : Int32, ∀ x3 : Int32, I4 N5 x2 x3 → (((4 : Int32) ≤ x3 → (Q x2 S)) ∧ (¬ (4 : Int32) ≤ x3 → ((P_Ldg_dueOf a1 x3 S) ∧ (∃ q14, q14 < N5 ∧ I4 q14 (x2 + (if (0 : Int32) < (F_Ldg_dueOf a1 x3 S) then (F_Ldg_dueOf a1 x3 S) else (0 : Int32))) (x3 + 1))))))))
set_option maxRecDepth 100000 in
set_option maxHeartbeats 4000000 in
theorem ok_Ldg_exposureOf {a1 : Int32} {S : hs_S} {Q : Int32 → hs_S → Prop} (hw : hs_Wi S) (hv : vc_Ldg_exposureOf a1 S Q) : m_Ldg_exposureOf a1 S Q := by
  unfold vc_Ldg_exposureOf at hv
  refine hs_body (own := RX6) rfl rfl (Nat.le_of_ble_eq_true rfl) (fun Z X E N J0 => ?_)
  show wa Z 0 0 S 0 [(0, .inr (.inr (6, 1))), (1, .inl a1)] []
  refine wa_aload_n X 0 rfl dX6_exposureOf_0 rfl ?_
  refine wa_getfw X hw (j := 0) (r := 1) hk_6 hc_6 i_6 (by decide) kw_306 rfl rfl (by decide) rfl dX6_exposureOf_1 hs_1ne ?_
  refine wa_iload_n X 1 rfl dX6_exposureOf_4 rfl ?_
  obtain ⟨o1, hv⟩ := hv
  refine wa_callV X (As := [.inl a1]) (f_Book_offeredBy hw o1) hk_1 hc_1 rfl kw_820 kw_28 kw_817 kw_818 kw_819 nd_X1_offeredBy rfl rfl (Nat.le_of_ble_eq_true rfl) dX6_exposureOf_5 hs_1ne ⟨⟨Nat.le_of_ble_eq_true rfl, Nat.le_of_ble_eq_true rfl⟩, Nat.le_of_ble_eq_true rfl, Nat.le_of_ble_eq_true rfl⟩ (hs_pdk0 ?_) (fun _ _ h => h.elim)
  refine wa_istore_n X (lv' := [(2, .inl (F_Book_offeredBy a1 S)), (0, .inr (.inr (6, 1))), (1, .inl a1)]) dX6_exposureOf_8 rfl (by decide) rfl ?_
  refine wa_iconst X dX6_exposureOf_9 kc0 ?_
  refine wa_istore_n X (lv' := [(3, .inl (0 : Int32)), (2, .inl (F_Book_offeredBy a1 S)), (0, .inr (.inr (6, 1))), (1, .inl a1)]) dX6_exposureOf_10 rfl (by decide) rfl ?_
  obtain ⟨I4, ⟨n8, i6⟩, b7⟩ := hv
  refine wa_lv (lv' := [(0, .inr (.inr (6, 1))), (1, .inl a1), (2, .inl (F_Book_offeredBy a1 S)), (3, .inl (0 : Int32))]) [2, 3, 1, 0] rfl ?_
  suffices L9 : ∀ N5 : Nat, ∀ x2 : Int32, ∀ x3 : Int32, I4 N5 x2 x3 → wa Z 0 0 S 11 [(0, .inr (.inr (6, 1))), (1, .inl a1), (2, .inl x2), (3, .inl x3)] [] from L9 _ _ _ i6
  clear i6
  intro N5
  induction N5 using Nat.strongRecOn with
  | _ N5 h10 =>
    intro x2 x3 j11
    have hv := b7 N5 x2 x3 j11
    refine wa_iload_n X 3 rfl dX6_exposureOf_11 rfl ?_
    refine wa_iconst X dX6_exposureOf_12 kc4 ?_
    refine wa_icmp_ge X (tgt := 35) dX6_exposureOf_13 (by decide) (fun c12 => ?_) (fun c12 => ?_)
    · replace hv := hv.1 c12
      refine wa_iload_n X 2 rfl dX6_exposureOf_35 rfl ?_
      exact wa_ireturn X E dX6_exposureOf_36 (Nat.le_of_ble_eq_true rfl) (Nat.le_of_ble_eq_true rfl) (Or.inl rfl) ⟨hw, _, rfl, hv⟩
    · replace hv := hv.2 c12
      refine wa_iload_n X 2 rfl dX6_exposureOf_16 rfl ?_
      refine wa_iconst X dX6_exposureOf_17 kc0 ?_
      refine wa_aload_n X 0 rfl dX6_exposureOf_18 rfl ?_
      refine wa_iload_n X 1 rfl dX6_exposureOf_19 rfl ?_
      refine wa_iload_n X 3 rfl dX6_exposureOf_20 rfl ?_
      obtain ⟨o13, hv⟩ := hv
      refine wa_callV X (As := [.inl a1, .inl x3]) (f_Ldg_dueOf hw o13) hk_6 hc_6 rfl kw_470 kw_32 kw_826 kw_468 kw_469 nd_X6_dueOf rfl rfl (Nat.le_of_ble_eq_true rfl) dX6_exposureOf_21 hs_1ne ⟨⟨Nat.le_of_ble_eq_true rfl, Nat.le_of_ble_eq_true rfl⟩, Nat.le_of_ble_eq_true rfl, Nat.le_of_ble_eq_true rfl⟩ (hs_pdk0 ?_) (fun _ _ h => h.elim)
      refine wa_mmax X kw_827 kw_607 kw_39 kw_608 (Nat.le_of_ble_eq_true rfl) dX6_exposureOf_24 ⟨⟨Nat.le_of_ble_eq_true rfl, Nat.le_of_ble_eq_true rfl⟩, Nat.le_of_ble_eq_true rfl, Nat.le_of_ble_eq_true rfl⟩ ?_
      refine wa_iadd X dX6_exposureOf_27 ?_
      refine wa_istore_n X (lv' := [(2, .inl (x2 + (if (0 : Int32) < (F_Ldg_dueOf a1 x3 S) then (F_Ldg_dueOf a1 x3 S) else (0 : Int32)))), (0, .inr (.inr (6, 1))), (1, .inl a1), (3, .inl x3)]) dX6_exposureOf_28 rfl (by decide) rfl ?_
      refine wa_iinc X (v := (x3 + 1)) (lv' := [(3, .inl (x3 + 1)), (2, .inl (x2 + (if (0 : Int32) < (F_Ldg_dueOf a1 x3 S) then (F_Ldg_dueOf a1 x3 S) else (0 : Int32)))), (0, .inr (.inr (6, 1))), (1, .inl a1)]) 3 rfl dX6_exposureOf_29 rfl (by decide) rfl ?_
      refine wa_goto X (tgt := 11) dX6_exposureOf_32 (by decide) ?_
      obtain ⟨q14, p15, hv⟩ := hv
      refine wa_lv (lv' := [(0, .inr (.inr (6, 1))), (1, .inl a1), (2, .inl (x2 + (if (0 : Int32) < (F_Ldg_dueOf a1 x3 S) then (F_Ldg_dueOf a1 x3 S) else (0 : Int32)))), (3, .inl (x3 + 1))]) [2, 3, 1, 0] rfl ?_
      exact h10 q14 p15 _ _ hv
theorem v_Ldg_exposureOf {a1 : Int32} {S : hs_S} (hP : P_Ldg_exposureOf a1 S) : vc_Ldg_exposureOf a1 S (fun r S' => r = F_Ldg_exposureOf a1 S ∧ S' = S) := by
  unfold vc_Ldg_exposureOf F_Ldg_exposureOf
  refine ⟨hP.1, fun N x1 x2 => ∃ k, k ≤ 4 ∧ x2 = nI k ∧ x1 = cEx S a1 k ∧ N = 4 - k, ⟨4, 0, Nat.zero_le _, rfl, rfl, rfl⟩, ?_⟩
  rintro N x1 x2 ⟨k, hk, rfl, rfl, rfl⟩
  refine ⟨fun h => ?_, fun h => ?_⟩
  · have : k = 4 := hl_end (g := 4) (by omega) hk h
    subst this
    exact ⟨rfl, rfl⟩
  · have hk1 : k < 4 := hl_go (g := 4) (by omega) hk h
    exact ⟨hP.2 k hk1, hl_nx hk1 rfl⟩
theorem f_Ldg_exposureOf {a1 : Int32} {S : hs_S} (hw : hs_Wi S) (hP : P_Ldg_exposureOf a1 S) : hs_M 7 yX6_exposureOf (.code yX6_exposureOf cX6_exposureOf 4 (some FieldType.int)) [.inr (.inr (6, 1)), .inl a1] S 0 0 (hs_pd (some (.inl (F_Ldg_exposureOf a1 S))) S) hs_nX := hs_pdI (ok_Ldg_exposureOf hw (v_Ldg_exposureOf hP))

abbrev cCaC (S : hs_S) (o c : Nat) : Prop := S.1 39 1 o < S.1 39 1 c ∨ (S.1 39 1 c = S.1 39 1 o ∧ c < o)
def cCa (S : hs_S) (o : Nat) : Nat → Int32
  | 0 => 0
  | c + 1 => if cCaC S o c then cCa S o c + 1 else cCa S o c
def F_Ldg_cutAhead (a1 : Int32) (S : hs_S) : Int32 := cCa S a1.toNatClampNeg 6
def P_Ldg_cutAhead (a1 : Int32) (S : hs_S) : Prop := ∃ o : Nat, o < 6 ∧ a1 = nI o
def m_Ldg_cutAhead (a1 : Int32) (S : hs_S) (Q : Int32 → hs_S → Prop) : Prop := hs_M 1 yX6_cutAhead (.code yX6_cutAhead cX6_cutAhead 4 (some FieldType.int)) [.inr (.inr (6, 1)), .inl a1] S 0 0 (hs_qI Q) hs_nX
def vc_Ldg_cutAhead (a1 : Int32) (S : hs_S) (Q : Int32 → hs_S → Prop) : Prop := (∃ I3 : Nat → Int32 → Int32 → Prop, (∃ n7, I3 n7 (0 : Int32) (0 : Int32)) ∧ (∀ N4 : Nat, ∀ x1 : Int32, ∀ x2 : Int32, I3 N4 x1 x2 → (((6 : Int32) ≤ x2 → (Q x1 S)) ∧ (¬ (6 : Int32) ≤ x2 → ((0 ≤ x2.toInt ∧ x2.toInt < 6) ∧ ((0 ≤ a1.toInt ∧ a1.toInt < 6) ∧ (((S.1 39 1 a1.toNatClampNeg) < (S.1 39 1 x2.toNatClampNeg) → (∃ q15, q15 < N4 ∧ I3 q15 (x1 + 1) (x2 + 1))) ∧ (¬ (S.1 39 1 a1.toNatClampNeg) < (S.1 39 1 x2.toNatClampNeg) → ((¬ (S.1 39 1 x2.toNatClampNeg) = (S.1 39 1 a1.toNatClampNeg) → (∃ q18, q18 < N4 ∧ I3 q18 x1 (x2 + 1))) ∧ ((S.1 39 1 x2.toNatClampNeg) = (S.1 39 1 a1.toNatClampNeg) → ((a1 ≤ x2 → (∃ q21, q21 < N4 ∧ I3 q21 x1 (x2 + 1))) ∧ (¬ a1 ≤ x2 → (∃ q23, q23 < N4 ∧ I3 q23 (x1 + 1) (x2 + 1))))))))))))))
set_option maxRecDepth 100000 in
set_option maxHeartbeats 4000000 in
theorem ok_Ldg_cutAhead {a1 : Int32} {S : hs_S} {Q : Int32 → hs_S → Prop} (hw : hs_Wi S) (hv : vc_Ldg_cutAhead a1 S Q) : m_Ldg_cutAhead a1 S Q := by
  unfold vc_Ldg_cutAhead at hv
  refine hs_body (own := RX6) rfl rfl (Nat.le_of_ble_eq_true rfl) (fun Z X E N J0 => ?_)
  show wa Z 0 0 S 0 [(0, .inr (.inr (6, 1))), (1, .inl a1)] []
  refine wa_iconst X dX6_cutAhead_0 kc0 ?_
  refine wa_istore_n X (lv' := [(2, .inl (0 : Int32)), (0, .inr (.inr (6, 1))), (1, .inl a1)]) dX6_cutAhead_1 rfl (by decide) rfl ?_
  refine wa_iconst X dX6_cutAhead_2 kc0 ?_
  refine wa_istore_n X (lv' := [(3, .inl (0 : Int32)), (2, .inl (0 : Int32)), (0, .inr (.inr (6, 1))), (1, .inl a1)]) dX6_cutAhead_3 rfl (by decide) rfl ?_
  obtain ⟨I3, ⟨n7, i5⟩, b6⟩ := hv
  refine wa_lv (lv' := [(0, .inr (.inr (6, 1))), (1, .inl a1), (2, .inl (0 : Int32)), (3, .inl (0 : Int32))]) [2, 3, 1, 0] rfl ?_
  suffices L8 : ∀ N4 : Nat, ∀ x1 : Int32, ∀ x2 : Int32, I3 N4 x1 x2 → wa Z 0 0 S 4 [(0, .inr (.inr (6, 1))), (1, .inl a1), (2, .inl x1), (3, .inl x2)] [] from L8 _ _ _ i5
  clear i5
  intro N4
  induction N4 using Nat.strongRecOn with
  | _ N4 h9 =>
    intro x1 x2 j10
    have hv := b6 N4 x1 x2 j10
    refine wa_iload_n X 3 rfl dX6_cutAhead_4 rfl ?_
    refine wa_bipush X dX6_cutAhead_5 kb6 ?_
    refine wa_icmp_ge X (tgt := 54) dX6_cutAhead_7 (by decide) (fun c11 => ?_) (fun c11 => ?_)
    · replace hv := hv.1 c11
      refine wa_iload_n X 2 rfl dX6_cutAhead_54 rfl ?_
      exact wa_ireturn X E dX6_cutAhead_55 (Nat.le_of_ble_eq_true rfl) (Nat.le_of_ble_eq_true rfl) (Or.inl rfl) ⟨hw, _, rfl, hv⟩
    · replace hv := hv.2 c11
      refine wa_aload_n X 0 rfl dX6_cutAhead_10 rfl ?_
      refine wa_getfw X hw (j := 5) (r := 1) hk_6 hc_6 i_6 (by decide) kw_313 rfl rfl (by decide) rfl dX6_cutAhead_11 hs_1ne ?_
      refine wa_iload_n X 3 rfl dX6_cutAhead_14 rfl ?_
      obtain ⟨o12, hv⟩ := hv
      refine wa_iald X hk_39 dX6_cutAhead_15 hs_1ne o12 ?_
      refine wa_aload_n X 0 rfl dX6_cutAhead_16 rfl ?_
      refine wa_getfw X hw (j := 5) (r := 1) hk_6 hc_6 i_6 (by decide) kw_313 rfl rfl (by decide) rfl dX6_cutAhead_17 hs_1ne ?_
      refine wa_iload_n X 1 rfl dX6_cutAhead_20 rfl ?_
      obtain ⟨o13, hv⟩ := hv
      refine wa_iald X hk_39 dX6_cutAhead_21 hs_1ne o13 ?_
      refine wa_icmp_gt X (tgt := 45) dX6_cutAhead_22 (by decide) (fun c14 => ?_) (fun c14 => ?_)
      · replace hv := hv.1 c14
        refine wa_iinc X (v := (x1 + 1)) (lv' := [(2, .inl (x1 + 1)), (0, .inr (.inr (6, 1))), (1, .inl a1), (3, .inl x2)]) 2 rfl dX6_cutAhead_45 rfl (by decide) rfl ?_
        refine wa_iinc X (v := (x2 + 1)) (lv' := [(3, .inl (x2 + 1)), (2, .inl (x1 + 1)), (0, .inr (.inr (6, 1))), (1, .inl a1)]) 3 rfl dX6_cutAhead_48 rfl (by decide) rfl ?_
        refine wa_goto X (tgt := 4) dX6_cutAhead_51 (by decide) ?_
        obtain ⟨q15, p16, hv⟩ := hv
        refine wa_lv (lv' := [(0, .inr (.inr (6, 1))), (1, .inl a1), (2, .inl (x1 + 1)), (3, .inl (x2 + 1))]) [2, 3, 1, 0] rfl ?_
        exact h9 q15 p16 _ _ hv
      · replace hv := hv.2 c14
        refine wa_aload_n X 0 rfl dX6_cutAhead_25 rfl ?_
        refine wa_getfw X hw (j := 5) (r := 1) hk_6 hc_6 i_6 (by decide) kw_313 rfl rfl (by decide) rfl dX6_cutAhead_26 hs_1ne ?_
        refine wa_iload_n X 3 rfl dX6_cutAhead_29 rfl ?_
        refine wa_iald X hk_39 dX6_cutAhead_30 hs_1ne o12 ?_
        refine wa_aload_n X 0 rfl dX6_cutAhead_31 rfl ?_
        refine wa_getfw X hw (j := 5) (r := 1) hk_6 hc_6 i_6 (by decide) kw_313 rfl rfl (by decide) rfl dX6_cutAhead_32 hs_1ne ?_
        refine wa_iload_n X 1 rfl dX6_cutAhead_35 rfl ?_
        refine wa_iald X hk_39 dX6_cutAhead_36 hs_1ne o13 ?_
        refine wa_icmp_ne X (tgt := 48) dX6_cutAhead_37 (by decide) (fun c17 => ?_) (fun c17 => ?_)
        · replace hv := hv.1 c17
          refine wa_iinc X (v := (x2 + 1)) (lv' := [(3, .inl (x2 + 1)), (0, .inr (.inr (6, 1))), (1, .inl a1), (2, .inl x1)]) 3 rfl dX6_cutAhead_48 rfl (by decide) rfl ?_
          refine wa_goto X (tgt := 4) dX6_cutAhead_51 (by decide) ?_
          obtain ⟨q18, p19, hv⟩ := hv
          refine wa_lv (lv' := [(0, .inr (.inr (6, 1))), (1, .inl a1), (2, .inl x1), (3, .inl (x2 + 1))]) [1, 2, 3, 0] rfl ?_
          exact h9 q18 p19 _ _ hv
        · replace hv := hv.2 c17
          refine wa_iload_n X 3 rfl dX6_cutAhead_40 rfl ?_
          refine wa_iload_n X 1 rfl dX6_cutAhead_41 rfl ?_
          refine wa_icmp_ge X (tgt := 48) dX6_cutAhead_42 (by decide) (fun c20 => ?_) (fun c20 => ?_)
          · replace hv := hv.1 c20
            refine wa_iinc X (v := (x2 + 1)) (lv' := [(3, .inl (x2 + 1)), (0, .inr (.inr (6, 1))), (1, .inl a1), (2, .inl x1)]) 3 rfl dX6_cutAhead_48 rfl (by decide) rfl ?_
            refine wa_goto X (tgt := 4) dX6_cutAhead_51 (by decide) ?_
            obtain ⟨q21, p22, hv⟩ := hv
            refine wa_lv (lv' := [(0, .inr (.inr (6, 1))), (1, .inl a1), (2, .inl x1), (3, .inl (x2 + 1))]) [1, 2, 3, 0] rfl ?_
            exact h9 q21 p22 _ _ hv
          · replace hv := hv.2 c20
            refine wa_iinc X (v := (x1 + 1)) (lv' := [(2, .inl (x1 + 1)), (0, .inr (.inr (6, 1))), (1, .inl a1), (3, .inl x2)]) 2 rfl dX6_cutAhead_45 rfl (by decide) rfl ?_
            refine wa_iinc X (v := (x2 + 1)) (lv' := [(3, .inl (x2 + 1)), (2, .inl (x1 + 1)), (0, .inr (.inr (6, 1))), (1, .inl a1)]) 3 rfl dX6_cutAhead_48 rfl (by decide) rfl ?_
            refine wa_goto X (tgt := 4) dX6_cutAhead_51 (by decide) ?_
            obtain ⟨q23, p24, hv⟩ := hv
            refine wa_lv (lv' := [(0, .inr (.inr (6, 1))), (1, .inl a1), (2, .inl (x1 + 1)), (3, .inl (x2 + 1))]) [2, 3, 1, 0] rfl ?_
            exact h9 q23 p24 _ _ hv
theorem v_Ldg_cutAhead {a1 : Int32} {S : hs_S} (hP : P_Ldg_cutAhead a1 S) : vc_Ldg_cutAhead a1 S (fun r S' => r = F_Ldg_cutAhead a1 S ∧ S' = S) := by
  obtain ⟨o, ho, rfl⟩ := hP
  unfold vc_Ldg_cutAhead F_Ldg_cutAhead
  rw [hl_cl (by omega)]
  refine ⟨fun N x1 x2 => ∃ k, k ≤ 6 ∧ x2 = nI k ∧ x1 = cCa S o k ∧ N = 6 - k, ⟨6, 0, Nat.zero_le _, rfl, rfl, rfl⟩, ?_⟩
  rintro N x1 x2 ⟨k, hk, rfl, rfl, rfl⟩
  refine ⟨fun h => ?_, fun h => ?_⟩
  · have : k = 6 := hl_end (g := 6) (by omega) hk h
    subst this
    exact ⟨rfl, rfl⟩
  · have hk1 : k < 6 := hl_go (g := 6) (by omega) hk h
    rw [hl_cl (by omega)]
    refine ⟨hl_ix (by omega) (by omega), hl_ix (by omega) (by omega), fun h1 => hl_nx hk1 (if_pos (Or.inl h1)).symm, fun h1 => ⟨fun h2 => hl_nx hk1 (if_neg fun z => z.elim h1 fun w => h2 w.1).symm, fun h2 => ⟨fun h3 => hl_nx hk1 (if_neg fun z => z.elim h1 fun w => ?_).symm, fun h3 => hl_nx hk1 (if_pos (Or.inr ⟨h2, ?_⟩)).symm⟩⟩⟩
    · rw [hl_le (by omega) (by omega)] at h3
      omega
    · rw [hl_le (by omega) (by omega)] at h3
      omega
theorem f_Ldg_cutAhead {a1 : Int32} {S : hs_S} (hw : hs_Wi S) (hP : P_Ldg_cutAhead a1 S) : hs_M 1 yX6_cutAhead (.code yX6_cutAhead cX6_cutAhead 4 (some FieldType.int)) [.inr (.inr (6, 1)), .inl a1] S 0 0 (hs_pd (some (.inl (F_Ldg_cutAhead a1 S))) S) hs_nX := hs_pdI (ok_Ldg_cutAhead hw (v_Ldg_cutAhead hP))

def F_J_floorDiv (a1 a2 : Int32) : Int32 := if 0 ≤ a1 ^^^ a2 then a1 / a2 else if a1 / a2 * a2 = a1 then a1 / a2 else a1 / a2 - 1
def P_J_floorDiv (a1 a2 : Int32) (S : hs_S) : Prop := ¬ a2 = 0
def m_J_floorDiv (a1 : Int32) (a2 : Int32) (S : hs_S) (Q : Int32 → hs_S → Prop) : Prop := hs_M 1 yJ9_floorDiv_7cf53 (.code yJ9_floorDiv_7cf53 cJ9_floorDiv_7cf53 3 (some FieldType.int)) [.inl a1, .inl a2] S 0 0 (hs_qI Q) hs_nX
def vc_J_floorDiv (a1 : Int32) (a2 : Int32) (S : hs_S) (Q : Int32 → hs_S → Prop) : Prop := ((¬ a2 = 0) ∧ ((0 ≤ (a1 ^^^ a2) → (Q (a1 / a2) S)) ∧ (¬ 0 ≤ (a1 ^^^ a2) → ((((a1 / a2) * a2) = a1 → (Q (a1 / a2) S)) ∧ (¬ ((a1 / a2) * a2) = a1 → (Q ((a1 / a2) - (1 : Int32)) S))))))
set_option maxRecDepth 100000 in
set_option maxHeartbeats 4000000 in
theorem ok_J_floorDiv {a1 : Int32} {a2 : Int32} {S : hs_S} {Q : Int32 → hs_S → Prop} (hw : hs_Wi S) (hv : vc_J_floorDiv a1 a2 S Q) : m_J_floorDiv a1 a2 S Q := by
  unfold vc_J_floorDiv at hv
  refine hs_bodyF (own := RJ9) (by decide +kernel) rfl (Nat.le_of_ble_eq_true rfl) (fun Z X E N J0 => ?_)
  show wa Z 0 0 S 0 [(0, .inl a1), (1, .inl a2)] []
  refine wa_iload_n X 0 rfl dJ9_floorDiv_7cf53_0 rfl ?_
  refine wa_iload_n X 1 rfl dJ9_floorDiv_7cf53_1 rfl ?_
  obtain ⟨o1, hv⟩ := hv
  refine wa_idiv X dJ9_floorDiv_7cf53_2 o1 ?_
  refine wa_istore_n X (lv' := [(2, .inl (a1 / a2)), (0, .inl a1), (1, .inl a2)]) dJ9_floorDiv_7cf53_3 rfl (by decide) rfl ?_
  refine wa_iload_n X 1 rfl dJ9_floorDiv_7cf53_4 rfl ?_
  refine wa_iload_n X 2 rfl dJ9_floorDiv_7cf53_5 rfl ?_
  refine wa_ixor X dJ9_floorDiv_7cf53_6 ?_
  refine wa_if_ge X (tgt := 21) dJ9_floorDiv_7cf53_7 (by decide) (fun c2 => ?_) (fun c2 => ?_)
  · replace hv := hv.1 c2
    refine wa_iload_n X 0 rfl dJ9_floorDiv_7cf53_21 rfl ?_
    exact wa_ireturn X E dJ9_floorDiv_7cf53_22 (Nat.le_of_ble_eq_true rfl) (Nat.le_of_ble_eq_true rfl) (Or.inl rfl) ⟨hw, _, rfl, hv⟩
  · replace hv := hv.2 c2
    refine wa_iload_n X 0 rfl dJ9_floorDiv_7cf53_10 rfl ?_
    refine wa_iload_n X 2 rfl dJ9_floorDiv_7cf53_11 rfl ?_
    refine wa_imul X dJ9_floorDiv_7cf53_12 ?_
    refine wa_iload_n X 1 rfl dJ9_floorDiv_7cf53_13 rfl ?_
    refine wa_icmp_eq X (tgt := 21) dJ9_floorDiv_7cf53_14 (by decide) (fun c3 => ?_) (fun c3 => ?_)
    · replace hv := hv.1 c3
      refine wa_iload_n X 0 rfl dJ9_floorDiv_7cf53_21 rfl ?_
      exact wa_ireturn X E dJ9_floorDiv_7cf53_22 (Nat.le_of_ble_eq_true rfl) (Nat.le_of_ble_eq_true rfl) (Or.inl rfl) ⟨hw, _, rfl, hv⟩
    · replace hv := hv.2 c3
      refine wa_iload_n X 0 rfl dJ9_floorDiv_7cf53_17 rfl ?_
      refine wa_iconst X dJ9_floorDiv_7cf53_18 kc1 ?_
      refine wa_isub X dJ9_floorDiv_7cf53_19 ?_
      exact wa_ireturn X E dJ9_floorDiv_7cf53_20 (Nat.le_of_ble_eq_true rfl) (Nat.le_of_ble_eq_true rfl) (Or.inl rfl) ⟨hw, _, rfl, hv⟩
theorem v_J_floorDiv {a1 a2 : Int32} {S : hs_S} (hP : P_J_floorDiv a1 a2 S) : vc_J_floorDiv a1 a2 S (fun r S' => r = F_J_floorDiv a1 a2 ∧ S' = S) := by
  unfold vc_J_floorDiv F_J_floorDiv
  refine ⟨hP, fun h => ⟨(if_pos h).symm, rfl⟩, fun h => ⟨fun h2 => ⟨?_, rfl⟩, fun h2 => ⟨?_, rfl⟩⟩⟩
  · rw [if_neg h, if_pos h2]
  · rw [if_neg h, if_neg h2]
theorem f_J_floorDiv {a1 : Int32} {a2 : Int32} {S : hs_S} (hw : hs_Wi S) (hP : P_J_floorDiv a1 a2 S) : hs_M 1 yJ9_floorDiv_7cf53 (.code yJ9_floorDiv_7cf53 cJ9_floorDiv_7cf53 3 (some FieldType.int)) [.inl a1, .inl a2] S 0 0 (hs_pd (some (.inl (F_J_floorDiv a1 a2))) S) hs_nX := hs_pdI (ok_J_floorDiv hw (v_J_floorDiv hP))

def F_J_floorMod (a1 a2 : Int32) : Int32 := if 0 ≤ a1 ^^^ a2 then a1 - a1 / a2 * a2 else if a1 - a1 / a2 * a2 = 0 then a1 - a1 / a2 * a2 else a1 - a1 / a2 * a2 + a2
def P_J_floorMod (a1 a2 : Int32) (S : hs_S) : Prop := ¬ a2 = 0
def m_J_floorMod (a1 : Int32) (a2 : Int32) (S : hs_S) (Q : Int32 → hs_S → Prop) : Prop := hs_M 1 yJ9_floorMod_7cf53 (.code yJ9_floorMod_7cf53 cJ9_floorMod_7cf53 3 (some FieldType.int)) [.inl a1, .inl a2] S 0 0 (hs_qI Q) hs_nX
def vc_J_floorMod (a1 : Int32) (a2 : Int32) (S : hs_S) (Q : Int32 → hs_S → Prop) : Prop := ((¬ a2 = 0) ∧ ((0 ≤ (a1 ^^^ a2) → (Q (a1 - a1 / a2 * a2) S)) ∧ (¬ 0 ≤ (a1 ^^^ a2) → (((a1 - a1 / a2 * a2) = 0 → (Q (a1 - a1 / a2 * a2) S)) ∧ (¬ (a1 - a1 / a2 * a2) = 0 → (Q ((a1 - a1 / a2 * a2) + a2) S))))))
set_option maxRecDepth 100000 in
set_option maxHeartbeats 4000000 in
theorem ok_J_floorMod {a1 : Int32} {a2 : Int32} {S : hs_S} {Q : Int32 → hs_S → Prop} (hw : hs_Wi S) (hv : vc_J_floorMod a1 a2 S Q) : m_J_floorMod a1 a2 S Q := by
  unfold vc_J_floorMod at hv
  refine hs_bodyF (own := RJ9) (by decide +kernel) rfl (Nat.le_of_ble_eq_true rfl) (fun Z X E N J0 => ?_)
  show wa Z 0 0 S 0 [(0, .inl a1), (1, .inl a2)] []
  refine wa_iload_n X 0 rfl dJ9_floorMod_7cf53_0 rfl ?_
  refine wa_iload_n X 1 rfl dJ9_floorMod_7cf53_1 rfl ?_
  obtain ⟨o1, hv⟩ := hv
  refine wa_irem X dJ9_floorMod_7cf53_2 o1 ?_
  refine wa_istore_n X (lv' := [(2, .inl (a1 - a1 / a2 * a2)), (0, .inl a1), (1, .inl a2)]) dJ9_floorMod_7cf53_3 rfl (by decide) rfl ?_
  refine wa_iload_n X 1 rfl dJ9_floorMod_7cf53_4 rfl ?_
  refine wa_iload_n X 2 rfl dJ9_floorMod_7cf53_5 rfl ?_
  refine wa_ixor X dJ9_floorMod_7cf53_6 ?_
  refine wa_if_ge X (tgt := 18) dJ9_floorMod_7cf53_7 (by decide) (fun c2 => ?_) (fun c2 => ?_)
  · replace hv := hv.1 c2
    refine wa_iload_n X 0 rfl dJ9_floorMod_7cf53_18 rfl ?_
    exact wa_ireturn X E dJ9_floorMod_7cf53_19 (Nat.le_of_ble_eq_true rfl) (Nat.le_of_ble_eq_true rfl) (Or.inl rfl) ⟨hw, _, rfl, hv⟩
  · replace hv := hv.2 c2
    refine wa_iload_n X 0 rfl dJ9_floorMod_7cf53_10 rfl ?_
    refine wa_if_eq X (tgt := 18) dJ9_floorMod_7cf53_11 (by decide) (fun c3 => ?_) (fun c3 => ?_)
    · replace hv := hv.1 c3
      refine wa_iload_n X 0 rfl dJ9_floorMod_7cf53_18 rfl ?_
      exact wa_ireturn X E dJ9_floorMod_7cf53_19 (Nat.le_of_ble_eq_true rfl) (Nat.le_of_ble_eq_true rfl) (Or.inl rfl) ⟨hw, _, rfl, hv⟩
    · replace hv := hv.2 c3
      refine wa_iload_n X 0 rfl dJ9_floorMod_7cf53_14 rfl ?_
      refine wa_iload_n X 2 rfl dJ9_floorMod_7cf53_15 rfl ?_
      refine wa_iadd X dJ9_floorMod_7cf53_16 ?_
      exact wa_ireturn X E dJ9_floorMod_7cf53_17 (Nat.le_of_ble_eq_true rfl) (Nat.le_of_ble_eq_true rfl) (Or.inl rfl) ⟨hw, _, rfl, hv⟩
theorem v_J_floorMod {a1 a2 : Int32} {S : hs_S} (hP : P_J_floorMod a1 a2 S) : vc_J_floorMod a1 a2 S (fun r S' => r = F_J_floorMod a1 a2 ∧ S' = S) := by
  unfold vc_J_floorMod F_J_floorMod
  refine ⟨hP, fun h => ⟨(if_pos h).symm, rfl⟩, fun h => ⟨fun h2 => ⟨?_, rfl⟩, fun h2 => ⟨?_, rfl⟩⟩⟩
  · rw [if_neg h, if_pos h2]
  · rw [if_neg h, if_neg h2]
theorem f_J_floorMod {a1 : Int32} {a2 : Int32} {S : hs_S} (hw : hs_Wi S) (hP : P_J_floorMod a1 a2 S) : hs_M 1 yJ9_floorMod_7cf53 (.code yJ9_floorMod_7cf53 cJ9_floorMod_7cf53 3 (some FieldType.int)) [.inl a1, .inl a2] S 0 0 (hs_pd (some (.inl (F_J_floorMod a1 a2))) S) hs_nX := hs_pdI (ok_J_floorMod hw (v_J_floorMod hP))

