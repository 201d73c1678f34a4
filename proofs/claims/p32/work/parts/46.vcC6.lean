def cOC (S : hs_S) (i : Nat) (o : Int32) : Nat → Int32
  | 0 => 0
  | k + 1 => if S.1 20 i k = o then cOC S i o k + 1 else cOC S i o k
def F_Rts_ownedBy (i0 : Nat) (a1 : Int32) (S : hs_S) : Int32 := cOC S i0 a1 24
def m_Rts_ownedBy (i0 : Nat) (a1 : Int32) (S : hs_S) (Q : Int32 → hs_S → Prop) : Prop := hs_M 1 yX7_ownedBy (.code yX7_ownedBy cX7_ownedBy 4 (some FieldType.int)) [.inr (.inr (7, i0)), .inl a1] S 0 0 (hs_qI Q) hs_nX
def vc_Rts_ownedBy (i0 : Nat) (a1 : Int32) (S : hs_S) (Q : Int32 → hs_S → Prop) : Prop := (∃ I3 : Nat → Int32 → Int32 → Prop, (∃ n7, I3 n7 (0 : Int32) (0 : Int32)) ∧ (∀ N4 : Nat, ∀ x1 : Int32, ∀ x2 : Int32, I3 N4 x1 x2 → (((24 : Int32) ≤ x2 → (Q x1 S)) ∧ (¬ (24 : Int32) ≤ x2 → ((0 ≤ x2.toInt ∧ x2.toInt < 24) ∧ ((¬ (S.1 20 i0 x2.toNatClampNeg) = a1 → (∃ q14, q14 < N4 ∧ I3 q14 x1 (x2 + 1))) ∧ ((S.1 20 i0 x2.toNatClampNeg) = a1 → (∃ q16, q16 < N4 ∧ I3 q16 (x1 + 1) (x2 + 1)))))))))
set_option maxRecDepth 100000 in
set_option maxHeartbeats 4000000 in
theorem ok_Rts_ownedBy {i0 : Nat} {a1 : Int32} {S : hs_S} {Q : Int32 → hs_S → Prop} (hi0 : i0 ≠ 0) (hw : hs_Wi S) (hv : vc_Rts_ownedBy i0 a1 S Q) : m_Rts_ownedBy i0 a1 S Q := by
  unfold vc_Rts_ownedBy at hv
  refine hs_body (own := RX7) rfl rfl (Nat.le_of_ble_eq_true rfl) (fun Z X E N J0 => ?_)
  show wa Z 0 0 S 0 [(0, .inr (.inr (7, i0))), (1, .inl a1)] []
  refine wa_iconst X dX7_ownedBy_0 kc0 ?_
  refine wa_istore_n X (lv' := [(2, .inl (0 : Int32)), (0, .inr (.inr (7, i0))), (1, .inl a1)]) dX7_ownedBy_1 rfl (by decide) rfl ?_
  refine wa_iconst X dX7_ownedBy_2 kc0 ?_
  refine wa_istore_n X (lv' := [(3, .inl (0 : Int32)), (2, .inl (0 : Int32)), (0, .inr (.inr (7, i0))), (1, .inl a1)]) dX7_ownedBy_3 rfl (by decide) rfl ?_
  obtain ⟨I3, ⟨n7, i5⟩, b6⟩ := hv
  refine wa_lv (lv' := [(0, .inr (.inr (7, i0))), (1, .inl a1), (2, .inl (0 : Int32)), (3, .inl (0 : Int32))]) [2, 3, 1, 0] rfl ?_
  suffices L8 : ∀ N4 : Nat, ∀ x1 : Int32, ∀ x2 : Int32, I3 N4 x1 x2 → wa Z 0 0 S 4 [(0, .inr (.inr (7, i0))), (1, .inl a1), (2, .inl x1), (3, .inl x2)] [] from L8 _ _ _ i5
  clear i5
  intro N4
  induction N4 using Nat.strongRecOn with
  | _ N4 h9 =>
    intro x1 x2 j10
    have hv := b6 N4 x1 x2 j10
    refine wa_iload_n X 3 rfl dX7_ownedBy_4 rfl ?_
    refine wa_bipush X dX7_ownedBy_5 kb24 ?_
    refine wa_icmp_ge X (tgt := 29) dX7_ownedBy_7 (by decide) (fun c11 => ?_) (fun c11 => ?_)
    · replace hv := hv.1 c11
      refine wa_iload_n X 2 rfl dX7_ownedBy_29 rfl ?_
      exact wa_ireturn X E dX7_ownedBy_30 (Nat.le_of_ble_eq_true rfl) (Nat.le_of_ble_eq_true rfl) (Or.inl rfl) ⟨hw, _, rfl, hv⟩
    · replace hv := hv.2 c11
      refine wa_aload_n X 0 rfl dX7_ownedBy_10 rfl ?_
      refine wa_getfw X hw (j := 0) (r := i0) hk_7 hc_7 i_7 (by decide) kw_67 rfl rfl (by decide) rfl dX7_ownedBy_11 hi0 ?_
      refine wa_iload_n X 3 rfl dX7_ownedBy_14 rfl ?_
      obtain ⟨o12, hv⟩ := hv
      refine wa_iald X hk_20 dX7_ownedBy_15 hi0 o12 ?_
      refine wa_iload_n X 1 rfl dX7_ownedBy_16 rfl ?_
      refine wa_icmp_ne X (tgt := 23) dX7_ownedBy_17 (by decide) (fun c13 => ?_) (fun c13 => ?_)
      · replace hv := hv.1 c13
        refine wa_iinc X (v := (x2 + 1)) (lv' := [(3, .inl (x2 + 1)), (0, .inr (.inr (7, i0))), (1, .inl a1), (2, .inl x1)]) 3 rfl dX7_ownedBy_23 rfl (by decide) rfl ?_
        refine wa_goto X (tgt := 4) dX7_ownedBy_26 (by decide) ?_
        obtain ⟨q14, p15, hv⟩ := hv
        refine wa_lv (lv' := [(0, .inr (.inr (7, i0))), (1, .inl a1), (2, .inl x1), (3, .inl (x2 + 1))]) [1, 2, 3, 0] rfl ?_
        exact h9 q14 p15 _ _ hv
      · replace hv := hv.2 c13
        refine wa_iinc X (v := (x1 + 1)) (lv' := [(2, .inl (x1 + 1)), (0, .inr (.inr (7, i0))), (1, .inl a1), (3, .inl x2)]) 2 rfl dX7_ownedBy_20 rfl (by decide) rfl ?_
        refine wa_iinc X (v := (x2 + 1)) (lv' := [(3, .inl (x2 + 1)), (2, .inl (x1 + 1)), (0, .inr (.inr (7, i0))), (1, .inl a1)]) 3 rfl dX7_ownedBy_23 rfl (by decide) rfl ?_
        refine wa_goto X (tgt := 4) dX7_ownedBy_26 (by decide) ?_
        obtain ⟨q16, p17, hv⟩ := hv
        refine wa_lv (lv' := [(0, .inr (.inr (7, i0))), (1, .inl a1), (2, .inl (x1 + 1)), (3, .inl (x2 + 1))]) [2, 3, 1, 0] rfl ?_
        exact h9 q16 p17 _ _ hv
theorem v_Rts_ownedBy {i0 : Nat} {a1 : Int32} {S : hs_S} : vc_Rts_ownedBy i0 a1 S (fun r S' => r = F_Rts_ownedBy i0 a1 S ∧ S' = S) := by
  unfold vc_Rts_ownedBy F_Rts_ownedBy
  refine ⟨fun N x1 x2 => ∃ k, k ≤ 24 ∧ x2 = nI k ∧ x1 = cOC S i0 a1 k ∧ N = 24 - k, ⟨24, 0, Nat.zero_le _, rfl, rfl, rfl⟩, ?_⟩
  rintro N x1 x2 ⟨k, hk, rfl, rfl, rfl⟩
  refine ⟨fun h => ?_, fun h => ?_⟩
  · have : k = 24 := hl_end (g := 24) (by omega) hk h
    subst this
    exact ⟨rfl, rfl⟩
  · have hk1 : k < 24 := hl_go (g := 24) (by omega) hk h
    rw [hl_cl (by omega)]
    exact ⟨hl_ix (by omega) (by omega), fun h1 => hl_nx hk1 (if_neg h1).symm, fun h1 => hl_nx hk1 (if_pos h1).symm⟩
theorem f_Rts_ownedBy {i0 : Nat} {a1 : Int32} {S : hs_S} (hi0 : i0 ≠ 0) (hw : hs_Wi S) : hs_M 1 yX7_ownedBy (.code yX7_ownedBy cX7_ownedBy 4 (some FieldType.int)) [.inr (.inr (7, i0)), .inl a1] S 0 0 (hs_pd (some (.inl (F_Rts_ownedBy i0 a1 S))) S) hs_nX := hs_pdI (ok_Rts_ownedBy hi0 hw (v_Rts_ownedBy))

/-- the edits -/
abbrev ed (S : hs_S) (k : Nat) : Nat := S.2.1 12 1 k
def cEd (S : hs_S) : Prop := ∃ g : Nat, g ≤ 60 ∧ hs_sz S 12 = g ∧ ∀ k, k < g → ed S k ≠ 0
def cEO (S : hs_S) (c : Int32) : Nat → Int32
  | 0 => 0
  | k + 1 => if S.1 3 (ed S k) 1 = c then cEO S c k + 1 else cEO S c k
def F_Sht_countOf (a1 : Int32) (S : hs_S) : Int32 := cEO S a1 (hs_sz S 12)
def P_Sht_countOf (a1 : Int32) (S : hs_S) : Prop := cEd S
def m_Sht_countOf (a1 : Int32) (S : hs_S) (Q : Int32 → hs_S → Prop) : Prop := hs_M 5 yX9_countOf (.code yX9_countOf cX9_countOf 4 (some FieldType.int)) [.inr (.inr (9, 1)), .inl a1] S 0 0 (hs_qI Q) hs_nX
def vc_Sht_countOf (a1 : Int32) (S : hs_S) (Q : Int32 → hs_S → Prop) : Prop := (∃ I3 : Nat → Int32 → Int32 → Prop, (∃ n7, I3 n7 (0 : Int32) (0 : Int32)) ∧ (∀ N4 : Nat, ∀ x1 : Int32, ∀ x2 : Int32, I3 N4 x1 x2 → (((nI (hs_sz S 12)) ≤ x2 → (Q x1 S)) ∧ (¬ (nI (hs_sz S 12)) ≤ x2 → ((0 ≤ x2.toInt ∧ x2.toInt < (hs_sz S 12)) ∧ (((S.2.1 12 1 x2.toNatClampNeg) ≠ 0) ∧ ((¬ (S.1 3 (S.2.1 12 1 x2.toNatClampNeg) 1) = a1 → (∃ q15, q15 < N4 ∧ I3 q15 x1 (x2 + 1))) ∧ ((S.1 3 (S.2.1 12 1 x2.toNatClampNeg) 1) = a1 → (∃ q17, q17 < N4 ∧ I3 q17 (x1 + 1) (x2 + 1))))))))))
set_option maxRecDepth 100000 in
set_option maxHeartbeats 4000000 in
theorem ok_Sht_countOf {a1 : Int32} {S : hs_S} {Q : Int32 → hs_S → Prop} (hw : hs_Wi S) (hv : vc_Sht_countOf a1 S Q) : m_Sht_countOf a1 S Q := by
  unfold vc_Sht_countOf at hv
  refine hs_body (own := RX9) rfl rfl (Nat.le_of_ble_eq_true rfl) (fun Z X E N J0 => ?_)
  show wa Z 0 0 S 0 [(0, .inr (.inr (9, 1))), (1, .inl a1)] []
  refine wa_iconst X dX9_countOf_0 kc0 ?_
  refine wa_istore_n X (lv' := [(2, .inl (0 : Int32)), (0, .inr (.inr (9, 1))), (1, .inl a1)]) dX9_countOf_1 rfl (by decide) rfl ?_
  refine wa_iconst X dX9_countOf_2 kc0 ?_
  refine wa_istore_n X (lv' := [(3, .inl (0 : Int32)), (2, .inl (0 : Int32)), (0, .inr (.inr (9, 1))), (1, .inl a1)]) dX9_countOf_3 rfl (by decide) rfl ?_
  obtain ⟨I3, ⟨n7, i5⟩, b6⟩ := hv
  refine wa_lv (lv' := [(0, .inr (.inr (9, 1))), (1, .inl a1), (2, .inl (0 : Int32)), (3, .inl (0 : Int32))]) [2, 3, 1, 0] rfl ?_
  suffices L8 : ∀ N4 : Nat, ∀ x1 : Int32, ∀ x2 : Int32, I3 N4 x1 x2 → wa Z 0 0 S 4 [(0, .inr (.inr (9, 1))), (1, .inl a1), (2, .inl x1), (3, .inl x2)] [] from L8 _ _ _ i5
  clear i5
  intro N4
  induction N4 using Nat.strongRecOn with
  | _ N4 h9 =>
    intro x1 x2 j10
    have hv := b6 N4 x1 x2 j10
    refine wa_iload_n X 3 rfl dX9_countOf_4 rfl ?_
    refine wa_aload_n X 0 rfl dX9_countOf_5 rfl ?_
    refine wa_getfw X hw (j := 1) (r := 1) hk_9 hc_9 i_9 (by decide) kw_135 rfl rfl (by decide) rfl dX9_countOf_6 hs_1ne ?_
    refine wa_lsize X hk_12 kw_430 dX9_countOf_9 hs_1ne ⟨⟨Nat.le_of_ble_eq_true rfl, Nat.le_of_ble_eq_true rfl⟩, Nat.le_of_ble_eq_true rfl, Nat.le_of_ble_eq_true rfl⟩ (Nat.le_of_ble_eq_true rfl) ?_
    refine wa_icmp_ge X (tgt := 46) dX9_countOf_14 (by decide) (fun c11 => ?_) (fun c11 => ?_)
    · replace hv := hv.1 c11
      refine wa_iload_n X 2 rfl dX9_countOf_46 rfl ?_
      exact wa_ireturn X E dX9_countOf_47 (Nat.le_of_ble_eq_true rfl) (Nat.le_of_ble_eq_true rfl) (Or.inl rfl) ⟨hw, _, rfl, hv⟩
    · replace hv := hv.2 c11
      refine wa_aload_n X 0 rfl dX9_countOf_17 rfl ?_
      refine wa_getfw X hw (j := 1) (r := 1) hk_9 hc_9 i_9 (by decide) kw_135 rfl rfl (by decide) rfl dX9_countOf_18 hs_1ne ?_
      refine wa_iload_n X 3 rfl dX9_countOf_21 rfl ?_
      obtain ⟨o12, hv⟩ := hv
      refine wa_lget X hk_12 kw_440 dX9_countOf_22 hs_1ne ⟨⟨Nat.le_of_ble_eq_true rfl, Nat.le_of_ble_eq_true rfl⟩, Nat.le_of_ble_eq_true rfl, Nat.le_of_ble_eq_true rfl⟩ (Nat.le_of_ble_eq_true rfl) o12 ?_
      obtain ⟨o13, hv⟩ := hv
      refine wa_cast X hk_3 hc_3 kw_458 dX9_countOf_27 o13 ?_
      refine wa_getI X (j := 1) hk_3 hc_3 i_3 (by decide) kw_618 rfl dX9_countOf_30 o13 ?_
      refine wa_iload_n X 1 rfl dX9_countOf_33 rfl ?_
      refine wa_icmp_ne X (tgt := 40) dX9_countOf_34 (by decide) (fun c14 => ?_) (fun c14 => ?_)
      · replace hv := hv.1 c14
        refine wa_iinc X (v := (x2 + 1)) (lv' := [(3, .inl (x2 + 1)), (0, .inr (.inr (9, 1))), (1, .inl a1), (2, .inl x1)]) 3 rfl dX9_countOf_40 rfl (by decide) rfl ?_
        refine wa_goto X (tgt := 4) dX9_countOf_43 (by decide) ?_
        obtain ⟨q15, p16, hv⟩ := hv
        refine wa_lv (lv' := [(0, .inr (.inr (9, 1))), (1, .inl a1), (2, .inl x1), (3, .inl (x2 + 1))]) [1, 2, 3, 0] rfl ?_
        exact h9 q15 p16 _ _ hv
      · replace hv := hv.2 c14
        refine wa_iinc X (v := (x1 + 1)) (lv' := [(2, .inl (x1 + 1)), (0, .inr (.inr (9, 1))), (1, .inl a1), (3, .inl x2)]) 2 rfl dX9_countOf_37 rfl (by decide) rfl ?_
        refine wa_iinc X (v := (x2 + 1)) (lv' := [(3, .inl (x2 + 1)), (2, .inl (x1 + 1)), (0, .inr (.inr (9, 1))), (1, .inl a1)]) 3 rfl dX9_countOf_40 rfl (by decide) rfl ?_
        refine wa_goto X (tgt := 4) dX9_countOf_43 (by decide) ?_
        obtain ⟨q17, p18, hv⟩ := hv
        refine wa_lv (lv' := [(0, .inr (.inr (9, 1))), (1, .inl a1), (2, .inl (x1 + 1)), (3, .inl (x2 + 1))]) [2, 3, 1, 0] rfl ?_
        exact h9 q17 p18 _ _ hv
theorem v_Sht_countOf {a1 : Int32} {S : hs_S} (hP : P_Sht_countOf a1 S) : vc_Sht_countOf a1 S (fun r S' => r = F_Sht_countOf a1 S ∧ S' = S) := by
  obtain ⟨g, hg, eg, hb⟩ := hP
  unfold vc_Sht_countOf F_Sht_countOf
  rw [eg]
  refine ⟨fun N x1 x2 => ∃ k, k ≤ g ∧ x2 = nI k ∧ x1 = cEO S a1 k ∧ N = g - k, ⟨g, 0, Nat.zero_le _, rfl, rfl, rfl⟩, ?_⟩
  rintro N x1 x2 ⟨k, hk, rfl, rfl, rfl⟩
  refine ⟨fun h => ?_, fun h => ?_⟩
  · have := hl_end (by omega) hk h
    subst this
    exact ⟨rfl, rfl⟩
  · have hk1 := hl_go (by omega) hk h
    rw [hl_cl (by omega)]
    exact ⟨hl_ix (by omega) (by omega), hb k hk1, fun h1 => hl_nx hk1 (if_neg h1).symm, fun h1 => hl_nx hk1 (if_pos h1).symm⟩
theorem f_Sht_countOf {a1 : Int32} {S : hs_S} (hw : hs_Wi S) (hP : P_Sht_countOf a1 S) : hs_M 5 yX9_countOf (.code yX9_countOf cX9_countOf 4 (some FieldType.int)) [.inr (.inr (9, 1)), .inl a1] S 0 0 (hs_pd (some (.inl (F_Sht_countOf a1 S))) S) hs_nX := hs_pdI (ok_Sht_countOf hw (v_Sht_countOf hP))

/-- the first of the edits from k on that is the place-th of a cell; 0 without one -/
def cPlc (S : hs_S) (c p : Int32) (g : Nat) : Nat → Nat
  | 0 => 0
  | n + 1 => if S.1 3 (ed S (g - (n + 1))) 1 = c ∧ cEO S c (g - (n + 1)) = p then ed S (g - (n + 1)) else cPlc S c p g n
def F_Sht_placed (a1 a2 : Int32) (S : hs_S) : Nat := cPlc S a1 a2 (hs_sz S 12) (hs_sz S 12)
def P_Sht_placed (a1 a2 : Int32) (S : hs_S) : Prop := cEd S
theorem cPlc_s {S : hs_S} {c p : Int32} {g k : Nat} (h : k < g) : cPlc S c p g (g - k) = if S.1 3 (ed S k) 1 = c ∧ cEO S c k = p then ed S k else cPlc S c p g (g - (k + 1)) := by
  have e : g - k = (g - (k + 1)) + 1 := by omega
  rw [e, cPlc]
  have e2 : g - (g - (k + 1) + 1) = k := by omega
  rw [e2]
def m_Sht_placed (a1 : Int32) (a2 : Int32) (S : hs_S) (Q : Nat → hs_S → Prop) : Prop := hs_M 5 yX9_placed (.code yX9_placed cX9_placed 6 (some (FieldType.object "Cellmarket$Edit"))) [.inr (.inr (9, 1)), .inl a1, .inl a2] S 0 0 (hs_qR 3 Q) hs_nX
def vc_Sht_placed (a1 : Int32) (a2 : Int32) (S : hs_S) (Q : Nat → hs_S → Prop) : Prop := (∃ I3 : Nat → Int32 → Int32 → Prop, (∃ n7, I3 n7 (0 : Int32) (0 : Int32)) ∧ (∀ N4 : Nat, ∀ x1 : Int32, ∀ x2 : Int32, I3 N4 x1 x2 → (((nI (hs_sz S 12)) ≤ x2 → (Q 0 S)) ∧ (¬ (nI (hs_sz S 12)) ≤ x2 → ((0 ≤ x2.toInt ∧ x2.toInt < (hs_sz S 12)) ∧ (((S.2.1 12 1 x2.toNatClampNeg) ≠ 0) ∧ ((¬ (S.1 3 (S.2.1 12 1 x2.toNatClampNeg) 1) = a1 → (∃ q15, q15 < N4 ∧ I3 q15 x1 (x2 + 1))) ∧ ((S.1 3 (S.2.1 12 1 x2.toNatClampNeg) 1) = a1 → ((¬ x1 = a2 → (∃ q18, q18 < N4 ∧ I3 q18 (x1 + 1) (x2 + 1))) ∧ (x1 = a2 → (Q (S.2.1 12 1 x2.toNatClampNeg) S)))))))))))
set_option maxRecDepth 100000 in
set_option maxHeartbeats 4000000 in
theorem ok_Sht_placed {a1 : Int32} {a2 : Int32} {S : hs_S} {Q : Nat → hs_S → Prop} (hw : hs_Wi S) (hv : vc_Sht_placed a1 a2 S Q) : m_Sht_placed a1 a2 S Q := by
  unfold vc_Sht_placed at hv
  refine hs_body (own := RX9) rfl rfl (Nat.le_of_ble_eq_true rfl) (fun Z X E N J0 => ?_)
  show wa Z 0 0 S 0 [(0, .inr (.inr (9, 1))), (1, .inl a1), (2, .inl a2)] []
  refine wa_iconst X dX9_placed_0 kc0 ?_
  refine wa_istore_n X (lv' := [(3, .inl (0 : Int32)), (0, .inr (.inr (9, 1))), (1, .inl a1), (2, .inl a2)]) dX9_placed_1 rfl (by decide) rfl ?_
  refine wa_iconst X dX9_placed_2 kc0 ?_
  refine wa_istore X (lv' := [(4, .inl (0 : Int32)), (3, .inl (0 : Int32)), (0, .inr (.inr (9, 1))), (1, .inl a1), (2, .inl a2)]) dX9_placed_3 (by decide) rfl ?_
  obtain ⟨I3, ⟨n7, i5⟩, b6⟩ := hv
  refine wa_lv (lv' := [(0, .inr (.inr (9, 1))), (1, .inl a1), (2, .inl a2), (3, .inl (0 : Int32)), (4, .inl (0 : Int32))]) [2, 3, 4, 1, 0] rfl ?_
  suffices L8 : ∀ N4 : Nat, ∀ x1 : Int32, ∀ x2 : Int32, I3 N4 x1 x2 → wa Z 0 0 S 5 [(0, .inr (.inr (9, 1))), (1, .inl a1), (2, .inl a2), (3, .inl x1), (4, .inl x2)] [] from L8 _ _ _ i5
  clear i5
  intro N4
  induction N4 using Nat.strongRecOn with
  | _ N4 h9 =>
    intro x1 x2 j10
    have hv := b6 N4 x1 x2 j10
    refine wa_iload X 4 rfl dX9_placed_5 ?_
    refine wa_aload_n X 0 rfl dX9_placed_7 rfl ?_
    refine wa_getfw X hw (j := 1) (r := 1) hk_9 hc_9 i_9 (by decide) kw_135 rfl rfl (by decide) rfl dX9_placed_8 hs_1ne ?_
    refine wa_lsize X hk_12 kw_430 dX9_placed_11 hs_1ne ⟨⟨Nat.le_of_ble_eq_true rfl, Nat.le_of_ble_eq_true rfl⟩, Nat.le_of_ble_eq_true rfl, Nat.le_of_ble_eq_true rfl⟩ (Nat.le_of_ble_eq_true rfl) ?_
    refine wa_icmp_ge X (tgt := 61) dX9_placed_16 (by decide) (fun c11 => ?_) (fun c11 => ?_)
    · replace hv := hv.1 c11
      refine wa_null X (t := 3) dX9_placed_61 ?_
      exact wa_areturn X E dX9_placed_62 (Nat.le_of_ble_eq_true rfl) (Nat.le_of_ble_eq_true rfl) ⟨hw, _, rfl, hv⟩
    · replace hv := hv.2 c11
      refine wa_aload_n X 0 rfl dX9_placed_19 rfl ?_
      refine wa_getfw X hw (j := 1) (r := 1) hk_9 hc_9 i_9 (by decide) kw_135 rfl rfl (by decide) rfl dX9_placed_20 hs_1ne ?_
      refine wa_iload X 4 rfl dX9_placed_23 ?_
      obtain ⟨o12, hv⟩ := hv
      refine wa_lget X hk_12 kw_440 dX9_placed_25 hs_1ne ⟨⟨Nat.le_of_ble_eq_true rfl, Nat.le_of_ble_eq_true rfl⟩, Nat.le_of_ble_eq_true rfl, Nat.le_of_ble_eq_true rfl⟩ (Nat.le_of_ble_eq_true rfl) o12 ?_
      obtain ⟨o13, hv⟩ := hv
      refine wa_cast X hk_3 hc_3 kw_458 dX9_placed_30 o13 ?_
      refine wa_astore X (lv' := [(5, .inr (.inr (3, (S.2.1 12 1 x2.toNatClampNeg)))), (0, .inr (.inr (9, 1))), (1, .inl a1), (2, .inl a2), (3, .inl x1), (4, .inl x2)]) dX9_placed_33 (by decide) rfl ?_
      refine wa_aload X 0 rfl dX9_placed_35 ?_
      refine wa_getI X (j := 1) hk_3 hc_3 i_3 (by decide) kw_618 rfl dX9_placed_37 o13 ?_
      refine wa_iload_n X 2 rfl dX9_placed_40 rfl ?_
      refine wa_icmp_ne X (tgt := 55) dX9_placed_41 (by decide) (fun c14 => ?_) (fun c14 => ?_)
      · replace hv := hv.1 c14
        refine wa_iinc X (v := (x2 + 1)) (lv' := [(4, .inl (x2 + 1)), (5, .inr (.inr (3, (S.2.1 12 1 x2.toNatClampNeg)))), (0, .inr (.inr (9, 1))), (1, .inl a1), (2, .inl a2), (3, .inl x1)]) 5 rfl dX9_placed_55 rfl (by decide) rfl ?_
        refine wa_goto X (tgt := 5) dX9_placed_58 (by decide) ?_
        obtain ⟨q15, p16, hv⟩ := hv
        refine wa_lv (lv' := [(0, .inr (.inr (9, 1))), (1, .inl a1), (2, .inl a2), (3, .inl x1), (4, .inl (x2 + 1))]) [2, 3, 4, 5, 0] rfl ?_
        exact h9 q15 p16 _ _ hv
      · replace hv := hv.2 c14
        refine wa_iload_n X 4 rfl dX9_placed_44 rfl ?_
        refine wa_iload_n X 3 rfl dX9_placed_45 rfl ?_
        refine wa_icmp_ne X (tgt := 52) dX9_placed_46 (by decide) (fun c17 => ?_) (fun c17 => ?_)
        · replace hv := hv.1 c17
          refine wa_iinc X (v := (x1 + 1)) (lv' := [(3, .inl (x1 + 1)), (5, .inr (.inr (3, (S.2.1 12 1 x2.toNatClampNeg)))), (0, .inr (.inr (9, 1))), (1, .inl a1), (2, .inl a2), (4, .inl x2)]) 4 rfl dX9_placed_52 rfl (by decide) rfl ?_
          refine wa_iinc X (v := (x2 + 1)) (lv' := [(4, .inl (x2 + 1)), (3, .inl (x1 + 1)), (5, .inr (.inr (3, (S.2.1 12 1 x2.toNatClampNeg)))), (0, .inr (.inr (9, 1))), (1, .inl a1), (2, .inl a2)]) 5 rfl dX9_placed_55 rfl (by decide) rfl ?_
          refine wa_goto X (tgt := 5) dX9_placed_58 (by decide) ?_
          obtain ⟨q18, p19, hv⟩ := hv
          refine wa_lv (lv' := [(0, .inr (.inr (9, 1))), (1, .inl a1), (2, .inl a2), (3, .inl (x1 + 1)), (4, .inl (x2 + 1))]) [3, 4, 5, 1, 0] rfl ?_
          exact h9 q18 p19 _ _ hv
        · replace hv := hv.2 c17
          refine wa_aload X 0 rfl dX9_placed_49 ?_
          exact wa_areturn X E dX9_placed_51 (Nat.le_of_ble_eq_true rfl) (Nat.le_of_ble_eq_true rfl) ⟨hw, _, rfl, hv⟩
theorem v_Sht_placed {a1 a2 : Int32} {S : hs_S} (hP : P_Sht_placed a1 a2 S) : vc_Sht_placed a1 a2 S (fun r S' => r = F_Sht_placed a1 a2 S ∧ S' = S) := by
  obtain ⟨g, hg, eg, hb⟩ := hP
  unfold vc_Sht_placed F_Sht_placed
  rw [eg]
  refine ⟨fun N x1 x2 => ∃ k, k ≤ g ∧ x2 = nI k ∧ (x1 = cEO S a1 k ∧ cPlc S a1 a2 g g = cPlc S a1 a2 g (g - k)) ∧ N = g - k, ⟨g, 0, Nat.zero_le _, rfl, ⟨rfl, rfl⟩, rfl⟩, ?_⟩
  rintro N x1 x2 ⟨k, hk, rfl, ⟨rfl, he⟩, rfl⟩
  refine ⟨fun h => ?_, fun h => ?_⟩
  · have := hl_end (by omega) hk h
    subst this
    rw [he, Nat.sub_self]
    exact ⟨rfl, rfl⟩
  · have hk1 := hl_go (by omega) hk h
    rw [hl_cl (by omega)]
    rw [cPlc_s hk1] at he
    refine ⟨hl_ix (by omega) (by omega), hb k hk1, fun h1 => hl_nx hk1 ⟨(if_neg h1).symm, ?_⟩, fun h1 => ⟨fun h2 => hl_nx hk1 ⟨(if_pos h1).symm, ?_⟩, fun h2 => ⟨?_, rfl⟩⟩⟩
    · rw [he, if_neg fun z => h1 z.1]
    · rw [he, if_neg fun z => h2 z.2]
    · rw [he, if_pos ⟨h1, h2⟩]
theorem f_Sht_placed {a1 : Int32} {a2 : Int32} {S : hs_S} (hw : hs_Wi S) (hP : P_Sht_placed a1 a2 S) : hs_M 5 yX9_placed (.code yX9_placed cX9_placed 6 (some (FieldType.object "Cellmarket$Edit"))) [.inr (.inr (9, 1)), .inl a1, .inl a2] S 0 0 (hs_pd (some (.inr (.inr (3, (F_Sht_placed a1 a2 S))))) S) hs_nX := hs_pdR (ok_Sht_placed hw (v_Sht_placed hP))

/-- the last of the first edits that counts for a cell; 0 without one -/
def cCt (S : hs_S) (c e : Int32) : Nat → Nat
  | 0 => 0
  | k + 1 => if S.1 3 (ed S k) 1 = c ∧ ¬ F_Edit_countsAt (ed S k) e S = 0 then ed S k else cCt S c e k
def F_Sht_counting (a1 a2 : Int32) (S : hs_S) : Nat := cCt S a1 a2 (hs_sz S 12)
def P_Sht_counting (a1 a2 : Int32) (S : hs_S) : Prop := cEd S
theorem nI_m1 {k : Nat} (hk : k < 2147483648) (h : ¬ nI k - 1 < 0) : ∃ j, k = j + 1 ∧ nI k - 1 = nI j := by
  cases k with
  | zero => exact absurd (by decide) h
  | succ j => exact ⟨j, rfl, nI_subI (b := 1) (by omega) hk⟩
def m_Sht_counting (a1 : Int32) (a2 : Int32) (S : hs_S) (Q : Nat → hs_S → Prop) : Prop := hs_M 5 yX9_counting (.code yX9_counting cX9_counting 5 (some (FieldType.object "Cellmarket$Edit"))) [.inr (.inr (9, 1)), .inl a1, .inl a2] S 0 0 (hs_qR 3 Q) hs_nX
def vc_Sht_counting (a1 : Int32) (a2 : Int32) (S : hs_S) (Q : Nat → hs_S → Prop) : Prop := (∃ I2 : Nat → Int32 → Prop, (∃ n6, I2 n6 ((nI (hs_sz S 12)) - (1 : Int32))) ∧ (∀ N3 : Nat, ∀ x1 : Int32, I2 N3 x1 → ((x1 < 0 → (Q 0 S)) ∧ (¬ x1 < 0 → ((0 ≤ x1.toInt ∧ x1.toInt < (hs_sz S 12)) ∧ (((S.2.1 12 1 x1.toNatClampNeg) ≠ 0) ∧ ((¬ (S.1 3 (S.2.1 12 1 x1.toNatClampNeg) 1) = a1 → (∃ q14, q14 < N3 ∧ I2 q14 (x1 + (-1)))) ∧ ((S.1 3 (S.2.1 12 1 x1.toNatClampNeg) 1) = a1 → (((F_Edit_countsAt (S.2.1 12 1 x1.toNatClampNeg) a2 S) = 0 → (∃ q17, q17 < N3 ∧ I2 q17 (x1 + (-1)))) ∧ (¬ (F_Edit_countsAt (S.2.1 12 1 x1.toNatClampNeg) a2 S) = 0 → (Q (S.2.1 12 1 x1.toNatClampNeg) S)))))))))))
set_option maxRecDepth 100000 in
set_option maxHeartbeats 4000000 in
theorem ok_Sht_counting {a1 : Int32} {a2 : Int32} {S : hs_S} {Q : Nat → hs_S → Prop} (hw : hs_Wi S) (hv : vc_Sht_counting a1 a2 S Q) : m_Sht_counting a1 a2 S Q := by
  unfold vc_Sht_counting at hv
  refine hs_body (own := RX9) rfl rfl (Nat.le_of_ble_eq_true rfl) (fun Z X E N J0 => ?_)
  show wa Z 0 0 S 0 [(0, .inr (.inr (9, 1))), (1, .inl a1), (2, .inl a2)] []
  refine wa_aload_n X 0 rfl dX9_counting_0 rfl ?_
  refine wa_getfw X hw (j := 1) (r := 1) hk_9 hc_9 i_9 (by decide) kw_135 rfl rfl (by decide) rfl dX9_counting_1 hs_1ne ?_
  refine wa_lsize X hk_12 kw_430 dX9_counting_4 hs_1ne ⟨⟨Nat.le_of_ble_eq_true rfl, Nat.le_of_ble_eq_true rfl⟩, Nat.le_of_ble_eq_true rfl, Nat.le_of_ble_eq_true rfl⟩ (Nat.le_of_ble_eq_true rfl) ?_
  refine wa_iconst X dX9_counting_9 kc1 ?_
  refine wa_isub X dX9_counting_10 ?_
  refine wa_istore_n X (lv' := [(3, .inl ((nI (hs_sz S 12)) - (1 : Int32))), (0, .inr (.inr (9, 1))), (1, .inl a1), (2, .inl a2)]) dX9_counting_11 rfl (by decide) rfl ?_
  obtain ⟨I2, ⟨n6, i4⟩, b5⟩ := hv
  refine wa_lv (lv' := [(0, .inr (.inr (9, 1))), (1, .inl a1), (2, .inl a2), (3, .inl ((nI (hs_sz S 12)) - (1 : Int32)))]) [1, 2, 3, 0] rfl ?_
  suffices L7 : ∀ N3 : Nat, ∀ x1 : Int32, I2 N3 x1 → wa Z 0 0 S 12 [(0, .inr (.inr (9, 1))), (1, .inl a1), (2, .inl a2), (3, .inl x1)] [] from L7 _ _ i4
  clear i4
  intro N3
  induction N3 using Nat.strongRecOn with
  | _ N3 h8 =>
    intro x1 j9
    have hv := b5 N3 x1 j9
    refine wa_iload_n X 3 rfl dX9_counting_12 rfl ?_
    refine wa_if_lt X (tgt := 58) dX9_counting_13 (by decide) (fun c10 => ?_) (fun c10 => ?_)
    · replace hv := hv.1 c10
      refine wa_null X (t := 3) dX9_counting_58 ?_
      exact wa_areturn X E dX9_counting_59 (Nat.le_of_ble_eq_true rfl) (Nat.le_of_ble_eq_true rfl) ⟨hw, _, rfl, hv⟩
    · replace hv := hv.2 c10
      refine wa_aload_n X 0 rfl dX9_counting_16 rfl ?_
      refine wa_getfw X hw (j := 1) (r := 1) hk_9 hc_9 i_9 (by decide) kw_135 rfl rfl (by decide) rfl dX9_counting_17 hs_1ne ?_
      refine wa_iload_n X 3 rfl dX9_counting_20 rfl ?_
      obtain ⟨o11, hv⟩ := hv
      refine wa_lget X hk_12 kw_440 dX9_counting_21 hs_1ne ⟨⟨Nat.le_of_ble_eq_true rfl, Nat.le_of_ble_eq_true rfl⟩, Nat.le_of_ble_eq_true rfl, Nat.le_of_ble_eq_true rfl⟩ (Nat.le_of_ble_eq_true rfl) o11 ?_
      obtain ⟨o12, hv⟩ := hv
      refine wa_cast X hk_3 hc_3 kw_458 dX9_counting_26 o12 ?_
      refine wa_astore X (lv' := [(4, .inr (.inr (3, (S.2.1 12 1 x1.toNatClampNeg)))), (0, .inr (.inr (9, 1))), (1, .inl a1), (2, .inl a2), (3, .inl x1)]) dX9_counting_29 (by decide) rfl ?_
      refine wa_aload X 0 rfl dX9_counting_31 ?_
      refine wa_getI X (j := 1) hk_3 hc_3 i_3 (by decide) kw_618 rfl dX9_counting_33 o12 ?_
      refine wa_iload_n X 2 rfl dX9_counting_36 rfl ?_
      refine wa_icmp_ne X (tgt := 52) dX9_counting_37 (by decide) (fun c13 => ?_) (fun c13 => ?_)
      · replace hv := hv.1 c13
        refine wa_iinc X (v := (x1 + (-1))) (lv' := [(3, .inl (x1 + (-1))), (4, .inr (.inr (3, (S.2.1 12 1 x1.toNatClampNeg)))), (0, .inr (.inr (9, 1))), (1, .inl a1), (2, .inl a2)]) 4 rfl dX9_counting_52 rfl (by decide) rfl ?_
        refine wa_goto X (tgt := 12) dX9_counting_55 (by decide) ?_
        obtain ⟨q14, p15, hv⟩ := hv
        refine wa_lv (lv' := [(0, .inr (.inr (9, 1))), (1, .inl a1), (2, .inl a2), (3, .inl (x1 + (-1)))]) [2, 3, 4, 0] rfl ?_
        exact h8 q14 p15 _ hv
      · replace hv := hv.2 c13
        refine wa_aload X 0 rfl dX9_counting_40 ?_
        refine wa_iload_n X 3 rfl dX9_counting_42 rfl ?_
        refine wa_callV X (As := [.inl a2]) (f_Edit_countsAt o12 hw) hk_3 hc_3 rfl kw_746 kw_42 kw_804 kw_744 kw_745 nd_X3_countsAt rfl rfl (Nat.le_of_ble_eq_true rfl) dX9_counting_43 o12 ⟨⟨Nat.le_of_ble_eq_true rfl, Nat.le_of_ble_eq_true rfl⟩, Nat.le_of_ble_eq_true rfl, Nat.le_of_ble_eq_true rfl⟩ (hs_pdk0 ?_) (fun _ _ h => h.elim)
        refine wa_if_eq X (tgt := 52) dX9_counting_46 (by decide) (fun c16 => ?_) (fun c16 => ?_)
        · replace hv := hv.1 c16
          refine wa_iinc X (v := (x1 + (-1))) (lv' := [(3, .inl (x1 + (-1))), (4, .inr (.inr (3, (S.2.1 12 1 x1.toNatClampNeg)))), (0, .inr (.inr (9, 1))), (1, .inl a1), (2, .inl a2)]) 4 rfl dX9_counting_52 rfl (by decide) rfl ?_
          refine wa_goto X (tgt := 12) dX9_counting_55 (by decide) ?_
          obtain ⟨q17, p18, hv⟩ := hv
          refine wa_lv (lv' := [(0, .inr (.inr (9, 1))), (1, .inl a1), (2, .inl a2), (3, .inl (x1 + (-1)))]) [2, 3, 4, 0] rfl ?_
          exact h8 q17 p18 _ hv
        · replace hv := hv.2 c16
          refine wa_aload X 0 rfl dX9_counting_49 ?_
          exact wa_areturn X E dX9_counting_51 (Nat.le_of_ble_eq_true rfl) (Nat.le_of_ble_eq_true rfl) ⟨hw, _, rfl, hv⟩
theorem v_Sht_counting {a1 a2 : Int32} {S : hs_S} (hP : P_Sht_counting a1 a2 S) : vc_Sht_counting a1 a2 S (fun r S' => r = F_Sht_counting a1 a2 S ∧ S' = S) := by
  obtain ⟨g, hg, eg, hb⟩ := hP
  unfold vc_Sht_counting F_Sht_counting
  rw [eg]
  refine ⟨fun N x1 => ∃ k, k ≤ g ∧ x1 = nI k - 1 ∧ cCt S a1 a2 g = cCt S a1 a2 k ∧ N = k, ⟨g, g, Nat.le_refl _, rfl, rfl, rfl⟩, ?_⟩
  rintro N x1 ⟨k, hk, rfl, he, rfl⟩
  refine ⟨fun h => ?_, fun h => ?_⟩
  · have : N = 0 := by
      cases N with
      | zero => rfl
      | succ j =>
        rw [show nI (j + 1) - 1 = nI j from nI_subI (b := 1) (by omega) (by omega), i32_lt, nI_toInt (by omega)] at h
        have z0 : (0 : Int32).toInt = 0 := rfl
        omega
    subst this
    rw [he]
    exact ⟨rfl, rfl⟩
  · obtain ⟨j, rfl, ej⟩ := nI_m1 (by omega) h
    rw [ej, hl_cl (by omega)]
    have e1 : nI j + -1 = nI j - 1 := by rw [Int32.sub_eq_add_neg]
    rw [e1]
    refine ⟨hl_ix (by omega) (by omega), hb j (by omega), fun h1 => ⟨j, by omega, j, by omega, rfl, ?_, rfl⟩, fun h1 => ⟨fun h2 => ⟨j, by omega, j, by omega, rfl, ?_, rfl⟩, fun h2 => ⟨?_, rfl⟩⟩⟩
    · rw [he, cCt, if_neg fun z => h1 z.1]
    · rw [he, cCt, if_neg fun z => z.2 h2]
    · rw [he, cCt, if_pos ⟨h1, h2⟩]
theorem f_Sht_counting {a1 : Int32} {a2 : Int32} {S : hs_S} (hw : hs_Wi S) (hP : P_Sht_counting a1 a2 S) : hs_M 5 yX9_counting (.code yX9_counting cX9_counting 5 (some (FieldType.object "Cellmarket$Edit"))) [.inr (.inr (9, 1)), .inl a1, .inl a2] S 0 0 (hs_pd (some (.inr (.inr (3, (F_Sht_counting a1 a2 S))))) S) hs_nX := hs_pdR (ok_Sht_counting hw (v_Sht_counting hP))

/-- the bids: numbers of things, and of their rounds -/
abbrev bd (S : hs_S) (k : Nat) : Nat := S.2.1 13 1 k
abbrev br (S : hs_S) (k : Nat) : Nat := S.2.1 0 (S.2.1 13 1 k) 2
def cBd (S : hs_S) : Prop := ∃ g : Nat, g ≤ 80 ∧ hs_sz S 13 = g ∧ ∀ k, k < g → bd S k ≠ 0 ∧ br S k ≠ 0
def cFs (S : hs_S) (r : Nat) : Nat → Int32
  | 0 => 0
  | k + 1 => if br S k = r then cFs S r k + F_Bid_feePaid (bd S k) S else cFs S r k
def F_Book_feesOf (r1 : Nat) (S : hs_S) : Int32 := cFs S r1 (hs_sz S 13)
def P_Book_feesOf (r1 : Nat) (S : hs_S) : Prop := cBd S
def m_Book_feesOf (r1 : Nat) (S : hs_S) (Q : Int32 → hs_S → Prop) : Prop := hs_M 5 yX1_feesOf (.code yX1_feesOf cX1_feesOf 5 (some FieldType.int)) [.inr (.inr (1, 1)), .inr (.inr (8, r1))] S 0 0 (hs_qI Q) hs_nX
def vc_Book_feesOf (r1 : Nat) (S : hs_S) (Q : Int32 → hs_S → Prop) : Prop := (∃ I3 : Nat → Int32 → Int32 → Prop, (∃ n7, I3 n7 (0 : Int32) (0 : Int32)) ∧ (∀ N4 : Nat, ∀ x1 : Int32, ∀ x2 : Int32, I3 N4 x1 x2 → (((nI (hs_sz S 13)) ≤ x2 → (Q x1 S)) ∧ (¬ (nI (hs_sz S 13)) ≤ x2 → ((0 ≤ x2.toInt ∧ x2.toInt < (hs_sz S 13)) ∧ (((S.2.1 13 1 x2.toNatClampNeg) ≠ 0) ∧ ((¬ (S.2.1 0 (S.2.1 13 1 x2.toNatClampNeg) 2) = r1 → (∃ q15, q15 < N4 ∧ I3 q15 x1 (x2 + 1))) ∧ ((S.2.1 0 (S.2.1 13 1 x2.toNatClampNeg) 2) = r1 → ((P_Bid_feePaid (S.2.1 13 1 x2.toNatClampNeg) S) ∧ (∃ q18, q18 < N4 ∧ I3 q18 (x1 + (F_Bid_feePaid (S.2.1 13 1 x2.toNatClampNeg) S)) (x2 + 1)))))))))))
set_option maxRecDepth 100000 in
set_option maxHeartbeats 4000000 in
theorem ok_Book_feesOf {r1 : Nat} {S : hs_S} {Q : Int32 → hs_S → Prop} (hr1 : r1 ≠ 0) (hw : hs_Wi S) (hv : vc_Book_feesOf r1 S Q) : m_Book_feesOf r1 S Q := by
  unfold vc_Book_feesOf at hv
  refine hs_body (own := RX1) rfl rfl (Nat.le_of_ble_eq_true rfl) (fun Z X E N J0 => ?_)
  show wa Z 0 0 S 0 [(0, .inr (.inr (1, 1))), (1, .inr (.inr (8, r1)))] []
  refine wa_iconst X dX1_feesOf_0 kc0 ?_
  refine wa_istore_n X (lv' := [(2, .inl (0 : Int32)), (0, .inr (.inr (1, 1))), (1, .inr (.inr (8, r1)))]) dX1_feesOf_1 rfl (by decide) rfl ?_
  refine wa_iconst X dX1_feesOf_2 kc0 ?_
  refine wa_istore_n X (lv' := [(3, .inl (0 : Int32)), (2, .inl (0 : Int32)), (0, .inr (.inr (1, 1))), (1, .inr (.inr (8, r1)))]) dX1_feesOf_3 rfl (by decide) rfl ?_
  obtain ⟨I3, ⟨n7, i5⟩, b6⟩ := hv
  refine wa_lv (lv' := [(0, .inr (.inr (1, 1))), (1, .inr (.inr (8, r1))), (2, .inl (0 : Int32)), (3, .inl (0 : Int32))]) [2, 3, 1, 0] rfl ?_
  suffices L8 : ∀ N4 : Nat, ∀ x1 : Int32, ∀ x2 : Int32, I3 N4 x1 x2 → wa Z 0 0 S 4 [(0, .inr (.inr (1, 1))), (1, .inr (.inr (8, r1))), (2, .inl x1), (3, .inl x2)] [] from L8 _ _ _ i5
  clear i5
  intro N4
  induction N4 using Nat.strongRecOn with
  | _ N4 h9 =>
    intro x1 x2 j10
    have hv := b6 N4 x1 x2 j10
    refine wa_iload_n X 3 rfl dX1_feesOf_4 rfl ?_
    refine wa_aload_n X 0 rfl dX1_feesOf_5 rfl ?_
    refine wa_getfw X hw (j := 0) (r := 1) hk_1 hc_1 i_1 (by decide) kw_224 rfl rfl (by decide) rfl dX1_feesOf_6 hs_1ne ?_
    refine wa_lsize X hk_13 kw_476 dX1_feesOf_9 hs_1ne ⟨⟨Nat.le_of_ble_eq_true rfl, Nat.le_of_ble_eq_true rfl⟩, Nat.le_of_ble_eq_true rfl, Nat.le_of_ble_eq_true rfl⟩ (Nat.le_of_ble_eq_true rfl) ?_
    refine wa_icmp_ge X (tgt := 55) dX1_feesOf_14 (by decide) (fun c11 => ?_) (fun c11 => ?_)
    · replace hv := hv.1 c11
      refine wa_iload_n X 2 rfl dX1_feesOf_55 rfl ?_
      exact wa_ireturn X E dX1_feesOf_56 (Nat.le_of_ble_eq_true rfl) (Nat.le_of_ble_eq_true rfl) (Or.inl rfl) ⟨hw, _, rfl, hv⟩
    · replace hv := hv.2 c11
      refine wa_aload_n X 0 rfl dX1_feesOf_17 rfl ?_
      refine wa_getfw X hw (j := 0) (r := 1) hk_1 hc_1 i_1 (by decide) kw_224 rfl rfl (by decide) rfl dX1_feesOf_18 hs_1ne ?_
      refine wa_iload_n X 3 rfl dX1_feesOf_21 rfl ?_
      obtain ⟨o12, hv⟩ := hv
      refine wa_lget X hk_13 kw_478 dX1_feesOf_22 hs_1ne ⟨⟨Nat.le_of_ble_eq_true rfl, Nat.le_of_ble_eq_true rfl⟩, Nat.le_of_ble_eq_true rfl, Nat.le_of_ble_eq_true rfl⟩ (Nat.le_of_ble_eq_true rfl) o12 ?_
      obtain ⟨o13, hv⟩ := hv
      refine wa_cast X hk_0 hc_0 kw_479 dX1_feesOf_27 o13 ?_
      refine wa_astore X (lv' := [(4, .inr (.inr (0, (S.2.1 13 1 x2.toNatClampNeg)))), (0, .inr (.inr (1, 1))), (1, .inr (.inr (8, r1))), (2, .inl x1), (3, .inl x2)]) dX1_feesOf_30 (by decide) rfl ?_
      refine wa_aload X 0 rfl dX1_feesOf_32 ?_
      refine wa_getR X (j := 2) hk_0 hc_0 i_0 (by decide) kw_842 rfl dX1_feesOf_34 o13 ?_
      refine wa_aload_n X 2 rfl dX1_feesOf_37 rfl ?_
      refine wa_acmp_ne X (by decide) (tgt := 49) dX1_feesOf_38 (by decide) (fun c14 => ?_) (fun c14 => ?_)
      · replace hv := hv.1 c14
        refine wa_iinc X (v := (x2 + 1)) (lv' := [(3, .inl (x2 + 1)), (4, .inr (.inr (0, (S.2.1 13 1 x2.toNatClampNeg)))), (0, .inr (.inr (1, 1))), (1, .inr (.inr (8, r1))), (2, .inl x1)]) 4 rfl dX1_feesOf_49 rfl (by decide) rfl ?_
        refine wa_goto X (tgt := 4) dX1_feesOf_52 (by decide) ?_
        obtain ⟨q15, p16, hv⟩ := hv
        refine wa_lv (lv' := [(0, .inr (.inr (1, 1))), (1, .inr (.inr (8, r1))), (2, .inl x1), (3, .inl (x2 + 1))]) [2, 3, 4, 0] rfl ?_
        exact h9 q15 p16 _ _ hv
      · replace hv := hv.2 c14
        refine wa_iload_n X 3 rfl dX1_feesOf_41 rfl ?_
        refine wa_aload X 0 rfl dX1_feesOf_42 ?_
        obtain ⟨o17, hv⟩ := hv
        refine wa_callV X (As := []) (f_Bid_feePaid o13 hw o17) hk_0 hc_0 rfl kw_491 kw_46 kw_496 kw_489 kw_490 nd_X0_feePaid rfl rfl (Nat.le_of_ble_eq_true rfl) dX1_feesOf_44 o13 ⟨⟨Nat.le_of_ble_eq_true rfl, Nat.le_of_ble_eq_true rfl⟩, Nat.le_of_ble_eq_true rfl, Nat.le_of_ble_eq_true rfl⟩ (hs_pdk0 ?_) (fun _ _ h => h.elim)
        refine wa_iadd X dX1_feesOf_47 ?_
        refine wa_istore_n X (lv' := [(2, .inl (x1 + (F_Bid_feePaid (S.2.1 13 1 x2.toNatClampNeg) S))), (4, .inr (.inr (0, (S.2.1 13 1 x2.toNatClampNeg)))), (0, .inr (.inr (1, 1))), (1, .inr (.inr (8, r1))), (3, .inl x2)]) dX1_feesOf_48 rfl (by decide) rfl ?_
        refine wa_iinc X (v := (x2 + 1)) (lv' := [(3, .inl (x2 + 1)), (2, .inl (x1 + (F_Bid_feePaid (S.2.1 13 1 x2.toNatClampNeg) S))), (4, .inr (.inr (0, (S.2.1 13 1 x2.toNatClampNeg)))), (0, .inr (.inr (1, 1))), (1, .inr (.inr (8, r1)))]) 4 rfl dX1_feesOf_49 rfl (by decide) rfl ?_
        refine wa_goto X (tgt := 4) dX1_feesOf_52 (by decide) ?_
        obtain ⟨q18, p19, hv⟩ := hv
        refine wa_lv (lv' := [(0, .inr (.inr (1, 1))), (1, .inr (.inr (8, r1))), (2, .inl (x1 + (F_Bid_feePaid (S.2.1 13 1 x2.toNatClampNeg) S))), (3, .inl (x2 + 1))]) [3, 4, 1, 0] rfl ?_
        exact h9 q18 p19 _ _ hv
theorem v_Book_feesOf {r1 : Nat} {S : hs_S} (hP : P_Book_feesOf r1 S) : vc_Book_feesOf r1 S (fun r S' => r = F_Book_feesOf r1 S ∧ S' = S) := by
  obtain ⟨g, hg, eg, hb⟩ := hP
  unfold vc_Book_feesOf F_Book_feesOf
  rw [eg]
  refine ⟨fun N x1 x2 => ∃ k, k ≤ g ∧ x2 = nI k ∧ x1 = cFs S r1 k ∧ N = g - k, ⟨g, 0, Nat.zero_le _, rfl, rfl, rfl⟩, ?_⟩
  rintro N x1 x2 ⟨k, hk, rfl, rfl, rfl⟩
  refine ⟨fun h => ?_, fun h => ?_⟩
  · have := hl_end (by omega) hk h
    subst this
    exact ⟨rfl, rfl⟩
  · have hk1 := hl_go (by omega) hk h
    rw [hl_cl (by omega)]
    exact ⟨hl_ix (by omega) (by omega), (hb k hk1).1, fun h1 => hl_nx hk1 (if_neg h1).symm, fun h1 => ⟨(hb k hk1).2, hl_nx hk1 (if_pos h1).symm⟩⟩
theorem f_Book_feesOf {r1 : Nat} {S : hs_S} (hr1 : r1 ≠ 0) (hw : hs_Wi S) (hP : P_Book_feesOf r1 S) : hs_M 5 yX1_feesOf (.code yX1_feesOf cX1_feesOf 5 (some FieldType.int)) [.inr (.inr (1, 1)), .inr (.inr (8, r1))] S 0 0 (hs_pd (some (.inl (F_Book_feesOf r1 S))) S) hs_nX := hs_pdI (ok_Book_feesOf hr1 hw (v_Book_feesOf hP))

def cOw (S : hs_S) (o c : Int32) : Nat → Int32
  | 0 => 0
  | k + 1 => if S.1 8 (br S k) 0 = c then (if F_Rnd_feeOwner (br S k) S = o then (if S.1 0 (bd S k) 1 = o then cOw S o c k + F_Bid_owed (bd S k) S else cOw S o c k) - F_Bid_feePaid (bd S k) S else (if S.1 0 (bd S k) 1 = o then cOw S o c k + F_Bid_owed (bd S k) S else cOw S o c k)) else cOw S o c k
def F_Book_owedBy (a1 a2 : Int32) (S : hs_S) : Int32 := cOw S a1 a2 (hs_sz S 13)
def P_Book_owedBy (a1 a2 : Int32) (S : hs_S) : Prop := cBd S ∧ ∀ k, k < hs_sz S 13 → P_Rnd_feeOwner (br S k) S
def m_Book_owedBy (a1 : Int32) (a2 : Int32) (S : hs_S) (Q : Int32 → hs_S → Prop) : Prop := hs_M 5 yX1_owedBy (.code yX1_owedBy cX1_owedBy 6 (some FieldType.int)) [.inr (.inr (1, 1)), .inl a1, .inl a2] S 0 0 (hs_qI Q) hs_nX
def vc_Book_owedBy (a1 : Int32) (a2 : Int32) (S : hs_S) (Q : Int32 → hs_S → Prop) : Prop := (∃ I3 : Nat → Int32 → Int32 → Prop, (∃ n7, I3 n7 (0 : Int32) (0 : Int32)) ∧ (∀ N4 : Nat, ∀ x1 : Int32, ∀ x2 : Int32, I3 N4 x1 x2 → (((nI (hs_sz S 13)) ≤ x2 → (Q x1 S)) ∧ (¬ (nI (hs_sz S 13)) ≤ x2 → ((0 ≤ x2.toInt ∧ x2.toInt < (hs_sz S 13)) ∧ (((S.2.1 13 1 x2.toNatClampNeg) ≠ 0) ∧ (((S.2.1 0 (S.2.1 13 1 x2.toNatClampNeg) 2) ≠ 0) ∧ ((¬ (S.1 8 (S.2.1 0 (S.2.1 13 1 x2.toNatClampNeg) 2) 0) = a2 → (∃ q16, q16 < N4 ∧ I3 q16 x1 (x2 + 1))) ∧ ((S.1 8 (S.2.1 0 (S.2.1 13 1 x2.toNatClampNeg) 2) 0) = a2 → (((¬ (S.1 0 (S.2.1 13 1 x2.toNatClampNeg) 1) = a1 → True) ∧ ((S.1 0 (S.2.1 13 1 x2.toNatClampNeg) 1) = a1 → ((P_Bid_owed (S.2.1 13 1 x2.toNatClampNeg) S) ∧ True))) ∧ (∀ x18 : Int32, x18 = (if (S.1 0 (S.2.1 13 1 x2.toNatClampNeg) 1) = a1 then (x1 + (F_Bid_owed (S.2.1 13 1 x2.toNatClampNeg) S)) else x1) → ((P_Rnd_feeOwner (S.2.1 0 (S.2.1 13 1 x2.toNatClampNeg) 2) S) ∧ ((¬ (F_Rnd_feeOwner (S.2.1 0 (S.2.1 13 1 x2.toNatClampNeg) 2) S) = a1 → (∃ q21, q21 < N4 ∧ I3 q21 x18 (x2 + 1))) ∧ ((F_Rnd_feeOwner (S.2.1 0 (S.2.1 13 1 x2.toNatClampNeg) 2) S) = a1 → ((P_Bid_feePaid (S.2.1 13 1 x2.toNatClampNeg) S) ∧ (∃ q24, q24 < N4 ∧ I3 q24 (x18 - (F_Bid_feePaid (S.2.1 13 1 x2.toNatClampNeg) S)) (x2 + 1)))))))))))))))))
set_option maxRecDepth 100000 in
set_option maxHeartbeats 4000000 in
theorem ok_Book_owedBy {a1 : Int32} {a2 : Int32} {S : hs_S} {Q : Int32 → hs_S → Prop} (hw : hs_Wi S) (hv : vc_Book_owedBy a1 a2 S Q) : m_Book_owedBy a1 a2 S Q := by
  unfold vc_Book_owedBy at hv
  refine hs_body (own := RX1) rfl rfl (Nat.le_of_ble_eq_true rfl) (fun Z X E N J0 => ?_)
  show wa Z 0 0 S 0 [(0, .inr (.inr (1, 1))), (1, .inl a1), (2, .inl a2)] []
  refine wa_iconst X dX1_owedBy_0 kc0 ?_
  refine wa_istore_n X (lv' := [(3, .inl (0 : Int32)), (0, .inr (.inr (1, 1))), (1, .inl a1), (2, .inl a2)]) dX1_owedBy_1 rfl (by decide) rfl ?_
  refine wa_iconst X dX1_owedBy_2 kc0 ?_
  refine wa_istore X (lv' := [(4, .inl (0 : Int32)), (3, .inl (0 : Int32)), (0, .inr (.inr (1, 1))), (1, .inl a1), (2, .inl a2)]) dX1_owedBy_3 (by decide) rfl ?_
  obtain ⟨I3, ⟨n7, i5⟩, b6⟩ := hv
  refine wa_lv (lv' := [(0, .inr (.inr (1, 1))), (1, .inl a1), (2, .inl a2), (3, .inl (0 : Int32)), (4, .inl (0 : Int32))]) [2, 3, 4, 1, 0] rfl ?_
  suffices L8 : ∀ N4 : Nat, ∀ x1 : Int32, ∀ x2 : Int32, I3 N4 x1 x2 → wa Z 0 0 S 5 [(0, .inr (.inr (1, 1))), (1, .inl a1), (2, .inl a2), (3, .inl x1), (4, .inl x2)] [] from L8 _ _ _ i5
  clear i5
  intro N4
  induction N4 using Nat.strongRecOn with
  | _ N4 h9 =>
    intro x1 x2 j10
    have hv := b6 N4 x1 x2 j10
    refine wa_iload X 4 rfl dX1_owedBy_5 ?_
    refine wa_aload_n X 0 rfl dX1_owedBy_7 rfl ?_
    refine wa_getfw X hw (j := 0) (r := 1) hk_1 hc_1 i_1 (by decide) kw_224 rfl rfl (by decide) rfl dX1_owedBy_8 hs_1ne ?_
    refine wa_lsize X hk_13 kw_476 dX1_owedBy_11 hs_1ne ⟨⟨Nat.le_of_ble_eq_true rfl, Nat.le_of_ble_eq_true rfl⟩, Nat.le_of_ble_eq_true rfl, Nat.le_of_ble_eq_true rfl⟩ (Nat.le_of_ble_eq_true rfl) ?_
    refine wa_icmp_ge X (tgt := 90) dX1_owedBy_16 (by decide) (fun c11 => ?_) (fun c11 => ?_)
    · replace hv := hv.1 c11
      refine wa_iload_n X 3 rfl dX1_owedBy_90 rfl ?_
      exact wa_ireturn X E dX1_owedBy_91 (Nat.le_of_ble_eq_true rfl) (Nat.le_of_ble_eq_true rfl) (Or.inl rfl) ⟨hw, _, rfl, hv⟩
    · replace hv := hv.2 c11
      refine wa_aload_n X 0 rfl dX1_owedBy_19 rfl ?_
      refine wa_getfw X hw (j := 0) (r := 1) hk_1 hc_1 i_1 (by decide) kw_224 rfl rfl (by decide) rfl dX1_owedBy_20 hs_1ne ?_
      refine wa_iload X 4 rfl dX1_owedBy_23 ?_
      obtain ⟨o12, hv⟩ := hv
      refine wa_lget X hk_13 kw_478 dX1_owedBy_25 hs_1ne ⟨⟨Nat.le_of_ble_eq_true rfl, Nat.le_of_ble_eq_true rfl⟩, Nat.le_of_ble_eq_true rfl, Nat.le_of_ble_eq_true rfl⟩ (Nat.le_of_ble_eq_true rfl) o12 ?_
      obtain ⟨o13, hv⟩ := hv
      refine wa_cast X hk_0 hc_0 kw_479 dX1_owedBy_30 o13 ?_
      refine wa_astore X (lv' := [(5, .inr (.inr (0, (S.2.1 13 1 x2.toNatClampNeg)))), (0, .inr (.inr (1, 1))), (1, .inl a1), (2, .inl a2), (3, .inl x1), (4, .inl x2)]) dX1_owedBy_33 (by decide) rfl ?_
      refine wa_aload X 0 rfl dX1_owedBy_35 ?_
      refine wa_getR X (j := 2) hk_0 hc_0 i_0 (by decide) kw_842 rfl dX1_owedBy_37 o13 ?_
      obtain ⟨o14, hv⟩ := hv
      refine wa_getI X (j := 0) hk_8 hc_8 i_8 (by decide) kw_175 rfl dX1_owedBy_40 o14 ?_
      refine wa_iload_n X 3 rfl dX1_owedBy_43 rfl ?_
      refine wa_icmp_ne X (tgt := 84) dX1_owedBy_44 (by decide) (fun c15 => ?_) (fun c15 => ?_)
      · replace hv := hv.1 c15
        refine wa_iinc X (v := (x2 + 1)) (lv' := [(4, .inl (x2 + 1)), (5, .inr (.inr (0, (S.2.1 13 1 x2.toNatClampNeg)))), (0, .inr (.inr (1, 1))), (1, .inl a1), (2, .inl a2), (3, .inl x1)]) 5 rfl dX1_owedBy_84 rfl (by decide) rfl ?_
        refine wa_goto X (tgt := 5) dX1_owedBy_87 (by decide) ?_
        obtain ⟨q16, p17, hv⟩ := hv
        refine wa_lv (lv' := [(0, .inr (.inr (1, 1))), (1, .inl a1), (2, .inl a2), (3, .inl x1), (4, .inl (x2 + 1))]) [2, 3, 4, 5, 0] rfl ?_
        exact h9 q16 p17 _ _ hv
      · replace hv := hv.2 c15
        refine wa_aload X 0 rfl dX1_owedBy_47 ?_
        refine wa_getI X (j := 1) hk_0 hc_0 i_0 (by decide) kw_839 rfl dX1_owedBy_49 o13 ?_
        refine wa_iload_n X 2 rfl dX1_owedBy_52 rfl ?_
        obtain ⟨o27, hv⟩ := hv
        have k26 : ∀ (x18 : Int32), x18 = (if (S.1 0 (S.2.1 13 1 x2.toNatClampNeg) 1) = a1 then (x1 + (F_Bid_owed (S.2.1 13 1 x2.toNatClampNeg) S)) else x1) → wa Z 0 0 S 64 [(0, .inr (.inr (1, 1))), (1, .inl a1), (2, .inl a2), (3, .inl x18), (4, .inl x2), (5, .inr (.inr (0, (S.2.1 13 1 x2.toNatClampNeg))))] [] := by
          intro x18 hE
          replace hv := hv _ hE
          refine wa_aload X 5 rfl dX1_owedBy_64 ?_
          refine wa_getR X (j := 2) hk_0 hc_0 i_0 (by decide) kw_842 rfl dX1_owedBy_66 o13 ?_
          obtain ⟨o19, hv⟩ := hv
          refine wa_callV X (As := []) (f_Rnd_feeOwner o14 hw o19) hk_8 hc_8 rfl kw_495 kw_29 kw_492 kw_493 kw_494 nd_X8_feeOwner rfl rfl (Nat.le_of_ble_eq_true rfl) dX1_owedBy_69 o14 ⟨⟨Nat.le_of_ble_eq_true rfl, Nat.le_of_ble_eq_true rfl⟩, Nat.le_of_ble_eq_true rfl, Nat.le_of_ble_eq_true rfl⟩ (hs_pdk0 ?_) (fun _ _ h => h.elim)
          refine wa_iload_n X 1 rfl dX1_owedBy_72 rfl ?_
          refine wa_icmp_ne X (tgt := 84) dX1_owedBy_73 (by decide) (fun c20 => ?_) (fun c20 => ?_)
          · replace hv := hv.1 c20
            refine wa_iinc X (v := (x2 + 1)) (lv' := [(4, .inl (x2 + 1)), (0, .inr (.inr (1, 1))), (1, .inl a1), (2, .inl a2), (3, .inl x18), (5, .inr (.inr (0, (S.2.1 13 1 x2.toNatClampNeg))))]) 4 rfl dX1_owedBy_84 rfl (by decide) rfl ?_
            refine wa_goto X (tgt := 5) dX1_owedBy_87 (by decide) ?_
            obtain ⟨q21, p22, hv⟩ := hv
            refine wa_lv (lv' := [(0, .inr (.inr (1, 1))), (1, .inl a1), (2, .inl a2), (3, .inl x18), (4, .inl (x2 + 1))]) [1, 2, 3, 4, 0] rfl ?_
            exact h9 q21 p22 _ _ hv
          · replace hv := hv.2 c20
            refine wa_iload_n X 3 rfl dX1_owedBy_76 rfl ?_
            refine wa_aload X 5 rfl dX1_owedBy_77 ?_
            obtain ⟨o23, hv⟩ := hv
            refine wa_callV X (As := []) (f_Bid_feePaid o13 hw o23) hk_0 hc_0 rfl kw_491 kw_46 kw_496 kw_489 kw_490 nd_X0_feePaid rfl rfl (Nat.le_of_ble_eq_true rfl) dX1_owedBy_79 o13 ⟨⟨Nat.le_of_ble_eq_true rfl, Nat.le_of_ble_eq_true rfl⟩, Nat.le_of_ble_eq_true rfl, Nat.le_of_ble_eq_true rfl⟩ (hs_pdk0 ?_) (fun _ _ h => h.elim)
            refine wa_isub X dX1_owedBy_82 ?_
            refine wa_istore_n X (lv' := [(3, .inl (x18 - (F_Bid_feePaid (S.2.1 13 1 x2.toNatClampNeg) S))), (0, .inr (.inr (1, 1))), (1, .inl a1), (2, .inl a2), (4, .inl x2), (5, .inr (.inr (0, (S.2.1 13 1 x2.toNatClampNeg))))]) dX1_owedBy_83 rfl (by decide) rfl ?_
            refine wa_iinc X (v := (x2 + 1)) (lv' := [(4, .inl (x2 + 1)), (3, .inl (x18 - (F_Bid_feePaid (S.2.1 13 1 x2.toNatClampNeg) S))), (0, .inr (.inr (1, 1))), (1, .inl a1), (2, .inl a2), (5, .inr (.inr (0, (S.2.1 13 1 x2.toNatClampNeg))))]) 4 rfl dX1_owedBy_84 rfl (by decide) rfl ?_
            refine wa_goto X (tgt := 5) dX1_owedBy_87 (by decide) ?_
            obtain ⟨q24, p25, hv⟩ := hv
            refine wa_lv (lv' := [(0, .inr (.inr (1, 1))), (1, .inl a1), (2, .inl a2), (3, .inl (x18 - (F_Bid_feePaid (S.2.1 13 1 x2.toNatClampNeg) S))), (4, .inl (x2 + 1))]) [2, 3, 4, 1, 0] rfl ?_
            exact h9 q24 p25 _ _ hv
        replace hv := o27
        refine wa_icmp_ne X (tgt := 64) dX1_owedBy_53 (by decide) (fun c29 => ?_) (fun c29 => ?_)
        · replace hv := hv.1 c29
          refine wa_lv (lv' := [(0, .inr (.inr (1, 1))), (1, .inl a1), (2, .inl a2), (3, .inl x1), (4, .inl x2), (5, .inr (.inr (0, (S.2.1 13 1 x2.toNatClampNeg))))]) [1, 2, 3, 4, 5, 0] rfl ?_
          exact wa_wid (Nat.le_of_ble_eq_true rfl) (Nat.le_of_ble_eq_true rfl) (k26 _  (by rw [if_neg c29]))
        · replace hv := hv.2 c29
          refine wa_iload_n X 4 rfl dX1_owedBy_56 rfl ?_
          refine wa_aload X 0 rfl dX1_owedBy_57 ?_
          obtain ⟨o30, hv⟩ := hv
          refine wa_callV X (As := []) (f_Bid_owed o13 hw o30) hk_0 hc_0 rfl kw_483 kw_46 kw_480 kw_481 kw_482 nd_X0_owed rfl rfl (Nat.le_of_ble_eq_true rfl) dX1_owedBy_59 o13 ⟨⟨Nat.le_of_ble_eq_true rfl, Nat.le_of_ble_eq_true rfl⟩, Nat.le_of_ble_eq_true rfl, Nat.le_of_ble_eq_true rfl⟩ (hs_pdk0 ?_) (fun _ _ h => h.elim)
          refine wa_iadd X dX1_owedBy_62 ?_
          refine wa_istore_n X (lv' := [(3, .inl (x1 + (F_Bid_owed (S.2.1 13 1 x2.toNatClampNeg) S))), (5, .inr (.inr (0, (S.2.1 13 1 x2.toNatClampNeg)))), (0, .inr (.inr (1, 1))), (1, .inl a1), (2, .inl a2), (4, .inl x2)]) dX1_owedBy_63 rfl (by decide) rfl ?_
          refine wa_lv (lv' := [(0, .inr (.inr (1, 1))), (1, .inl a1), (2, .inl a2), (3, .inl (x1 + (F_Bid_owed (S.2.1 13 1 x2.toNatClampNeg) S))), (4, .inl x2), (5, .inr (.inr (0, (S.2.1 13 1 x2.toNatClampNeg))))]) [2, 3, 4, 0, 5, 1] rfl ?_
          exact wa_wid (Nat.le_of_ble_eq_true rfl) (Nat.le_of_ble_eq_true rfl) (k26 _  (by rw [if_pos c29]))
theorem v_Book_owedBy {a1 a2 : Int32} {S : hs_S} (hP : P_Book_owedBy a1 a2 S) : vc_Book_owedBy a1 a2 S (fun r S' => r = F_Book_owedBy a1 a2 S ∧ S' = S) := by
  obtain ⟨⟨g, hg, eg, hb⟩, hf⟩ := hP
  unfold vc_Book_owedBy F_Book_owedBy
  rw [eg] at hf ⊢
  refine ⟨fun N x1 x2 => ∃ k, k ≤ g ∧ x2 = nI k ∧ x1 = cOw S a1 a2 k ∧ N = g - k, ⟨g, 0, Nat.zero_le _, rfl, rfl, rfl⟩, ?_⟩
  rintro N x1 x2 ⟨k, hk, rfl, rfl, rfl⟩
  refine ⟨fun h => ?_, fun h => ?_⟩
  · have := hl_end (by omega) hk h
    subst this
    exact ⟨rfl, rfl⟩
  · have hk1 := hl_go (by omega) hk h
    rw [hl_cl (by omega)]
    refine ⟨hl_ix (by omega) (by omega), (hb k hk1).1, (hb k hk1).2, fun h1 => hl_nx hk1 (if_neg h1).symm, fun h1 => ⟨⟨fun _ => trivial, fun _ => ⟨(hb k hk1).2, trivial⟩⟩, fun x hx => ⟨hf k hk1, fun h2 => hl_nx hk1 ?_, fun h2 => ⟨(hb k hk1).2, hl_nx hk1 ?_⟩⟩⟩⟩
    · show x = cOw S a1 a2 (k + 1)
      rw [cOw, if_pos h1, if_neg h2, hx]
    · show _ = cOw S a1 a2 (k + 1)
      rw [cOw, if_pos h1, if_pos h2, hx]
theorem f_Book_owedBy {a1 : Int32} {a2 : Int32} {S : hs_S} (hw : hs_Wi S) (hP : P_Book_owedBy a1 a2 S) : hs_M 5 yX1_owedBy (.code yX1_owedBy cX1_owedBy 6 (some FieldType.int)) [.inr (.inr (1, 1)), .inl a1, .inl a2] S 0 0 (hs_pd (some (.inl (F_Book_owedBy a1 a2 S))) S) hs_nX := hs_pdI (ok_Book_owedBy hw (v_Book_owedBy hP))

abbrev cOfC (S : hs_S) (o : Int32) (k : Nat) : Prop := S.1 0 (bd S k) 1 = o ∧ ¬ S.1 0 (bd S k) 3 = 0 ∧ S.1 0 (bd S k) 7 = 2147483647 ∧ F_Rnd_isCleared (br S k) S = 0
def cOf (S : hs_S) (o : Int32) : Nat → Int32
  | 0 => 0
  | k + 1 => if cOfC S o k then cOf S o k + S.1 0 (bd S k) 4 * S.1 0 (bd S k) 5 else cOf S o k
def F_Book_offeredBy (a1 : Int32) (S : hs_S) : Int32 := cOf S a1 (hs_sz S 13)
def P_Book_offeredBy (a1 : Int32) (S : hs_S) : Prop := cBd S
def m_Book_offeredBy (a1 : Int32) (S : hs_S) (Q : Int32 → hs_S → Prop) : Prop := hs_M 5 yX1_offeredBy (.code yX1_offeredBy cX1_offeredBy 5 (some FieldType.int)) [.inr (.inr (1, 1)), .inl a1] S 0 0 (hs_qI Q) hs_nX
def vc_Book_offeredBy (a1 : Int32) (S : hs_S) (Q : Int32 → hs_S → Prop) : Prop := (∃ I3 : Nat → Int32 → Int32 → Prop, (∃ n7, I3 n7 (0 : Int32) (0 : Int32)) ∧ (∀ N4 : Nat, ∀ x1 : Int32, ∀ x2 : Int32, I3 N4 x1 x2 → (((nI (hs_sz S 13)) ≤ x2 → (Q x1 S)) ∧ (¬ (nI (hs_sz S 13)) ≤ x2 → ((0 ≤ x2.toInt ∧ x2.toInt < (hs_sz S 13)) ∧ (((S.2.1 13 1 x2.toNatClampNeg) ≠ 0) ∧ ((¬ (S.1 0 (S.2.1 13 1 x2.toNatClampNeg) 1) = a1 → (∃ q15, q15 < N4 ∧ I3 q15 x1 (x2 + 1))) ∧ ((S.1 0 (S.2.1 13 1 x2.toNatClampNeg) 1) = a1 → (((S.1 0 (S.2.1 13 1 x2.toNatClampNeg) 3) = 0 → (∃ q18, q18 < N4 ∧ I3 q18 x1 (x2 + 1))) ∧ (¬ (S.1 0 (S.2.1 13 1 x2.toNatClampNeg) 3) = 0 → ((¬ (S.1 0 (S.2.1 13 1 x2.toNatClampNeg) 7) = (2147483647 : Int32) → (∃ q21, q21 < N4 ∧ I3 q21 x1 (x2 + 1))) ∧ ((S.1 0 (S.2.1 13 1 x2.toNatClampNeg) 7) = (2147483647 : Int32) → (((S.2.1 0 (S.2.1 13 1 x2.toNatClampNeg) 2) ≠ 0) ∧ ((¬ (F_Rnd_isCleared (S.2.1 0 (S.2.1 13 1 x2.toNatClampNeg) 2) S) = 0 → (∃ q25, q25 < N4 ∧ I3 q25 x1 (x2 + 1))) ∧ ((F_Rnd_isCleared (S.2.1 0 (S.2.1 13 1 x2.toNatClampNeg) 2) S) = 0 → (∃ q27, q27 < N4 ∧ I3 q27 (x1 + ((S.1 0 (S.2.1 13 1 x2.toNatClampNeg) 4) * (S.1 0 (S.2.1 13 1 x2.toNatClampNeg) 5))) (x2 + 1)))))))))))))))))
set_option maxRecDepth 100000 in
set_option maxHeartbeats 4000000 in
theorem ok_Book_offeredBy {a1 : Int32} {S : hs_S} {Q : Int32 → hs_S → Prop} (hw : hs_Wi S) (hv : vc_Book_offeredBy a1 S Q) : m_Book_offeredBy a1 S Q := by
  unfold vc_Book_offeredBy at hv
  refine hs_body (own := RX1) rfl rfl (Nat.le_of_ble_eq_true rfl) (fun Z X E N J0 => ?_)
  show wa Z 0 0 S 0 [(0, .inr (.inr (1, 1))), (1, .inl a1)] []
  refine wa_iconst X dX1_offeredBy_0 kc0 ?_
  refine wa_istore_n X (lv' := [(2, .inl (0 : Int32)), (0, .inr (.inr (1, 1))), (1, .inl a1)]) dX1_offeredBy_1 rfl (by decide) rfl ?_
  refine wa_iconst X dX1_offeredBy_2 kc0 ?_
  refine wa_istore_n X (lv' := [(3, .inl (0 : Int32)), (2, .inl (0 : Int32)), (0, .inr (.inr (1, 1))), (1, .inl a1)]) dX1_offeredBy_3 rfl (by decide) rfl ?_
  obtain ⟨I3, ⟨n7, i5⟩, b6⟩ := hv
  refine wa_lv (lv' := [(0, .inr (.inr (1, 1))), (1, .inl a1), (2, .inl (0 : Int32)), (3, .inl (0 : Int32))]) [2, 3, 1, 0] rfl ?_
  suffices L8 : ∀ N4 : Nat, ∀ x1 : Int32, ∀ x2 : Int32, I3 N4 x1 x2 → wa Z 0 0 S 4 [(0, .inr (.inr (1, 1))), (1, .inl a1), (2, .inl x1), (3, .inl x2)] [] from L8 _ _ _ i5
  clear i5
  intro N4
  induction N4 using Nat.strongRecOn with
  | _ N4 h9 =>
    intro x1 x2 j10
    have hv := b6 N4 x1 x2 j10
    refine wa_iload_n X 3 rfl dX1_offeredBy_4 rfl ?_
    refine wa_aload_n X 0 rfl dX1_offeredBy_5 rfl ?_
    refine wa_getfw X hw (j := 0) (r := 1) hk_1 hc_1 i_1 (by decide) kw_224 rfl rfl (by decide) rfl dX1_offeredBy_6 hs_1ne ?_
    refine wa_lsize X hk_13 kw_476 dX1_offeredBy_9 hs_1ne ⟨⟨Nat.le_of_ble_eq_true rfl, Nat.le_of_ble_eq_true rfl⟩, Nat.le_of_ble_eq_true rfl, Nat.le_of_ble_eq_true rfl⟩ (Nat.le_of_ble_eq_true rfl) ?_
    refine wa_icmp_ge X (tgt := 90) dX1_offeredBy_14 (by decide) (fun c11 => ?_) (fun c11 => ?_)
    · replace hv := hv.1 c11
      refine wa_iload_n X 2 rfl dX1_offeredBy_90 rfl ?_
      exact wa_ireturn X E dX1_offeredBy_91 (Nat.le_of_ble_eq_true rfl) (Nat.le_of_ble_eq_true rfl) (Or.inl rfl) ⟨hw, _, rfl, hv⟩
    · replace hv := hv.2 c11
      refine wa_aload_n X 0 rfl dX1_offeredBy_17 rfl ?_
      refine wa_getfw X hw (j := 0) (r := 1) hk_1 hc_1 i_1 (by decide) kw_224 rfl rfl (by decide) rfl dX1_offeredBy_18 hs_1ne ?_
      refine wa_iload_n X 3 rfl dX1_offeredBy_21 rfl ?_
      obtain ⟨o12, hv⟩ := hv
      refine wa_lget X hk_13 kw_478 dX1_offeredBy_22 hs_1ne ⟨⟨Nat.le_of_ble_eq_true rfl, Nat.le_of_ble_eq_true rfl⟩, Nat.le_of_ble_eq_true rfl, Nat.le_of_ble_eq_true rfl⟩ (Nat.le_of_ble_eq_true rfl) o12 ?_
      obtain ⟨o13, hv⟩ := hv
      refine wa_cast X hk_0 hc_0 kw_479 dX1_offeredBy_27 o13 ?_
      refine wa_astore X (lv' := [(4, .inr (.inr (0, (S.2.1 13 1 x2.toNatClampNeg)))), (0, .inr (.inr (1, 1))), (1, .inl a1), (2, .inl x1), (3, .inl x2)]) dX1_offeredBy_30 (by decide) rfl ?_
      refine wa_aload X 0 rfl dX1_offeredBy_32 ?_
      refine wa_getI X (j := 1) hk_0 hc_0 i_0 (by decide) kw_839 rfl dX1_offeredBy_34 o13 ?_
      refine wa_iload_n X 2 rfl dX1_offeredBy_37 rfl ?_
      refine wa_icmp_ne X (tgt := 84) dX1_offeredBy_38 (by decide) (fun c14 => ?_) (fun c14 => ?_)
      · replace hv := hv.1 c14
        refine wa_iinc X (v := (x2 + 1)) (lv' := [(3, .inl (x2 + 1)), (4, .inr (.inr (0, (S.2.1 13 1 x2.toNatClampNeg)))), (0, .inr (.inr (1, 1))), (1, .inl a1), (2, .inl x1)]) 4 rfl dX1_offeredBy_84 rfl (by decide) rfl ?_
        refine wa_goto X (tgt := 4) dX1_offeredBy_87 (by decide) ?_
        obtain ⟨q15, p16, hv⟩ := hv
        refine wa_lv (lv' := [(0, .inr (.inr (1, 1))), (1, .inl a1), (2, .inl x1), (3, .inl (x2 + 1))]) [2, 3, 4, 0] rfl ?_
        exact h9 q15 p16 _ _ hv
      · replace hv := hv.2 c14
        refine wa_aload X 0 rfl dX1_offeredBy_41 ?_
        refine wa_getI X (j := 3) hk_0 hc_0 i_0 (by decide) kw_847 rfl dX1_offeredBy_43 o13 ?_
        refine wa_if_eq X (tgt := 84) dX1_offeredBy_46 (by decide) (fun c17 => ?_) (fun c17 => ?_)
        · replace hv := hv.1 c17
          refine wa_iinc X (v := (x2 + 1)) (lv' := [(3, .inl (x2 + 1)), (4, .inr (.inr (0, (S.2.1 13 1 x2.toNatClampNeg)))), (0, .inr (.inr (1, 1))), (1, .inl a1), (2, .inl x1)]) 4 rfl dX1_offeredBy_84 rfl (by decide) rfl ?_
          refine wa_goto X (tgt := 4) dX1_offeredBy_87 (by decide) ?_
          obtain ⟨q18, p19, hv⟩ := hv
          refine wa_lv (lv' := [(0, .inr (.inr (1, 1))), (1, .inl a1), (2, .inl x1), (3, .inl (x2 + 1))]) [2, 3, 4, 0] rfl ?_
          exact h9 q18 p19 _ _ hv
        · replace hv := hv.2 c17
          refine wa_aload X 0 rfl dX1_offeredBy_49 ?_
          refine wa_getI X (j := 7) hk_0 hc_0 i_0 (by decide) kw_860 rfl dX1_offeredBy_51 o13 ?_
          refine wa_ldc X kw_821 dX1_offeredBy_54 ?_
          refine wa_icmp_ne X (tgt := 84) dX1_offeredBy_56 (by decide) (fun c20 => ?_) (fun c20 => ?_)
          · replace hv := hv.1 c20
            refine wa_iinc X (v := (x2 + 1)) (lv' := [(3, .inl (x2 + 1)), (4, .inr (.inr (0, (S.2.1 13 1 x2.toNatClampNeg)))), (0, .inr (.inr (1, 1))), (1, .inl a1), (2, .inl x1)]) 4 rfl dX1_offeredBy_84 rfl (by decide) rfl ?_
            refine wa_goto X (tgt := 4) dX1_offeredBy_87 (by decide) ?_
            obtain ⟨q21, p22, hv⟩ := hv
            refine wa_lv (lv' := [(0, .inr (.inr (1, 1))), (1, .inl a1), (2, .inl x1), (3, .inl (x2 + 1))]) [2, 3, 4, 0] rfl ?_
            exact h9 q21 p22 _ _ hv
          · replace hv := hv.2 c20
            refine wa_aload X 0 rfl dX1_offeredBy_59 ?_
            refine wa_getR X (j := 2) hk_0 hc_0 i_0 (by decide) kw_842 rfl dX1_offeredBy_61 o13 ?_
            obtain ⟨o23, hv⟩ := hv
            refine wa_callV X (As := []) (f_Rnd_isCleared o23 hw) hk_8 hc_8 rfl kw_825 kw_29 kw_822 kw_823 kw_824 nd_X8_isCleared rfl rfl (Nat.le_of_ble_eq_true rfl) dX1_offeredBy_64 o23 ⟨⟨Nat.le_of_ble_eq_true rfl, Nat.le_of_ble_eq_true rfl⟩, Nat.le_of_ble_eq_true rfl, Nat.le_of_ble_eq_true rfl⟩ (hs_pdk0 ?_) (fun _ _ h => h.elim)
            refine wa_if_ne X (tgt := 84) dX1_offeredBy_67 (by decide) (fun c24 => ?_) (fun c24 => ?_)
            · replace hv := hv.1 c24
              refine wa_iinc X (v := (x2 + 1)) (lv' := [(3, .inl (x2 + 1)), (4, .inr (.inr (0, (S.2.1 13 1 x2.toNatClampNeg)))), (0, .inr (.inr (1, 1))), (1, .inl a1), (2, .inl x1)]) 4 rfl dX1_offeredBy_84 rfl (by decide) rfl ?_
              refine wa_goto X (tgt := 4) dX1_offeredBy_87 (by decide) ?_
              obtain ⟨q25, p26, hv⟩ := hv
              refine wa_lv (lv' := [(0, .inr (.inr (1, 1))), (1, .inl a1), (2, .inl x1), (3, .inl (x2 + 1))]) [2, 3, 4, 0] rfl ?_
              exact h9 q25 p26 _ _ hv
            · replace hv := hv.2 c24
              refine wa_iload_n X 3 rfl dX1_offeredBy_70 rfl ?_
              refine wa_aload X 0 rfl dX1_offeredBy_71 ?_
              refine wa_getI X (j := 4) hk_0 hc_0 i_0 (by decide) kw_851 rfl dX1_offeredBy_73 o13 ?_
              refine wa_aload X 0 rfl dX1_offeredBy_76 ?_
              refine wa_getI X (j := 5) hk_0 hc_0 i_0 (by decide) kw_856 rfl dX1_offeredBy_78 o13 ?_
              refine wa_imul X dX1_offeredBy_81 ?_
              refine wa_iadd X dX1_offeredBy_82 ?_
              refine wa_istore_n X (lv' := [(2, .inl (x1 + ((S.1 0 (S.2.1 13 1 x2.toNatClampNeg) 4) * (S.1 0 (S.2.1 13 1 x2.toNatClampNeg) 5)))), (4, .inr (.inr (0, (S.2.1 13 1 x2.toNatClampNeg)))), (0, .inr (.inr (1, 1))), (1, .inl a1), (3, .inl x2)]) dX1_offeredBy_83 rfl (by decide) rfl ?_
              refine wa_iinc X (v := (x2 + 1)) (lv' := [(3, .inl (x2 + 1)), (2, .inl (x1 + ((S.1 0 (S.2.1 13 1 x2.toNatClampNeg) 4) * (S.1 0 (S.2.1 13 1 x2.toNatClampNeg) 5)))), (4, .inr (.inr (0, (S.2.1 13 1 x2.toNatClampNeg)))), (0, .inr (.inr (1, 1))), (1, .inl a1)]) 4 rfl dX1_offeredBy_84 rfl (by decide) rfl ?_
              refine wa_goto X (tgt := 4) dX1_offeredBy_87 (by decide) ?_
              obtain ⟨q27, p28, hv⟩ := hv
              refine wa_lv (lv' := [(0, .inr (.inr (1, 1))), (1, .inl a1), (2, .inl (x1 + ((S.1 0 (S.2.1 13 1 x2.toNatClampNeg) 4) * (S.1 0 (S.2.1 13 1 x2.toNatClampNeg) 5)))), (3, .inl (x2 + 1))]) [3, 4, 1, 0] rfl ?_
              exact h9 q27 p28 _ _ hv
theorem v_Book_offeredBy {a1 : Int32} {S : hs_S} (hP : P_Book_offeredBy a1 S) : vc_Book_offeredBy a1 S (fun r S' => r = F_Book_offeredBy a1 S ∧ S' = S) := by
  obtain ⟨g, hg, eg, hb⟩ := hP
  unfold vc_Book_offeredBy F_Book_offeredBy
  rw [eg]
  refine ⟨fun N x1 x2 => ∃ k, k ≤ g ∧ x2 = nI k ∧ x1 = cOf S a1 k ∧ N = g - k, ⟨g, 0, Nat.zero_le _, rfl, rfl, rfl⟩, ?_⟩
  rintro N x1 x2 ⟨k, hk, rfl, rfl, rfl⟩
  refine ⟨fun h => ?_, fun h => ?_⟩
  · have := hl_end (by omega) hk h
    subst this
    exact ⟨rfl, rfl⟩
  · have hk1 := hl_go (by omega) hk h
    rw [hl_cl (by omega)]
    exact ⟨hl_ix (by omega) (by omega), (hb k hk1).1, fun h1 => hl_nx hk1 (if_neg fun z => h1 z.1).symm, fun h1 => ⟨fun h2 => hl_nx hk1 (if_neg fun z => z.2.1 h2).symm, fun h2 => ⟨fun h3 => hl_nx hk1 (if_neg fun z => h3 z.2.2.1).symm, fun h3 => ⟨(hb k hk1).2, fun h4 => hl_nx hk1 (if_neg fun z => h4 z.2.2.2).symm, fun h4 => hl_nx hk1 (if_pos ⟨h1, h2, h3, h4⟩).symm⟩⟩⟩⟩
theorem f_Book_offeredBy {a1 : Int32} {S : hs_S} (hw : hs_Wi S) (hP : P_Book_offeredBy a1 S) : hs_M 5 yX1_offeredBy (.code yX1_offeredBy cX1_offeredBy 5 (some FieldType.int)) [.inr (.inr (1, 1)), .inl a1] S 0 0 (hs_pd (some (.inl (F_Book_offeredBy a1 S))) S) hs_nX := hs_pdI (ok_Book_offeredBy hw (v_Book_offeredBy hP))

