def P_Cq_needOwner (a1 : Int32) (_ : hs_S) : Prop := ∃ o : Nat, o < 6 ∧ a1 = nI o
theorem nq_nn {a : Nat} (h : a < 2147483648) : ¬ nI a < 0 := by
  rw [i32_lt, nI_toInt (by omega)]
  have z0 : (0 : Int32).toInt = 0 := rfl
  omega
theorem nq_lt2 {o N : Nat} (hN : N < 2147483648) (h : o < N) : nI o < nI N := (hl_lt (by omega) hN).mpr h
def m_Cq_needOwner (a1 : Int32) (S : hs_S) (Q : hs_S → Prop) : Prop := hs_M 2 yX10_needOwner (.code yX10_needOwner cX10_needOwner 1 none) [.inl a1] S 0 0 (hs_qV Q) hs_nX
def vc_Cq_needOwner (a1 : Int32) (S : hs_S) (Q : hs_S → Prop) : Prop := ((a1 < 0 → False) ∧ (¬ a1 < 0 → ((a1 < (6 : Int32) → (Q S)) ∧ (¬ a1 < (6 : Int32) → False))))
set_option maxRecDepth 100000 in
set_option maxHeartbeats 4000000 in
theorem ok_Cq_needOwner {a1 : Int32} {S : hs_S} {Q : hs_S → Prop} (hw : hs_Wi S) (hv : vc_Cq_needOwner a1 S Q) : m_Cq_needOwner a1 S Q := by
  unfold vc_Cq_needOwner at hv
  refine hs_body (own := RX10) rfl rfl (Nat.le_of_ble_eq_true rfl) (fun Z X E N J0 => ?_)
  show wa Z 0 0 S 0 [(0, .inl a1)] []
  refine wa_iload_n X 0 rfl dX10_needOwner_0 rfl ?_
  refine wa_if_lt X (tgt := 10) dX10_needOwner_1 (by decide) (fun c1 => ?_) (fun c1 => ?_)
  · replace hv := hv.1 c1
    exact hv.elim
  · replace hv := hv.2 c1
    refine wa_iload_n X 0 rfl dX10_needOwner_4 rfl ?_
    refine wa_bipush X dX10_needOwner_5 kb6 ?_
    refine wa_icmp_lt X (tgt := 21) dX10_needOwner_7 (by decide) (fun c2 => ?_) (fun c2 => ?_)
    · replace hv := hv.1 c2
      exact wa_return X E dX10_needOwner_21 (Nat.le_of_ble_eq_true rfl) (Nat.le_of_ble_eq_true rfl) ⟨hw, rfl, hv⟩
    · replace hv := hv.2 c2
      exact hv.elim
theorem v_Cq_needOwner {a1 : Int32} {S : hs_S} (hP : P_Cq_needOwner a1 S) : vc_Cq_needOwner a1 S (fun S' => S' = S) := by
  obtain ⟨o, ho, rfl⟩ := hP
  exact ⟨fun h => absurd h (nq_nn (by omega)), fun _ => ⟨fun _ => rfl, fun h => absurd (nq_lt2 (N := 6) (by omega) ho) h⟩⟩
theorem f_Cq_needOwner {a1 : Int32} {S : hs_S} (hw : hs_Wi S) (hP : P_Cq_needOwner a1 S) : hs_M 2 yX10_needOwner (.code yX10_needOwner cX10_needOwner 1 none) [.inl a1] S 0 0 (hs_pd (none) S) hs_nX := hs_pdV (ok_Cq_needOwner hw (v_Cq_needOwner hP))

def P_Cq_needColumn (a1 : Int32) (_ : hs_S) : Prop := ∃ o : Nat, o < 4 ∧ a1 = nI o
def m_Cq_needColumn (a1 : Int32) (S : hs_S) (Q : hs_S → Prop) : Prop := hs_M 2 yX10_needColumn (.code yX10_needColumn cX10_needColumn 1 none) [.inl a1] S 0 0 (hs_qV Q) hs_nX
def vc_Cq_needColumn (a1 : Int32) (S : hs_S) (Q : hs_S → Prop) : Prop := ((a1 < 0 → False) ∧ (¬ a1 < 0 → ((a1 < (4 : Int32) → (Q S)) ∧ (¬ a1 < (4 : Int32) → False))))
set_option maxRecDepth 100000 in
set_option maxHeartbeats 4000000 in
theorem ok_Cq_needColumn {a1 : Int32} {S : hs_S} {Q : hs_S → Prop} (hw : hs_Wi S) (hv : vc_Cq_needColumn a1 S Q) : m_Cq_needColumn a1 S Q := by
  unfold vc_Cq_needColumn at hv
  refine hs_body (own := RX10) rfl rfl (Nat.le_of_ble_eq_true rfl) (fun Z X E N J0 => ?_)
  show wa Z 0 0 S 0 [(0, .inl a1)] []
  refine wa_iload_n X 0 rfl dX10_needColumn_0 rfl ?_
  refine wa_if_lt X (tgt := 9) dX10_needColumn_1 (by decide) (fun c1 => ?_) (fun c1 => ?_)
  · replace hv := hv.1 c1
    exact hv.elim
  · replace hv := hv.2 c1
    refine wa_iload_n X 0 rfl dX10_needColumn_4 rfl ?_
    refine wa_iconst X dX10_needColumn_5 kc4 ?_
    refine wa_icmp_lt X (tgt := 19) dX10_needColumn_6 (by decide) (fun c2 => ?_) (fun c2 => ?_)
    · replace hv := hv.1 c2
      exact wa_return X E dX10_needColumn_19 (Nat.le_of_ble_eq_true rfl) (Nat.le_of_ble_eq_true rfl) ⟨hw, rfl, hv⟩
    · replace hv := hv.2 c2
      exact hv.elim
theorem v_Cq_needColumn {a1 : Int32} {S : hs_S} (hP : P_Cq_needColumn a1 S) : vc_Cq_needColumn a1 S (fun S' => S' = S) := by
  obtain ⟨o, ho, rfl⟩ := hP
  exact ⟨fun h => absurd h (nq_nn (by omega)), fun _ => ⟨fun _ => rfl, fun h => absurd (nq_lt2 (N := 4) (by omega) ho) h⟩⟩
theorem f_Cq_needColumn {a1 : Int32} {S : hs_S} (hw : hs_Wi S) (hP : P_Cq_needColumn a1 S) : hs_M 2 yX10_needColumn (.code yX10_needColumn cX10_needColumn 1 none) [.inl a1] S 0 0 (hs_pd (none) S) hs_nX := hs_pdV (ok_Cq_needColumn hw (v_Cq_needColumn hP))

def F_Cq_cellAt (a1 a2 : Int32) : Int32 := a1 * 6 + a2
def P_Cq_cellAt (a1 a2 : Int32) (_ : hs_S) : Prop := (∃ c : Nat, c < 4 ∧ a1 = nI c) ∧ ∃ r : Nat, r < 6 ∧ a2 = nI r
theorem nq_61 {a b : Nat} : nI a * 6 + nI b = nI (6 * a + b) := by
  rw [Int32.mul_comm, show (6 : Int32) * nI a = nI (6 * a) from pk_mul 6 a, nI_add]
theorem cellq {a1 a2 : Int32} {S : hs_S} (h : P_Cq_cellAt a1 a2 S) : ∃ k : Nat, k < 24 ∧ F_Cq_cellAt a1 a2 = nI k := by
  obtain ⟨⟨c, hc, rfl⟩, r, hr, rfl⟩ := h
  exact ⟨6 * c + r, by omega, nq_61⟩
theorem cellq_ix {a1 a2 : Int32} {S : hs_S} (h : P_Cq_cellAt a1 a2 S) : 0 ≤ (F_Cq_cellAt a1 a2).toInt ∧ (F_Cq_cellAt a1 a2).toInt < 24 := by
  obtain ⟨k, hk, e⟩ := cellq h
  rw [e]; exact hl_ix (by omega) (by omega)
def m_Cq_cellAt (a1 : Int32) (a2 : Int32) (S : hs_S) (Q : Int32 → hs_S → Prop) : Prop := hs_M 3 yX10_cellAt (.code yX10_cellAt cX10_cellAt 2 (some FieldType.int)) [.inl a1, .inl a2] S 0 0 (hs_qI Q) hs_nX
def vc_Cq_cellAt (a1 : Int32) (a2 : Int32) (S : hs_S) (Q : Int32 → hs_S → Prop) : Prop := ((P_Cq_needColumn a1 S) ∧ ((a2 < 0 → False) ∧ (¬ a2 < 0 → ((a2 < (6 : Int32) → (Q ((a1 * (6 : Int32)) + a2) S)) ∧ (¬ a2 < (6 : Int32) → False)))))
set_option maxRecDepth 100000 in
set_option maxHeartbeats 4000000 in
theorem ok_Cq_cellAt {a1 : Int32} {a2 : Int32} {S : hs_S} {Q : Int32 → hs_S → Prop} (hw : hs_Wi S) (hv : vc_Cq_cellAt a1 a2 S Q) : m_Cq_cellAt a1 a2 S Q := by
  unfold vc_Cq_cellAt at hv
  refine hs_body (own := RX10) rfl rfl (Nat.le_of_ble_eq_true rfl) (fun Z X E N J0 => ?_)
  show wa Z 0 0 S 0 [(0, .inl a1), (1, .inl a2)] []
  refine wa_iload_n X 0 rfl dX10_cellAt_0 rfl ?_
  obtain ⟨o1, hv⟩ := hv
  refine wa_callS X (As := [.inl a1]) (f_Cq_needColumn hw o1) kw_355 kw_21 kw_353 kw_354 nd_X10_needColumn rfl rfl (Nat.le_of_ble_eq_true rfl) dX10_cellAt_1 ⟨⟨Nat.le_of_ble_eq_true rfl, Nat.le_of_ble_eq_true rfl⟩, Nat.le_of_ble_eq_true rfl, Nat.le_of_ble_eq_true rfl⟩ (hs_pdk0 ?_) (fun _ _ h => h.elim)
  refine wa_iload_n X 1 rfl dX10_cellAt_4 rfl ?_
  refine wa_if_lt X (tgt := 14) dX10_cellAt_5 (by decide) (fun c2 => ?_) (fun c2 => ?_)
  · replace hv := hv.1 c2
    exact hv.elim
  · replace hv := hv.2 c2
    refine wa_iload_n X 1 rfl dX10_cellAt_8 rfl ?_
    refine wa_bipush X dX10_cellAt_9 kb6 ?_
    refine wa_icmp_lt X (tgt := 24) dX10_cellAt_11 (by decide) (fun c3 => ?_) (fun c3 => ?_)
    · replace hv := hv.1 c3
      refine wa_iload_n X 0 rfl dX10_cellAt_24 rfl ?_
      refine wa_bipush X dX10_cellAt_25 kb6 ?_
      refine wa_imul X dX10_cellAt_27 ?_
      refine wa_iload_n X 1 rfl dX10_cellAt_28 rfl ?_
      refine wa_iadd X dX10_cellAt_29 ?_
      exact wa_ireturn X E dX10_cellAt_30 (Nat.le_of_ble_eq_true rfl) (Nat.le_of_ble_eq_true rfl) (Or.inl rfl) ⟨hw, _, rfl, hv⟩
    · replace hv := hv.2 c3
      exact hv.elim
theorem v_Cq_cellAt {a1 a2 : Int32} {S : hs_S} (hP : P_Cq_cellAt a1 a2 S) : vc_Cq_cellAt a1 a2 S (fun r S' => r = F_Cq_cellAt a1 a2 ∧ S' = S) := by
  obtain ⟨h1, r, hr, rfl⟩ := hP
  exact ⟨h1, fun h => absurd h (nq_nn (by omega)), fun _ => ⟨fun _ => ⟨rfl, rfl⟩, fun h => absurd (nq_lt2 (N := 6) (by omega) hr) h⟩⟩
theorem f_Cq_cellAt {a1 : Int32} {a2 : Int32} {S : hs_S} (hw : hs_Wi S) (hP : P_Cq_cellAt a1 a2 S) : hs_M 3 yX10_cellAt (.code yX10_cellAt cX10_cellAt 2 (some FieldType.int)) [.inl a1, .inl a2] S 0 0 (hs_pd (some (.inl (F_Cq_cellAt a1 a2))) S) hs_nX := hs_pdI (ok_Cq_cellAt hw (v_Cq_cellAt hP))

def P_Cq_needReader (a1 a2 : Int32) (S : hs_S) : Prop := (0 ≤ a2.toInt ∧ a2.toInt < 24) ∧ ¬ F_Rts_canRead 1 a1 a2 S = 0
def m_Cq_needReader (a1 : Int32) (a2 : Int32) (S : hs_S) (Q : hs_S → Prop) : Prop := hs_M 2 yX10_needReader (.code yX10_needReader cX10_needReader 3 none) [.inr (.inr (10, 1)), .inl a1, .inl a2] S 0 0 (hs_qV Q) hs_nX
def vc_Cq_needReader (a1 : Int32) (a2 : Int32) (S : hs_S) (Q : hs_S → Prop) : Prop := ((P_Rts_canRead 1 a1 a2 S) ∧ ((¬ (F_Rts_canRead 1 a1 a2 S) = 0 → (Q S)) ∧ ((F_Rts_canRead 1 a1 a2 S) = 0 → False)))
set_option maxRecDepth 100000 in
set_option maxHeartbeats 4000000 in
theorem ok_Cq_needReader {a1 : Int32} {a2 : Int32} {S : hs_S} {Q : hs_S → Prop} (hw : hs_Wi S) (hv : vc_Cq_needReader a1 a2 S Q) : m_Cq_needReader a1 a2 S Q := by
  unfold vc_Cq_needReader at hv
  refine hs_body (own := RX10) rfl rfl (Nat.le_of_ble_eq_true rfl) (fun Z X E N J0 => ?_)
  show wa Z 0 0 S 0 [(0, .inr (.inr (10, 1))), (1, .inl a1), (2, .inl a2)] []
  refine wa_aload_n X 0 rfl dX10_needReader_0 rfl ?_
  refine wa_getfw X hw (j := 0) (r := 1) hk_10 hc_10 i_10 (by decide) kw_327 rfl rfl (by decide) rfl dX10_needReader_1 hs_1ne ?_
  refine wa_getfw X hw (j := 0) (r := 1) hk_9 hc_9 i_9 (by decide) kw_134 rfl rfl (by decide) rfl dX10_needReader_4 hs_1ne ?_
  refine wa_iload_n X 1 rfl dX10_needReader_7 rfl ?_
  refine wa_iload_n X 2 rfl dX10_needReader_8 rfl ?_
  obtain ⟨o1, hv⟩ := hv
  refine wa_callV X (As := [.inl a1, .inl a2]) (f_Rts_canRead hs_1ne hw o1) hk_7 hc_7 rfl kw_732 kw_23 kw_729 kw_730 kw_731 nd_X7_canRead rfl rfl (Nat.le_of_ble_eq_true rfl) dX10_needReader_9 hs_1ne ⟨⟨Nat.le_of_ble_eq_true rfl, Nat.le_of_ble_eq_true rfl⟩, Nat.le_of_ble_eq_true rfl, Nat.le_of_ble_eq_true rfl⟩ (hs_pdk0 ?_) (fun _ _ h => h.elim)
  refine wa_if_ne X (tgt := 26) dX10_needReader_12 (by decide) (fun c2 => ?_) (fun c2 => ?_)
  · replace hv := hv.1 c2
    exact wa_return X E dX10_needReader_26 (Nat.le_of_ble_eq_true rfl) (Nat.le_of_ble_eq_true rfl) ⟨hw, rfl, hv⟩
  · replace hv := hv.2 c2
    exact hv.elim
theorem v_Cq_needReader {a1 a2 : Int32} {S : hs_S} (hP : P_Cq_needReader a1 a2 S) : vc_Cq_needReader a1 a2 S (fun S' => S' = S) := by
  obtain ⟨h1, h2⟩ := hP
  exact ⟨h1, fun _ => rfl, fun h => absurd h h2⟩
theorem f_Cq_needReader {a1 : Int32} {a2 : Int32} {S : hs_S} (hw : hs_Wi S) (hP : P_Cq_needReader a1 a2 S) : hs_M 2 yX10_needReader (.code yX10_needReader cX10_needReader 3 none) [.inr (.inr (10, 1)), .inl a1, .inl a2] S 0 0 (hs_pd (none) S) hs_nX := hs_pdV (ok_Cq_needReader hw (v_Cq_needReader hP))

def F_Cq_bidNumbered (a1 : Int32) (S : hs_S) : Nat := S.2.1 13 1 a1.toNatClampNeg
def P_Cq_bidNumbered (a1 : Int32) (S : hs_S) : Prop := hs_sz S 13 ≤ 80 ∧ ∃ b : Nat, b < hs_sz S 13 ∧ a1 = nI b ∧ S.2.1 13 1 b ≠ 0
def m_Cq_bidNumbered (a1 : Int32) (S : hs_S) (Q : Nat → hs_S → Prop) : Prop := hs_M 5 yX10_bidNumbered (.code yX10_bidNumbered cX10_bidNumbered 2 (some (FieldType.object "Cellmarket$Bid"))) [.inr (.inr (10, 1)), .inl a1] S 0 0 (hs_qR 0 Q) hs_nX
def vc_Cq_bidNumbered (a1 : Int32) (S : hs_S) (Q : Nat → hs_S → Prop) : Prop := ((a1 < 0 → False) ∧ (¬ a1 < 0 → ((a1 < (nI (hs_sz S 13)) → ((0 ≤ a1.toInt ∧ a1.toInt < (hs_sz S 13)) ∧ (((S.2.1 13 1 a1.toNatClampNeg) ≠ 0) ∧ (Q (S.2.1 13 1 a1.toNatClampNeg) S)))) ∧ (¬ a1 < (nI (hs_sz S 13)) → False))))
set_option maxRecDepth 100000 in
set_option maxHeartbeats 4000000 in
theorem ok_Cq_bidNumbered {a1 : Int32} {S : hs_S} {Q : Nat → hs_S → Prop} (hw : hs_Wi S) (hv : vc_Cq_bidNumbered a1 S Q) : m_Cq_bidNumbered a1 S Q := by
  unfold vc_Cq_bidNumbered at hv
  refine hs_body (own := RX10) rfl rfl (Nat.le_of_ble_eq_true rfl) (fun Z X E N J0 => ?_)
  show wa Z 0 0 S 0 [(0, .inr (.inr (10, 1))), (1, .inl a1)] []
  refine wa_iload_n X 1 rfl dX10_bidNumbered_0 rfl ?_
  refine wa_if_lt X (tgt := 20) dX10_bidNumbered_1 (by decide) (fun c1 => ?_) (fun c1 => ?_)
  · replace hv := hv.1 c1
    exact hv.elim
  · replace hv := hv.2 c1
    refine wa_iload_n X 1 rfl dX10_bidNumbered_4 rfl ?_
    refine wa_aload_n X 0 rfl dX10_bidNumbered_5 rfl ?_
    refine wa_getfw X hw (j := 1) (r := 1) hk_10 hc_10 i_10 (by decide) kw_328 rfl rfl (by decide) rfl dX10_bidNumbered_6 hs_1ne ?_
    refine wa_getfw X hw (j := 0) (r := 1) hk_1 hc_1 i_1 (by decide) kw_227 rfl rfl (by decide) rfl dX10_bidNumbered_9 hs_1ne ?_
    refine wa_lsize X hk_13 kw_599 dX10_bidNumbered_12 hs_1ne ⟨⟨Nat.le_of_ble_eq_true rfl, Nat.le_of_ble_eq_true rfl⟩, Nat.le_of_ble_eq_true rfl, Nat.le_of_ble_eq_true rfl⟩ (Nat.le_of_ble_eq_true rfl) ?_
    refine wa_icmp_lt X (tgt := 31) dX10_bidNumbered_17 (by decide) (fun c2 => ?_) (fun c2 => ?_)
    · replace hv := hv.1 c2
      refine wa_aload_n X 0 rfl dX10_bidNumbered_31 rfl ?_
      refine wa_getfw X hw (j := 1) (r := 1) hk_10 hc_10 i_10 (by decide) kw_328 rfl rfl (by decide) rfl dX10_bidNumbered_32 hs_1ne ?_
      refine wa_getfw X hw (j := 0) (r := 1) hk_1 hc_1 i_1 (by decide) kw_227 rfl rfl (by decide) rfl dX10_bidNumbered_35 hs_1ne ?_
      refine wa_iload_n X 1 rfl dX10_bidNumbered_38 rfl ?_
      obtain ⟨o3, hv⟩ := hv
      refine wa_lget X hk_13 kw_900 dX10_bidNumbered_39 hs_1ne ⟨⟨Nat.le_of_ble_eq_true rfl, Nat.le_of_ble_eq_true rfl⟩, Nat.le_of_ble_eq_true rfl, Nat.le_of_ble_eq_true rfl⟩ (Nat.le_of_ble_eq_true rfl) o3 ?_
      obtain ⟨o4, hv⟩ := hv
      refine wa_cast X hk_0 hc_0 kw_829 dX10_bidNumbered_44 o4 ?_
      exact wa_areturn X E dX10_bidNumbered_47 (Nat.le_of_ble_eq_true rfl) (Nat.le_of_ble_eq_true rfl) ⟨hw, _, rfl, hv⟩
    · replace hv := hv.2 c2
      exact hv.elim
theorem v_Cq_bidNumbered {a1 : Int32} {S : hs_S} (hP : P_Cq_bidNumbered a1 S) : vc_Cq_bidNumbered a1 S (fun r S' => r = F_Cq_bidNumbered a1 S ∧ S' = S) := by
  obtain ⟨hz, b, hb, rfl, h0⟩ := hP
  unfold vc_Cq_bidNumbered F_Cq_bidNumbered
  rw [hl_cl (by omega)]
  exact ⟨fun h => absurd h (nq_nn (by omega)), fun _ => ⟨fun _ => ⟨hl_ix (by omega) (by omega), h0, rfl, rfl⟩, fun h => absurd (nq_lt2 (by omega) hb) h⟩⟩
theorem f_Cq_bidNumbered {a1 : Int32} {S : hs_S} (hw : hs_Wi S) (hP : P_Cq_bidNumbered a1 S) : hs_M 5 yX10_bidNumbered (.code yX10_bidNumbered cX10_bidNumbered 2 (some (FieldType.object "Cellmarket$Bid"))) [.inr (.inr (10, 1)), .inl a1] S 0 0 (hs_pd (some (.inr (.inr (0, (F_Cq_bidNumbered a1 S))))) S) hs_nX := hs_pdR (ok_Cq_bidNumbered hw (v_Cq_bidNumbered hP))

def F_Cq_roundNumbered (a1 : Int32) (S : hs_S) : Nat := S.2.1 14 1 a1.toNatClampNeg
def P_Cq_roundNumbered (a1 : Int32) (S : hs_S) : Prop := hs_sz S 14 ≤ 30 ∧ ∃ b : Nat, b < hs_sz S 14 ∧ a1 = nI b ∧ S.2.1 14 1 b ≠ 0
def m_Cq_roundNumbered (a1 : Int32) (S : hs_S) (Q : Nat → hs_S → Prop) : Prop := hs_M 5 yX10_roundNumbered (.code yX10_roundNumbered cX10_roundNumbered 2 (some (FieldType.object "Cellmarket$Round"))) [.inr (.inr (10, 1)), .inl a1] S 0 0 (hs_qR 8 Q) hs_nX
def vc_Cq_roundNumbered (a1 : Int32) (S : hs_S) (Q : Nat → hs_S → Prop) : Prop := ((a1 < 0 → False) ∧ (¬ a1 < 0 → ((a1 < (nI (hs_sz S 14)) → ((0 ≤ a1.toInt ∧ a1.toInt < (hs_sz S 14)) ∧ (((S.2.1 14 1 a1.toNatClampNeg) ≠ 0) ∧ (Q (S.2.1 14 1 a1.toNatClampNeg) S)))) ∧ (¬ a1 < (nI (hs_sz S 14)) → False))))
set_option maxRecDepth 100000 in
set_option maxHeartbeats 4000000 in
theorem ok_Cq_roundNumbered {a1 : Int32} {S : hs_S} {Q : Nat → hs_S → Prop} (hw : hs_Wi S) (hv : vc_Cq_roundNumbered a1 S Q) : m_Cq_roundNumbered a1 S Q := by
  unfold vc_Cq_roundNumbered at hv
  refine hs_body (own := RX10) rfl rfl (Nat.le_of_ble_eq_true rfl) (fun Z X E N J0 => ?_)
  show wa Z 0 0 S 0 [(0, .inr (.inr (10, 1))), (1, .inl a1)] []
  refine wa_iload_n X 1 rfl dX10_roundNumbered_0 rfl ?_
  refine wa_if_lt X (tgt := 20) dX10_roundNumbered_1 (by decide) (fun c1 => ?_) (fun c1 => ?_)
  · replace hv := hv.1 c1
    exact hv.elim
  · replace hv := hv.2 c1
    refine wa_iload_n X 1 rfl dX10_roundNumbered_4 rfl ?_
    refine wa_aload_n X 0 rfl dX10_roundNumbered_5 rfl ?_
    refine wa_getfw X hw (j := 1) (r := 1) hk_10 hc_10 i_10 (by decide) kw_328 rfl rfl (by decide) rfl dX10_roundNumbered_6 hs_1ne ?_
    refine wa_getfw X hw (j := 2) (r := 1) hk_1 hc_1 i_1 (by decide) kw_233 rfl rfl (by decide) rfl dX10_roundNumbered_9 hs_1ne ?_
    refine wa_lsize X hk_14 kw_599 dX10_roundNumbered_12 hs_1ne ⟨⟨Nat.le_of_ble_eq_true rfl, Nat.le_of_ble_eq_true rfl⟩, Nat.le_of_ble_eq_true rfl, Nat.le_of_ble_eq_true rfl⟩ (Nat.le_of_ble_eq_true rfl) ?_
    refine wa_icmp_lt X (tgt := 31) dX10_roundNumbered_17 (by decide) (fun c2 => ?_) (fun c2 => ?_)
    · replace hv := hv.1 c2
      refine wa_aload_n X 0 rfl dX10_roundNumbered_31 rfl ?_
      refine wa_getfw X hw (j := 1) (r := 1) hk_10 hc_10 i_10 (by decide) kw_328 rfl rfl (by decide) rfl dX10_roundNumbered_32 hs_1ne ?_
      refine wa_getfw X hw (j := 2) (r := 1) hk_1 hc_1 i_1 (by decide) kw_233 rfl rfl (by decide) rfl dX10_roundNumbered_35 hs_1ne ?_
      refine wa_iload_n X 1 rfl dX10_roundNumbered_38 rfl ?_
      obtain ⟨o3, hv⟩ := hv
      refine wa_lget X hk_14 kw_900 dX10_roundNumbered_39 hs_1ne ⟨⟨Nat.le_of_ble_eq_true rfl, Nat.le_of_ble_eq_true rfl⟩, Nat.le_of_ble_eq_true rfl, Nat.le_of_ble_eq_true rfl⟩ (Nat.le_of_ble_eq_true rfl) o3 ?_
      obtain ⟨o4, hv⟩ := hv
      refine wa_cast X hk_8 hc_8 kw_993 dX10_roundNumbered_44 o4 ?_
      exact wa_areturn X E dX10_roundNumbered_47 (Nat.le_of_ble_eq_true rfl) (Nat.le_of_ble_eq_true rfl) ⟨hw, _, rfl, hv⟩
    · replace hv := hv.2 c2
      exact hv.elim
theorem v_Cq_roundNumbered {a1 : Int32} {S : hs_S} (hP : P_Cq_roundNumbered a1 S) : vc_Cq_roundNumbered a1 S (fun r S' => r = F_Cq_roundNumbered a1 S ∧ S' = S) := by
  obtain ⟨hz, b, hb, rfl, h0⟩ := hP
  unfold vc_Cq_roundNumbered F_Cq_roundNumbered
  rw [hl_cl (by omega)]
  exact ⟨fun h => absurd h (nq_nn (by omega)), fun _ => ⟨fun _ => ⟨hl_ix (by omega) (by omega), h0, rfl, rfl⟩, fun h => absurd (nq_lt2 (by omega) hb) h⟩⟩
theorem f_Cq_roundNumbered {a1 : Int32} {S : hs_S} (hw : hs_Wi S) (hP : P_Cq_roundNumbered a1 S) : hs_M 5 yX10_roundNumbered (.code yX10_roundNumbered cX10_roundNumbered 2 (some (FieldType.object "Cellmarket$Round"))) [.inr (.inr (10, 1)), .inl a1] S 0 0 (hs_pd (some (.inr (.inr (8, (F_Cq_roundNumbered a1 S))))) S) hs_nX := hs_pdR (ok_Cq_roundNumbered hw (v_Cq_roundNumbered hP))

def F_Cq_cash (a1 : Int32) (S : hs_S) : Int32 := S.1 36 1 a1.toNatClampNeg
def P_Cq_cash (a1 : Int32) (S : hs_S) : Prop := P_Cq_needOwner a1 S
theorem own_ix {a1 : Int32} {S : hs_S} (h : P_Cq_needOwner a1 S) : 0 ≤ a1.toInt ∧ a1.toInt < 6 := by
  obtain ⟨o, ho, rfl⟩ := h
  exact hl_ix (by omega) (by omega)
theorem col_ix {a1 : Int32} {S : hs_S} (h : P_Cq_needColumn a1 S) : 0 ≤ a1.toInt ∧ a1.toInt < 4 := by
  obtain ⟨o, ho, rfl⟩ := h
  exact hl_ix (by omega) (by omega)
def m_Cq_cash (a1 : Int32) (S : hs_S) (Q : Int32 → hs_S → Prop) : Prop := hs_M 3 yX10_cash (.code yX10_cash cX10_cash 2 (some FieldType.int)) [.inr (.inr (10, 1)), .inl a1] S 0 0 (hs_qI Q) hs_nX
def vc_Cq_cash (a1 : Int32) (S : hs_S) (Q : Int32 → hs_S → Prop) : Prop := ((P_Cq_needOwner a1 S) ∧ ((0 ≤ a1.toInt ∧ a1.toInt < 6) ∧ (Q (S.1 36 1 a1.toNatClampNeg) S)))
set_option maxRecDepth 100000 in
set_option maxHeartbeats 4000000 in
theorem ok_Cq_cash {a1 : Int32} {S : hs_S} {Q : Int32 → hs_S → Prop} (hw : hs_Wi S) (hv : vc_Cq_cash a1 S Q) : m_Cq_cash a1 S Q := by
  unfold vc_Cq_cash at hv
  refine hs_body (own := RX10) rfl rfl (Nat.le_of_ble_eq_true rfl) (fun Z X E N J0 => ?_)
  show wa Z 0 0 S 0 [(0, .inr (.inr (10, 1))), (1, .inl a1)] []
  refine wa_iload_n X 1 rfl dX10_cash_0 rfl ?_
  obtain ⟨o1, hv⟩ := hv
  refine wa_callS X (As := [.inl a1]) (f_Cq_needOwner hw o1) kw_465 kw_21 kw_463 kw_464 nd_X10_needOwner rfl rfl (Nat.le_of_ble_eq_true rfl) dX10_cash_1 ⟨⟨Nat.le_of_ble_eq_true rfl, Nat.le_of_ble_eq_true rfl⟩, Nat.le_of_ble_eq_true rfl, Nat.le_of_ble_eq_true rfl⟩ (hs_pdk0 ?_) (fun _ _ h => h.elim)
  refine wa_aload_n X 0 rfl dX10_cash_4 rfl ?_
  refine wa_getfw X hw (j := 4) (r := 1) hk_10 hc_10 i_10 (by decide) kw_331 rfl rfl (by decide) rfl dX10_cash_5 hs_1ne ?_
  refine wa_getfw X hw (j := 2) (r := 1) hk_6 hc_6 i_6 (by decide) kw_309 rfl rfl (by decide) rfl dX10_cash_8 hs_1ne ?_
  refine wa_iload_n X 1 rfl dX10_cash_11 rfl ?_
  obtain ⟨o2, hv⟩ := hv
  refine wa_iald X hk_36 dX10_cash_12 hs_1ne o2 ?_
  exact wa_ireturn X E dX10_cash_13 (Nat.le_of_ble_eq_true rfl) (Nat.le_of_ble_eq_true rfl) (Or.inl rfl) ⟨hw, _, rfl, hv⟩
theorem v_Cq_cash {a1 : Int32} {S : hs_S} (hP : P_Cq_cash a1 S) : vc_Cq_cash a1 S (fun r S' => r = F_Cq_cash a1 S ∧ S' = S) := ⟨hP, own_ix hP, rfl, rfl⟩
theorem f_Cq_cash {a1 : Int32} {S : hs_S} (hw : hs_Wi S) (hP : P_Cq_cash a1 S) : hs_M 3 yX10_cash (.code yX10_cash cX10_cash 2 (some FieldType.int)) [.inr (.inr (10, 1)), .inl a1] S 0 0 (hs_pd (some (.inl (F_Cq_cash a1 S))) S) hs_nX := hs_pdI (ok_Cq_cash hw (v_Cq_cash hP))

def P_Cq_exposure (a1 : Int32) (S : hs_S) : Prop := P_Cq_needOwner a1 S ∧ P_Ldg_exposureOf a1 S
def m_Cq_exposure (a1 : Int32) (S : hs_S) (Q : Int32 → hs_S → Prop) : Prop := hs_M 8 yX10_exposure (.code yX10_exposure cX10_exposure 2 (some FieldType.int)) [.inr (.inr (10, 1)), .inl a1] S 0 0 (hs_qI Q) hs_nX
def vc_Cq_exposure (a1 : Int32) (S : hs_S) (Q : Int32 → hs_S → Prop) : Prop := ((P_Cq_needOwner a1 S) ∧ ((P_Ldg_exposureOf a1 S) ∧ (Q (F_Ldg_exposureOf a1 S) S)))
set_option maxRecDepth 100000 in
set_option maxHeartbeats 4000000 in
theorem ok_Cq_exposure {a1 : Int32} {S : hs_S} {Q : Int32 → hs_S → Prop} (hw : hs_Wi S) (hv : vc_Cq_exposure a1 S Q) : m_Cq_exposure a1 S Q := by
  unfold vc_Cq_exposure at hv
  refine hs_body (own := RX10) rfl rfl (Nat.le_of_ble_eq_true rfl) (fun Z X E N J0 => ?_)
  show wa Z 0 0 S 0 [(0, .inr (.inr (10, 1))), (1, .inl a1)] []
  refine wa_iload_n X 1 rfl dX10_exposure_0 rfl ?_
  obtain ⟨o1, hv⟩ := hv
  refine wa_callS X (As := [.inl a1]) (f_Cq_needOwner hw o1) kw_465 kw_21 kw_463 kw_464 nd_X10_needOwner rfl rfl (Nat.le_of_ble_eq_true rfl) dX10_exposure_1 ⟨⟨Nat.le_of_ble_eq_true rfl, Nat.le_of_ble_eq_true rfl⟩, Nat.le_of_ble_eq_true rfl, Nat.le_of_ble_eq_true rfl⟩ (hs_pdk0 ?_) (fun _ _ h => h.elim)
  refine wa_aload_n X 0 rfl dX10_exposure_4 rfl ?_
  refine wa_getfw X hw (j := 4) (r := 1) hk_10 hc_10 i_10 (by decide) kw_331 rfl rfl (by decide) rfl dX10_exposure_5 hs_1ne ?_
  refine wa_iload_n X 1 rfl dX10_exposure_8 rfl ?_
  obtain ⟨o2, hv⟩ := hv
  refine wa_callV X (As := [.inl a1]) (f_Ldg_exposureOf hw o2) hk_6 hc_6 rfl kw_816 kw_32 kw_813 kw_814 kw_815 nd_X6_exposureOf rfl rfl (Nat.le_of_ble_eq_true rfl) dX10_exposure_9 hs_1ne ⟨⟨Nat.le_of_ble_eq_true rfl, Nat.le_of_ble_eq_true rfl⟩, Nat.le_of_ble_eq_true rfl, Nat.le_of_ble_eq_true rfl⟩ (hs_pdk0 ?_) (fun _ _ h => h.elim)
  exact wa_ireturn X E dX10_exposure_12 (Nat.le_of_ble_eq_true rfl) (Nat.le_of_ble_eq_true rfl) (Or.inl rfl) ⟨hw, _, rfl, hv⟩
theorem v_Cq_exposure {a1 : Int32} {S : hs_S} (hP : P_Cq_exposure a1 S) : vc_Cq_exposure a1 S (fun r S' => r = F_Ldg_exposureOf a1 S ∧ S' = S) := ⟨hP.1, hP.2, rfl, rfl⟩
theorem f_Cq_exposure {a1 : Int32} {S : hs_S} (hw : hs_Wi S) (hP : P_Cq_exposure a1 S) : hs_M 8 yX10_exposure (.code yX10_exposure cX10_exposure 2 (some FieldType.int)) [.inr (.inr (10, 1)), .inl a1] S 0 0 (hs_pd (some (.inl (F_Ldg_exposureOf a1 S))) S) hs_nX := hs_pdI (ok_Cq_exposure hw (v_Cq_exposure hP))

def P_Cq_due (a1 a2 : Int32) (S : hs_S) : Prop := P_Cq_needOwner a1 S ∧ P_Cq_needColumn a2 S ∧ P_Ldg_dueOf a1 a2 S
def m_Cq_due (a1 : Int32) (a2 : Int32) (S : hs_S) (Q : Int32 → hs_S → Prop) : Prop := hs_M 7 yX10_due (.code yX10_due cX10_due 3 (some FieldType.int)) [.inr (.inr (10, 1)), .inl a1, .inl a2] S 0 0 (hs_qI Q) hs_nX
def vc_Cq_due (a1 : Int32) (a2 : Int32) (S : hs_S) (Q : Int32 → hs_S → Prop) : Prop := ((P_Cq_needOwner a1 S) ∧ ((P_Cq_needColumn a2 S) ∧ ((P_Ldg_dueOf a1 a2 S) ∧ (Q (F_Ldg_dueOf a1 a2 S) S))))
set_option maxRecDepth 100000 in
set_option maxHeartbeats 4000000 in
theorem ok_Cq_due {a1 : Int32} {a2 : Int32} {S : hs_S} {Q : Int32 → hs_S → Prop} (hw : hs_Wi S) (hv : vc_Cq_due a1 a2 S Q) : m_Cq_due a1 a2 S Q := by
  unfold vc_Cq_due at hv
  refine hs_body (own := RX10) rfl rfl (Nat.le_of_ble_eq_true rfl) (fun Z X E N J0 => ?_)
  show wa Z 0 0 S 0 [(0, .inr (.inr (10, 1))), (1, .inl a1), (2, .inl a2)] []
  refine wa_iload_n X 1 rfl dX10_due_0 rfl ?_
  obtain ⟨o1, hv⟩ := hv
  refine wa_callS X (As := [.inl a1]) (f_Cq_needOwner hw o1) kw_465 kw_21 kw_463 kw_464 nd_X10_needOwner rfl rfl (Nat.le_of_ble_eq_true rfl) dX10_due_1 ⟨⟨Nat.le_of_ble_eq_true rfl, Nat.le_of_ble_eq_true rfl⟩, Nat.le_of_ble_eq_true rfl, Nat.le_of_ble_eq_true rfl⟩ (hs_pdk0 ?_) (fun _ _ h => h.elim)
  refine wa_iload_n X 2 rfl dX10_due_4 rfl ?_
  obtain ⟨o2, hv⟩ := hv
  refine wa_callS X (As := [.inl a2]) (f_Cq_needColumn hw o2) kw_355 kw_21 kw_353 kw_354 nd_X10_needColumn rfl rfl (Nat.le_of_ble_eq_true rfl) dX10_due_5 ⟨⟨Nat.le_of_ble_eq_true rfl, Nat.le_of_ble_eq_true rfl⟩, Nat.le_of_ble_eq_true rfl, Nat.le_of_ble_eq_true rfl⟩ (hs_pdk0 ?_) (fun _ _ h => h.elim)
  refine wa_aload_n X 0 rfl dX10_due_8 rfl ?_
  refine wa_getfw X hw (j := 4) (r := 1) hk_10 hc_10 i_10 (by decide) kw_331 rfl rfl (by decide) rfl dX10_due_9 hs_1ne ?_
  refine wa_iload_n X 1 rfl dX10_due_12 rfl ?_
  refine wa_iload_n X 2 rfl dX10_due_13 rfl ?_
  obtain ⟨o3, hv⟩ := hv
  refine wa_callV X (As := [.inl a1, .inl a2]) (f_Ldg_dueOf hw o3) hk_6 hc_6 rfl kw_470 kw_32 kw_467 kw_468 kw_469 nd_X6_dueOf rfl rfl (Nat.le_of_ble_eq_true rfl) dX10_due_14 hs_1ne ⟨⟨Nat.le_of_ble_eq_true rfl, Nat.le_of_ble_eq_true rfl⟩, Nat.le_of_ble_eq_true rfl, Nat.le_of_ble_eq_true rfl⟩ (hs_pdk0 ?_) (fun _ _ h => h.elim)
  exact wa_ireturn X E dX10_due_17 (Nat.le_of_ble_eq_true rfl) (Nat.le_of_ble_eq_true rfl) (Or.inl rfl) ⟨hw, _, rfl, hv⟩
theorem v_Cq_due {a1 a2 : Int32} {S : hs_S} (hP : P_Cq_due a1 a2 S) : vc_Cq_due a1 a2 S (fun r S' => r = F_Ldg_dueOf a1 a2 S ∧ S' = S) := ⟨hP.1, hP.2.1, hP.2.2, rfl, rfl⟩
theorem f_Cq_due {a1 : Int32} {a2 : Int32} {S : hs_S} (hw : hs_Wi S) (hP : P_Cq_due a1 a2 S) : hs_M 7 yX10_due (.code yX10_due cX10_due 3 (some FieldType.int)) [.inr (.inr (10, 1)), .inl a1, .inl a2] S 0 0 (hs_pd (some (.inl (F_Ldg_dueOf a1 a2 S))) S) hs_nX := hs_pdI (ok_Cq_due hw (v_Cq_due hP))

def F_Cq_got (a1 : Int32) (S : hs_S) : Int32 := S.1 0 (S.2.1 13 1 a1.toNatClampNeg) 9
def P_Cq_got (a1 : Int32) (S : hs_S) : Prop := P_Cq_bidNumbered a1 S
theorem bidq_0 {a1 : Int32} {S : hs_S} (h : P_Cq_bidNumbered a1 S) : F_Cq_bidNumbered a1 S ≠ 0 := by
  obtain ⟨hz, b, hb, rfl, h0⟩ := h
  unfold F_Cq_bidNumbered
  rw [hl_cl (by omega)]; exact h0
theorem rndq_0 {a1 : Int32} {S : hs_S} (h : P_Cq_roundNumbered a1 S) : F_Cq_roundNumbered a1 S ≠ 0 := by
  obtain ⟨hz, b, hb, rfl, h0⟩ := h
  unfold F_Cq_roundNumbered
  rw [hl_cl (by omega)]; exact h0
def m_Cq_got (a1 : Int32) (S : hs_S) (Q : Int32 → hs_S → Prop) : Prop := hs_M 6 yX10_got (.code yX10_got cX10_got 2 (some FieldType.int)) [.inr (.inr (10, 1)), .inl a1] S 0 0 (hs_qI Q) hs_nX
def vc_Cq_got (a1 : Int32) (S : hs_S) (Q : Int32 → hs_S → Prop) : Prop := ((P_Cq_bidNumbered a1 S) ∧ (((F_Cq_bidNumbered a1 S) ≠ 0) ∧ (Q (S.1 0 (F_Cq_bidNumbered a1 S) 9) S)))
set_option maxRecDepth 100000 in
set_option maxHeartbeats 4000000 in
theorem ok_Cq_got {a1 : Int32} {S : hs_S} {Q : Int32 → hs_S → Prop} (hw : hs_Wi S) (hv : vc_Cq_got a1 S Q) : m_Cq_got a1 S Q := by
  unfold vc_Cq_got at hv
  refine hs_body (own := RX10) rfl rfl (Nat.le_of_ble_eq_true rfl) (fun Z X E N J0 => ?_)
  show wa Z 0 0 S 0 [(0, .inr (.inr (10, 1))), (1, .inl a1)] []
  refine wa_aload_n X 0 rfl dX10_got_0 rfl ?_
  refine wa_iload_n X 1 rfl dX10_got_1 rfl ?_
  obtain ⟨o1, hv⟩ := hv
  refine wa_callV X (As := [.inl a1]) (f_Cq_bidNumbered hw o1) hk_10 hc_10 rfl kw_897 kw_21 kw_894 kw_896 kw_12 nd_X10_bidNumbered rfl rfl (Nat.le_of_ble_eq_true rfl) dX10_got_2 hs_1ne ⟨⟨Nat.le_of_ble_eq_true rfl, Nat.le_of_ble_eq_true rfl⟩, Nat.le_of_ble_eq_true rfl, Nat.le_of_ble_eq_true rfl⟩ (hs_pdk0 ?_) (fun _ _ h => h.elim)
  obtain ⟨o2, hv⟩ := hv
  refine wa_getI X (j := 9) hk_0 hc_0 i_0 (by decide) kw_866 rfl dX10_got_5 o2 ?_
  exact wa_ireturn X E dX10_got_8 (Nat.le_of_ble_eq_true rfl) (Nat.le_of_ble_eq_true rfl) (Or.inl rfl) ⟨hw, _, rfl, hv⟩
theorem v_Cq_got {a1 : Int32} {S : hs_S} (hP : P_Cq_got a1 S) : vc_Cq_got a1 S (fun r S' => r = F_Cq_got a1 S ∧ S' = S) := ⟨hP, bidq_0 hP, rfl, rfl⟩
theorem f_Cq_got {a1 : Int32} {S : hs_S} (hw : hs_Wi S) (hP : P_Cq_got a1 S) : hs_M 6 yX10_got (.code yX10_got cX10_got 2 (some FieldType.int)) [.inr (.inr (10, 1)), .inl a1] S 0 0 (hs_pd (some (.inl (F_Cq_got a1 S))) S) hs_nX := hs_pdI (ok_Cq_got hw (v_Cq_got hP))

def F_Cq_round (a1 a2 : Int32) (S : hs_S) : Int32 := if a2 = 0 then S.1 8 (F_Cq_roundNumbered a1 S) 0 else if a2 = 1 then S.1 8 (F_Cq_roundNumbered a1 S) 5 else if a2 = 2 then S.1 8 (F_Cq_roundNumbered a1 S) 6 else if a2 = 3 then S.1 8 (F_Cq_roundNumbered a1 S) 7 else if a2 = 4 then S.1 8 (F_Cq_roundNumbered a1 S) 8 else F_Book_feesOf (F_Cq_roundNumbered a1 S) S
def P_Cq_round (a1 a2 : Int32) (S : hs_S) : Prop := P_Cq_roundNumbered a1 S ∧ cBd S ∧ ∃ k : Nat, k < 6 ∧ a2 = nI k
def m_Cq_round (a1 : Int32) (a2 : Int32) (S : hs_S) (Q : Int32 → hs_S → Prop) : Prop := hs_M 6 yX10_round (.code yX10_round cX10_round 4 (some FieldType.int)) [.inr (.inr (10, 1)), .inl a1, .inl a2] S 0 0 (hs_qI Q) hs_nX
def vc_Cq_round (a1 : Int32) (a2 : Int32) (S : hs_S) (Q : Int32 → hs_S → Prop) : Prop := ((P_Cq_roundNumbered a1 S) ∧ ((a2 = (0 : Int32) → (((F_Cq_roundNumbered a1 S) ≠ 0) ∧ (Q (S.1 8 (F_Cq_roundNumbered a1 S) 0) S))) ∧ (a2 = (1 : Int32) → (((F_Cq_roundNumbered a1 S) ≠ 0) ∧ (Q (S.1 8 (F_Cq_roundNumbered a1 S) 5) S))) ∧ (a2 = (2 : Int32) → (((F_Cq_roundNumbered a1 S) ≠ 0) ∧ (Q (S.1 8 (F_Cq_roundNumbered a1 S) 6) S))) ∧ (a2 = (3 : Int32) → (((F_Cq_roundNumbered a1 S) ≠ 0) ∧ (Q (S.1 8 (F_Cq_roundNumbered a1 S) 7) S))) ∧ (a2 = (4 : Int32) → (((F_Cq_roundNumbered a1 S) ≠ 0) ∧ (Q (S.1 8 (F_Cq_roundNumbered a1 S) 8) S))) ∧ (a2 = (5 : Int32) → ((P_Book_feesOf (F_Cq_roundNumbered a1 S) S) ∧ (((F_Cq_roundNumbered a1 S) ≠ 0) ∧ (Q (F_Book_feesOf (F_Cq_roundNumbered a1 S) S) S)))) ∧ (a2.toInt < 0 ∨ 5 < a2.toInt → False)))
set_option maxRecDepth 100000 in
set_option maxHeartbeats 4000000 in
theorem ok_Cq_round {a1 : Int32} {a2 : Int32} {S : hs_S} {Q : Int32 → hs_S → Prop} (hw : hs_Wi S) (hv : vc_Cq_round a1 a2 S Q) : m_Cq_round a1 a2 S Q := by
  unfold vc_Cq_round at hv
  refine hs_body (own := RX10) rfl rfl (Nat.le_of_ble_eq_true rfl) (fun Z X E N J0 => ?_)
  show wa Z 0 0 S 0 [(0, .inr (.inr (10, 1))), (1, .inl a1), (2, .inl a2)] []
  refine wa_aload_n X 0 rfl dX10_round_0 rfl ?_
  refine wa_iload_n X 1 rfl dX10_round_1 rfl ?_
  obtain ⟨o1, hv⟩ := hv
  refine wa_callV X (As := [.inl a1]) (f_Cq_roundNumbered hw o1) hk_10 hc_10 rfl kw_991 kw_21 kw_988 kw_990 kw_18 nd_X10_roundNumbered rfl rfl (Nat.le_of_ble_eq_true rfl) dX10_round_2 hs_1ne ⟨⟨Nat.le_of_ble_eq_true rfl, Nat.le_of_ble_eq_true rfl⟩, Nat.le_of_ble_eq_true rfl, Nat.le_of_ble_eq_true rfl⟩ (hs_pdk0 ?_) (fun _ _ h => h.elim)
  refine wa_astore_n X (lv' := [(3, .inr (.inr (8, (F_Cq_roundNumbered a1 S)))), (0, .inr (.inr (10, 1))), (1, .inl a1), (2, .inl a2)]) dX10_round_5 rfl (by decide) rfl ?_
  refine wa_iload_n X 3 rfl dX10_round_6 rfl ?_
  by_cases c2 : a2 = (0 : Int32)
  · replace hv := hv.1 c2
    refine wa_tableIn X (tgt := 44) dX10_round_7 (by rw [c2]; decide) (by rw [c2]; decide) (off := 37) (by rw [c2]; rfl) (by decide) ?_
    refine wa_aload_n X 0 rfl dX10_round_44 rfl ?_
    obtain ⟨o3, hv⟩ := hv
    refine wa_getI X (j := 0) hk_8 hc_8 i_8 (by decide) kw_178 rfl dX10_round_45 o3 ?_
    exact wa_ireturn X E dX10_round_48 (Nat.le_of_ble_eq_true rfl) (Nat.le_of_ble_eq_true rfl) (Or.inl rfl) ⟨hw, _, rfl, hv⟩
  replace hv := hv.2
  by_cases c4 : a2 = (1 : Int32)
  · replace hv := hv.1 c4
    refine wa_tableIn X (tgt := 49) dX10_round_7 (by rw [c4]; decide) (by rw [c4]; decide) (off := 42) (by rw [c4]; rfl) (by decide) ?_
    refine wa_aload_n X 0 rfl dX10_round_49 rfl ?_
    obtain ⟨o5, hv⟩ := hv
    refine wa_getI X (j := 5) hk_8 hc_8 i_8 (by decide) kw_193 rfl dX10_round_50 o5 ?_
    exact wa_ireturn X E dX10_round_53 (Nat.le_of_ble_eq_true rfl) (Nat.le_of_ble_eq_true rfl) (Or.inl rfl) ⟨hw, _, rfl, hv⟩
  replace hv := hv.2
  by_cases c6 : a2 = (2 : Int32)
  · replace hv := hv.1 c6
    refine wa_tableIn X (tgt := 54) dX10_round_7 (by rw [c6]; decide) (by rw [c6]; decide) (off := 47) (by rw [c6]; rfl) (by decide) ?_
    refine wa_aload_n X 0 rfl dX10_round_54 rfl ?_
    obtain ⟨o7, hv⟩ := hv
    refine wa_getI X (j := 6) hk_8 hc_8 i_8 (by decide) kw_196 rfl dX10_round_55 o7 ?_
    exact wa_ireturn X E dX10_round_58 (Nat.le_of_ble_eq_true rfl) (Nat.le_of_ble_eq_true rfl) (Or.inl rfl) ⟨hw, _, rfl, hv⟩
  replace hv := hv.2
  by_cases c8 : a2 = (3 : Int32)
  · replace hv := hv.1 c8
    refine wa_tableIn X (tgt := 59) dX10_round_7 (by rw [c8]; decide) (by rw [c8]; decide) (off := 52) (by rw [c8]; rfl) (by decide) ?_
    refine wa_aload_n X 0 rfl dX10_round_59 rfl ?_
    obtain ⟨o9, hv⟩ := hv
    refine wa_getI X (j := 7) hk_8 hc_8 i_8 (by decide) kw_200 rfl dX10_round_60 o9 ?_
    exact wa_ireturn X E dX10_round_63 (Nat.le_of_ble_eq_true rfl) (Nat.le_of_ble_eq_true rfl) (Or.inl rfl) ⟨hw, _, rfl, hv⟩
  replace hv := hv.2
  by_cases c10 : a2 = (4 : Int32)
  · replace hv := hv.1 c10
    refine wa_tableIn X (tgt := 64) dX10_round_7 (by rw [c10]; decide) (by rw [c10]; decide) (off := 57) (by rw [c10]; rfl) (by decide) ?_
    refine wa_aload_n X 0 rfl dX10_round_64 rfl ?_
    obtain ⟨o11, hv⟩ := hv
    refine wa_getI X (j := 8) hk_8 hc_8 i_8 (by decide) kw_203 rfl dX10_round_65 o11 ?_
    exact wa_ireturn X E dX10_round_68 (Nat.le_of_ble_eq_true rfl) (Nat.le_of_ble_eq_true rfl) (Or.inl rfl) ⟨hw, _, rfl, hv⟩
  replace hv := hv.2
  by_cases c12 : a2 = (5 : Int32)
  · replace hv := hv.1 c12
    refine wa_tableIn X (tgt := 69) dX10_round_7 (by rw [c12]; decide) (by rw [c12]; decide) (off := 62) (by rw [c12]; rfl) (by decide) ?_
    refine wa_aload_n X 1 rfl dX10_round_69 rfl ?_
    refine wa_getfw X hw (j := 1) (r := 1) hk_10 hc_10 i_10 (by decide) kw_328 rfl rfl (by decide) rfl dX10_round_70 hs_1ne ?_
    refine wa_aload_n X 0 rfl dX10_round_73 rfl ?_
    obtain ⟨o13, hv⟩ := hv
    obtain ⟨o14, hv⟩ := hv
    refine wa_callV X (As := [.inr (.inr (8, (F_Cq_roundNumbered a1 S)))]) (f_Book_feesOf o14 hw o13) hk_1 hc_1 rfl kw_997 kw_28 kw_994 kw_995 kw_996 nd_X1_feesOf rfl rfl (Nat.le_of_ble_eq_true rfl) dX10_round_74 hs_1ne ⟨⟨Nat.le_of_ble_eq_true rfl, Nat.le_of_ble_eq_true rfl⟩, Nat.le_of_ble_eq_true rfl, Nat.le_of_ble_eq_true rfl⟩ (hs_pdk0 ?_) (fun _ _ h => h.elim)
    exact wa_ireturn X E dX10_round_77 (Nat.le_of_ble_eq_true rfl) (Nat.le_of_ble_eq_true rfl) (Or.inl rfl) ⟨hw, _, rfl, hv⟩
  replace hv := hv.2
  refine wa_tableOut X (tgt := 78) dX10_round_7 (hs_swo0_5 c2 c4 c6 c8 c10 c12) (by decide) ?_
  replace hv := hv (hs_swo0_5 c2 c4 c6 c8 c10 c12)
  exact hv.elim
theorem v_Cq_round {a1 a2 : Int32} {S : hs_S} (hP : P_Cq_round a1 a2 S) : vc_Cq_round a1 a2 S (fun r S' => r = F_Cq_round a1 a2 S ∧ S' = S) := by
  obtain ⟨h1, h2, k, hk, rfl⟩ := hP
  have h0 := rndq_0 h1
  refine ⟨h1, ?_⟩
  unfold F_Cq_round
  refine ⟨fun e => ⟨h0, ?_⟩, fun e => ⟨h0, ?_⟩, fun e => ⟨h0, ?_⟩, fun e => ⟨h0, ?_⟩, fun e => ⟨h0, ?_⟩, fun e => ⟨h2, h0, ?_⟩, fun e => ?_⟩
  · rw [e]; exact ⟨rfl, rfl⟩
  · rw [e]; exact ⟨rfl, rfl⟩
  · rw [e]; exact ⟨rfl, rfl⟩
  · rw [e]; exact ⟨rfl, rfl⟩
  · rw [e]; exact ⟨rfl, rfl⟩
  · rw [e]; exact ⟨rfl, rfl⟩
  · have := hl_ix (k := k) (n := 6) (by omega) (by omega)
    omega
theorem f_Cq_round {a1 : Int32} {a2 : Int32} {S : hs_S} (hw : hs_Wi S) (hP : P_Cq_round a1 a2 S) : hs_M 6 yX10_round (.code yX10_round cX10_round 4 (some FieldType.int)) [.inr (.inr (10, 1)), .inl a1, .inl a2] S 0 0 (hs_pd (some (.inl (F_Cq_round a1 a2 S))) S) hs_nX := hs_pdI (ok_Cq_round hw (v_Cq_round hP))

def F_Cq_ownerOf (a1 a2 : Int32) (S : hs_S) : Int32 := S.1 20 1 (F_Cq_cellAt a1 a2).toNatClampNeg
def P_Cq_ownerOf (a1 a2 : Int32) (S : hs_S) : Prop := P_Cq_cellAt a1 a2 S
def m_Cq_ownerOf (a1 : Int32) (a2 : Int32) (S : hs_S) (Q : Int32 → hs_S → Prop) : Prop := hs_M 4 yX10_ownerOf (.code yX10_ownerOf cX10_ownerOf 3 (some FieldType.int)) [.inr (.inr (10, 1)), .inl a1, .inl a2] S 0 0 (hs_qI Q) hs_nX
def vc_Cq_ownerOf (a1 : Int32) (a2 : Int32) (S : hs_S) (Q : Int32 → hs_S → Prop) : Prop := ((P_Cq_cellAt a1 a2 S) ∧ ((0 ≤ (F_Cq_cellAt a1 a2).toInt ∧ (F_Cq_cellAt a1 a2).toInt < 24) ∧ (Q (S.1 20 1 (F_Cq_cellAt a1 a2).toNatClampNeg) S)))
set_option maxRecDepth 100000 in
set_option maxHeartbeats 4000000 in
theorem ok_Cq_ownerOf {a1 : Int32} {a2 : Int32} {S : hs_S} {Q : Int32 → hs_S → Prop} (hw : hs_Wi S) (hv : vc_Cq_ownerOf a1 a2 S Q) : m_Cq_ownerOf a1 a2 S Q := by
  unfold vc_Cq_ownerOf at hv
  refine hs_body (own := RX10) rfl rfl (Nat.le_of_ble_eq_true rfl) (fun Z X E N J0 => ?_)
  show wa Z 0 0 S 0 [(0, .inr (.inr (10, 1))), (1, .inl a1), (2, .inl a2)] []
  refine wa_aload_n X 0 rfl dX10_ownerOf_0 rfl ?_
  refine wa_getfw X hw (j := 0) (r := 1) hk_10 hc_10 i_10 (by decide) kw_327 rfl rfl (by decide) rfl dX10_ownerOf_1 hs_1ne ?_
  refine wa_getfw X hw (j := 0) (r := 1) hk_9 hc_9 i_9 (by decide) kw_134 rfl rfl (by decide) rfl dX10_ownerOf_4 hs_1ne ?_
  refine wa_getfw X hw (j := 0) (r := 1) hk_7 hc_7 i_7 (by decide) kw_68 rfl rfl (by decide) rfl dX10_ownerOf_7 hs_1ne ?_
  refine wa_iload_n X 1 rfl dX10_ownerOf_10 rfl ?_
  refine wa_iload_n X 2 rfl dX10_ownerOf_11 rfl ?_
  obtain ⟨o1, hv⟩ := hv
  refine wa_callS X (As := [.inl a1, .inl a2]) (f_Cq_cellAt hw o1) kw_352 kw_21 kw_350 kw_351 nd_X10_cellAt rfl rfl (Nat.le_of_ble_eq_true rfl) dX10_ownerOf_12 ⟨⟨Nat.le_of_ble_eq_true rfl, Nat.le_of_ble_eq_true rfl⟩, Nat.le_of_ble_eq_true rfl, Nat.le_of_ble_eq_true rfl⟩ (hs_pdk0 ?_) (fun _ _ h => h.elim)
  obtain ⟨o2, hv⟩ := hv
  refine wa_iald X hk_20 dX10_ownerOf_15 hs_1ne o2 ?_
  exact wa_ireturn X E dX10_ownerOf_16 (Nat.le_of_ble_eq_true rfl) (Nat.le_of_ble_eq_true rfl) (Or.inl rfl) ⟨hw, _, rfl, hv⟩
theorem v_Cq_ownerOf {a1 a2 : Int32} {S : hs_S} (hP : P_Cq_ownerOf a1 a2 S) : vc_Cq_ownerOf a1 a2 S (fun r S' => r = F_Cq_ownerOf a1 a2 S ∧ S' = S) := ⟨hP, cellq_ix hP, rfl, rfl⟩
theorem f_Cq_ownerOf {a1 : Int32} {a2 : Int32} {S : hs_S} (hw : hs_Wi S) (hP : P_Cq_ownerOf a1 a2 S) : hs_M 4 yX10_ownerOf (.code yX10_ownerOf cX10_ownerOf 3 (some FieldType.int)) [.inr (.inr (10, 1)), .inl a1, .inl a2] S 0 0 (hs_pd (some (.inl (F_Cq_ownerOf a1 a2 S))) S) hs_nX := hs_pdI (ok_Cq_ownerOf hw (v_Cq_ownerOf hP))

def F_Cq_reads (a1 a2 a3 : Int32) (S : hs_S) : Int32 := F_Rts_canRead 1 a1 (F_Cq_cellAt a2 a3) S
def P_Cq_reads (a1 a2 a3 : Int32) (S : hs_S) : Prop := P_Cq_needOwner a1 S ∧ P_Cq_cellAt a2 a3 S
def m_Cq_reads (a1 : Int32) (a2 : Int32) (a3 : Int32) (S : hs_S) (Q : Int32 → hs_S → Prop) : Prop := hs_M 4 yX10_reads (.code yX10_reads cX10_reads 4 (some FieldType.boolean)) [.inr (.inr (10, 1)), .inl a1, .inl a2, .inl a3] S 0 0 (hs_qI Q) hs_nX
def vc_Cq_reads (a1 : Int32) (a2 : Int32) (a3 : Int32) (S : hs_S) (Q : Int32 → hs_S → Prop) : Prop := ((P_Cq_needOwner a1 S) ∧ ((P_Cq_cellAt a2 a3 S) ∧ ((P_Rts_canRead 1 a1 (F_Cq_cellAt a2 a3) S) ∧ (((F_Rts_canRead 1 a1 (F_Cq_cellAt a2 a3) S) = 0 ∨ (F_Rts_canRead 1 a1 (F_Cq_cellAt a2 a3) S) = 1) ∧ (Q (F_Rts_canRead 1 a1 (F_Cq_cellAt a2 a3) S) S)))))
set_option maxRecDepth 100000 in
set_option maxHeartbeats 4000000 in
theorem ok_Cq_reads {a1 : Int32} {a2 : Int32} {a3 : Int32} {S : hs_S} {Q : Int32 → hs_S → Prop} (hw : hs_Wi S) (hv : vc_Cq_reads a1 a2 a3 S Q) : m_Cq_reads a1 a2 a3 S Q := by
  unfold vc_Cq_reads at hv
  refine hs_body (own := RX10) rfl rfl (Nat.le_of_ble_eq_true rfl) (fun Z X E N J0 => ?_)
  show wa Z 0 0 S 0 [(0, .inr (.inr (10, 1))), (1, .inl a1), (2, .inl a2), (3, .inl a3)] []
  refine wa_iload_n X 1 rfl dX10_reads_0 rfl ?_
  obtain ⟨o1, hv⟩ := hv
  refine wa_callS X (As := [.inl a1]) (f_Cq_needOwner hw o1) kw_465 kw_21 kw_463 kw_464 nd_X10_needOwner rfl rfl (Nat.le_of_ble_eq_true rfl) dX10_reads_1 ⟨⟨Nat.le_of_ble_eq_true rfl, Nat.le_of_ble_eq_true rfl⟩, Nat.le_of_ble_eq_true rfl, Nat.le_of_ble_eq_true rfl⟩ (hs_pdk0 ?_) (fun _ _ h => h.elim)
  refine wa_aload_n X 0 rfl dX10_reads_4 rfl ?_
  refine wa_getfw X hw (j := 0) (r := 1) hk_10 hc_10 i_10 (by decide) kw_327 rfl rfl (by decide) rfl dX10_reads_5 hs_1ne ?_
  refine wa_getfw X hw (j := 0) (r := 1) hk_9 hc_9 i_9 (by decide) kw_134 rfl rfl (by decide) rfl dX10_reads_8 hs_1ne ?_
  refine wa_iload_n X 1 rfl dX10_reads_11 rfl ?_
  refine wa_iload_n X 2 rfl dX10_reads_12 rfl ?_
  refine wa_iload_n X 3 rfl dX10_reads_13 rfl ?_
  obtain ⟨o2, hv⟩ := hv
  refine wa_callS X (As := [.inl a2, .inl a3]) (f_Cq_cellAt hw o2) kw_352 kw_21 kw_350 kw_351 nd_X10_cellAt rfl rfl (Nat.le_of_ble_eq_true rfl) dX10_reads_14 ⟨⟨Nat.le_of_ble_eq_true rfl, Nat.le_of_ble_eq_true rfl⟩, Nat.le_of_ble_eq_true rfl, Nat.le_of_ble_eq_true rfl⟩ (hs_pdk0 ?_) (fun _ _ h => h.elim)
  obtain ⟨o3, hv⟩ := hv
  refine wa_callV X (As := [.inl a1, .inl (F_Cq_cellAt a2 a3)]) (f_Rts_canRead hs_1ne hw o3) hk_7 hc_7 rfl kw_732 kw_23 kw_729 kw_730 kw_731 nd_X7_canRead rfl rfl (Nat.le_of_ble_eq_true rfl) dX10_reads_17 hs_1ne ⟨⟨Nat.le_of_ble_eq_true rfl, Nat.le_of_ble_eq_true rfl⟩, Nat.le_of_ble_eq_true rfl, Nat.le_of_ble_eq_true rfl⟩ (hs_pdk0 ?_) (fun _ _ h => h.elim)
  obtain ⟨o4, hv⟩ := hv
  exact wa_ireturn X E dX10_reads_20 (Nat.le_of_ble_eq_true rfl) (Nat.le_of_ble_eq_true rfl) (Or.inr ⟨rfl, o4⟩) ⟨hw, _, rfl, hv⟩
theorem v_Cq_reads {a1 a2 a3 : Int32} {S : hs_S} (hP : P_Cq_reads a1 a2 a3 S) : vc_Cq_reads a1 a2 a3 S (fun r S' => r = F_Cq_reads a1 a2 a3 S ∧ S' = S) := ⟨hP.1, hP.2, cellq_ix hP.2, bI_01 _, rfl, rfl⟩
theorem f_Cq_reads {a1 : Int32} {a2 : Int32} {a3 : Int32} {S : hs_S} (hw : hs_Wi S) (hP : P_Cq_reads a1 a2 a3 S) : hs_M 4 yX10_reads (.code yX10_reads cX10_reads 4 (some FieldType.boolean)) [.inr (.inr (10, 1)), .inl a1, .inl a2, .inl a3] S 0 0 (hs_pd (some (.inl (F_Cq_reads a1 a2 a3 S))) S) hs_nX := hs_pdI (ok_Cq_reads hw (v_Cq_reads hP))

def F_Cq_isFrozen (a1 : Int32) (S : hs_S) : Int32 := F_Rnd_wasFrozen (S.2.1 26 1 a1.toNatClampNeg) S
def P_Cq_isFrozen (a1 : Int32) (S : hs_S) : Prop := P_Cq_needColumn a1 S ∧ S.2.1 26 1 a1.toNatClampNeg ≠ 0
def m_Cq_isFrozen (a1 : Int32) (S : hs_S) (Q : Int32 → hs_S → Prop) : Prop := hs_M 3 yX10_isFrozen (.code yX10_isFrozen cX10_isFrozen 2 (some FieldType.boolean)) [.inr (.inr (10, 1)), .inl a1] S 0 0 (hs_qI Q) hs_nX
def vc_Cq_isFrozen (a1 : Int32) (S : hs_S) (Q : Int32 → hs_S → Prop) : Prop := ((P_Cq_needColumn a1 S) ∧ ((0 ≤ a1.toInt ∧ a1.toInt < 4) ∧ (((S.2.1 26 1 a1.toNatClampNeg) ≠ 0) ∧ (((F_Rnd_wasFrozen (S.2.1 26 1 a1.toNatClampNeg) S) = 0 ∨ (F_Rnd_wasFrozen (S.2.1 26 1 a1.toNatClampNeg) S) = 1) ∧ (Q (F_Rnd_wasFrozen (S.2.1 26 1 a1.toNatClampNeg) S) S)))))
set_option maxRecDepth 100000 in
set_option maxHeartbeats 4000000 in
theorem ok_Cq_isFrozen {a1 : Int32} {S : hs_S} {Q : Int32 → hs_S → Prop} (hw : hs_Wi S) (hv : vc_Cq_isFrozen a1 S Q) : m_Cq_isFrozen a1 S Q := by
  unfold vc_Cq_isFrozen at hv
  refine hs_body (own := RX10) rfl rfl (Nat.le_of_ble_eq_true rfl) (fun Z X E N J0 => ?_)
  show wa Z 0 0 S 0 [(0, .inr (.inr (10, 1))), (1, .inl a1)] []
  refine wa_iload_n X 1 rfl dX10_isFrozen_0 rfl ?_
  obtain ⟨o1, hv⟩ := hv
  refine wa_callS X (As := [.inl a1]) (f_Cq_needColumn hw o1) kw_355 kw_21 kw_353 kw_354 nd_X10_needColumn rfl rfl (Nat.le_of_ble_eq_true rfl) dX10_isFrozen_1 ⟨⟨Nat.le_of_ble_eq_true rfl, Nat.le_of_ble_eq_true rfl⟩, Nat.le_of_ble_eq_true rfl, Nat.le_of_ble_eq_true rfl⟩ (hs_pdk0 ?_) (fun _ _ h => h.elim)
  refine wa_aload_n X 0 rfl dX10_isFrozen_4 rfl ?_
  refine wa_getfw X hw (j := 1) (r := 1) hk_10 hc_10 i_10 (by decide) kw_328 rfl rfl (by decide) rfl dX10_isFrozen_5 hs_1ne ?_
  refine wa_getfw X hw (j := 1) (r := 1) hk_1 hc_1 i_1 (by decide) kw_229 rfl rfl (by decide) rfl dX10_isFrozen_8 hs_1ne ?_
  refine wa_iload_n X 1 rfl dX10_isFrozen_11 rfl ?_
  obtain ⟨o2, hv⟩ := hv
  refine wa_aald X hk_26 dX10_isFrozen_12 hs_1ne o2 ?_
  obtain ⟨o3, hv⟩ := hv
  refine wa_callV X (As := []) (f_Rnd_wasFrozen o3 hw) hk_8 hc_8 rfl kw_596 kw_29 kw_593 kw_594 kw_595 nd_X8_wasFrozen rfl rfl (Nat.le_of_ble_eq_true rfl) dX10_isFrozen_13 o3 ⟨⟨Nat.le_of_ble_eq_true rfl, Nat.le_of_ble_eq_true rfl⟩, Nat.le_of_ble_eq_true rfl, Nat.le_of_ble_eq_true rfl⟩ (hs_pdk0 ?_) (fun _ _ h => h.elim)
  obtain ⟨o4, hv⟩ := hv
  exact wa_ireturn X E dX10_isFrozen_16 (Nat.le_of_ble_eq_true rfl) (Nat.le_of_ble_eq_true rfl) (Or.inr ⟨rfl, o4⟩) ⟨hw, _, rfl, hv⟩
theorem v_Cq_isFrozen {a1 : Int32} {S : hs_S} (hP : P_Cq_isFrozen a1 S) : vc_Cq_isFrozen a1 S (fun r S' => r = F_Cq_isFrozen a1 S ∧ S' = S) := ⟨hP.1, col_ix hP.1, hP.2, bI_01 _, rfl, rfl⟩
theorem f_Cq_isFrozen {a1 : Int32} {S : hs_S} (hw : hs_Wi S) (hP : P_Cq_isFrozen a1 S) : hs_M 3 yX10_isFrozen (.code yX10_isFrozen cX10_isFrozen 2 (some FieldType.boolean)) [.inr (.inr (10, 1)), .inl a1] S 0 0 (hs_pd (some (.inl (F_Cq_isFrozen a1 S))) S) hs_nX := hs_pdI (ok_Cq_isFrozen hw (v_Cq_isFrozen hP))

def F_Cq_edits (a1 a2 : Int32) (S : hs_S) : Int32 := F_Sht_countOf (F_Cq_cellAt a1 a2) S
def P_Cq_edits (a1 a2 : Int32) (S : hs_S) : Prop := P_Cq_cellAt a1 a2 S ∧ cEd S
def m_Cq_edits (a1 : Int32) (a2 : Int32) (S : hs_S) (Q : Int32 → hs_S → Prop) : Prop := hs_M 6 yX10_edits (.code yX10_edits cX10_edits 3 (some FieldType.int)) [.inr (.inr (10, 1)), .inl a1, .inl a2] S 0 0 (hs_qI Q) hs_nX
def vc_Cq_edits (a1 : Int32) (a2 : Int32) (S : hs_S) (Q : Int32 → hs_S → Prop) : Prop := ((P_Cq_cellAt a1 a2 S) ∧ ((P_Sht_countOf (F_Cq_cellAt a1 a2) S) ∧ (Q (F_Sht_countOf (F_Cq_cellAt a1 a2) S) S)))
set_option maxRecDepth 100000 in
set_option maxHeartbeats 4000000 in
theorem ok_Cq_edits {a1 : Int32} {a2 : Int32} {S : hs_S} {Q : Int32 → hs_S → Prop} (hw : hs_Wi S) (hv : vc_Cq_edits a1 a2 S Q) : m_Cq_edits a1 a2 S Q := by
  unfold vc_Cq_edits at hv
  refine hs_body (own := RX10) rfl rfl (Nat.le_of_ble_eq_true rfl) (fun Z X E N J0 => ?_)
  show wa Z 0 0 S 0 [(0, .inr (.inr (10, 1))), (1, .inl a1), (2, .inl a2)] []
  refine wa_aload_n X 0 rfl dX10_edits_0 rfl ?_
  refine wa_getfw X hw (j := 0) (r := 1) hk_10 hc_10 i_10 (by decide) kw_327 rfl rfl (by decide) rfl dX10_edits_1 hs_1ne ?_
  refine wa_iload_n X 1 rfl dX10_edits_4 rfl ?_
  refine wa_iload_n X 2 rfl dX10_edits_5 rfl ?_
  obtain ⟨o1, hv⟩ := hv
  refine wa_callS X (As := [.inl a1, .inl a2]) (f_Cq_cellAt hw o1) kw_352 kw_21 kw_350 kw_351 nd_X10_cellAt rfl rfl (Nat.le_of_ble_eq_true rfl) dX10_edits_6 ⟨⟨Nat.le_of_ble_eq_true rfl, Nat.le_of_ble_eq_true rfl⟩, Nat.le_of_ble_eq_true rfl, Nat.le_of_ble_eq_true rfl⟩ (hs_pdk0 ?_) (fun _ _ h => h.elim)
  obtain ⟨o2, hv⟩ := hv
  refine wa_callV X (As := [.inl (F_Cq_cellAt a1 a2)]) (f_Sht_countOf hw o2) hk_9 hc_9 rfl kw_428 kw_22 kw_425 kw_426 kw_427 nd_X9_countOf rfl rfl (Nat.le_of_ble_eq_true rfl) dX10_edits_9 hs_1ne ⟨⟨Nat.le_of_ble_eq_true rfl, Nat.le_of_ble_eq_true rfl⟩, Nat.le_of_ble_eq_true rfl, Nat.le_of_ble_eq_true rfl⟩ (hs_pdk0 ?_) (fun _ _ h => h.elim)
  exact wa_ireturn X E dX10_edits_12 (Nat.le_of_ble_eq_true rfl) (Nat.le_of_ble_eq_true rfl) (Or.inl rfl) ⟨hw, _, rfl, hv⟩
theorem v_Cq_edits {a1 a2 : Int32} {S : hs_S} (hP : P_Cq_edits a1 a2 S) : vc_Cq_edits a1 a2 S (fun r S' => r = F_Cq_edits a1 a2 S ∧ S' = S) := ⟨hP.1, hP.2, rfl, rfl⟩
theorem f_Cq_edits {a1 : Int32} {a2 : Int32} {S : hs_S} (hw : hs_Wi S) (hP : P_Cq_edits a1 a2 S) : hs_M 6 yX10_edits (.code yX10_edits cX10_edits 3 (some FieldType.int)) [.inr (.inr (10, 1)), .inl a1, .inl a2] S 0 0 (hs_pd (some (.inl (F_Cq_edits a1 a2 S))) S) hs_nX := hs_pdI (ok_Cq_edits hw (v_Cq_edits hP))

def P_Cq_value (a1 a2 a3 : Int32) (S : hs_S) : Prop := P_Cq_needOwner a1 S ∧ P_Cq_cellAt a2 a3 S ∧ (¬ F_Rts_canRead 1 a1 (F_Cq_cellAt a2 a3) S = 0) ∧ P_Fnd_goTo 0 0 S ∧ fOk S 1 ∧ ∀ k, k < hs_sz S 12 → fOk S (S.2.1 3 (ed S k) 5)
def R_Cq_value (a1 a2 a3 : Int32) (S : hs_S) (r : Int32) (T : hs_S) : Prop := ∃ U, R_Fnd_goTo (S.1 10 1 5) 1 S U ∧ R_Fnd_numberOf (F_Cq_cellAt a2 a3) U r T
def m_Cq_value (a1 : Int32) (a2 : Int32) (a3 : Int32) (S : hs_S) (Q : Int32 → hs_S → Prop) : Prop := hs_M 52 yX10_value (.code yX10_value cX10_value 5 (some FieldType.int)) [.inr (.inr (10, 1)), .inl a1, .inl a2, .inl a3] S 0 0 (hs_qI Q) hs_nX
def vc_Cq_value (a1 : Int32) (a2 : Int32) (a3 : Int32) (S : hs_S) (Q : Int32 → hs_S → Prop) : Prop := ((P_Cq_needOwner a1 S) ∧ ((P_Cq_cellAt a2 a3 S) ∧ ((P_Cq_needReader a1 (F_Cq_cellAt a2 a3) S) ∧ ((P_Fnd_goTo (S.1 10 1 5) 1 S) ∧ (∀ S5 : hs_S, R_Fnd_goTo (S.1 10 1 5) 1 S S5 → ((P_Fnd_numberOf (F_Cq_cellAt a2 a3) S5) ∧ (∀ r10 : Int32, ∀ S9 : hs_S, R_Fnd_numberOf (F_Cq_cellAt a2 a3) S5 r10 S9 → (Q r10 S9))))))))
set_option maxRecDepth 100000 in
set_option maxHeartbeats 4000000 in
theorem ok_Cq_value {a1 : Int32} {a2 : Int32} {a3 : Int32} {S : hs_S} {Q : Int32 → hs_S → Prop} (hw : hs_Wi S) (hv : vc_Cq_value a1 a2 a3 S Q) : m_Cq_value a1 a2 a3 S Q := by
  unfold vc_Cq_value at hv
  refine hs_body (own := RX10) rfl rfl (Nat.le_of_ble_eq_true rfl) (fun Z X E N J0 => ?_)
  show wa Z 0 0 S 0 [(0, .inr (.inr (10, 1))), (1, .inl a1), (2, .inl a2), (3, .inl a3)] []
  refine wa_iload_n X 1 rfl dX10_value_0 rfl ?_
  obtain ⟨o1, hv⟩ := hv
  refine wa_callS X (As := [.inl a1]) (f_Cq_needOwner hw o1) kw_465 kw_21 kw_463 kw_464 nd_X10_needOwner rfl rfl (Nat.le_of_ble_eq_true rfl) dX10_value_1 ⟨⟨Nat.le_of_ble_eq_true rfl, Nat.le_of_ble_eq_true rfl⟩, Nat.le_of_ble_eq_true rfl, Nat.le_of_ble_eq_true rfl⟩ (hs_pdk0 ?_) (fun _ _ h => h.elim)
  refine wa_iload_n X 2 rfl dX10_value_4 rfl ?_
  refine wa_iload_n X 3 rfl dX10_value_5 rfl ?_
  obtain ⟨o2, hv⟩ := hv
  refine wa_callS X (As := [.inl a2, .inl a3]) (f_Cq_cellAt hw o2) kw_352 kw_21 kw_350 kw_351 nd_X10_cellAt rfl rfl (Nat.le_of_ble_eq_true rfl) dX10_value_6 ⟨⟨Nat.le_of_ble_eq_true rfl, Nat.le_of_ble_eq_true rfl⟩, Nat.le_of_ble_eq_true rfl, Nat.le_of_ble_eq_true rfl⟩ (hs_pdk0 ?_) (fun _ _ h => h.elim)
  refine wa_istore X (lv' := [(4, .inl (F_Cq_cellAt a2 a3)), (0, .inr (.inr (10, 1))), (1, .inl a1), (2, .inl a2), (3, .inl a3)]) dX10_value_9 (by decide) rfl ?_
  refine wa_aload_n X 1 rfl dX10_value_11 rfl ?_
  refine wa_iload_n X 2 rfl dX10_value_12 rfl ?_
  refine wa_iload X 0 rfl dX10_value_13 ?_
  obtain ⟨o3, hv⟩ := hv
  refine wa_callV X (As := [.inl a1, .inl (F_Cq_cellAt a2 a3)]) (f_Cq_needReader hw o3) hk_10 hc_10 rfl kw_728 kw_21 kw_725 kw_727 kw_6 nd_X10_needReader rfl rfl (Nat.le_of_ble_eq_true rfl) dX10_value_15 hs_1ne ⟨⟨Nat.le_of_ble_eq_true rfl, Nat.le_of_ble_eq_true rfl⟩, Nat.le_of_ble_eq_true rfl, Nat.le_of_ble_eq_true rfl⟩ (hs_pdk0 ?_) (fun _ _ h => h.elim)
  refine wa_aload_n X 1 rfl dX10_value_18 rfl ?_
  refine wa_getfw X hw (j := 2) (r := 1) hk_10 hc_10 i_10 (by decide) kw_329 rfl rfl (by decide) rfl dX10_value_19 hs_1ne ?_
  refine wa_aload_n X 1 rfl dX10_value_22 rfl ?_
  refine wa_getI X (j := 5) hk_10 hc_10 i_10 (by decide) kw_332 rfl dX10_value_23 hs_1ne ?_
  refine wa_aload_n X 1 rfl dX10_value_26 rfl ?_
  refine wa_getfw X hw (j := 0) (r := 1) hk_10 hc_10 i_10 (by decide) kw_327 rfl rfl (by decide) rfl dX10_value_27 hs_1ne ?_
  refine wa_getfw X hw (j := 0) (r := 1) hk_9 hc_9 i_9 (by decide) kw_134 rfl rfl (by decide) rfl dX10_value_30 hs_1ne ?_
  obtain ⟨o4, hv⟩ := hv
  refine wa_callV X (As := [.inl (S.1 10 1 5), .inr (.inr (7, 1))]) (ok_Fnd_goTo hs_1ne hw (v_Fnd_goTo o4)) hk_4 hc_4 rfl kw_737 kw_30 kw_734 kw_735 kw_736 nd_X4_goTo rfl rfl (Nat.le_of_ble_eq_true rfl) dX10_value_33 hs_1ne ⟨⟨Nat.le_of_ble_eq_true rfl, Nat.le_of_ble_eq_true rfl⟩, Nat.le_of_ble_eq_true rfl, Nat.le_of_ble_eq_true rfl⟩ (fun _ S5 h => ?_) (fun _ _ h => h.elim)
  obtain ⟨hw, rfl, g7⟩ := h
  replace hv := hv S5 g7
  refine wa_aload_n X 1 rfl dX10_value_36 rfl ?_
  refine wa_getfw X hw (j := 2) (r := 1) hk_10 hc_10 i_10 (by decide) kw_329 rfl rfl (by decide) rfl dX10_value_37 hs_1ne ?_
  refine wa_iload X 0 rfl dX10_value_40 ?_
  obtain ⟨o8, hv⟩ := hv
  refine wa_callV X (As := [.inl (F_Cq_cellAt a2 a3)]) (ok_Fnd_numberOf hw (v_Fnd_numberOf o8)) hk_4 hc_4 rfl kw_766 kw_30 kw_763 kw_764 kw_765 nd_X4_numberOf rfl rfl (Nat.le_of_ble_eq_true rfl) dX10_value_42 hs_1ne ⟨⟨Nat.le_of_ble_eq_true rfl, Nat.le_of_ble_eq_true rfl⟩, Nat.le_of_ble_eq_true rfl, Nat.le_of_ble_eq_true rfl⟩ (fun _ S9 h => ?_) (fun _ _ h => h.elim)
  obtain ⟨hw, r10, rfl, g11⟩ := h
  replace hv := hv r10 S9 g11
  exact wa_ireturn X E dX10_value_45 (Nat.le_of_ble_eq_true rfl) (Nat.le_of_ble_eq_true rfl) (Or.inl rfl) ⟨hw, _, rfl, hv⟩
theorem v_Cq_value {a1 a2 a3 : Int32} {S : hs_S} (hP : P_Cq_value a1 a2 a3 S) : vc_Cq_value a1 a2 a3 S (fun r T => R_Cq_value a1 a2 a3 S r T) := by
  obtain ⟨h1, h2, h3, h4, h5, h6⟩ := hP
  exact ⟨h1, h2, ⟨cellq_ix h2, h3⟩, h4, fun U hU => ⟨⟨FI_goTo (by decide) hU h4 ⟨h5, h6⟩, cellq h2⟩, fun r T hT => ⟨U, hU, hT⟩⟩⟩

def R_Cq_fault (a1 a2 a3 : Int32) (S : hs_S) (r : Int32) (T : hs_S) : Prop := ∃ U, R_Fnd_goTo (S.1 10 1 5) 1 S U ∧ R_Fnd_faultOf (F_Cq_cellAt a2 a3) U r T
def P_Cq_fault (a1 a2 a3 : Int32) (S : hs_S) : Prop := P_Cq_value a1 a2 a3 S
def m_Cq_fault (a1 : Int32) (a2 : Int32) (a3 : Int32) (S : hs_S) (Q : Int32 → hs_S → Prop) : Prop := hs_M 52 yX10_fault (.code yX10_fault cX10_fault 5 (some FieldType.int)) [.inr (.inr (10, 1)), .inl a1, .inl a2, .inl a3] S 0 0 (hs_qI Q) hs_nX
def vc_Cq_fault (a1 : Int32) (a2 : Int32) (a3 : Int32) (S : hs_S) (Q : Int32 → hs_S → Prop) : Prop := ((P_Cq_needOwner a1 S) ∧ ((P_Cq_cellAt a2 a3 S) ∧ ((P_Cq_needReader a1 (F_Cq_cellAt a2 a3) S) ∧ ((P_Fnd_goTo (S.1 10 1 5) 1 S) ∧ (∀ S5 : hs_S, R_Fnd_goTo (S.1 10 1 5) 1 S S5 → ((P_Fnd_faultOf (F_Cq_cellAt a2 a3) S5) ∧ (∀ r10 : Int32, ∀ S9 : hs_S, R_Fnd_faultOf (F_Cq_cellAt a2 a3) S5 r10 S9 → (Q r10 S9))))))))
set_option maxRecDepth 100000 in
set_option maxHeartbeats 4000000 in
theorem ok_Cq_fault {a1 : Int32} {a2 : Int32} {a3 : Int32} {S : hs_S} {Q : Int32 → hs_S → Prop} (hw : hs_Wi S) (hv : vc_Cq_fault a1 a2 a3 S Q) : m_Cq_fault a1 a2 a3 S Q := by
  unfold vc_Cq_fault at hv
  refine hs_body (own := RX10) rfl rfl (Nat.le_of_ble_eq_true rfl) (fun Z X E N J0 => ?_)
  show wa Z 0 0 S 0 [(0, .inr (.inr (10, 1))), (1, .inl a1), (2, .inl a2), (3, .inl a3)] []
  refine wa_iload_n X 1 rfl dX10_fault_0 rfl ?_
  obtain ⟨o1, hv⟩ := hv
  refine wa_callS X (As := [.inl a1]) (f_Cq_needOwner hw o1) kw_465 kw_21 kw_463 kw_464 nd_X10_needOwner rfl rfl (Nat.le_of_ble_eq_true rfl) dX10_fault_1 ⟨⟨Nat.le_of_ble_eq_true rfl, Nat.le_of_ble_eq_true rfl⟩, Nat.le_of_ble_eq_true rfl, Nat.le_of_ble_eq_true rfl⟩ (hs_pdk0 ?_) (fun _ _ h => h.elim)
  refine wa_iload_n X 2 rfl dX10_fault_4 rfl ?_
  refine wa_iload_n X 3 rfl dX10_fault_5 rfl ?_
  obtain ⟨o2, hv⟩ := hv
  refine wa_callS X (As := [.inl a2, .inl a3]) (f_Cq_cellAt hw o2) kw_352 kw_21 kw_350 kw_351 nd_X10_cellAt rfl rfl (Nat.le_of_ble_eq_true rfl) dX10_fault_6 ⟨⟨Nat.le_of_ble_eq_true rfl, Nat.le_of_ble_eq_true rfl⟩, Nat.le_of_ble_eq_true rfl, Nat.le_of_ble_eq_true rfl⟩ (hs_pdk0 ?_) (fun _ _ h => h.elim)
  refine wa_istore X (lv' := [(4, .inl (F_Cq_cellAt a2 a3)), (0, .inr (.inr (10, 1))), (1, .inl a1), (2, .inl a2), (3, .inl a3)]) dX10_fault_9 (by decide) rfl ?_
  refine wa_aload_n X 1 rfl dX10_fault_11 rfl ?_
  refine wa_iload_n X 2 rfl dX10_fault_12 rfl ?_
  refine wa_iload X 0 rfl dX10_fault_13 ?_
  obtain ⟨o3, hv⟩ := hv
  refine wa_callV X (As := [.inl a1, .inl (F_Cq_cellAt a2 a3)]) (f_Cq_needReader hw o3) hk_10 hc_10 rfl kw_728 kw_21 kw_725 kw_727 kw_6 nd_X10_needReader rfl rfl (Nat.le_of_ble_eq_true rfl) dX10_fault_15 hs_1ne ⟨⟨Nat.le_of_ble_eq_true rfl, Nat.le_of_ble_eq_true rfl⟩, Nat.le_of_ble_eq_true rfl, Nat.le_of_ble_eq_true rfl⟩ (hs_pdk0 ?_) (fun _ _ h => h.elim)
  refine wa_aload_n X 1 rfl dX10_fault_18 rfl ?_
  refine wa_getfw X hw (j := 2) (r := 1) hk_10 hc_10 i_10 (by decide) kw_329 rfl rfl (by decide) rfl dX10_fault_19 hs_1ne ?_
  refine wa_aload_n X 1 rfl dX10_fault_22 rfl ?_
  refine wa_getI X (j := 5) hk_10 hc_10 i_10 (by decide) kw_332 rfl dX10_fault_23 hs_1ne ?_
  refine wa_aload_n X 1 rfl dX10_fault_26 rfl ?_
  refine wa_getfw X hw (j := 0) (r := 1) hk_10 hc_10 i_10 (by decide) kw_327 rfl rfl (by decide) rfl dX10_fault_27 hs_1ne ?_
  refine wa_getfw X hw (j := 0) (r := 1) hk_9 hc_9 i_9 (by decide) kw_134 rfl rfl (by decide) rfl dX10_fault_30 hs_1ne ?_
  obtain ⟨o4, hv⟩ := hv
  refine wa_callV X (As := [.inl (S.1 10 1 5), .inr (.inr (7, 1))]) (ok_Fnd_goTo hs_1ne hw (v_Fnd_goTo o4)) hk_4 hc_4 rfl kw_737 kw_30 kw_734 kw_735 kw_736 nd_X4_goTo rfl rfl (Nat.le_of_ble_eq_true rfl) dX10_fault_33 hs_1ne ⟨⟨Nat.le_of_ble_eq_true rfl, Nat.le_of_ble_eq_true rfl⟩, Nat.le_of_ble_eq_true rfl, Nat.le_of_ble_eq_true rfl⟩ (fun _ S5 h => ?_) (fun _ _ h => h.elim)
  obtain ⟨hw, rfl, g7⟩ := h
  replace hv := hv S5 g7
  refine wa_aload_n X 1 rfl dX10_fault_36 rfl ?_
  refine wa_getfw X hw (j := 2) (r := 1) hk_10 hc_10 i_10 (by decide) kw_329 rfl rfl (by decide) rfl dX10_fault_37 hs_1ne ?_
  refine wa_iload X 0 rfl dX10_fault_40 ?_
  obtain ⟨o8, hv⟩ := hv
  refine wa_callV X (As := [.inl (F_Cq_cellAt a2 a3)]) (ok_Fnd_faultOf hw (v_Fnd_faultOf o8)) hk_4 hc_4 rfl kw_790 kw_30 kw_787 kw_788 kw_789 nd_X4_faultOf rfl rfl (Nat.le_of_ble_eq_true rfl) dX10_fault_42 hs_1ne ⟨⟨Nat.le_of_ble_eq_true rfl, Nat.le_of_ble_eq_true rfl⟩, Nat.le_of_ble_eq_true rfl, Nat.le_of_ble_eq_true rfl⟩ (fun _ S9 h => ?_) (fun _ _ h => h.elim)
  obtain ⟨hw, r10, rfl, g11⟩ := h
  replace hv := hv r10 S9 g11
  exact wa_ireturn X E dX10_fault_45 (Nat.le_of_ble_eq_true rfl) (Nat.le_of_ble_eq_true rfl) (Or.inl rfl) ⟨hw, _, rfl, hv⟩
theorem v_Cq_fault {a1 a2 a3 : Int32} {S : hs_S} (hP : P_Cq_fault a1 a2 a3 S) : vc_Cq_fault a1 a2 a3 S (fun r T => R_Cq_fault a1 a2 a3 S r T) := by
  obtain ⟨h1, h2, h3, h4, h5, h6⟩ := hP
  exact ⟨h1, h2, ⟨cellq_ix h2, h3⟩, h4, fun U hU => ⟨⟨FI_goTo (by decide) hU h4 ⟨h5, h6⟩, cellq h2⟩, fun r T hT => ⟨U, hU, hT⟩⟩⟩

def P_Cq_priceAnew (a1 : Int32) (S : hs_S) : Prop := P_Cq_roundNumbered a1 S ∧ P_Clr_reckonAll S
def R_Cq_priceAnew (a1 : Int32) (S : hs_S) (x : Int32) (T : hs_S) : Prop := ∃ (U : Nat → hs_S) (q : Nat → Int32), U 0 = S ∧ (∀ i, i < a1.toNatClampNeg + 1 → R_Clr_reckon (rd S i) (U i) (q i) (U (i + 1))) ∧ T = U (a1.toNatClampNeg + 1) ∧ x = T.1 8 (F_Cq_roundNumbered a1 S) 5
def m_Cq_priceAnew (a1 : Int32) (S : hs_S) (Q : Int32 → hs_S → Prop) : Prop := hs_M 54 yX10_priceAnew (.code yX10_priceAnew cX10_priceAnew 4 (some FieldType.int)) [.inr (.inr (10, 1)), .inl a1] S 0 0 (hs_qI Q) hs_nX
def vc_Cq_priceAnew (a1 : Int32) (S : hs_S) (Q : Int32 → hs_S → Prop) : Prop := ((P_Cq_roundNumbered a1 S) ∧ (∃ I3 : Nat → Int32 → hs_S → Prop, (∃ n8, I3 n8 (0 : Int32) S) ∧ (∀ N4 : Nat, ∀ x2 : Int32, ∀ S5 : hs_S, I3 N4 x2 S5 → ((a1 < x2 → (((F_Cq_roundNumbered a1 S) ≠ 0) ∧ (Q (S5.1 8 (F_Cq_roundNumbered a1 S) 5) S5))) ∧ (¬ a1 < x2 → (((nI (hs_sz S5 14)) ≤ x2 → (((F_Cq_roundNumbered a1 S) ≠ 0) ∧ (Q (S5.1 8 (F_Cq_roundNumbered a1 S) 5) S5))) ∧ (¬ (nI (hs_sz S5 14)) ≤ x2 → ((0 ≤ x2.toInt ∧ x2.toInt < (hs_sz S5 14)) ∧ (((S5.2.1 14 1 x2.toNatClampNeg) ≠ 0) ∧ ((P_Clr_reckon (S5.2.1 14 1 x2.toNatClampNeg) S5) ∧ (∀ r20 : Int32, ∀ S19 : hs_S, R_Clr_reckon (S5.2.1 14 1 x2.toNatClampNeg) S5 r20 S19 → (∃ q22, q22 < N4 ∧ I3 q22 (x2 + 1) S19))))))))))))
set_option maxRecDepth 100000 in
set_option maxHeartbeats 4000000 in
theorem ok_Cq_priceAnew {a1 : Int32} {S : hs_S} {Q : Int32 → hs_S → Prop} (hw : hs_Wi S) (hv : vc_Cq_priceAnew a1 S Q) : m_Cq_priceAnew a1 S Q := by
  unfold vc_Cq_priceAnew at hv
  refine hs_body (own := RX10) rfl rfl (Nat.le_of_ble_eq_true rfl) (fun Z X E N J0 => ?_)
  show wa Z 0 0 S 0 [(0, .inr (.inr (10, 1))), (1, .inl a1)] []
  refine wa_aload_n X 0 rfl dX10_priceAnew_0 rfl ?_
  refine wa_iload_n X 1 rfl dX10_priceAnew_1 rfl ?_
  obtain ⟨o1, hv⟩ := hv
  refine wa_callV X (As := [.inl a1]) (f_Cq_roundNumbered hw o1) hk_10 hc_10 rfl kw_991 kw_21 kw_988 kw_990 kw_18 nd_X10_roundNumbered rfl rfl (Nat.le_of_ble_eq_true rfl) dX10_priceAnew_2 hs_1ne ⟨⟨Nat.le_of_ble_eq_true rfl, Nat.le_of_ble_eq_true rfl⟩, Nat.le_of_ble_eq_true rfl, Nat.le_of_ble_eq_true rfl⟩ (hs_pdk0 ?_) (fun _ _ h => h.elim)
  refine wa_astore_n X (lv' := [(2, .inr (.inr (8, (F_Cq_roundNumbered a1 S)))), (0, .inr (.inr (10, 1))), (1, .inl a1)]) dX10_priceAnew_5 rfl (by decide) rfl ?_
  refine wa_iconst X dX10_priceAnew_6 kc0 ?_
  refine wa_istore_n X (lv' := [(3, .inl (0 : Int32)), (2, .inr (.inr (8, (F_Cq_roundNumbered a1 S)))), (0, .inr (.inr (10, 1))), (1, .inl a1)]) dX10_priceAnew_7 rfl (by decide) rfl ?_
  obtain ⟨I3, ⟨n8, i6⟩, b7⟩ := hv
  refine wa_lv (lv' := [(0, .inr (.inr (10, 1))), (1, .inl a1), (2, .inr (.inr (8, (F_Cq_roundNumbered a1 S)))), (3, .inl (0 : Int32))]) [2, 3, 1, 0] rfl ?_
  suffices L9 : ∀ N4 : Nat, ∀ x2 : Int32, ∀ S5 : hs_S, hs_Wi S5 → I3 N4 x2 S5 → wa Z 0 0 S5 8 [(0, .inr (.inr (10, 1))), (1, .inl a1), (2, .inr (.inr (8, (F_Cq_roundNumbered a1 S)))), (3, .inl x2)] [] from L9 _ _ _ hw i6
  clear hw
  clear i6
  intro N4
  induction N4 using Nat.strongRecOn with
  | _ N4 h10 =>
    intro x2 S5 hw j11
    have hv := b7 N4 x2 S5 j11
    refine wa_iload_n X 3 rfl dX10_priceAnew_8 rfl ?_
    refine wa_iload_n X 1 rfl dX10_priceAnew_9 rfl ?_
    refine wa_icmp_gt X (tgt := 59) dX10_priceAnew_10 (by decide) (fun c12 => ?_) (fun c12 => ?_)
    · replace hv := hv.1 c12
      refine wa_aload_n X 2 rfl dX10_priceAnew_59 rfl ?_
      obtain ⟨o13, hv⟩ := hv
      refine wa_getI X (j := 5) hk_8 hc_8 i_8 (by decide) kw_193 rfl dX10_priceAnew_60 o13 ?_
      exact wa_ireturn X E dX10_priceAnew_63 (Nat.le_of_ble_eq_true rfl) (Nat.le_of_ble_eq_true rfl) (Or.inl rfl) ⟨hw, _, rfl, hv⟩
    · replace hv := hv.2 c12
      refine wa_iload_n X 3 rfl dX10_priceAnew_13 rfl ?_
      refine wa_aload_n X 0 rfl dX10_priceAnew_14 rfl ?_
      refine wa_getfw X hw (j := 1) (r := 1) hk_10 hc_10 i_10 (by decide) kw_328 rfl rfl (by decide) rfl dX10_priceAnew_15 hs_1ne ?_
      refine wa_getfw X hw (j := 2) (r := 1) hk_1 hc_1 i_1 (by decide) kw_233 rfl rfl (by decide) rfl dX10_priceAnew_18 hs_1ne ?_
      refine wa_lsize X hk_14 kw_599 dX10_priceAnew_21 hs_1ne ⟨⟨Nat.le_of_ble_eq_true rfl, Nat.le_of_ble_eq_true rfl⟩, Nat.le_of_ble_eq_true rfl, Nat.le_of_ble_eq_true rfl⟩ (Nat.le_of_ble_eq_true rfl) ?_
      refine wa_icmp_ge X (tgt := 59) dX10_priceAnew_26 (by decide) (fun c14 => ?_) (fun c14 => ?_)
      · replace hv := hv.1 c14
        refine wa_aload_n X 2 rfl dX10_priceAnew_59 rfl ?_
        obtain ⟨o15, hv⟩ := hv
        refine wa_getI X (j := 5) hk_8 hc_8 i_8 (by decide) kw_193 rfl dX10_priceAnew_60 o15 ?_
        exact wa_ireturn X E dX10_priceAnew_63 (Nat.le_of_ble_eq_true rfl) (Nat.le_of_ble_eq_true rfl) (Or.inl rfl) ⟨hw, _, rfl, hv⟩
      · replace hv := hv.2 c14
        refine wa_aload_n X 0 rfl dX10_priceAnew_29 rfl ?_
        refine wa_getfw X hw (j := 3) (r := 1) hk_10 hc_10 i_10 (by decide) kw_330 rfl rfl (by decide) rfl dX10_priceAnew_30 hs_1ne ?_
        refine wa_aload_n X 0 rfl dX10_priceAnew_33 rfl ?_
        refine wa_getfw X hw (j := 1) (r := 1) hk_10 hc_10 i_10 (by decide) kw_328 rfl rfl (by decide) rfl dX10_priceAnew_34 hs_1ne ?_
        refine wa_getfw X hw (j := 2) (r := 1) hk_1 hc_1 i_1 (by decide) kw_233 rfl rfl (by decide) rfl dX10_priceAnew_37 hs_1ne ?_
        refine wa_iload_n X 3 rfl dX10_priceAnew_40 rfl ?_
        obtain ⟨o16, hv⟩ := hv
        refine wa_lget X hk_14 kw_900 dX10_priceAnew_41 hs_1ne ⟨⟨Nat.le_of_ble_eq_true rfl, Nat.le_of_ble_eq_true rfl⟩, Nat.le_of_ble_eq_true rfl, Nat.le_of_ble_eq_true rfl⟩ (Nat.le_of_ble_eq_true rfl) o16 ?_
        obtain ⟨o17, hv⟩ := hv
        refine wa_cast X hk_8 hc_8 kw_993 dX10_priceAnew_46 o17 ?_
        obtain ⟨o18, hv⟩ := hv
        refine wa_callV X (As := [.inr (.inr (8, (S5.2.1 14 1 x2.toNatClampNeg)))]) (ok_Clr_reckon o17 hw (v_Clr_reckon o18)) hk_2 hc_2 rfl kw_934 kw_31 kw_931 kw_932 kw_933 nd_X2_reckon rfl rfl (Nat.le_of_ble_eq_true rfl) dX10_priceAnew_49 hs_1ne ⟨⟨Nat.le_of_ble_eq_true rfl, Nat.le_of_ble_eq_true rfl⟩, Nat.le_of_ble_eq_true rfl, Nat.le_of_ble_eq_true rfl⟩ (fun _ S19 h => ?_) (fun _ _ h => h.elim)
        obtain ⟨hw, r20, rfl, g21⟩ := h
        replace hv := hv r20 S19 g21
        refine wa_pop X dX10_priceAnew_52 rfl ?_
        refine wa_iinc X (v := (x2 + 1)) (lv' := [(3, .inl (x2 + 1)), (0, .inr (.inr (10, 1))), (1, .inl a1), (2, .inr (.inr (8, (F_Cq_roundNumbered a1 S))))]) 3 rfl dX10_priceAnew_53 rfl (by decide) rfl ?_
        refine wa_goto X (tgt := 8) dX10_priceAnew_56 (by decide) ?_
        obtain ⟨q22, p23, hv⟩ := hv
        refine wa_lv (lv' := [(0, .inr (.inr (10, 1))), (1, .inl a1), (2, .inr (.inr (8, (F_Cq_roundNumbered a1 S)))), (3, .inl (x2 + 1))]) [1, 2, 3, 0] rfl ?_
        exact h10 q22 p23 _ _ hw hv
theorem v_Cq_priceAnew {a1 : Int32} {S : hs_S} (hP : P_Cq_priceAnew a1 S) : vc_Cq_priceAnew a1 S (fun x T => R_Cq_priceAnew a1 S x T) := by
  obtain ⟨hr, hg, hP⟩ := hP
  refine ⟨hr, ?_⟩
  have h0 := rndq_0 hr
  obtain ⟨_, b, hb, rfl, _⟩ := hr
  unfold R_Cq_priceAnew
  have eb : (nI b).toNatClampNeg = b := hl_cl (by omega)
  rw [eb]
  refine ⟨fun N y W => ∃ (k : Nat) (U : Nat → hs_S) (q : Nat → Int32), k ≤ b + 1 ∧ y = nI k ∧ N = b + 1 - k ∧ U 0 = S ∧ (∀ i, i < k → R_Clr_reckon (rd S i) (U i) (q i) (U (i + 1))) ∧ W = U k ∧ KF S W, ⟨b + 1, 0, fun _ => S, fun _ => 0, by omega, rfl, rfl, rfl, fun i hi => absurd hi (by omega), rfl, KF.rf⟩, ?_⟩
  rintro N y W ⟨k, U, q, hk, rfl, rfl, h0', hU, hW, hK⟩
  have ez : hs_sz W 14 = hs_sz S 14 := hK.2.1 14 2 0 (by decide) (by omega)
  have fin : nI b < nI k → k = b + 1 := fun h => by
    have := (hl_lt (a := b) (b := k) (by omega) (by omega)).mp h
    omega
  refine ⟨fun h => ⟨h0, U, q, h0', fin h ▸ hU, fin h ▸ hW, rfl⟩, fun h => ?_⟩
  have hkb : k ≤ b := by
    refine Nat.le_of_not_lt fun z => h ?_
    exact (hl_lt (a := b) (b := k) (by omega) (by omega)).mpr z
  rw [ez]
  refine ⟨fun h => ?_, fun h => ?_⟩
  · have := (hl_le (a := hs_sz S 14) (b := k) (by omega) (by omega)).mp h
    omega
  · have hk1 : k < hs_sz S 14 := by omega
    rw [hl_cl (by omega)]
    have erd : W.2.1 14 1 k = rd S k := hK.2.1 14 1 k (by decide) (by omega)
    rw [erd]
    refine ⟨hl_ix (by omega) (by omega), (hP k hk1).1, P_reckon_kf hK (hP k hk1).2, fun r T hT => ?_⟩
    refine ⟨b + 1 - (k + 1), by omega, k + 1, fun i => if i ≤ k then U i else T, fun i => if i = k then r else q i, by omega, nI_1 k, rfl, ?_, fun i hi => ?_, ?_, hK.tr (reckon_kf hT)⟩
    · show (if 0 ≤ k then U 0 else T) = S
      rw [if_pos (Nat.zero_le _)]; exact h0'
    · show R_Clr_reckon (rd S i) (if i ≤ k then U i else T) (if i = k then r else q i) (if i + 1 ≤ k then U (i + 1) else T)
      by_cases w : i = k
      · rw [if_pos w, if_pos (by omega), if_neg (by omega), w, ← hW]; exact hT
      · rw [if_neg w, if_pos (by omega), if_pos (by omega)]; exact hU i (by omega)
    · show T = if k + 1 ≤ k then U (k + 1) else T
      rw [if_neg (by omega)]

