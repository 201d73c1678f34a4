theorem ite_p {c A B : Prop} [Decidable c] (h : c) (z : if c then A else B) : A := by
  rw [if_pos h] at z; exact z
theorem ite_n {c A B : Prop} [Decidable c] (h : ¬ c) (z : if c then A else B) : B := by
  rw [if_neg h] at z; exact z
theorem ite_pi {c A B : Prop} [Decidable c] (h : c) (z : A) : if c then A else B := by
  rw [if_pos h]; exact z
theorem ite_ni {c A B : Prop} [Decidable c] (h : ¬ c) (z : B) : if c then A else B := by
  rw [if_neg h]; exact z
def E_Fml_append (i0 : Nat) (a1 a2 a3 : Int32) (S : hs_S) : hs_S := hs_wI (hs_wI (hs_wI (hs_wI (hs_wI S 22 i0 (S.1 5 i0 3).toNatClampNeg a1) 23 i0 (S.1 5 i0 3).toNatClampNeg a2) 24 i0 (S.1 5 i0 3).toNatClampNeg a3) 5 i0 3 (S.1 5 i0 3 + 1)) 5 i0 4 (S.1 5 i0 4 + (1 - F_takes a1))
def P_Fml_append (i0 : Nat) (a1 a2 a3 : Int32) (S : hs_S) : Prop := cN (S.1 5 i0 3) 11
def m_Fml_append (i0 : Nat) (a1 : Int32) (a2 : Int32) (a3 : Int32) (S : hs_S) (Q : hs_S → Prop) : Prop := hs_M 2 yX5_append (.code yX5_append cX5_append 4 none) [.inr (.inr (5, i0)), .inl a1, .inl a2, .inl a3] S 0 0 (hs_qV Q) hs_nX
def vc_Fml_append (i0 : Nat) (a1 : Int32) (a2 : Int32) (a3 : Int32) (S : hs_S) (Q : hs_S → Prop) : Prop := (((S.1 5 i0 3) < (12 : Int32) → ((0 ≤ (S.1 5 i0 3).toInt ∧ (S.1 5 i0 3).toInt < 12) ∧ (∀ S3 : hs_S, S3 = (hs_wI S 22 i0 (S.1 5 i0 3).toNatClampNeg a1) → ((0 ≤ (S3.1 5 i0 3).toInt ∧ (S3.1 5 i0 3).toInt < 12) ∧ (∀ S5 : hs_S, S5 = (hs_wI S3 23 i0 (S3.1 5 i0 3).toNatClampNeg a2) → ((0 ≤ (S5.1 5 i0 3).toInt ∧ (S5.1 5 i0 3).toInt < 12) ∧ (∀ S7 : hs_S, S7 = (hs_wI S5 24 i0 (S5.1 5 i0 3).toNatClampNeg a3) → (∀ S8 : hs_S, S8 = (hs_wI S7 5 i0 3 ((S7.1 5 i0 3) + (1 : Int32))) → (∀ S9 : hs_S, S9 = (hs_wI S8 5 i0 4 ((S8.1 5 i0 4) + ((1 : Int32) - (F_takes a1)))) → (Q S9)))))))))) ∧ (¬ (S.1 5 i0 3) < (12 : Int32) → (Q S)))
set_option maxRecDepth 100000 in
set_option maxHeartbeats 4000000 in
theorem ok_Fml_append {i0 : Nat} {a1 : Int32} {a2 : Int32} {a3 : Int32} {S : hs_S} {Q : hs_S → Prop} (hi0 : i0 ≠ 0) (hw : hs_Wi S) (hv : vc_Fml_append i0 a1 a2 a3 S Q) : m_Fml_append i0 a1 a2 a3 S Q := by
  unfold vc_Fml_append at hv
  refine hs_body (own := RX5) rfl rfl (Nat.le_of_ble_eq_true rfl) (fun Z X E N J0 => ?_)
  show wa Z 0 0 S 0 [(0, .inr (.inr (5, i0))), (1, .inl a1), (2, .inl a2), (3, .inl a3)] []
  refine wa_aload_n X 0 rfl dX5_append_0 rfl ?_
  refine wa_getI X (j := 3) hk_5 hc_5 i_5 (by decide) kw_116 rfl dX5_append_1 hi0 ?_
  refine wa_bipush X dX5_append_4 kb12 ?_
  refine wa_icmp_lt X (tgt := 10) dX5_append_6 (by decide) (fun c1 => ?_) (fun c1 => ?_)
  · replace hv := hv.1 c1
    refine wa_aload_n X 0 rfl dX5_append_10 rfl ?_
    refine wa_getfw X hw (j := 0) (r := i0) hk_5 hc_5 i_5 (by decide) kw_110 rfl rfl (by decide) rfl dX5_append_11 hi0 ?_
    refine wa_aload_n X 0 rfl dX5_append_14 rfl ?_
    refine wa_getI X (j := 3) hk_5 hc_5 i_5 (by decide) kw_116 rfl dX5_append_15 hi0 ?_
    refine wa_iload_n X 1 rfl dX5_append_18 rfl ?_
    obtain ⟨o2, hv⟩ := hv
    refine wa_iast X hk_22 dX5_append_19 hi0 o2 (hs_eqS fun S3 hS3 => ?_)
    replace hv := hv S3 hS3
    replace hw : hs_Wi S3 := hS3 ▸ hs_Wi_I hw
    refine wa_aload_n X 0 rfl dX5_append_20 rfl ?_
    refine wa_getfw X hw (j := 1) (r := i0) hk_5 hc_5 i_5 (by decide) kw_112 rfl rfl (by decide) rfl dX5_append_21 hi0 ?_
    refine wa_aload_n X 0 rfl dX5_append_24 rfl ?_
    refine wa_getI X (j := 3) hk_5 hc_5 i_5 (by decide) kw_116 rfl dX5_append_25 hi0 ?_
    refine wa_iload_n X 2 rfl dX5_append_28 rfl ?_
    obtain ⟨o4, hv⟩ := hv
    refine wa_iast X hk_23 dX5_append_29 hi0 o4 (hs_eqS fun S5 hS5 => ?_)
    replace hv := hv S5 hS5
    replace hw : hs_Wi S5 := hS5 ▸ hs_Wi_I hw
    refine wa_aload_n X 0 rfl dX5_append_30 rfl ?_
    refine wa_getfw X hw (j := 2) (r := i0) hk_5 hc_5 i_5 (by decide) kw_114 rfl rfl (by decide) rfl dX5_append_31 hi0 ?_
    refine wa_aload_n X 0 rfl dX5_append_34 rfl ?_
    refine wa_getI X (j := 3) hk_5 hc_5 i_5 (by decide) kw_116 rfl dX5_append_35 hi0 ?_
    refine wa_iload_n X 3 rfl dX5_append_38 rfl ?_
    obtain ⟨o6, hv⟩ := hv
    refine wa_iast X hk_24 dX5_append_39 hi0 o6 (hs_eqS fun S7 hS7 => ?_)
    replace hv := hv S7 hS7
    replace hw : hs_Wi S7 := hS7 ▸ hs_Wi_I hw
    refine wa_aload_n X 0 rfl dX5_append_40 rfl ?_
    refine wa_dup X dX5_append_41 rfl ?_
    refine wa_getI X (j := 3) hk_5 hc_5 i_5 (by decide) kw_116 rfl dX5_append_42 hi0 ?_
    refine wa_iconst X dX5_append_45 kc1 ?_
    refine wa_iadd X dX5_append_46 ?_
    refine wa_putI X (j := 3) hk_5 hc_5 i_5 tyX5 tyX5_ok nmX5 (by decide) kw_116 rfl rfl dX5_append_47 hi0 ⟨rfl, Or.inl rfl⟩ (hs_eqS fun S8 hS8 => ?_)
    replace hv := hv S8 hS8
    replace hw : hs_Wi S8 := hS8 ▸ hs_Wi_I hw
    refine wa_aload_n X 0 rfl dX5_append_50 rfl ?_
    refine wa_dup X dX5_append_51 rfl ?_
    refine wa_getI X (j := 4) hk_5 hc_5 i_5 (by decide) kw_119 rfl dX5_append_52 hi0 ?_
    refine wa_iconst X dX5_append_55 kc1 ?_
    refine wa_iload_n X 1 rfl dX5_append_56 rfl ?_
    refine wa_callSN X (As := [.inl a1]) (f_C_taken hw) kw_578 kw_21 kw_584 kw_577 nd_X10_taken rfl rfl (Nat.le_of_ble_eq_true rfl) dX5_append_57 ⟨⟨Nat.le_of_ble_eq_true rfl, Nat.le_of_ble_eq_true rfl⟩, Nat.le_of_ble_eq_true rfl, Nat.le_of_ble_eq_true rfl⟩ (hs_pdk0 ?_) (fun _ _ h => h.elim)
    refine wa_isub X dX5_append_60 ?_
    refine wa_iadd X dX5_append_61 ?_
    refine wa_putI X (j := 4) hk_5 hc_5 i_5 tyX5 tyX5_ok nmX5 (by decide) kw_119 rfl rfl dX5_append_62 hi0 ⟨rfl, Or.inl rfl⟩ (hs_eqS fun S9 hS9 => ?_)
    replace hv := hv S9 hS9
    replace hw : hs_Wi S9 := hS9 ▸ hs_Wi_I hw
    exact wa_return X E dX5_append_65 (Nat.le_of_ble_eq_true rfl) (Nat.le_of_ble_eq_true rfl) ⟨hw, rfl, hv⟩
  · replace hv := hv.2 c1
    exact wa_return X E dX5_append_9 (Nat.le_of_ble_eq_true rfl) (Nat.le_of_ble_eq_true rfl) ⟨hw, rfl, hv⟩
theorem v_Fml_append {i0 : Nat} {a1 a2 a3 : Int32} {S : hs_S} (hP : P_Fml_append i0 a1 a2 a3 S) : vc_Fml_append i0 a1 a2 a3 S (fun S' => S' = E_Fml_append i0 a1 a2 a3 S) := by
  obtain ⟨g, hg, eg⟩ := hP
  have hx : 0 ≤ (S.1 5 i0 3).toInt ∧ (S.1 5 i0 3).toInt < 12 := by rw [eg]; exact hl_ix (by omega) (by omega)
  have hlt : S.1 5 i0 3 < 12 := by rw [eg]; exact (hl_lt (a := g) (b := 12) (by omega) (by omega)).mpr (by omega)
  unfold vc_Fml_append
  refine ⟨fun _ => ⟨hx, ?_⟩, fun h => absurd hlt h⟩
  rintro _ rfl
  refine ⟨hx, ?_⟩
  rintro _ rfl
  refine ⟨hx, ?_⟩
  rintro _ rfl _ rfl _ rfl
  exact congrArg (fun z : Int32 => hs_wI (hs_wI (hs_wI (hs_wI (hs_wI S 22 i0 (S.1 5 i0 3).toNatClampNeg a1) 23 i0 (S.1 5 i0 3).toNatClampNeg a2) 24 i0 (S.1 5 i0 3).toNatClampNeg a3) 5 i0 3 (S.1 5 i0 3 + 1)) 5 i0 4 (z + (1 - F_takes a1))) (if_neg fun z => absurd z.2.2 (by decide))
theorem f_Fml_append {i0 : Nat} {a1 : Int32} {a2 : Int32} {a3 : Int32} {S : hs_S} (hi0 : i0 ≠ 0) (hw : hs_Wi S) (hP : P_Fml_append i0 a1 a2 a3 S) : hs_M 2 yX5_append (.code yX5_append cX5_append 4 none) [.inr (.inr (5, i0)), .inl a1, .inl a2, .inl a3] S 0 0 (hs_pd (none) (E_Fml_append i0 a1 a2 a3 S)) hs_nX := hs_pdV (ok_Fml_append hi0 hw (v_Fml_append hP))

def E_Fml_clear (i0 : Nat) (S : hs_S) : hs_S := hs_wI (hs_wI S 5 i0 3 0) 5 i0 4 0
def m_Fml_clear (i0 : Nat) (S : hs_S) (Q : hs_S → Prop) : Prop := hs_M 1 yX5_clear (.code yX5_clear cX5_clear 1 none) [.inr (.inr (5, i0))] S 0 0 (hs_qV Q) hs_nX
def vc_Fml_clear (i0 : Nat) (S : hs_S) (Q : hs_S → Prop) : Prop := (∀ S1 : hs_S, S1 = (hs_wI S 5 i0 3 (0 : Int32)) → (∀ S2 : hs_S, S2 = (hs_wI S1 5 i0 4 (0 : Int32)) → (Q S2)))
set_option maxRecDepth 100000 in
set_option maxHeartbeats 4000000 in
theorem ok_Fml_clear {i0 : Nat} {S : hs_S} {Q : hs_S → Prop} (hi0 : i0 ≠ 0) (hw : hs_Wi S) (hv : vc_Fml_clear i0 S Q) : m_Fml_clear i0 S Q := by
  unfold vc_Fml_clear at hv
  refine hs_body (own := RX5) rfl rfl (Nat.le_of_ble_eq_true rfl) (fun Z X E N J0 => ?_)
  show wa Z 0 0 S 0 [(0, .inr (.inr (5, i0)))] []
  refine wa_aload_n X 0 rfl dX5_clear_0 rfl ?_
  refine wa_iconst X dX5_clear_1 kc0 ?_
  refine wa_putI X (j := 3) hk_5 hc_5 i_5 tyX5 tyX5_ok nmX5 (by decide) kw_116 rfl rfl dX5_clear_2 hi0 ⟨rfl, Or.inl rfl⟩ (hs_eqS fun S1 hS1 => ?_)
  replace hv := hv S1 hS1
  replace hw : hs_Wi S1 := hS1 ▸ hs_Wi_I hw
  refine wa_aload_n X 0 rfl dX5_clear_5 rfl ?_
  refine wa_iconst X dX5_clear_6 kc0 ?_
  refine wa_putI X (j := 4) hk_5 hc_5 i_5 tyX5 tyX5_ok nmX5 (by decide) kw_119 rfl rfl dX5_clear_7 hi0 ⟨rfl, Or.inl rfl⟩ (hs_eqS fun S2 hS2 => ?_)
  replace hv := hv S2 hS2
  replace hw : hs_Wi S2 := hS2 ▸ hs_Wi_I hw
  exact wa_return X E dX5_clear_10 (Nat.le_of_ble_eq_true rfl) (Nat.le_of_ble_eq_true rfl) ⟨hw, rfl, hv⟩
theorem v_Fml_clear {i0 : Nat} {S : hs_S} : vc_Fml_clear i0 S (fun S' => S' = E_Fml_clear i0 S) := by
  rintro _ rfl _ rfl
  rfl
theorem f_Fml_clear {i0 : Nat} {S : hs_S} (hi0 : i0 ≠ 0) (hw : hs_Wi S) : hs_M 1 yX5_clear (.code yX5_clear cX5_clear 1 none) [.inr (.inr (5, i0))] S 0 0 (hs_pd (none) (E_Fml_clear i0 S)) hs_nX := hs_pdV (ok_Fml_clear hi0 hw (v_Fml_clear))

def E_Rts_copy (i0 r1 : Nat) (S : hs_S) : hs_S := hs_cpy (hs_cpy S 20 r1 20 i0 0 0 24) 21 r1 21 i0 0 0 24
def m_Rts_copy (i0 : Nat) (r1 : Nat) (S : hs_S) (Q : hs_S → Prop) : Prop := hs_M 2 yX7_copy (.code yX7_copy cX7_copy 2 none) [.inr (.inr (7, i0)), .inr (.inr (7, r1))] S 0 0 (hs_qV Q) hs_nX
def vc_Rts_copy (i0 : Nat) (r1 : Nat) (S : hs_S) (Q : hs_S → Prop) : Prop := (∀ S1 : hs_S, S1 = (hs_cpy S 20 r1 20 i0 (0 : Int32) (0 : Int32) (24 : Int32)) → (∀ S2 : hs_S, S2 = (hs_cpy S1 21 r1 21 i0 (0 : Int32) (0 : Int32) (24 : Int32)) → (Q S2)))
set_option maxRecDepth 100000 in
set_option maxHeartbeats 4000000 in
theorem ok_Rts_copy {i0 : Nat} {r1 : Nat} {S : hs_S} {Q : hs_S → Prop} (hi0 : i0 ≠ 0) (hr1 : r1 ≠ 0) (hw : hs_Wi S) (hv : vc_Rts_copy i0 r1 S Q) : m_Rts_copy i0 r1 S Q := by
  unfold vc_Rts_copy at hv
  refine hs_body (own := RX7) rfl rfl (Nat.le_of_ble_eq_true rfl) (fun Z X E N J0 => ?_)
  show wa Z 0 0 S 0 [(0, .inr (.inr (7, i0))), (1, .inr (.inr (7, r1)))] []
  refine wa_aload_n X 1 rfl dX7_copy_0 rfl ?_
  refine wa_getfw X hw (j := 0) (r := r1) hk_7 hc_7 i_7 (by decide) kw_67 rfl rfl (by decide) rfl dX7_copy_1 hr1 ?_
  refine wa_iconst X dX7_copy_4 kc0 ?_
  refine wa_aload_n X 0 rfl dX7_copy_5 rfl ?_
  refine wa_getfw X hw (j := 0) (r := i0) hk_7 hc_7 i_7 (by decide) kw_67 rfl rfl (by decide) rfl dX7_copy_6 hi0 ?_
  refine wa_iconst X dX7_copy_9 kc0 ?_
  refine wa_bipush X dX7_copy_10 kb24 ?_
  refine wa_copyi X hk_20 hk_20 kw_923 kw_707 kw_706 kw_45 dX7_copy_12 hr1 hi0 ⟨Nat.le_of_ble_eq_true rfl, Nat.le_of_ble_eq_true rfl⟩ (by decide) (by decide) (by decide) (Nat.le_of_ble_eq_true rfl) (Nat.le_of_ble_eq_true rfl) (hs_eqS fun S1 hS1 => ?_)
  replace hv := hv S1 hS1
  replace hw : hs_Wi S1 := hS1 ▸ hw
  refine wa_aload_n X 1 rfl dX7_copy_15 rfl ?_
  refine wa_getfw X hw (j := 1) (r := r1) hk_7 hc_7 i_7 (by decide) kw_71 rfl rfl (by decide) rfl dX7_copy_16 hr1 ?_
  refine wa_iconst X dX7_copy_19 kc0 ?_
  refine wa_aload_n X 0 rfl dX7_copy_20 rfl ?_
  refine wa_getfw X hw (j := 1) (r := i0) hk_7 hc_7 i_7 (by decide) kw_71 rfl rfl (by decide) rfl dX7_copy_21 hi0 ?_
  refine wa_iconst X dX7_copy_24 kc0 ?_
  refine wa_bipush X dX7_copy_25 kb24 ?_
  refine wa_copyi X hk_21 hk_21 kw_923 kw_707 kw_706 kw_45 dX7_copy_27 hr1 hi0 ⟨Nat.le_of_ble_eq_true rfl, Nat.le_of_ble_eq_true rfl⟩ (by decide) (by decide) (by decide) (Nat.le_of_ble_eq_true rfl) (Nat.le_of_ble_eq_true rfl) (hs_eqS fun S2 hS2 => ?_)
  replace hv := hv S2 hS2
  replace hw : hs_Wi S2 := hS2 ▸ hw
  exact wa_return X E dX7_copy_30 (Nat.le_of_ble_eq_true rfl) (Nat.le_of_ble_eq_true rfl) ⟨hw, rfl, hv⟩
theorem v_Rts_copy {i0 r1 : Nat} {S : hs_S} : vc_Rts_copy i0 r1 S (fun S' => S' = E_Rts_copy i0 r1 S) := by
  rintro _ rfl _ rfl
  rfl
theorem f_Rts_copy {i0 : Nat} {r1 : Nat} {S : hs_S} (hi0 : i0 ≠ 0) (hr1 : r1 ≠ 0) (hw : hs_Wi S) : hs_M 2 yX7_copy (.code yX7_copy cX7_copy 2 none) [.inr (.inr (7, i0)), .inr (.inr (7, r1))] S 0 0 (hs_pd (none) (E_Rts_copy i0 r1 S)) hs_nX := hs_pdV (ok_Rts_copy hi0 hr1 hw (v_Rts_copy))

def E_Rnd_freeze (i0 : Nat) (a1 a2 : Int32) (r3 : Nat) (S : hs_S) : hs_S := E_Rts_copy (i0 + 1) r3 (hs_wI (hs_wI S 8 i0 1 a1) 8 i0 3 a2)
def P_Rnd_freeze (i0 : Nat) (a1 a2 : Int32) (r3 : Nat) (S : hs_S) : Prop := a2 = 0 ∨ a2 = 1
def m_Rnd_freeze (i0 : Nat) (a1 : Int32) (a2 : Int32) (r3 : Nat) (S : hs_S) (Q : hs_S → Prop) : Prop := hs_M 3 yX8_freeze (.code yX8_freeze cX8_freeze 4 none) [.inr (.inr (8, i0)), .inl a1, .inl a2, .inr (.inr (7, r3))] S 0 0 (hs_qV Q) hs_nX
def vc_Rnd_freeze (i0 : Nat) (a1 : Int32) (a2 : Int32) (r3 : Nat) (S : hs_S) (Q : hs_S → Prop) : Prop := (∀ S1 : hs_S, S1 = (hs_wI S 8 i0 1 a1) → ((a2 = 0 ∨ a2 = 1) ∧ (∀ S3 : hs_S, S3 = (hs_wI S1 8 i0 3 a2) → (∀ S4 : hs_S, S4 = (E_Rts_copy (i0 + 1) r3 S3) → (Q S4)))))
set_option maxRecDepth 100000 in
set_option maxHeartbeats 4000000 in
theorem ok_Rnd_freeze {i0 : Nat} {a1 : Int32} {a2 : Int32} {r3 : Nat} {S : hs_S} {Q : hs_S → Prop} (hi0 : i0 ≠ 0) (hr3 : r3 ≠ 0) (hw : hs_Wi S) (hv : vc_Rnd_freeze i0 a1 a2 r3 S Q) : m_Rnd_freeze i0 a1 a2 r3 S Q := by
  unfold vc_Rnd_freeze at hv
  refine hs_body (own := RX8) rfl rfl (Nat.le_of_ble_eq_true rfl) (fun Z X E N J0 => ?_)
  show wa Z 0 0 S 0 [(0, .inr (.inr (8, i0))), (1, .inl a1), (2, .inl a2), (3, .inr (.inr (7, r3)))] []
  refine wa_aload_n X 0 rfl dX8_freeze_0 rfl ?_
  refine wa_iload_n X 1 rfl dX8_freeze_1 rfl ?_
  refine wa_putI X (j := 1) hk_8 hc_8 i_8 tyX8 tyX8_ok nmX8 (by decide) kw_179 rfl rfl dX8_freeze_2 hi0 ⟨rfl, Or.inl rfl⟩ (hs_eqS fun S1 hS1 => ?_)
  replace hv := hv S1 hS1
  replace hw : hs_Wi S1 := hS1 ▸ hs_Wi_I hw
  refine wa_aload_n X 0 rfl dX8_freeze_5 rfl ?_
  refine wa_iload_n X 2 rfl dX8_freeze_6 rfl ?_
  obtain ⟨o2, hv⟩ := hv
  refine wa_putI X (j := 3) hk_8 hc_8 i_8 tyX8 tyX8_ok nmX8 (by decide) kw_185 rfl rfl dX8_freeze_7 hi0 ⟨rfl, Or.inr ⟨rfl, o2⟩⟩ (hs_eqS fun S3 hS3 => ?_)
  replace hv := hv S3 hS3
  replace hw : hs_Wi S3 := hS3 ▸ hs_Wi_I hw
  refine wa_aload_n X 0 rfl dX8_freeze_10 rfl ?_
  refine wa_getfw X hw (j := 4) (r := (i0 + 1)) hk_8 hc_8 i_8 (by decide) kw_187 rfl rfl (by decide) rfl dX8_freeze_11 hi0 ?_
  refine wa_aload_n X 3 rfl dX8_freeze_14 rfl ?_
  refine wa_callV X (As := [.inr (.inr (7, r3))]) (f_Rts_copy (hs_sne _) hr3 hw) hk_7 hc_7 rfl kw_922 kw_23 kw_919 kw_920 kw_921 nd_X7_copy rfl rfl (Nat.le_of_ble_eq_true rfl) dX8_freeze_15 (hs_sne _) ⟨⟨Nat.le_of_ble_eq_true rfl, Nat.le_of_ble_eq_true rfl⟩, Nat.le_of_ble_eq_true rfl, Nat.le_of_ble_eq_true rfl⟩ (hs_pdk fun S4 hS4 hw => ?_) (fun _ _ h => h.elim)
  replace hv := hv S4 hS4
  exact wa_return X E dX8_freeze_18 (Nat.le_of_ble_eq_true rfl) (Nat.le_of_ble_eq_true rfl) ⟨hw, rfl, hv⟩
theorem v_Rnd_freeze {i0 : Nat} {a1 a2 : Int32} {r3 : Nat} {S : hs_S} (hP : P_Rnd_freeze i0 a1 a2 r3 S) : vc_Rnd_freeze i0 a1 a2 r3 S (fun S' => S' = E_Rnd_freeze i0 a1 a2 r3 S) := by
  rintro _ rfl
  refine ⟨hP, ?_⟩
  rintro _ rfl _ rfl
  rfl
theorem f_Rnd_freeze {i0 : Nat} {a1 : Int32} {a2 : Int32} {r3 : Nat} {S : hs_S} (hi0 : i0 ≠ 0) (hr3 : r3 ≠ 0) (hw : hs_Wi S) (hP : P_Rnd_freeze i0 a1 a2 r3 S) : hs_M 3 yX8_freeze (.code yX8_freeze cX8_freeze 4 none) [.inr (.inr (8, i0)), .inl a1, .inl a2, .inr (.inr (7, r3))] S 0 0 (hs_pd (none) (E_Rnd_freeze i0 a1 a2 r3 S)) hs_nX := hs_pdV (ok_Rnd_freeze hi0 hr3 hw (v_Rnd_freeze hP))

abbrev cTP (S : hs_S) (i : Nat) : Prop := S.1 0 i 8 = 0 ∧ S.1 0 i 7 = 2147483647 ∧ ¬ S.1 8 (S.2.1 0 i 2) 5 = -1 ∧ (if S.1 0 i 3 = 0 then ¬ S.1 8 (S.2.1 0 i 2) 5 < S.1 0 i 5 else ¬ S.1 0 i 5 < S.1 8 (S.2.1 0 i 2) 5)
def F_Bid_takesPart (i0 : Nat) (S : hs_S) : Int32 := bI (cTP S i0)
def P_Bid_takesPart (i0 : Nat) (S : hs_S) : Prop := S.2.1 0 i0 2 ≠ 0
def m_Bid_takesPart (i0 : Nat) (S : hs_S) (Q : Int32 → hs_S → Prop) : Prop := hs_M 1 yX0_takesPart (.code yX0_takesPart cX0_takesPart 1 (some FieldType.boolean)) [.inr (.inr (0, i0))] S 0 0 (hs_qI Q) hs_nX
def vc_Bid_takesPart (i0 : Nat) (S : hs_S) (Q : Int32 → hs_S → Prop) : Prop := ((¬ (S.1 0 i0 8) = 0 → (Q (0 : Int32) S)) ∧ ((S.1 0 i0 8) = 0 → ((¬ (S.1 0 i0 7) = (2147483647 : Int32) → (Q (0 : Int32) S)) ∧ ((S.1 0 i0 7) = (2147483647 : Int32) → (((S.2.1 0 i0 2) ≠ 0) ∧ ((¬ (S.1 8 (S.2.1 0 i0 2) 5) = (-1 : Int32) → (((S.1 0 i0 3) = 0 → (((S.1 8 (S.2.1 0 i0 2) 5) < (S.1 0 i0 5) → (Q (0 : Int32) S)) ∧ (¬ (S.1 8 (S.2.1 0 i0 2) 5) < (S.1 0 i0 5) → (Q (1 : Int32) S)))) ∧ (¬ (S.1 0 i0 3) = 0 → (((S.1 0 i0 5) < (S.1 8 (S.2.1 0 i0 2) 5) → (Q (0 : Int32) S)) ∧ (¬ (S.1 0 i0 5) < (S.1 8 (S.2.1 0 i0 2) 5) → (Q (1 : Int32) S)))))) ∧ ((S.1 8 (S.2.1 0 i0 2) 5) = (-1 : Int32) → (Q (0 : Int32) S))))))))
set_option maxRecDepth 100000 in
set_option maxHeartbeats 4000000 in
theorem ok_Bid_takesPart {i0 : Nat} {S : hs_S} {Q : Int32 → hs_S → Prop} (hi0 : i0 ≠ 0) (hw : hs_Wi S) (hv : vc_Bid_takesPart i0 S Q) : m_Bid_takesPart i0 S Q := by
  unfold vc_Bid_takesPart at hv
  refine hs_body (own := RX0) rfl rfl (Nat.le_of_ble_eq_true rfl) (fun Z X E N J0 => ?_)
  show wa Z 0 0 S 0 [(0, .inr (.inr (0, i0)))] []
  refine wa_aload_n X 0 rfl dX0_takesPart_0 rfl ?_
  refine wa_getI X (j := 8) hk_0 hc_0 i_0 (by decide) kw_862 rfl dX0_takesPart_1 hi0 ?_
  refine wa_if_ne X (tgt := 27) dX0_takesPart_4 (by decide) (fun c1 => ?_) (fun c1 => ?_)
  · replace hv := hv.1 c1
    refine wa_iconst X dX0_takesPart_27 kc0 ?_
    exact wa_ireturn X E dX0_takesPart_28 (Nat.le_of_ble_eq_true rfl) (Nat.le_of_ble_eq_true rfl) (Or.inr ⟨rfl, Or.inl rfl⟩) ⟨hw, _, rfl, hv⟩
  · replace hv := hv.2 c1
    refine wa_aload_n X 0 rfl dX0_takesPart_7 rfl ?_
    refine wa_getI X (j := 7) hk_0 hc_0 i_0 (by decide) kw_859 rfl dX0_takesPart_8 hi0 ?_
    refine wa_ldc X kw_835 dX0_takesPart_11 ?_
    refine wa_icmp_ne X (tgt := 27) dX0_takesPart_13 (by decide) (fun c2 => ?_) (fun c2 => ?_)
    · replace hv := hv.1 c2
      refine wa_iconst X dX0_takesPart_27 kc0 ?_
      exact wa_ireturn X E dX0_takesPart_28 (Nat.le_of_ble_eq_true rfl) (Nat.le_of_ble_eq_true rfl) (Or.inr ⟨rfl, Or.inl rfl⟩) ⟨hw, _, rfl, hv⟩
    · replace hv := hv.2 c2
      refine wa_aload_n X 0 rfl dX0_takesPart_16 rfl ?_
      refine wa_getR X (j := 2) hk_0 hc_0 i_0 (by decide) kw_841 rfl dX0_takesPart_17 hi0 ?_
      obtain ⟨o3, hv⟩ := hv
      refine wa_getI X (j := 5) hk_8 hc_8 i_8 (by decide) kw_192 rfl dX0_takesPart_20 o3 ?_
      refine wa_iconst X dX0_takesPart_23 kcm1 ?_
      refine wa_icmp_ne X (tgt := 29) dX0_takesPart_24 (by decide) (fun c4 => ?_) (fun c4 => ?_)
      · replace hv := hv.1 c4
        refine wa_aload_n X 0 rfl dX0_takesPart_29 rfl ?_
        refine wa_getI X (j := 3) hk_0 hc_0 i_0 (by decide) kw_846 rfl dX0_takesPart_30 hi0 ?_
        refine wa_if_eq X (tgt := 58) dX0_takesPart_33 (by decide) (fun c5 => ?_) (fun c5 => ?_)
        · replace hv := hv.1 c5
          refine wa_aload_n X 0 rfl dX0_takesPart_58 rfl ?_
          refine wa_getI X (j := 5) hk_0 hc_0 i_0 (by decide) kw_855 rfl dX0_takesPart_59 hi0 ?_
          refine wa_aload_n X 0 rfl dX0_takesPart_62 rfl ?_
          refine wa_getR X (j := 2) hk_0 hc_0 i_0 (by decide) kw_841 rfl dX0_takesPart_63 hi0 ?_
          refine wa_getI X (j := 5) hk_8 hc_8 i_8 (by decide) kw_192 rfl dX0_takesPart_66 o3 ?_
          refine wa_icmp_gt X (tgt := 76) dX0_takesPart_69 (by decide) (fun c6 => ?_) (fun c6 => ?_)
          · replace hv := hv.1 c6
            refine wa_iconst X dX0_takesPart_76 kc0 ?_
            exact wa_ireturn X E dX0_takesPart_77 (Nat.le_of_ble_eq_true rfl) (Nat.le_of_ble_eq_true rfl) (Or.inr ⟨rfl, Or.inl rfl⟩) ⟨hw, _, rfl, hv⟩
          · replace hv := hv.2 c6
            refine wa_iconst X dX0_takesPart_72 kc1 ?_
            refine wa_goto X (tgt := 77) dX0_takesPart_73 (by decide) ?_
            exact wa_ireturn X E dX0_takesPart_77 (Nat.le_of_ble_eq_true rfl) (Nat.le_of_ble_eq_true rfl) (Or.inr ⟨rfl, Or.inr rfl⟩) ⟨hw, _, rfl, hv⟩
        · replace hv := hv.2 c5
          refine wa_aload_n X 0 rfl dX0_takesPart_36 rfl ?_
          refine wa_getI X (j := 5) hk_0 hc_0 i_0 (by decide) kw_855 rfl dX0_takesPart_37 hi0 ?_
          refine wa_aload_n X 0 rfl dX0_takesPart_40 rfl ?_
          refine wa_getR X (j := 2) hk_0 hc_0 i_0 (by decide) kw_841 rfl dX0_takesPart_41 hi0 ?_
          refine wa_getI X (j := 5) hk_8 hc_8 i_8 (by decide) kw_192 rfl dX0_takesPart_44 o3 ?_
          refine wa_icmp_lt X (tgt := 54) dX0_takesPart_47 (by decide) (fun c7 => ?_) (fun c7 => ?_)
          · replace hv := hv.1 c7
            refine wa_iconst X dX0_takesPart_54 kc0 ?_
            refine wa_goto X (tgt := 77) dX0_takesPart_55 (by decide) ?_
            exact wa_ireturn X E dX0_takesPart_77 (Nat.le_of_ble_eq_true rfl) (Nat.le_of_ble_eq_true rfl) (Or.inr ⟨rfl, Or.inl rfl⟩) ⟨hw, _, rfl, hv⟩
          · replace hv := hv.2 c7
            refine wa_iconst X dX0_takesPart_50 kc1 ?_
            refine wa_goto X (tgt := 77) dX0_takesPart_51 (by decide) ?_
            exact wa_ireturn X E dX0_takesPart_77 (Nat.le_of_ble_eq_true rfl) (Nat.le_of_ble_eq_true rfl) (Or.inr ⟨rfl, Or.inr rfl⟩) ⟨hw, _, rfl, hv⟩
      · replace hv := hv.2 c4
        refine wa_iconst X dX0_takesPart_27 kc0 ?_
        exact wa_ireturn X E dX0_takesPart_28 (Nat.le_of_ble_eq_true rfl) (Nat.le_of_ble_eq_true rfl) (Or.inr ⟨rfl, Or.inl rfl⟩) ⟨hw, _, rfl, hv⟩
theorem v_Bid_takesPart {i0 : Nat} {S : hs_S} (hP : P_Bid_takesPart i0 S) : vc_Bid_takesPart i0 S (fun r S' => r = F_Bid_takesPart i0 S ∧ S' = S) := by
  unfold vc_Bid_takesPart F_Bid_takesPart
  exact ⟨fun h => ⟨Eq.symm (bI_f fun z => h z.1), rfl⟩, fun h1 => ⟨fun h => ⟨Eq.symm (bI_f fun z => h z.2.1), rfl⟩, fun h2 => ⟨hP, fun h3 => ⟨fun h4 => ⟨fun h5 => ⟨Eq.symm (bI_f fun z => ite_p h4 z.2.2.2 h5), rfl⟩, fun h5 => ⟨Eq.symm (bI_t ⟨h1, h2, h3, ite_pi h4 h5⟩), rfl⟩⟩, fun h4 => ⟨fun h5 => ⟨Eq.symm (bI_f fun z => ite_n h4 z.2.2.2 h5), rfl⟩, fun h5 => ⟨Eq.symm (bI_t ⟨h1, h2, h3, ite_ni h4 h5⟩), rfl⟩⟩⟩, fun h3 => ⟨Eq.symm (bI_f fun z => z.2.2.1 h3), rfl⟩⟩⟩⟩
theorem f_Bid_takesPart {i0 : Nat} {S : hs_S} (hi0 : i0 ≠ 0) (hw : hs_Wi S) (hP : P_Bid_takesPart i0 S) : hs_M 1 yX0_takesPart (.code yX0_takesPart cX0_takesPart 1 (some FieldType.boolean)) [.inr (.inr (0, i0))] S 0 0 (hs_pd (some (.inl (F_Bid_takesPart i0 S))) S) hs_nX := hs_pdI (ok_Bid_takesPart hi0 hw (v_Bid_takesPart hP))

abbrev cGA (S : hs_S) (i r : Nat) : Prop := if S.1 0 i 5 = S.1 0 r 5 then ¬ S.1 0 r 0 ≤ S.1 0 i 0 else if S.1 0 i 3 = 0 then ¬ S.1 0 r 5 ≤ S.1 0 i 5 else ¬ S.1 0 i 5 ≤ S.1 0 r 5
def F_Bid_goesAhead (i0 r1 : Nat) (S : hs_S) : Int32 := bI (cGA S i0 r1)
def m_Bid_goesAhead (i0 : Nat) (r1 : Nat) (S : hs_S) (Q : Int32 → hs_S → Prop) : Prop := hs_M 1 yX0_goesAhead (.code yX0_goesAhead cX0_goesAhead 2 (some FieldType.boolean)) [.inr (.inr (0, i0)), .inr (.inr (0, r1))] S 0 0 (hs_qI Q) hs_nX
def vc_Bid_goesAhead (i0 : Nat) (r1 : Nat) (S : hs_S) (Q : Int32 → hs_S → Prop) : Prop := ((¬ (S.1 0 i0 5) = (S.1 0 r1 5) → (((S.1 0 i0 3) = 0 → (((S.1 0 r1 5) ≤ (S.1 0 i0 5) → (Q (0 : Int32) S)) ∧ (¬ (S.1 0 r1 5) ≤ (S.1 0 i0 5) → (Q (1 : Int32) S)))) ∧ (¬ (S.1 0 i0 3) = 0 → (((S.1 0 i0 5) ≤ (S.1 0 r1 5) → (Q (0 : Int32) S)) ∧ (¬ (S.1 0 i0 5) ≤ (S.1 0 r1 5) → (Q (1 : Int32) S)))))) ∧ ((S.1 0 i0 5) = (S.1 0 r1 5) → (((S.1 0 r1 0) ≤ (S.1 0 i0 0) → (Q (0 : Int32) S)) ∧ (¬ (S.1 0 r1 0) ≤ (S.1 0 i0 0) → (Q (1 : Int32) S)))))
set_option maxRecDepth 100000 in
set_option maxHeartbeats 4000000 in
theorem ok_Bid_goesAhead {i0 : Nat} {r1 : Nat} {S : hs_S} {Q : Int32 → hs_S → Prop} (hi0 : i0 ≠ 0) (hr1 : r1 ≠ 0) (hw : hs_Wi S) (hv : vc_Bid_goesAhead i0 r1 S Q) : m_Bid_goesAhead i0 r1 S Q := by
  unfold vc_Bid_goesAhead at hv
  refine hs_body (own := RX0) rfl rfl (Nat.le_of_ble_eq_true rfl) (fun Z X E N J0 => ?_)
  show wa Z 0 0 S 0 [(0, .inr (.inr (0, i0))), (1, .inr (.inr (0, r1)))] []
  refine wa_aload_n X 0 rfl dX0_goesAhead_0 rfl ?_
  refine wa_getI X (j := 5) hk_0 hc_0 i_0 (by decide) kw_855 rfl dX0_goesAhead_1 hi0 ?_
  refine wa_aload_n X 1 rfl dX0_goesAhead_4 rfl ?_
  refine wa_getI X (j := 5) hk_0 hc_0 i_0 (by decide) kw_855 rfl dX0_goesAhead_5 hr1 ?_
  refine wa_icmp_ne X (tgt := 28) dX0_goesAhead_8 (by decide) (fun c1 => ?_) (fun c1 => ?_)
  · replace hv := hv.1 c1
    refine wa_aload_n X 0 rfl dX0_goesAhead_28 rfl ?_
    refine wa_getI X (j := 3) hk_0 hc_0 i_0 (by decide) kw_846 rfl dX0_goesAhead_29 hi0 ?_
    refine wa_if_eq X (tgt := 54) dX0_goesAhead_32 (by decide) (fun c2 => ?_) (fun c2 => ?_)
    · replace hv := hv.1 c2
      refine wa_aload_n X 0 rfl dX0_goesAhead_54 rfl ?_
      refine wa_getI X (j := 5) hk_0 hc_0 i_0 (by decide) kw_855 rfl dX0_goesAhead_55 hi0 ?_
      refine wa_aload_n X 1 rfl dX0_goesAhead_58 rfl ?_
      refine wa_getI X (j := 5) hk_0 hc_0 i_0 (by decide) kw_855 rfl dX0_goesAhead_59 hr1 ?_
      refine wa_icmp_ge X (tgt := 69) dX0_goesAhead_62 (by decide) (fun c3 => ?_) (fun c3 => ?_)
      · replace hv := hv.1 c3
        refine wa_iconst X dX0_goesAhead_69 kc0 ?_
        exact wa_ireturn X E dX0_goesAhead_70 (Nat.le_of_ble_eq_true rfl) (Nat.le_of_ble_eq_true rfl) (Or.inr ⟨rfl, Or.inl rfl⟩) ⟨hw, _, rfl, hv⟩
      · replace hv := hv.2 c3
        refine wa_iconst X dX0_goesAhead_65 kc1 ?_
        refine wa_goto X (tgt := 70) dX0_goesAhead_66 (by decide) ?_
        exact wa_ireturn X E dX0_goesAhead_70 (Nat.le_of_ble_eq_true rfl) (Nat.le_of_ble_eq_true rfl) (Or.inr ⟨rfl, Or.inr rfl⟩) ⟨hw, _, rfl, hv⟩
    · replace hv := hv.2 c2
      refine wa_aload_n X 0 rfl dX0_goesAhead_35 rfl ?_
      refine wa_getI X (j := 5) hk_0 hc_0 i_0 (by decide) kw_855 rfl dX0_goesAhead_36 hi0 ?_
      refine wa_aload_n X 1 rfl dX0_goesAhead_39 rfl ?_
      refine wa_getI X (j := 5) hk_0 hc_0 i_0 (by decide) kw_855 rfl dX0_goesAhead_40 hr1 ?_
      refine wa_icmp_le X (tgt := 50) dX0_goesAhead_43 (by decide) (fun c4 => ?_) (fun c4 => ?_)
      · replace hv := hv.1 c4
        refine wa_iconst X dX0_goesAhead_50 kc0 ?_
        refine wa_goto X (tgt := 70) dX0_goesAhead_51 (by decide) ?_
        exact wa_ireturn X E dX0_goesAhead_70 (Nat.le_of_ble_eq_true rfl) (Nat.le_of_ble_eq_true rfl) (Or.inr ⟨rfl, Or.inl rfl⟩) ⟨hw, _, rfl, hv⟩
      · replace hv := hv.2 c4
        refine wa_iconst X dX0_goesAhead_46 kc1 ?_
        refine wa_goto X (tgt := 70) dX0_goesAhead_47 (by decide) ?_
        exact wa_ireturn X E dX0_goesAhead_70 (Nat.le_of_ble_eq_true rfl) (Nat.le_of_ble_eq_true rfl) (Or.inr ⟨rfl, Or.inr rfl⟩) ⟨hw, _, rfl, hv⟩
  · replace hv := hv.2 c1
    refine wa_aload_n X 0 rfl dX0_goesAhead_11 rfl ?_
    refine wa_getI X (j := 0) hk_0 hc_0 i_0 (by decide) kw_836 rfl dX0_goesAhead_12 hi0 ?_
    refine wa_aload_n X 1 rfl dX0_goesAhead_15 rfl ?_
    refine wa_getI X (j := 0) hk_0 hc_0 i_0 (by decide) kw_836 rfl dX0_goesAhead_16 hr1 ?_
    refine wa_icmp_ge X (tgt := 26) dX0_goesAhead_19 (by decide) (fun c5 => ?_) (fun c5 => ?_)
    · replace hv := hv.1 c5
      refine wa_iconst X dX0_goesAhead_26 kc0 ?_
      exact wa_ireturn X E dX0_goesAhead_27 (Nat.le_of_ble_eq_true rfl) (Nat.le_of_ble_eq_true rfl) (Or.inr ⟨rfl, Or.inl rfl⟩) ⟨hw, _, rfl, hv⟩
    · replace hv := hv.2 c5
      refine wa_iconst X dX0_goesAhead_22 kc1 ?_
      refine wa_goto X (tgt := 27) dX0_goesAhead_23 (by decide) ?_
      exact wa_ireturn X E dX0_goesAhead_27 (Nat.le_of_ble_eq_true rfl) (Nat.le_of_ble_eq_true rfl) (Or.inr ⟨rfl, Or.inr rfl⟩) ⟨hw, _, rfl, hv⟩
theorem v_Bid_goesAhead {i0 r1 : Nat} {S : hs_S} : vc_Bid_goesAhead i0 r1 S (fun r S' => r = F_Bid_goesAhead i0 r1 S ∧ S' = S) := by
  unfold vc_Bid_goesAhead F_Bid_goesAhead
  exact ⟨fun h => ⟨fun h2 => ⟨fun h3 => ⟨Eq.symm (bI_f fun z => ite_p h2 (ite_n h z) h3), rfl⟩, fun h3 => ⟨Eq.symm (bI_t (ite_ni h (ite_pi h2 h3))), rfl⟩⟩, fun h2 => ⟨fun h3 => ⟨Eq.symm (bI_f fun z => ite_n h2 (ite_n h z) h3), rfl⟩, fun h3 => ⟨Eq.symm (bI_t (ite_ni h (ite_ni h2 h3))), rfl⟩⟩⟩, fun h => ⟨fun h3 => ⟨Eq.symm (bI_f fun z => ite_p h z h3), rfl⟩, fun h3 => ⟨Eq.symm (bI_t (ite_pi h h3)), rfl⟩⟩⟩
theorem f_Bid_goesAhead {i0 : Nat} {r1 : Nat} {S : hs_S} (hi0 : i0 ≠ 0) (hr1 : r1 ≠ 0) (hw : hs_Wi S) : hs_M 1 yX0_goesAhead (.code yX0_goesAhead cX0_goesAhead 2 (some FieldType.boolean)) [.inr (.inr (0, i0)), .inr (.inr (0, r1))] S 0 0 (hs_pd (some (.inl (F_Bid_goesAhead i0 r1 S))) S) hs_nX := hs_pdI (ok_Bid_goesAhead hi0 hr1 hw (v_Bid_goesAhead))

def F_Bid_feePaid (i0 : Nat) (S : hs_S) : Int32 := if S.1 0 i0 3 = 0 then 0 else F_Bid_worth i0 S * S.1 8 (S.2.1 0 i0 2) 7 / 1000
def P_Bid_feePaid (i0 : Nat) (S : hs_S) : Prop := S.2.1 0 i0 2 ≠ 0
def m_Bid_feePaid (i0 : Nat) (S : hs_S) (Q : Int32 → hs_S → Prop) : Prop := hs_M 2 yX0_feePaid (.code yX0_feePaid cX0_feePaid 1 (some FieldType.int)) [.inr (.inr (0, i0))] S 0 0 (hs_qI Q) hs_nX
def vc_Bid_feePaid (i0 : Nat) (S : hs_S) (Q : Int32 → hs_S → Prop) : Prop := (((S.1 0 i0 3) = 0 → (Q (0 : Int32) S)) ∧ (¬ (S.1 0 i0 3) = 0 → ((P_Bid_worth i0 S) ∧ (((S.2.1 0 i0 2) ≠ 0) ∧ (Q (((F_Bid_worth i0 S) * (S.1 8 (S.2.1 0 i0 2) 7)) / (1000 : Int32)) S)))))
set_option maxRecDepth 100000 in
set_option maxHeartbeats 4000000 in
theorem ok_Bid_feePaid {i0 : Nat} {S : hs_S} {Q : Int32 → hs_S → Prop} (hi0 : i0 ≠ 0) (hw : hs_Wi S) (hv : vc_Bid_feePaid i0 S Q) : m_Bid_feePaid i0 S Q := by
  unfold vc_Bid_feePaid at hv
  refine hs_body (own := RX0) rfl rfl (Nat.le_of_ble_eq_true rfl) (fun Z X E N J0 => ?_)
  show wa Z 0 0 S 0 [(0, .inr (.inr (0, i0)))] []
  refine wa_aload_n X 0 rfl dX0_feePaid_0 rfl ?_
  refine wa_getI X (j := 3) hk_0 hc_0 i_0 (by decide) kw_846 rfl dX0_feePaid_1 hi0 ?_
  refine wa_if_eq X (tgt := 26) dX0_feePaid_4 (by decide) (fun c1 => ?_) (fun c1 => ?_)
  · replace hv := hv.1 c1
    refine wa_iconst X dX0_feePaid_26 kc0 ?_
    exact wa_ireturn X E dX0_feePaid_27 (Nat.le_of_ble_eq_true rfl) (Nat.le_of_ble_eq_true rfl) (Or.inl rfl) ⟨hw, _, rfl, hv⟩
  · replace hv := hv.2 c1
    refine wa_aload_n X 0 rfl dX0_feePaid_7 rfl ?_
    obtain ⟨o2, hv⟩ := hv
    refine wa_callV X (As := []) (f_Bid_worth hi0 hw o2) hk_0 hc_0 rfl kw_487 kw_46 kw_484 kw_485 kw_486 nd_X0_worth rfl rfl (Nat.le_of_ble_eq_true rfl) dX0_feePaid_8 hi0 ⟨⟨Nat.le_of_ble_eq_true rfl, Nat.le_of_ble_eq_true rfl⟩, Nat.le_of_ble_eq_true rfl, Nat.le_of_ble_eq_true rfl⟩ (hs_pdk0 ?_) (fun _ _ h => h.elim)
    refine wa_aload_n X 0 rfl dX0_feePaid_11 rfl ?_
    refine wa_getR X (j := 2) hk_0 hc_0 i_0 (by decide) kw_841 rfl dX0_feePaid_12 hi0 ?_
    obtain ⟨o3, hv⟩ := hv
    refine wa_getI X (j := 7) hk_8 hc_8 i_8 (by decide) kw_199 rfl dX0_feePaid_15 o3 ?_
    refine wa_imul X dX0_feePaid_18 ?_
    refine wa_sipush X dX0_feePaid_19 ks1000 ?_
    refine wa_idiv X dX0_feePaid_22 (by decide) ?_
    refine wa_goto X (tgt := 27) dX0_feePaid_23 (by decide) ?_
    exact wa_ireturn X E dX0_feePaid_27 (Nat.le_of_ble_eq_true rfl) (Nat.le_of_ble_eq_true rfl) (Or.inl rfl) ⟨hw, _, rfl, hv⟩
theorem v_Bid_feePaid {i0 : Nat} {S : hs_S} (hP : P_Bid_feePaid i0 S) : vc_Bid_feePaid i0 S (fun r S' => r = F_Bid_feePaid i0 S ∧ S' = S) := by
  unfold vc_Bid_feePaid F_Bid_feePaid
  exact ⟨fun h => ⟨(if_pos h).symm, rfl⟩, fun h => ⟨hP, hP, (if_neg h).symm, rfl⟩⟩
theorem f_Bid_feePaid {i0 : Nat} {S : hs_S} (hi0 : i0 ≠ 0) (hw : hs_Wi S) (hP : P_Bid_feePaid i0 S) : hs_M 2 yX0_feePaid (.code yX0_feePaid cX0_feePaid 1 (some FieldType.int)) [.inr (.inr (0, i0))] S 0 0 (hs_pd (some (.inl (F_Bid_feePaid i0 S))) S) hs_nX := hs_pdI (ok_Bid_feePaid hi0 hw (v_Bid_feePaid hP))

def F_Bid_owed (i0 : Nat) (S : hs_S) : Int32 := if S.1 0 i0 3 = 0 then -(F_Bid_worth i0 S) else F_Bid_worth i0 S + F_Bid_feePaid i0 S
def P_Bid_owed (i0 : Nat) (S : hs_S) : Prop := S.2.1 0 i0 2 ≠ 0
def m_Bid_owed (i0 : Nat) (S : hs_S) (Q : Int32 → hs_S → Prop) : Prop := hs_M 3 yX0_owed (.code yX0_owed cX0_owed 1 (some FieldType.int)) [.inr (.inr (0, i0))] S 0 0 (hs_qI Q) hs_nX
def vc_Bid_owed (i0 : Nat) (S : hs_S) (Q : Int32 → hs_S → Prop) : Prop := (((S.1 0 i0 3) = 0 → ((P_Bid_worth i0 S) ∧ (Q (-(F_Bid_worth i0 S)) S))) ∧ (¬ (S.1 0 i0 3) = 0 → ((P_Bid_worth i0 S) ∧ ((P_Bid_feePaid i0 S) ∧ (Q ((F_Bid_worth i0 S) + (F_Bid_feePaid i0 S)) S)))))
set_option maxRecDepth 100000 in
set_option maxHeartbeats 4000000 in
theorem ok_Bid_owed {i0 : Nat} {S : hs_S} {Q : Int32 → hs_S → Prop} (hi0 : i0 ≠ 0) (hw : hs_Wi S) (hv : vc_Bid_owed i0 S Q) : m_Bid_owed i0 S Q := by
  unfold vc_Bid_owed at hv
  refine hs_body (own := RX0) rfl rfl (Nat.le_of_ble_eq_true rfl) (fun Z X E N J0 => ?_)
  show wa Z 0 0 S 0 [(0, .inr (.inr (0, i0)))] []
  refine wa_aload_n X 0 rfl dX0_owed_0 rfl ?_
  refine wa_getI X (j := 3) hk_0 hc_0 i_0 (by decide) kw_846 rfl dX0_owed_1 hi0 ?_
  refine wa_if_eq X (tgt := 19) dX0_owed_4 (by decide) (fun c1 => ?_) (fun c1 => ?_)
  · replace hv := hv.1 c1
    refine wa_aload_n X 0 rfl dX0_owed_19 rfl ?_
    obtain ⟨o2, hv⟩ := hv
    refine wa_callV X (As := []) (f_Bid_worth hi0 hw o2) hk_0 hc_0 rfl kw_487 kw_46 kw_484 kw_485 kw_486 nd_X0_worth rfl rfl (Nat.le_of_ble_eq_true rfl) dX0_owed_20 hi0 ⟨⟨Nat.le_of_ble_eq_true rfl, Nat.le_of_ble_eq_true rfl⟩, Nat.le_of_ble_eq_true rfl, Nat.le_of_ble_eq_true rfl⟩ (hs_pdk0 ?_) (fun _ _ h => h.elim)
    refine wa_ineg X dX0_owed_23 ?_
    exact wa_ireturn X E dX0_owed_24 (Nat.le_of_ble_eq_true rfl) (Nat.le_of_ble_eq_true rfl) (Or.inl rfl) ⟨hw, _, rfl, hv⟩
  · replace hv := hv.2 c1
    refine wa_aload_n X 0 rfl dX0_owed_7 rfl ?_
    obtain ⟨o3, hv⟩ := hv
    refine wa_callV X (As := []) (f_Bid_worth hi0 hw o3) hk_0 hc_0 rfl kw_487 kw_46 kw_484 kw_485 kw_486 nd_X0_worth rfl rfl (Nat.le_of_ble_eq_true rfl) dX0_owed_8 hi0 ⟨⟨Nat.le_of_ble_eq_true rfl, Nat.le_of_ble_eq_true rfl⟩, Nat.le_of_ble_eq_true rfl, Nat.le_of_ble_eq_true rfl⟩ (hs_pdk0 ?_) (fun _ _ h => h.elim)
    refine wa_aload_n X 0 rfl dX0_owed_11 rfl ?_
    obtain ⟨o4, hv⟩ := hv
    refine wa_callV X (As := []) (f_Bid_feePaid hi0 hw o4) hk_0 hc_0 rfl kw_491 kw_46 kw_488 kw_489 kw_490 nd_X0_feePaid rfl rfl (Nat.le_of_ble_eq_true rfl) dX0_owed_12 hi0 ⟨⟨Nat.le_of_ble_eq_true rfl, Nat.le_of_ble_eq_true rfl⟩, Nat.le_of_ble_eq_true rfl, Nat.le_of_ble_eq_true rfl⟩ (hs_pdk0 ?_) (fun _ _ h => h.elim)
    refine wa_iadd X dX0_owed_15 ?_
    refine wa_goto X (tgt := 24) dX0_owed_16 (by decide) ?_
    exact wa_ireturn X E dX0_owed_24 (Nat.le_of_ble_eq_true rfl) (Nat.le_of_ble_eq_true rfl) (Or.inl rfl) ⟨hw, _, rfl, hv⟩
theorem v_Bid_owed {i0 : Nat} {S : hs_S} (hP : P_Bid_owed i0 S) : vc_Bid_owed i0 S (fun r S' => r = F_Bid_owed i0 S ∧ S' = S) := by
  unfold vc_Bid_owed F_Bid_owed
  exact ⟨fun h => ⟨hP, (if_pos h).symm, rfl⟩, fun h => ⟨hP, hP, (if_neg h).symm, rfl⟩⟩
theorem f_Bid_owed {i0 : Nat} {S : hs_S} (hi0 : i0 ≠ 0) (hw : hs_Wi S) (hP : P_Bid_owed i0 S) : hs_M 3 yX0_owed (.code yX0_owed cX0_owed 1 (some FieldType.int)) [.inr (.inr (0, i0))] S 0 0 (hs_pd (some (.inl (F_Bid_owed i0 S))) S) hs_nX := hs_pdI (ok_Bid_owed hi0 hw (v_Bid_owed hP))

abbrev cSd (S : hs_S) (i r : Nat) (b : Int32) : Prop := S.2.1 0 i 2 = r ∧ S.1 0 i 3 = b ∧ cTP S i
def F_Clr_isOnSide (r1 r2 : Nat) (a3 : Int32) (S : hs_S) : Int32 := bI (cSd S r1 r2 a3)
def P_Clr_isOnSide (r1 r2 : Nat) (a3 : Int32) (S : hs_S) : Prop := S.2.1 0 r1 2 ≠ 0
def m_Clr_isOnSide (r1 : Nat) (r2 : Nat) (a3 : Int32) (S : hs_S) (Q : Int32 → hs_S → Prop) : Prop := hs_M 2 yX2_isOnSide (.code yX2_isOnSide cX2_isOnSide 3 (some FieldType.boolean)) [.inr (.inr (0, r1)), .inr (.inr (8, r2)), .inl a3] S 0 0 (hs_qI Q) hs_nX
def vc_Clr_isOnSide (r1 : Nat) (r2 : Nat) (a3 : Int32) (S : hs_S) (Q : Int32 → hs_S → Prop) : Prop := ((¬ (S.2.1 0 r1 2) = r2 → (Q (0 : Int32) S)) ∧ ((S.2.1 0 r1 2) = r2 → ((¬ (S.1 0 r1 3) = a3 → (Q (0 : Int32) S)) ∧ ((S.1 0 r1 3) = a3 → ((P_Bid_takesPart r1 S) ∧ (((F_Bid_takesPart r1 S) = 0 → (Q (0 : Int32) S)) ∧ (¬ (F_Bid_takesPart r1 S) = 0 → (Q (1 : Int32) S))))))))
set_option maxRecDepth 100000 in
set_option maxHeartbeats 4000000 in
theorem ok_Clr_isOnSide {r1 : Nat} {r2 : Nat} {a3 : Int32} {S : hs_S} {Q : Int32 → hs_S → Prop} (hr1 : r1 ≠ 0) (hr2 : r2 ≠ 0) (hw : hs_Wi S) (hv : vc_Clr_isOnSide r1 r2 a3 S Q) : m_Clr_isOnSide r1 r2 a3 S Q := by
  unfold vc_Clr_isOnSide at hv
  refine hs_body (own := RX2) rfl rfl (Nat.le_of_ble_eq_true rfl) (fun Z X E N J0 => ?_)
  show wa Z 0 0 S 0 [(0, .inr (.inr (0, r1))), (1, .inr (.inr (8, r2))), (2, .inl a3)] []
  refine wa_aload_n X 0 rfl dX2_isOnSide_0 rfl ?_
  refine wa_getR X (j := 2) hk_0 hc_0 i_0 (by decide) kw_843 rfl dX2_isOnSide_1 hr1 ?_
  refine wa_aload_n X 1 rfl dX2_isOnSide_4 rfl ?_
  refine wa_acmp_ne X (by decide) (tgt := 27) dX2_isOnSide_5 (by decide) (fun c1 => ?_) (fun c1 => ?_)
  · replace hv := hv.1 c1
    refine wa_iconst X dX2_isOnSide_27 kc0 ?_
    exact wa_ireturn X E dX2_isOnSide_28 (Nat.le_of_ble_eq_true rfl) (Nat.le_of_ble_eq_true rfl) (Or.inr ⟨rfl, Or.inl rfl⟩) ⟨hw, _, rfl, hv⟩
  · replace hv := hv.2 c1
    refine wa_aload_n X 0 rfl dX2_isOnSide_8 rfl ?_
    refine wa_getI X (j := 3) hk_0 hc_0 i_0 (by decide) kw_848 rfl dX2_isOnSide_9 hr1 ?_
    refine wa_iload_n X 2 rfl dX2_isOnSide_12 rfl ?_
    refine wa_icmp_ne X (tgt := 27) dX2_isOnSide_13 (by decide) (fun c2 => ?_) (fun c2 => ?_)
    · replace hv := hv.1 c2
      refine wa_iconst X dX2_isOnSide_27 kc0 ?_
      exact wa_ireturn X E dX2_isOnSide_28 (Nat.le_of_ble_eq_true rfl) (Nat.le_of_ble_eq_true rfl) (Or.inr ⟨rfl, Or.inl rfl⟩) ⟨hw, _, rfl, hv⟩
    · replace hv := hv.2 c2
      refine wa_aload_n X 0 rfl dX2_isOnSide_16 rfl ?_
      obtain ⟨o3, hv⟩ := hv
      refine wa_callV X (As := []) (f_Bid_takesPart hr1 hw o3) hk_0 hc_0 rfl kw_967 kw_46 kw_964 kw_965 kw_966 nd_X0_takesPart rfl rfl (Nat.le_of_ble_eq_true rfl) dX2_isOnSide_17 hr1 ⟨⟨Nat.le_of_ble_eq_true rfl, Nat.le_of_ble_eq_true rfl⟩, Nat.le_of_ble_eq_true rfl, Nat.le_of_ble_eq_true rfl⟩ (hs_pdk0 ?_) (fun _ _ h => h.elim)
      refine wa_if_eq X (tgt := 27) dX2_isOnSide_20 (by decide) (fun c4 => ?_) (fun c4 => ?_)
      · replace hv := hv.1 c4
        refine wa_iconst X dX2_isOnSide_27 kc0 ?_
        exact wa_ireturn X E dX2_isOnSide_28 (Nat.le_of_ble_eq_true rfl) (Nat.le_of_ble_eq_true rfl) (Or.inr ⟨rfl, Or.inl rfl⟩) ⟨hw, _, rfl, hv⟩
      · replace hv := hv.2 c4
        refine wa_iconst X dX2_isOnSide_23 kc1 ?_
        refine wa_goto X (tgt := 28) dX2_isOnSide_24 (by decide) ?_
        exact wa_ireturn X E dX2_isOnSide_28 (Nat.le_of_ble_eq_true rfl) (Nat.le_of_ble_eq_true rfl) (Or.inr ⟨rfl, Or.inr rfl⟩) ⟨hw, _, rfl, hv⟩
theorem v_Clr_isOnSide {r1 r2 : Nat} {a3 : Int32} {S : hs_S} (hP : P_Clr_isOnSide r1 r2 a3 S) : vc_Clr_isOnSide r1 r2 a3 S (fun r S' => r = F_Clr_isOnSide r1 r2 a3 S ∧ S' = S) := by
  unfold vc_Clr_isOnSide F_Clr_isOnSide
  exact ⟨fun h => ⟨(bI_f fun z => h z.1).symm, rfl⟩, fun h => ⟨fun h2 => ⟨(bI_f fun z => h2 z.2.1).symm, rfl⟩, fun h2 => ⟨hP, fun h3 => ⟨(bI_f fun z => bI_eq0.mp h3 z.2.2).symm, rfl⟩, fun h3 => ⟨(bI_t ⟨h, h2, Classical.not_not.mp fun w => h3 (bI_eq0.mpr w)⟩).symm, rfl⟩⟩⟩⟩
theorem f_Clr_isOnSide {r1 : Nat} {r2 : Nat} {a3 : Int32} {S : hs_S} (hr1 : r1 ≠ 0) (hr2 : r2 ≠ 0) (hw : hs_Wi S) (hP : P_Clr_isOnSide r1 r2 a3 S) : hs_M 2 yX2_isOnSide (.code yX2_isOnSide cX2_isOnSide 3 (some FieldType.boolean)) [.inr (.inr (0, r1)), .inr (.inr (8, r2)), .inl a3] S 0 0 (hs_pd (some (.inl (F_Clr_isOnSide r1 r2 a3 S))) S) hs_nX := hs_pdI (ok_Clr_isOnSide hr1 hr2 hw (v_Clr_isOnSide hP))

def F_Fnd_isEmpty (a1 : Int32) (S : hs_S) : Int32 := bI (S.1 5 (S.2.1 28 1 a1.toNatClampNeg) 3 = 0)
def P_Fnd_isEmpty (a1 : Int32) (S : hs_S) : Prop := (0 ≤ a1.toInt ∧ a1.toInt < 24) ∧ S.2.1 28 1 a1.toNatClampNeg ≠ 0
def m_Fnd_isEmpty (a1 : Int32) (S : hs_S) (Q : Int32 → hs_S → Prop) : Prop := hs_M 1 yX4_isEmpty (.code yX4_isEmpty cX4_isEmpty 2 (some FieldType.boolean)) [.inr (.inr (4, 1)), .inl a1] S 0 0 (hs_qI Q) hs_nX
def vc_Fnd_isEmpty (a1 : Int32) (S : hs_S) (Q : Int32 → hs_S → Prop) : Prop := ((0 ≤ a1.toInt ∧ a1.toInt < 24) ∧ (((S.2.1 28 1 a1.toNatClampNeg) ≠ 0) ∧ ((¬ (S.1 5 (S.2.1 28 1 a1.toNatClampNeg) 3) = 0 → (Q (0 : Int32) S)) ∧ ((S.1 5 (S.2.1 28 1 a1.toNatClampNeg) 3) = 0 → (Q (1 : Int32) S)))))
set_option maxRecDepth 100000 in
set_option maxHeartbeats 4000000 in
theorem ok_Fnd_isEmpty {a1 : Int32} {S : hs_S} {Q : Int32 → hs_S → Prop} (hw : hs_Wi S) (hv : vc_Fnd_isEmpty a1 S Q) : m_Fnd_isEmpty a1 S Q := by
  unfold vc_Fnd_isEmpty at hv
  refine hs_body (own := RX4) rfl rfl (Nat.le_of_ble_eq_true rfl) (fun Z X E N J0 => ?_)
  show wa Z 0 0 S 0 [(0, .inr (.inr (4, 1))), (1, .inl a1)] []
  refine wa_aload_n X 0 rfl dX4_isEmpty_0 rfl ?_
  refine wa_getfw X hw (j := 3) (r := 1) hk_4 hc_4 i_4 (by decide) kw_258 rfl rfl (by decide) rfl dX4_isEmpty_1 hs_1ne ?_
  refine wa_iload_n X 1 rfl dX4_isEmpty_4 rfl ?_
  obtain ⟨o1, hv⟩ := hv
  refine wa_aald X hk_28 dX4_isEmpty_5 hs_1ne o1 ?_
  obtain ⟨o2, hv⟩ := hv
  refine wa_getI X (j := 3) hk_5 hc_5 i_5 (by decide) kw_117 rfl dX4_isEmpty_6 o2 ?_
  refine wa_if_ne X (tgt := 16) dX4_isEmpty_9 (by decide) (fun c3 => ?_) (fun c3 => ?_)
  · replace hv := hv.1 c3
    refine wa_iconst X dX4_isEmpty_16 kc0 ?_
    exact wa_ireturn X E dX4_isEmpty_17 (Nat.le_of_ble_eq_true rfl) (Nat.le_of_ble_eq_true rfl) (Or.inr ⟨rfl, Or.inl rfl⟩) ⟨hw, _, rfl, hv⟩
  · replace hv := hv.2 c3
    refine wa_iconst X dX4_isEmpty_12 kc1 ?_
    refine wa_goto X (tgt := 17) dX4_isEmpty_13 (by decide) ?_
    exact wa_ireturn X E dX4_isEmpty_17 (Nat.le_of_ble_eq_true rfl) (Nat.le_of_ble_eq_true rfl) (Or.inr ⟨rfl, Or.inr rfl⟩) ⟨hw, _, rfl, hv⟩
theorem v_Fnd_isEmpty {a1 : Int32} {S : hs_S} (hP : P_Fnd_isEmpty a1 S) : vc_Fnd_isEmpty a1 S (fun r S' => r = F_Fnd_isEmpty a1 S ∧ S' = S) := by
  unfold vc_Fnd_isEmpty F_Fnd_isEmpty
  exact ⟨hP.1, hP.2, fun h => ⟨(bI_f h).symm, rfl⟩, fun h => ⟨(bI_t h).symm, rfl⟩⟩
theorem f_Fnd_isEmpty {a1 : Int32} {S : hs_S} (hw : hs_Wi S) (hP : P_Fnd_isEmpty a1 S) : hs_M 1 yX4_isEmpty (.code yX4_isEmpty cX4_isEmpty 2 (some FieldType.boolean)) [.inr (.inr (4, 1)), .inl a1] S 0 0 (hs_pd (some (.inl (F_Fnd_isEmpty a1 S))) S) hs_nX := hs_pdI (ok_Fnd_isEmpty hw (v_Fnd_isEmpty hP))

