theorem gVal_ex (E : gE) (c : Int32) : ∃ f v, gVal E c f v := by
  by_cases h : ∃ n r, gev E n c 0 [] = some r
  · obtain ⟨n, r, h⟩ := h
    exact ⟨r.1, r.2, Or.inl ⟨n, h⟩⟩
  · refine ⟨2, 0, Or.inr ⟨rfl, rfl, fun n => ?_⟩⟩
    cases q : gev E n c 0 [] with
    | none => rfl
    | some r => exact absurd ⟨n, r, q⟩ h
theorem FI_row {S T : hs_S} {fs : List Frm} (h2 : T.2 = S.2) (h5 : T.1 5 = S.1 5) (h20 : T.1 20 = S.1 20) (h21 : T.1 21 = S.1 21) (h22 : T.1 22 = S.1 22) (h23 : T.1 23 = S.1 23) (h24 : T.1 24 = S.1 24) (h33 : T.1 33 = S.1 33) (h29 : T.1 29 = S.1 29) (h30 : T.1 30 = S.1 30) (h31 : T.1 31 = S.1 31) (h : FI S fs) : FI T fs := by
  have he : cEnv T = cEnv S := by
    unfold cEnv
    rw [h5, h20, h21, h22, h23, h24, h33, h2]
  obtain ⟨a, b, c, d⟩ := h
  unfold FI
  rw [he, h29, h30, h31]
  refine ⟨⟨by rw [h2]; exact a.1, fun n hn => ?_⟩, b, c, d⟩
  rw [h2]
  exact ⟨(a.2 n hn).1, fOk_eq h5 h22 h23 h24 (a.2 n hn).2⟩
def cY (em f v : Int32) : Int32 := if em = 0 then (if f = 0 then (if 0 ≤ v then 0 else 6) else f) else 5
/-- while the price is found -/
def RF (r : Nat) (S U : hs_S) : Prop := U.2 = S.2 ∧ FI U [] ∧ ∀ t i p, hs_fs t p = false → ¬ (t = 8 ∧ i = r ∧ (p = 5 ∨ p = 7 ∨ p = 8)) → U.1 t i p = S.1 t i p
theorem RF.fs {r : Nat} {S U V : hs_S} (h : RF r S U) (k : FS U V) (q : FI V []) : RF r S V := ⟨k.1.trans h.1, q, fun t i p a b => (k.2 t i p a).trans (h.2.2 t i p a b)⟩
theorem RF.w {r p : Nat} {S U : hs_S} {x : Int32} (h : RF r S U) (q : p = 5 ∨ p = 7 ∨ p = 8) : RF r S (hs_wI U 8 r p x) := by
  refine ⟨h.1, FI_row (S := U) (T := hs_wI U 8 r p x) rfl rfl rfl rfl rfl rfl rfl rfl rfl rfl rfl h.2.1, fun a b c h1 h2 => ?_⟩
  rw [← h.2.2 a b c h1 h2]
  exact if_neg fun z => h2 ⟨z.1, z.2.1, by rw [z.2.2]; exact q⟩
theorem RF.row {r t : Nat} {S U : hs_S} (h : RF r S U) (h8 : t ≠ 8) (hf : ∀ p, hs_fs t p = false) : U.1 t = S.1 t := funext fun i => funext fun p => h.2.2 t i p (hf p) fun z => h8 z.1
theorem RF.env {r : Nat} {S U : hs_S} (h : RF r S U) : cEnv U = cEnv S := by
  unfold cEnv
  rw [h.row (t := 5) (by decide) (fun _ => rfl), h.row (t := 20) (by decide) (fun _ => rfl), h.row (t := 21) (by decide) (fun _ => rfl), h.row (t := 22) (by decide) (fun _ => rfl), h.row (t := 23) (by decide) (fun _ => rfl), h.row (t := 24) (by decide) (fun _ => rfl), h.row (t := 33) (by decide) (fun _ => rfl), h.1]
theorem w8 {S : hs_S} {i j a b : Nat} {x : Int32} : (hs_wI S 8 i j x).1 8 a b = if a = i ∧ b = j then x else S.1 8 a b := by
  show (if 8 = 8 ∧ a = i ∧ b = j then x else S.1 8 a b) = _
  by_cases w : a = i ∧ b = j
  · rw [if_pos ⟨rfl, w⟩, if_pos w]
  · rw [if_neg fun z => w z.2, if_neg w]
theorem nI_6 {c : Nat} : nI c * 6 = nI (6 * c) := by
  rw [Int32.mul_comm]; exact pk_mul 6 c
theorem clamp_fee {v : Int32} : (if (0 : Int32) < (if v < 1000 then v else 1000) then (if v < 1000 then v else 1000) else 0) = if 0 ≤ v then (if v ≤ 1000 then v else 1000) else 0 := by
  have z0 : (0 : Int32).toInt = 0 := rfl
  have z1 : (1000 : Int32).toInt = 1000 := rfl
  by_cases h1 : v < 1000
  · rw [if_pos h1]
    have h1' : v ≤ 1000 := by rw [i32_lt] at h1; rw [i32_le]; omega
    rw [if_pos h1']
    by_cases h2 : 0 < v
    · have h3 : 0 ≤ v := by rw [i32_lt] at h2; rw [i32_le]; omega
      rw [if_pos h2, if_pos h3]
    · rw [if_neg h2]
      by_cases h3 : 0 ≤ v
      · rw [if_pos h3]
        rw [i32_lt] at h2
        rw [i32_le] at h3
        exact i32_eq.mpr (by omega)
      · rw [if_neg h3]
  · rw [if_neg h1, if_pos (by decide)]
    have h3 : 0 ≤ v := by rw [i32_lt] at h1; rw [i32_le]; omega
    rw [if_pos h3]
    by_cases h2 : v ≤ 1000
    · rw [if_pos h2]
      rw [i32_lt] at h1
      rw [i32_le] at h2
      exact i32_eq.mpr (by omega)
    · rw [if_neg h2]
def P_Clr_findPrice (r : Nat) (S : hs_S) : Prop := FI S [] ∧ ∃ c : Nat, c < 4 ∧ S.1 8 r 0 = nI c
def R_Clr_findPrice (r : Nat) (S T : hs_S) : Prop := RF r S T ∧ ∀ c : Nat, c < 4 → S.1 8 r 0 = nI c → ∃ f v f2 v2, gVal (cEnv S) (nI (6 * c)) f v ∧ gVal (cEnv S) (nI (6 * c + 1)) f2 v2 ∧ T.1 8 r 8 = cY (F_Fnd_isEmpty (nI (6 * c)) S) f v ∧ T.1 8 r 5 = (if cY (F_Fnd_isEmpty (nI (6 * c)) S) f v = 0 then v else -1) ∧ T.1 8 r 7 = clF (if cY (F_Fnd_isEmpty (nI (6 * c)) S) f v = 0 then v else -1) v2
def m_Clr_findPrice (r1 : Nat) (S : hs_S) (Q : hs_S → Prop) : Prop := hs_M 52 yX2_findPrice (.code yX2_findPrice cX2_findPrice 4 none) [.inr (.inr (2, 1)), .inr (.inr (8, r1))] S 0 0 (hs_qV Q) hs_nX
def vc_Clr_findPrice (r1 : Nat) (S : hs_S) (Q : hs_S → Prop) : Prop := ((P_Fnd_faultOf ((S.1 8 r1 0) * (6 : Int32)) S) ∧ (∀ r3 : Int32, ∀ S2 : hs_S, R_Fnd_faultOf ((S.1 8 r1 0) * (6 : Int32)) S r3 S2 → ((P_Fnd_isEmpty ((S.1 8 r1 0) * (6 : Int32)) S2) ∧ (∀ K8 : Int32 → hs_S → Prop, (∀ (x6 : Int32) (S7 : hs_S), (∀ S9 : hs_S, S9 = (hs_wI S7 8 r1 8 x6) → (∀ K12 : Int32 → hs_S → Prop, (∀ (x10 : Int32) (S11 : hs_S), (∀ S13 : hs_S, S13 = (hs_wI S11 8 r1 5 x10) → ((¬ x6 = 0 → (∀ S15 : hs_S, S15 = (hs_wI S13 8 r1 7 (0 : Int32)) → (Q S15))) ∧ (x6 = 0 → ((P_Fnd_numberOf (((S.1 8 r1 0) * (6 : Int32)) + (1 : Int32)) S13) ∧ (∀ r18 : Int32, ∀ S17 : hs_S, R_Fnd_numberOf (((S.1 8 r1 0) * (6 : Int32)) + (1 : Int32)) S13 r18 S17 → (∀ S20 : hs_S, S20 = (hs_wI S17 8 r1 7 (if (0 : Int32) < (if r18 < (1000 : Int32) then r18 else (1000 : Int32)) then (if r18 < (1000 : Int32) then r18 else (1000 : Int32)) else (0 : Int32))) → (Q S20))))))) → K12 x10 S11) → ((¬ x6 = 0 → (K12 (-1 : Int32) S9)) ∧ (x6 = 0 → ((P_Fnd_numberOf ((S.1 8 r1 0) * (6 : Int32)) S9) ∧ (∀ r24 : Int32, ∀ S23 : hs_S, R_Fnd_numberOf ((S.1 8 r1 0) * (6 : Int32)) S9 r24 S23 → (K12 r24 S23))))))) → K8 x6 S7) → (((F_Fnd_isEmpty ((S.1 8 r1 0) * (6 : Int32)) S2) = 0 → ((¬ r3 = 0 → (K8 r3 S2)) ∧ (r3 = 0 → ((P_Fnd_numberOf ((S.1 8 r1 0) * (6 : Int32)) S2) ∧ (∀ r30 : Int32, ∀ S29 : hs_S, R_Fnd_numberOf ((S.1 8 r1 0) * (6 : Int32)) S2 r30 S29 → ((0 ≤ r30 → (K8 r3 S29)) ∧ (¬ 0 ≤ r30 → (K8 (6 : Int32) S29)))))))) ∧ (¬ (F_Fnd_isEmpty ((S.1 8 r1 0) * (6 : Int32)) S2) = 0 → (K8 (5 : Int32) S2)))))))
set_option maxRecDepth 100000 in
set_option maxHeartbeats 4000000 in
theorem ok_Clr_findPrice {r1 : Nat} {S : hs_S} {Q : hs_S → Prop} (hr1 : r1 ≠ 0) (hw : hs_Wi S) (hv : vc_Clr_findPrice r1 S Q) : m_Clr_findPrice r1 S Q := by
  unfold vc_Clr_findPrice at hv
  refine hs_body (own := RX2) rfl rfl (Nat.le_of_ble_eq_true rfl) (fun Z X E N J0 => ?_)
  show wa Z 0 0 S 0 [(0, .inr (.inr (2, 1))), (1, .inr (.inr (8, r1)))] []
  refine wa_aload_n X 1 rfl dX2_findPrice_0 rfl ?_
  refine wa_getI X (j := 0) hk_8 hc_8 i_8 (by decide) kw_177 rfl dX2_findPrice_1 hr1 ?_
  refine wa_bipush X dX2_findPrice_4 kb6 ?_
  refine wa_imul X dX2_findPrice_6 ?_
  refine wa_istore_n X (lv' := [(2, .inl ((S.1 8 r1 0) * (6 : Int32))), (0, .inr (.inr (2, 1))), (1, .inr (.inr (8, r1)))]) dX2_findPrice_7 rfl (by decide) rfl ?_
  refine wa_aload_n X 1 rfl dX2_findPrice_8 rfl ?_
  refine wa_getfw X hw (j := 1) (r := 1) hk_2 hc_2 i_2 (by decide) kw_293 rfl rfl (by decide) rfl dX2_findPrice_9 hs_1ne ?_
  refine wa_iload_n X 0 rfl dX2_findPrice_12 rfl ?_
  obtain ⟨o1, hv⟩ := hv
  refine wa_callV X (As := [.inl ((S.1 8 r1 0) * (6 : Int32))]) (ok_Fnd_faultOf hw (v_Fnd_faultOf o1)) hk_4 hc_4 rfl kw_790 kw_30 kw_940 kw_788 kw_789 nd_X4_faultOf rfl rfl (Nat.le_of_ble_eq_true rfl) dX2_findPrice_13 hs_1ne ⟨⟨Nat.le_of_ble_eq_true rfl, Nat.le_of_ble_eq_true rfl⟩, Nat.le_of_ble_eq_true rfl, Nat.le_of_ble_eq_true rfl⟩ (fun _ S2 h => ?_) (fun _ _ h => h.elim)
  obtain ⟨hw, r3, rfl, g4⟩ := h
  replace hv := hv r3 S2 g4
  refine wa_istore_n X (lv' := [(3, .inl r3), (2, .inl ((S.1 8 r1 0) * (6 : Int32))), (0, .inr (.inr (2, 1))), (1, .inr (.inr (8, r1)))]) dX2_findPrice_16 rfl (by decide) rfl ?_
  refine wa_aload_n X 2 rfl dX2_findPrice_17 rfl ?_
  refine wa_getfw X hw (j := 1) (r := 1) hk_2 hc_2 i_2 (by decide) kw_293 rfl rfl (by decide) rfl dX2_findPrice_18 hs_1ne ?_
  refine wa_iload_n X 1 rfl dX2_findPrice_21 rfl ?_
  obtain ⟨o5, hv⟩ := hv
  refine wa_callV X (As := [.inl ((S.1 8 r1 0) * (6 : Int32))]) (f_Fnd_isEmpty hw o5) hk_4 hc_4 rfl kw_944 kw_30 kw_941 kw_942 kw_943 nd_X4_isEmpty rfl rfl (Nat.le_of_ble_eq_true rfl) dX2_findPrice_22 hs_1ne ⟨⟨Nat.le_of_ble_eq_true rfl, Nat.le_of_ble_eq_true rfl⟩, Nat.le_of_ble_eq_true rfl, Nat.le_of_ble_eq_true rfl⟩ (hs_pdk0 ?_) (fun _ _ h => h.elim)
  replace hv := hv (fun x6 S7 => hs_Wi S7 → wa Z 0 0 S7 51 [(0, .inr (.inr (2, 1))), (1, .inr (.inr (8, r1))), (2, .inl ((S.1 8 r1 0) * (6 : Int32))), (3, .inl x6)] []) (fun x6 S7 hv hw => by
    refine wa_aload_n X 1 rfl dX2_findPrice_51 rfl ?_
    refine wa_iload_n X 3 rfl dX2_findPrice_52 rfl ?_
    refine wa_putI X (j := 8) hk_8 hc_8 i_8 tyX8 tyX8_ok nmX8 (by decide) kw_202 rfl rfl dX2_findPrice_53 hr1 ⟨rfl, Or.inl rfl⟩ (hs_eqS fun S9 hS9 => ?_)
    replace hv := hv S9 hS9
    replace hw : hs_Wi S9 := hS9 ▸ hs_Wi_I hw
    refine wa_aload_n X 1 rfl dX2_findPrice_56 rfl ?_
    refine wa_iload_n X 3 rfl dX2_findPrice_57 rfl ?_
    replace hv := hv (fun x10 S11 => hs_Wi S11 → wa Z 0 0 S11 73 [(0, .inr (.inr (2, 1))), (1, .inr (.inr (8, r1))), (2, .inl ((S.1 8 r1 0) * (6 : Int32))), (3, .inl x6)] [.inl x10, .inr (.inr (8, r1))]) (fun x10 S11 hv hw => by
      refine wa_putI X (j := 5) hk_8 hc_8 i_8 tyX8 tyX8_ok nmX8 (by decide) kw_191 rfl rfl dX2_findPrice_73 hr1 ⟨rfl, Or.inl rfl⟩ (hs_eqS fun S13 hS13 => ?_)
      replace hv := hv S13 hS13
      replace hw : hs_Wi S13 := hS13 ▸ hs_Wi_I hw
      refine wa_aload_n X 1 rfl dX2_findPrice_76 rfl ?_
      refine wa_iload_n X 3 rfl dX2_findPrice_77 rfl ?_
      refine wa_if_ne X (tgt := 104) dX2_findPrice_78 (by decide) (fun c14 => ?_) (fun c14 => ?_)
      · replace hv := hv.1 c14
        refine wa_iconst X dX2_findPrice_104 kc0 ?_
        refine wa_putI X (j := 7) hk_8 hc_8 i_8 tyX8 tyX8_ok nmX8 (by decide) kw_198 rfl rfl dX2_findPrice_105 hr1 ⟨rfl, Or.inl rfl⟩ (hs_eqS fun S15 hS15 => ?_)
        replace hv := hv S15 hS15
        replace hw : hs_Wi S15 := hS15 ▸ hs_Wi_I hw
        exact wa_return X E dX2_findPrice_108 (Nat.le_of_ble_eq_true rfl) (Nat.le_of_ble_eq_true rfl) ⟨hw, rfl, hv⟩
      · replace hv := hv.2 c14
        refine wa_iconst X dX2_findPrice_81 kc0 ?_
        refine wa_sipush X dX2_findPrice_82 ks1000 ?_
        refine wa_aload_n X 0 rfl dX2_findPrice_85 rfl ?_
        refine wa_getfw X hw (j := 1) (r := 1) hk_2 hc_2 i_2 (by decide) kw_293 rfl rfl (by decide) rfl dX2_findPrice_86 hs_1ne ?_
        refine wa_iload_n X 2 rfl dX2_findPrice_89 rfl ?_
        refine wa_iconst X dX2_findPrice_90 kc1 ?_
        refine wa_iadd X dX2_findPrice_91 ?_
        obtain ⟨o16, hv⟩ := hv
        refine wa_callV X (As := [.inl (((S.1 8 r1 0) * (6 : Int32)) + (1 : Int32))]) (ok_Fnd_numberOf hw (v_Fnd_numberOf o16)) hk_4 hc_4 rfl kw_766 kw_30 kw_945 kw_764 kw_765 nd_X4_numberOf rfl rfl (Nat.le_of_ble_eq_true rfl) dX2_findPrice_92 hs_1ne ⟨⟨Nat.le_of_ble_eq_true rfl, Nat.le_of_ble_eq_true rfl⟩, Nat.le_of_ble_eq_true rfl, Nat.le_of_ble_eq_true rfl⟩ (fun _ S17 h => ?_) (fun _ _ h => h.elim)
        obtain ⟨hw, r18, rfl, g19⟩ := h
        replace hv := hv r18 S17 g19
        refine wa_mmin X kw_946 kw_703 kw_39 kw_704 (Nat.le_of_ble_eq_true rfl) dX2_findPrice_95 ⟨⟨Nat.le_of_ble_eq_true rfl, Nat.le_of_ble_eq_true rfl⟩, Nat.le_of_ble_eq_true rfl, Nat.le_of_ble_eq_true rfl⟩ ?_
        refine wa_mmax X kw_947 kw_607 kw_39 kw_608 (Nat.le_of_ble_eq_true rfl) dX2_findPrice_98 ⟨⟨Nat.le_of_ble_eq_true rfl, Nat.le_of_ble_eq_true rfl⟩, Nat.le_of_ble_eq_true rfl, Nat.le_of_ble_eq_true rfl⟩ ?_
        refine wa_goto X (tgt := 105) dX2_findPrice_101 (by decide) ?_
        refine wa_putI X (j := 7) hk_8 hc_8 i_8 tyX8 tyX8_ok nmX8 (by decide) kw_198 rfl rfl dX2_findPrice_105 hr1 ⟨rfl, Or.inl rfl⟩ (hs_eqS fun S20 hS20 => ?_)
        replace hv := hv S20 hS20
        replace hw : hs_Wi S20 := hS20 ▸ hs_Wi_I hw
        exact wa_return X E dX2_findPrice_108 (Nat.le_of_ble_eq_true rfl) (Nat.le_of_ble_eq_true rfl) ⟨hw, rfl, hv⟩)
    refine wa_if_ne X (tgt := 72) dX2_findPrice_58 (by decide) (fun c21 => ?_) (fun c21 => ?_)
    · replace hv := hv.1 c21
      refine wa_iconst X dX2_findPrice_72 kcm1 ?_
      refine wa_lv (lv' := [(0, .inr (.inr (2, 1))), (1, .inr (.inr (8, r1))), (2, .inl ((S.1 8 r1 0) * (6 : Int32))), (3, .inl x6)]) [0, 1, 2, 3] rfl ?_
      exact wa_wid (Nat.le_of_ble_eq_true rfl) (Nat.le_of_ble_eq_true rfl) (hv hw)
    · replace hv := hv.2 c21
      refine wa_aload_n X 0 rfl dX2_findPrice_61 rfl ?_
      refine wa_getfw X hw (j := 1) (r := 1) hk_2 hc_2 i_2 (by decide) kw_293 rfl rfl (by decide) rfl dX2_findPrice_62 hs_1ne ?_
      refine wa_iload_n X 2 rfl dX2_findPrice_65 rfl ?_
      obtain ⟨o22, hv⟩ := hv
      refine wa_callV X (As := [.inl ((S.1 8 r1 0) * (6 : Int32))]) (ok_Fnd_numberOf hw (v_Fnd_numberOf o22)) hk_4 hc_4 rfl kw_766 kw_30 kw_945 kw_764 kw_765 nd_X4_numberOf rfl rfl (Nat.le_of_ble_eq_true rfl) dX2_findPrice_66 hs_1ne ⟨⟨Nat.le_of_ble_eq_true rfl, Nat.le_of_ble_eq_true rfl⟩, Nat.le_of_ble_eq_true rfl, Nat.le_of_ble_eq_true rfl⟩ (fun _ S23 h => ?_) (fun _ _ h => h.elim)
      obtain ⟨hw, r24, rfl, g25⟩ := h
      replace hv := hv r24 S23 g25
      refine wa_goto X (tgt := 73) dX2_findPrice_69 (by decide) ?_
      refine wa_lv (lv' := [(0, .inr (.inr (2, 1))), (1, .inr (.inr (8, r1))), (2, .inl ((S.1 8 r1 0) * (6 : Int32))), (3, .inl x6)]) [0, 1, 2, 3] rfl ?_
      exact wa_wid (Nat.le_of_ble_eq_true rfl) (Nat.le_of_ble_eq_true rfl) (hv hw))
  refine wa_if_eq X (tgt := 33) dX2_findPrice_25 (by decide) (fun c26 => ?_) (fun c26 => ?_)
  · replace hv := hv.1 c26
    refine wa_iload_n X 0 rfl dX2_findPrice_33 rfl ?_
    refine wa_if_ne X (tgt := 51) dX2_findPrice_34 (by decide) (fun c27 => ?_) (fun c27 => ?_)
    · replace hv := hv.1 c27
      refine wa_lv (lv' := [(0, .inr (.inr (2, 1))), (1, .inr (.inr (8, r1))), (2, .inl ((S.1 8 r1 0) * (6 : Int32))), (3, .inl r3)]) [2, 3, 1, 0] rfl ?_
      exact wa_wid (Nat.le_of_ble_eq_true rfl) (Nat.le_of_ble_eq_true rfl) (hv hw)
    · replace hv := hv.2 c27
      refine wa_aload_n X 2 rfl dX2_findPrice_37 rfl ?_
      refine wa_getfw X hw (j := 1) (r := 1) hk_2 hc_2 i_2 (by decide) kw_293 rfl rfl (by decide) rfl dX2_findPrice_38 hs_1ne ?_
      refine wa_iload_n X 1 rfl dX2_findPrice_41 rfl ?_
      obtain ⟨o28, hv⟩ := hv
      refine wa_callV X (As := [.inl ((S.1 8 r1 0) * (6 : Int32))]) (ok_Fnd_numberOf hw (v_Fnd_numberOf o28)) hk_4 hc_4 rfl kw_766 kw_30 kw_945 kw_764 kw_765 nd_X4_numberOf rfl rfl (Nat.le_of_ble_eq_true rfl) dX2_findPrice_42 hs_1ne ⟨⟨Nat.le_of_ble_eq_true rfl, Nat.le_of_ble_eq_true rfl⟩, Nat.le_of_ble_eq_true rfl, Nat.le_of_ble_eq_true rfl⟩ (fun _ S29 h => ?_) (fun _ _ h => h.elim)
      obtain ⟨hw, r30, rfl, g31⟩ := h
      replace hv := hv r30 S29 g31
      refine wa_if_ge X (tgt := 51) dX2_findPrice_45 (by decide) (fun c32 => ?_) (fun c32 => ?_)
      · replace hv := hv.1 c32
        refine wa_lv (lv' := [(0, .inr (.inr (2, 1))), (1, .inr (.inr (8, r1))), (2, .inl ((S.1 8 r1 0) * (6 : Int32))), (3, .inl r3)]) [2, 3, 1, 0] rfl ?_
        exact wa_wid (Nat.le_of_ble_eq_true rfl) (Nat.le_of_ble_eq_true rfl) (hv hw)
      · replace hv := hv.2 c32
        refine wa_bipush X dX2_findPrice_48 kb6 ?_
        refine wa_istore_n X (lv' := [(3, .inl (6 : Int32)), (2, .inl ((S.1 8 r1 0) * (6 : Int32))), (0, .inr (.inr (2, 1))), (1, .inr (.inr (8, r1)))]) dX2_findPrice_50 rfl (by decide) rfl ?_
        refine wa_lv (lv' := [(0, .inr (.inr (2, 1))), (1, .inr (.inr (8, r1))), (2, .inl ((S.1 8 r1 0) * (6 : Int32))), (3, .inl (6 : Int32))]) [2, 3, 1, 0] rfl ?_
        exact wa_wid (Nat.le_of_ble_eq_true rfl) (Nat.le_of_ble_eq_true rfl) (hv hw)
  · replace hv := hv.2 c26
    refine wa_iconst X dX2_findPrice_28 kc5 ?_
    refine wa_istore_n X (lv' := [(3, .inl (5 : Int32)), (2, .inl ((S.1 8 r1 0) * (6 : Int32))), (0, .inr (.inr (2, 1))), (1, .inr (.inr (8, r1)))]) dX2_findPrice_29 rfl (by decide) rfl ?_
    refine wa_goto X (tgt := 51) dX2_findPrice_30 (by decide) ?_
    refine wa_lv (lv' := [(0, .inr (.inr (2, 1))), (1, .inr (.inr (8, r1))), (2, .inl ((S.1 8 r1 0) * (6 : Int32))), (3, .inl (5 : Int32))]) [2, 3, 1, 0] rfl ?_
    exact wa_wid (Nat.le_of_ble_eq_true rfl) (Nat.le_of_ble_eq_true rfl) (hv hw)
theorem v_Clr_findPrice {r1 : Nat} {S : hs_S} (hP : P_Clr_findPrice r1 S) : vc_Clr_findPrice r1 S (fun T => R_Clr_findPrice r1 S T) := by
  obtain ⟨hI, c, hc, ec⟩ := hP
  unfold vc_Clr_findPrice
  rw [ec, nI_6]
  have h24 : 6 * c < 24 := by omega
  have ec1 : nI (6 * c) + 1 = nI (6 * c + 1) := nI_1 _
  have base : RF r1 S S := ⟨rfl, hI, fun _ _ _ _ _ => rfl⟩
  have emS : ∀ U : hs_S, RF r1 S U → F_Fnd_isEmpty (nI (6 * c)) U = F_Fnd_isEmpty (nI (6 * c)) S := fun U h => by
    unfold F_Fnd_isEmpty
    rw [h.1, h.row (t := 5) (by decide) (fun _ => rfl)]
  -- behind the reason
  have rest2 : ∀ (x6 x10 : Int32) (U : hs_S) (f v : Int32), gVal (cEnv S) (nI (6 * c)) f v → x6 = cY (F_Fnd_isEmpty (nI (6 * c)) S) f v → x10 = (if x6 = 0 then v else -1) → RF r1 S U → U.1 8 r1 8 = x6 → ∀ S13 : hs_S, S13 = hs_wI U 8 r1 5 x10 → (¬ x6 = 0 → ∀ S15 : hs_S, S15 = hs_wI S13 8 r1 7 0 → R_Clr_findPrice r1 S S15) ∧ (x6 = 0 → P_Fnd_numberOf (nI (6 * c) + 1) S13 ∧ ∀ (r18 : Int32) (S17 : hs_S), R_Fnd_numberOf (nI (6 * c) + 1) S13 r18 S17 → ∀ S20 : hs_S, S20 = hs_wI S17 8 r1 7 (if (0 : Int32) < (if r18 < 1000 then r18 else 1000) then (if r18 < 1000 then r18 else 1000) else 0) → R_Clr_findPrice r1 S S20) := by
    rintro x6 x10 U f v hg e6 e10 hU e8 S13 rfl
    have h13 : RF r1 S (hs_wI U 8 r1 5 x10) := hU.w (Or.inl rfl)
    refine ⟨fun hx => ?_, fun hx => ⟨⟨h13.2.1, 6 * c + 1, by omega, ec1⟩, ?_⟩⟩
    · rintro _ rfl
      refine ⟨h13.w (Or.inr (Or.inl rfl)), fun c' hc' e' => ?_⟩
      have hcc : c' = c := (hl_inj (by omega) (by omega)).mp (e'.symm.trans ec)
      subst hcc
      obtain ⟨f2, v2, hg2⟩ := gVal_ex (cEnv S) (nI (6 * c' + 1))
      refine ⟨f, v, f2, v2, hg, hg2, ?_, ?_, ?_⟩
      · rw [w8, if_neg (by omega), w8, if_neg (by omega), e8, e6]
      · rw [w8, if_neg (by omega), w8, if_pos ⟨rfl, rfl⟩, e10, e6]
      · rw [w8, if_pos ⟨rfl, rfl⟩, ← e6, if_neg hx]; rfl
    · rintro r18 S17 ⟨k1, k2, ⟨f2, k3⟩, _⟩ _ rfl
      have h17 := h13.fs k1 k2
      refine ⟨h17.w (Or.inr (Or.inl rfl)), fun c' hc' e' => ?_⟩
      have hcc : c' = c := (hl_inj (by omega) (by omega)).mp (e'.symm.trans ec)
      subst hcc
      rw [h13.env, ec1] at k3
      have e17 : ∀ p, S17.1 8 r1 p = (hs_wI U 8 r1 5 x10).1 8 r1 p := fun p => k1.2 8 r1 p rfl
      refine ⟨f, v, f2, r18, hg, k3, ?_, ?_, ?_⟩
      · rw [w8, if_neg (by omega), e17, w8, if_neg (by omega), e8, e6]
      · rw [w8, if_neg (by omega), e17, w8, if_pos ⟨rfl, rfl⟩, e10, e6]
      · rw [w8, if_pos ⟨rfl, rfl⟩, ← e6, if_pos hx, clamp_fee]
        have hv : ¬ v = -1 := fun z => by
          rw [hx] at e6
          unfold cY at e6
          rw [z] at e6
          by_cases q : F_Fnd_isEmpty (nI (6 * c')) S = 0
          · rw [if_pos q] at e6
            by_cases q2 : f = 0
            · rw [if_pos q2] at e6; exact absurd e6 (by decide)
            · rw [if_neg q2] at e6; exact q2 e6.symm
          · rw [if_neg q] at e6; exact absurd e6 (by decide)
        unfold clF
        rw [if_neg hv]
  have rest1 : ∀ (x6 : Int32) (U : hs_S) (f v : Int32), gVal (cEnv S) (nI (6 * c)) f v → x6 = cY (F_Fnd_isEmpty (nI (6 * c)) S) f v → (x6 = 0 → f = 0) → RF r1 S U → ∀ S9 : hs_S, S9 = hs_wI U 8 r1 8 x6 → ∀ K12 : Int32 → hs_S → Prop, (∀ (x10 : Int32) (S11 : hs_S), (∀ S13 : hs_S, S13 = hs_wI S11 8 r1 5 x10 → (¬ x6 = 0 → ∀ S15 : hs_S, S15 = hs_wI S13 8 r1 7 0 → R_Clr_findPrice r1 S S15) ∧ (x6 = 0 → P_Fnd_numberOf (nI (6 * c) + 1) S13 ∧ ∀ (r18 : Int32) (S17 : hs_S), R_Fnd_numberOf (nI (6 * c) + 1) S13 r18 S17 → ∀ S20 : hs_S, S20 = hs_wI S17 8 r1 7 (if (0 : Int32) < (if r18 < 1000 then r18 else 1000) then (if r18 < 1000 then r18 else 1000) else 0) → R_Clr_findPrice r1 S S20)) → K12 x10 S11) → (¬ x6 = 0 → K12 (-1) S9) ∧ (x6 = 0 → P_Fnd_numberOf (nI (6 * c)) S9 ∧ ∀ (r24 : Int32) (S23 : hs_S), R_Fnd_numberOf (nI (6 * c)) S9 r24 S23 → K12 r24 S23) := by
    rintro x6 U f v hg e6 hf0 hU S9 rfl K hK
    have h9 : RF r1 S (hs_wI U 8 r1 8 x6) := hU.w (Or.inr (Or.inr rfl))
    have e8 : (hs_wI U 8 r1 8 x6).1 8 r1 8 = x6 := w8.trans (if_pos ⟨rfl, rfl⟩)
    refine ⟨fun hx => hK _ _ (rest2 x6 (-1) _ f v hg e6 (if_neg hx).symm h9 e8), fun hx => ⟨⟨h9.2.1, 6 * c, h24, rfl⟩, ?_⟩⟩
    rintro r24 S23 ⟨k1, k2, ⟨f', k3⟩, _⟩
    rw [h9.env] at k3
    refine hK _ _ (rest2 x6 r24 S23 f v hg e6 ?_ (h9.fs k1 k2) ((k1.2 8 r1 8 rfl).trans e8))
    rw [if_pos hx]; exact (gVal_fun k3 hg).2
  refine ⟨⟨hI, 6 * c, h24, rfl⟩, ?_⟩
  rintro r3 S2 ⟨k1, k2, v, k3⟩
  have h2 := base.fs k1 k2
  have em2 := emS S2 h2
  refine ⟨⟨hl_ix (by omega) (by omega), by rw [cl24 h24, h2.1]; exact (hI.1.2 (6 * c) h24).1⟩, fun K hK => ?_⟩
  rw [em2]
  refine ⟨fun q => ⟨fun q2 => ?_, fun q2 => ⟨⟨k2, 6 * c, h24, rfl⟩, ?_⟩⟩, fun q => ?_⟩
  · refine hK _ _ (rest1 r3 S2 r3 v k3 ?_ (fun z => z) h2)
    unfold cY; rw [if_pos q, if_neg q2]
  · rintro r30 S29 ⟨m1, m2, ⟨f', m3⟩, _⟩
    rw [h2.env] at m3
    have h29 := h2.fs m1 m2
    have ev : r30 = v := (gVal_fun m3 k3).2
    refine ⟨fun q3 => hK _ _ (rest1 r3 S29 r3 v k3 ?_ (fun z => z) h29), fun q3 => hK _ _ (rest1 6 S29 r3 v k3 ?_ (fun z => absurd z (by decide)) h29)⟩
    · unfold cY; rw [if_pos q, if_pos q2, ← ev, if_pos q3, q2]
    · unfold cY; rw [if_pos q, if_pos q2, ← ev, if_neg q3]
  · refine hK _ _ (rest1 5 S2 r3 v k3 ?_ (fun z => absurd z (by decide)) h2)
    unfold cY; rw [if_neg q]

/-- what the bids have got is forgotten -/
def hs_c9 (S : hs_S) : hs_S := (fun t i p => if t = 0 ∧ p = 9 then 0 else S.1 t i p, S.2)
theorem c9_takesPart {S : hs_S} {i : Nat} : F_Bid_takesPart i (hs_c9 S) = F_Bid_takesPart i S := rfl
theorem c9_cPo {S : hs_S} {r : Nat} (k : Nat) : cPo (hs_c9 S) r k = cPo S r k := by
  induction k with
  | zero => rfl
  | succ k ih => unfold cPo; rw [ih]; rfl
theorem c9_cPl {S : hs_S} {r : Nat} {a : Int32} (k : Nat) : cPl (hs_c9 S) r a k = cPl S r a k := by
  induction k with
  | zero => rfl
  | succ k ih => unfold cPl; rw [ih]; rfl
theorem c9_cPa {S : hs_S} {r : Nat} {a : Int32} (k : Nat) : cPa (hs_c9 S) r a k = cPa S r a k := by
  induction k with
  | zero => rfl
  | succ k ih => unfold cPa; rw [ih]; rfl
theorem c9_order {S : hs_S} {r : Nat} : F_Clr_partByOrder r (hs_c9 S) = F_Clr_partByOrder r S := by
  unfold F_Clr_partByOrder; rw [c9_cPo]; rfl
theorem c9_shares {S : hs_S} {r : Nat} {a : Int32} : F_Clr_partByShares r a (hs_c9 S) = F_Clr_partByShares r a S := by
  unfold F_Clr_partByShares; rw [c9_cPl, c9_cPa]; rfl
/-- what a bid gets -/
def cPart (V : hs_S) (r : Nat) (t0 t1 : Int32) (b : Nat) : Int32 := if F_Bid_takesPart b V = 0 then 0 else if V.1 8 r 3 = 0 then F_Clr_partByOrder b V else if V.1 0 b 3 = 0 then F_Clr_partByShares b t0 V else F_Clr_partByShares b t1 V
theorem c9_part {S : hs_S} {r b : Nat} {t0 t1 : Int32} : cPart (hs_c9 S) r t0 t1 b = cPart S r t0 t1 b := by
  unfold cPart; rw [c9_takesPart, c9_order, c9_shares, c9_shares]; rfl
theorem c9_fr {S T : hs_S} (h : hs_c9 T = hs_c9 S) {r b : Nat} {t0 t1 : Int32} : cPart T r t0 t1 b = cPart S r t0 t1 b := by rw [← c9_part, h, c9_part]
theorem c9_of {S T : hs_S} (h2 : T.2 = S.2) (h : ∀ t i p, ¬ (t = 0 ∧ p = 9) → T.1 t i p = S.1 t i p) : hs_c9 T = hs_c9 S := by
  refine Prod.ext ?_ h2
  funext t i p
  show (if t = 0 ∧ p = 9 then (0 : Int32) else T.1 t i p) = if t = 0 ∧ p = 9 then 0 else S.1 t i p
  by_cases q : t = 0 ∧ p = 9
  · rw [if_pos q, if_pos q]
  · rw [if_neg q, if_neg q, h t i p q]
abbrev cVol (r : Nat) (S : hs_S) : Int32 := if F_Clr_totalOf r 0 S < F_Clr_totalOf r 1 S then F_Clr_totalOf r 0 S else F_Clr_totalOf r 1 S
abbrev cVS (r : Nat) (S : hs_S) : hs_S := hs_wI S 8 r 6 (cVol r S)
abbrev cGt (r : Nat) (S : hs_S) (k : Nat) : Int32 := cPart (cVS r S) r (F_Clr_totalOf r 0 S) (F_Clr_totalOf r 1 S) (bd S k)
def P_Clr_shareOut (r : Nat) (S : hs_S) : Prop := ∃ g : Nat, g ≤ 80 ∧ hs_sz S 13 = g ∧ ∀ k, k < g → bd S k = k + 1 ∧ br S k ≠ 0
def R_Clr_shareOut (r : Nat) (S : hs_S) (x : Int32) (T : hs_S) : Prop := T.2 = S.2 ∧ (∀ t i p, ¬ (t = 0 ∧ p = 9 ∧ ∃ k, k < hs_sz S 13 ∧ i = k + 1) → T.1 t i p = (cVS r S).1 t i p) ∧ (∀ k, k < hs_sz S 13 → T.1 0 (k + 1) 9 = if br S k = r then cGt r S k else S.1 0 (k + 1) 9) ∧ (x = 0 ∨ x = 1) ∧ (x = 0 ↔ ∀ k, k < hs_sz S 13 → br S k = r → cGt r S k = S.1 0 (k + 1) 9)
theorem w09 {S : hs_S} {i b : Nat} {x : Int32} : (hs_wI S 0 i 9 x).1 0 b 9 = if b = i then x else S.1 0 b 9 := by
  show (if 0 = 0 ∧ b = i ∧ 9 = 9 then x else S.1 0 b 9) = _
  by_cases w : b = i
  · rw [if_pos ⟨rfl, w, rfl⟩, if_pos w]
  · rw [if_neg fun z => w z.2.1, if_neg w]
def m_Clr_shareOut (r1 : Nat) (S : hs_S) (Q : Int32 → hs_S → Prop) : Prop := hs_M 6 yX2_shareOut (.code yX2_shareOut cX2_shareOut 8 (some FieldType.boolean)) [.inr (.inr (2, 1)), .inr (.inr (8, r1))] S 0 0 (hs_qI Q) hs_nX
def vc_Clr_shareOut (r1 : Nat) (S : hs_S) (Q : Int32 → hs_S → Prop) : Prop := ((P_Clr_totalOf r1 (1 : Int32) S) ∧ ((P_Clr_totalOf r1 (0 : Int32) S) ∧ (∀ S3 : hs_S, S3 = (hs_wI S 8 r1 6 (if (F_Clr_totalOf r1 (0 : Int32) S) < (F_Clr_totalOf r1 (1 : Int32) S) then (F_Clr_totalOf r1 (0 : Int32) S) else (F_Clr_totalOf r1 (1 : Int32) S))) → (∃ I6 : Nat → Int32 → Int32 → hs_S → Prop, (∃ n11, I6 n11 (0 : Int32) (0 : Int32) S3) ∧ (∀ N7 : Nat, ∀ x4 : Int32, ∀ x5 : Int32, ∀ S8 : hs_S, I6 N7 x4 x5 S8 → (((nI (hs_sz S8 13)) ≤ x5 → ((x4 = 0 ∨ x4 = 1) ∧ (Q x4 S8))) ∧ (¬ (nI (hs_sz S8 13)) ≤ x5 → ((0 ≤ x5.toInt ∧ x5.toInt < (hs_sz S8 13)) ∧ (((S8.2.1 13 1 x5.toNatClampNeg) ≠ 0) ∧ ((¬ (S8.2.1 0 (S8.2.1 13 1 x5.toNatClampNeg) 2) = r1 → (∃ q20, q20 < N7 ∧ I6 q20 x4 (x5 + 1) S8)) ∧ ((S8.2.1 0 (S8.2.1 13 1 x5.toNatClampNeg) 2) = r1 → ((P_Bid_takesPart (S8.2.1 13 1 x5.toNatClampNeg) S8) ∧ ((((F_Bid_takesPart (S8.2.1 13 1 x5.toNatClampNeg) S8) = 0 → True) ∧ (¬ (F_Bid_takesPart (S8.2.1 13 1 x5.toNatClampNeg) S8) = 0 → (((S8.1 8 r1 3) = 0 → ((P_Clr_partByOrder (S8.2.1 13 1 x5.toNatClampNeg) S8) ∧ True)) ∧ (¬ (S8.1 8 r1 3) = 0 → (((S8.1 0 (S8.2.1 13 1 x5.toNatClampNeg) 3) = 0 → ((P_Clr_partByShares (S8.2.1 13 1 x5.toNatClampNeg) (F_Clr_totalOf r1 (0 : Int32) S) S8) ∧ True)) ∧ (¬ (S8.1 0 (S8.2.1 13 1 x5.toNatClampNeg) 3) = 0 → ((P_Clr_partByShares (S8.2.1 13 1 x5.toNatClampNeg) (F_Clr_totalOf r1 (1 : Int32) S) S8) ∧ True))))))) ∧ (∀ x23 : Int32, x23 = (if (F_Bid_takesPart (S8.2.1 13 1 x5.toNatClampNeg) S8) = 0 then (0 : Int32) else (if (S8.1 8 r1 3) = 0 then (F_Clr_partByOrder (S8.2.1 13 1 x5.toNatClampNeg) S8) else (if (S8.1 0 (S8.2.1 13 1 x5.toNatClampNeg) 3) = 0 then (F_Clr_partByShares (S8.2.1 13 1 x5.toNatClampNeg) (F_Clr_totalOf r1 (0 : Int32) S) S8) else (F_Clr_partByShares (S8.2.1 13 1 x5.toNatClampNeg) (F_Clr_totalOf r1 (1 : Int32) S) S8)))) → ((¬ x4 = 0 → (∀ S25 : hs_S, S25 = (hs_wI S8 0 (S8.2.1 13 1 x5.toNatClampNeg) 9 x23) → (∃ q26, q26 < N7 ∧ I6 q26 (1 : Int32) (x5 + 1) S25))) ∧ (x4 = 0 → ((x23 = (S8.1 0 (S8.2.1 13 1 x5.toNatClampNeg) 9) → (∀ S29 : hs_S, S29 = (hs_wI S8 0 (S8.2.1 13 1 x5.toNatClampNeg) 9 x23) → (∃ q30, q30 < N7 ∧ I6 q30 (0 : Int32) (x5 + 1) S29))) ∧ (¬ x23 = (S8.1 0 (S8.2.1 13 1 x5.toNatClampNeg) 9) → (∀ S32 : hs_S, S32 = (hs_wI S8 0 (S8.2.1 13 1 x5.toNatClampNeg) 9 x23) → (∃ q33, q33 < N7 ∧ I6 q33 (1 : Int32) (x5 + 1) S32))))))))))))))))))))
set_option maxRecDepth 100000 in
set_option maxHeartbeats 4000000 in
theorem ok_Clr_shareOut {r1 : Nat} {S : hs_S} {Q : Int32 → hs_S → Prop} (hr1 : r1 ≠ 0) (hw : hs_Wi S) (hv : vc_Clr_shareOut r1 S Q) : m_Clr_shareOut r1 S Q := by
  unfold vc_Clr_shareOut at hv
  refine hs_body (own := RX2) rfl rfl (Nat.le_of_ble_eq_true rfl) (fun Z X E N J0 => ?_)
  show wa Z 0 0 S 0 [(0, .inr (.inr (2, 1))), (1, .inr (.inr (8, r1)))] []
  refine wa_aload_n X 0 rfl dX2_shareOut_0 rfl ?_
  refine wa_aload_n X 1 rfl dX2_shareOut_1 rfl ?_
  refine wa_iconst X dX2_shareOut_2 kc1 ?_
  obtain ⟨o1, hv⟩ := hv
  refine wa_callV X (As := [.inr (.inr (8, r1)), .inl (1 : Int32)]) (f_Clr_totalOf hr1 hw o1) hk_2 hc_2 rfl kw_955 kw_31 kw_952 kw_954 kw_15 nd_X2_totalOf rfl rfl (Nat.le_of_ble_eq_true rfl) dX2_shareOut_3 hs_1ne ⟨⟨Nat.le_of_ble_eq_true rfl, Nat.le_of_ble_eq_true rfl⟩, Nat.le_of_ble_eq_true rfl, Nat.le_of_ble_eq_true rfl⟩ (hs_pdk0 ?_) (fun _ _ h => h.elim)
  refine wa_istore_n X (lv' := [(2, .inl (F_Clr_totalOf r1 (1 : Int32) S)), (0, .inr (.inr (2, 1))), (1, .inr (.inr (8, r1)))]) dX2_shareOut_6 rfl (by decide) rfl ?_
  refine wa_aload_n X 1 rfl dX2_shareOut_7 rfl ?_
  refine wa_aload_n X 2 rfl dX2_shareOut_8 rfl ?_
  refine wa_iconst X dX2_shareOut_9 kc0 ?_
  obtain ⟨o2, hv⟩ := hv
  refine wa_callV X (As := [.inr (.inr (8, r1)), .inl (0 : Int32)]) (f_Clr_totalOf hr1 hw o2) hk_2 hc_2 rfl kw_955 kw_31 kw_952 kw_954 kw_15 nd_X2_totalOf rfl rfl (Nat.le_of_ble_eq_true rfl) dX2_shareOut_10 hs_1ne ⟨⟨Nat.le_of_ble_eq_true rfl, Nat.le_of_ble_eq_true rfl⟩, Nat.le_of_ble_eq_true rfl, Nat.le_of_ble_eq_true rfl⟩ (hs_pdk0 ?_) (fun _ _ h => h.elim)
  refine wa_istore_n X (lv' := [(3, .inl (F_Clr_totalOf r1 (0 : Int32) S)), (2, .inl (F_Clr_totalOf r1 (1 : Int32) S)), (0, .inr (.inr (2, 1))), (1, .inr (.inr (8, r1)))]) dX2_shareOut_13 rfl (by decide) rfl ?_
  refine wa_aload_n X 3 rfl dX2_shareOut_14 rfl ?_
  refine wa_iload_n X 1 rfl dX2_shareOut_15 rfl ?_
  refine wa_iload_n X 0 rfl dX2_shareOut_16 rfl ?_
  refine wa_mmin X kw_946 kw_703 kw_39 kw_704 (Nat.le_of_ble_eq_true rfl) dX2_shareOut_17 ⟨⟨Nat.le_of_ble_eq_true rfl, Nat.le_of_ble_eq_true rfl⟩, Nat.le_of_ble_eq_true rfl, Nat.le_of_ble_eq_true rfl⟩ ?_
  refine wa_putI X (j := 6) hk_8 hc_8 i_8 tyX8 tyX8_ok nmX8 (by decide) kw_195 rfl rfl dX2_shareOut_20 hr1 ⟨rfl, Or.inl rfl⟩ (hs_eqS fun S3 hS3 => ?_)
  replace hv := hv S3 hS3
  replace hw : hs_Wi S3 := hS3 ▸ hs_Wi_I hw
  refine wa_iconst X dX2_shareOut_23 kc0 ?_
  refine wa_istore X (lv' := [(4, .inl (0 : Int32)), (3, .inl (F_Clr_totalOf r1 (0 : Int32) S)), (2, .inl (F_Clr_totalOf r1 (1 : Int32) S)), (0, .inr (.inr (2, 1))), (1, .inr (.inr (8, r1)))]) dX2_shareOut_24 (by decide) rfl ?_
  refine wa_iconst X dX2_shareOut_26 kc0 ?_
  refine wa_istore X (lv' := [(5, .inl (0 : Int32)), (4, .inl (0 : Int32)), (3, .inl (F_Clr_totalOf r1 (0 : Int32) S)), (2, .inl (F_Clr_totalOf r1 (1 : Int32) S)), (0, .inr (.inr (2, 1))), (1, .inr (.inr (8, r1)))]) dX2_shareOut_27 (by decide) rfl ?_
  obtain ⟨I6, ⟨n11, i9⟩, b10⟩ := hv
  refine wa_lv (lv' := [(0, .inr (.inr (2, 1))), (1, .inr (.inr (8, r1))), (2, .inl (F_Clr_totalOf r1 (1 : Int32) S)), (3, .inl (F_Clr_totalOf r1 (0 : Int32) S)), (4, .inl (0 : Int32)), (5, .inl (0 : Int32))]) [4, 5, 3, 2, 1, 0] rfl ?_
  suffices L12 : ∀ N7 : Nat, ∀ x4 : Int32, ∀ x5 : Int32, ∀ S8 : hs_S, hs_Wi S8 → I6 N7 x4 x5 S8 → wa Z 0 0 S8 29 [(0, .inr (.inr (2, 1))), (1, .inr (.inr (8, r1))), (2, .inl (F_Clr_totalOf r1 (1 : Int32) S)), (3, .inl (F_Clr_totalOf r1 (0 : Int32) S)), (4, .inl x4), (5, .inl x5)] [] from L12 _ _ _ _ hw i9
  clear hw
  clear i9
  intro N7
  induction N7 using Nat.strongRecOn with
  | _ N7 h13 =>
    intro x4 x5 S8 hw j14
    have hv := b10 N7 x4 x5 S8 j14
    refine wa_iload X 5 rfl dX2_shareOut_29 ?_
    refine wa_aload_n X 0 rfl dX2_shareOut_31 rfl ?_
    refine wa_getfw X hw (j := 0) (r := 1) hk_2 hc_2 i_2 (by decide) kw_292 rfl rfl (by decide) rfl dX2_shareOut_32 hs_1ne ?_
    refine wa_getfw X hw (j := 0) (r := 1) hk_1 hc_1 i_1 (by decide) kw_226 rfl rfl (by decide) rfl dX2_shareOut_35 hs_1ne ?_
    refine wa_lsize X hk_13 kw_957 dX2_shareOut_38 hs_1ne ⟨⟨Nat.le_of_ble_eq_true rfl, Nat.le_of_ble_eq_true rfl⟩, Nat.le_of_ble_eq_true rfl, Nat.le_of_ble_eq_true rfl⟩ (Nat.le_of_ble_eq_true rfl) ?_
    refine wa_icmp_ge X (tgt := 157) dX2_shareOut_43 (by decide) (fun c15 => ?_) (fun c15 => ?_)
    · replace hv := hv.1 c15
      refine wa_iload X 4 rfl dX2_shareOut_157 ?_
      obtain ⟨o16, hv⟩ := hv
      exact wa_ireturn X E dX2_shareOut_159 (Nat.le_of_ble_eq_true rfl) (Nat.le_of_ble_eq_true rfl) (Or.inr ⟨rfl, o16⟩) ⟨hw, _, rfl, hv⟩
    · replace hv := hv.2 c15
      refine wa_aload_n X 0 rfl dX2_shareOut_46 rfl ?_
      refine wa_getfw X hw (j := 0) (r := 1) hk_2 hc_2 i_2 (by decide) kw_292 rfl rfl (by decide) rfl dX2_shareOut_47 hs_1ne ?_
      refine wa_getfw X hw (j := 0) (r := 1) hk_1 hc_1 i_1 (by decide) kw_226 rfl rfl (by decide) rfl dX2_shareOut_50 hs_1ne ?_
      refine wa_iload X 5 rfl dX2_shareOut_53 ?_
      obtain ⟨o17, hv⟩ := hv
      refine wa_lget X hk_13 kw_959 dX2_shareOut_55 hs_1ne ⟨⟨Nat.le_of_ble_eq_true rfl, Nat.le_of_ble_eq_true rfl⟩, Nat.le_of_ble_eq_true rfl, Nat.le_of_ble_eq_true rfl⟩ (Nat.le_of_ble_eq_true rfl) o17 ?_
      obtain ⟨o18, hv⟩ := hv
      refine wa_cast X hk_0 hc_0 kw_960 dX2_shareOut_60 o18 ?_
      refine wa_astore X (lv' := [(6, .inr (.inr (0, (S8.2.1 13 1 x5.toNatClampNeg)))), (0, .inr (.inr (2, 1))), (1, .inr (.inr (8, r1))), (2, .inl (F_Clr_totalOf r1 (1 : Int32) S)), (3, .inl (F_Clr_totalOf r1 (0 : Int32) S)), (4, .inl x4), (5, .inl x5)]) dX2_shareOut_63 (by decide) rfl ?_
      refine wa_aload X 0 rfl dX2_shareOut_65 ?_
      refine wa_getR X (j := 2) hk_0 hc_0 i_0 (by decide) kw_843 rfl dX2_shareOut_67 o18 ?_
      refine wa_aload_n X 2 rfl dX2_shareOut_70 rfl ?_
      refine wa_acmp_ne X (by decide) (tgt := 151) dX2_shareOut_71 (by decide) (fun c19 => ?_) (fun c19 => ?_)
      · replace hv := hv.1 c19
        refine wa_iinc X (v := (x5 + 1)) (lv' := [(5, .inl (x5 + 1)), (6, .inr (.inr (0, (S8.2.1 13 1 x5.toNatClampNeg)))), (0, .inr (.inr (2, 1))), (1, .inr (.inr (8, r1))), (2, .inl (F_Clr_totalOf r1 (1 : Int32) S)), (3, .inl (F_Clr_totalOf r1 (0 : Int32) S)), (4, .inl x4)]) 6 rfl dX2_shareOut_151 rfl (by decide) rfl ?_
        refine wa_goto X (tgt := 29) dX2_shareOut_154 (by decide) ?_
        obtain ⟨q20, p21, hv⟩ := hv
        refine wa_lv (lv' := [(0, .inr (.inr (2, 1))), (1, .inr (.inr (8, r1))), (2, .inl (F_Clr_totalOf r1 (1 : Int32) S)), (3, .inl (F_Clr_totalOf r1 (0 : Int32) S)), (4, .inl x4), (5, .inl (x5 + 1))]) [2, 3, 4, 5, 6, 0] rfl ?_
        exact h13 q20 p21 _ _ _ hw hv
      · replace hv := hv.2 c19
        refine wa_iconst X dX2_shareOut_74 kc0 ?_
        refine wa_istore X (lv' := [(7, .inl (0 : Int32)), (6, .inr (.inr (0, (S8.2.1 13 1 x5.toNatClampNeg)))), (0, .inr (.inr (2, 1))), (1, .inr (.inr (8, r1))), (2, .inl (F_Clr_totalOf r1 (1 : Int32) S)), (3, .inl (F_Clr_totalOf r1 (0 : Int32) S)), (4, .inl x4), (5, .inl x5)]) dX2_shareOut_75 (by decide) rfl ?_
        refine wa_aload X 1 rfl dX2_shareOut_77 ?_
        obtain ⟨o22, hv⟩ := hv
        refine wa_callV X (As := []) (f_Bid_takesPart o18 hw o22) hk_0 hc_0 rfl kw_967 kw_46 kw_964 kw_965 kw_966 nd_X0_takesPart rfl rfl (Nat.le_of_ble_eq_true rfl) dX2_shareOut_79 o18 ⟨⟨Nat.le_of_ble_eq_true rfl, Nat.le_of_ble_eq_true rfl⟩, Nat.le_of_ble_eq_true rfl, Nat.le_of_ble_eq_true rfl⟩ (hs_pdk0 ?_) (fun _ _ h => h.elim)
        obtain ⟨o36, hv⟩ := hv
        have k35 : ∀ (x23 : Int32), x23 = (if (F_Bid_takesPart (S8.2.1 13 1 x5.toNatClampNeg) S8) = 0 then (0 : Int32) else (if (S8.1 8 r1 3) = 0 then (F_Clr_partByOrder (S8.2.1 13 1 x5.toNatClampNeg) S8) else (if (S8.1 0 (S8.2.1 13 1 x5.toNatClampNeg) 3) = 0 then (F_Clr_partByShares (S8.2.1 13 1 x5.toNatClampNeg) (F_Clr_totalOf r1 (0 : Int32) S) S8) else (F_Clr_partByShares (S8.2.1 13 1 x5.toNatClampNeg) (F_Clr_totalOf r1 (1 : Int32) S) S8)))) → wa Z 0 0 S8 122 [(0, .inr (.inr (2, 1))), (1, .inr (.inr (8, r1))), (2, .inl (F_Clr_totalOf r1 (1 : Int32) S)), (3, .inl (F_Clr_totalOf r1 (0 : Int32) S)), (4, .inl x4), (5, .inl x5), (6, .inr (.inr (0, (S8.2.1 13 1 x5.toNatClampNeg)))), (7, .inl x23)] [] := by
          intro x23 hE
          replace hv := hv _ hE
          refine wa_iload X 4 rfl dX2_shareOut_122 ?_
          refine wa_if_ne X (tgt := 137) dX2_shareOut_124 (by decide) (fun c24 => ?_) (fun c24 => ?_)
          · replace hv := hv.1 c24
            refine wa_iconst X dX2_shareOut_137 kc1 ?_
            refine wa_goto X (tgt := 142) dX2_shareOut_138 (by decide) ?_
            refine wa_istore X (lv' := [(4, .inl (1 : Int32)), (0, .inr (.inr (2, 1))), (1, .inr (.inr (8, r1))), (2, .inl (F_Clr_totalOf r1 (1 : Int32) S)), (3, .inl (F_Clr_totalOf r1 (0 : Int32) S)), (5, .inl x5), (6, .inr (.inr (0, (S8.2.1 13 1 x5.toNatClampNeg)))), (7, .inl x23)]) dX2_shareOut_142 (by decide) rfl ?_
            refine wa_aload X 6 rfl dX2_shareOut_144 ?_
            refine wa_iload X 7 rfl dX2_shareOut_146 ?_
            refine wa_putI X (j := 9) hk_0 hc_0 i_0 tyX0 tyX0_ok nmX0 (by decide) kw_865 rfl rfl dX2_shareOut_148 o18 ⟨rfl, Or.inl rfl⟩ (hs_eqS fun S25 hS25 => ?_)
            replace hv := hv S25 hS25
            replace hw : hs_Wi S25 := hS25 ▸ hs_Wi_I hw
            refine wa_iinc X (v := (x5 + 1)) (lv' := [(5, .inl (x5 + 1)), (4, .inl (1 : Int32)), (0, .inr (.inr (2, 1))), (1, .inr (.inr (8, r1))), (2, .inl (F_Clr_totalOf r1 (1 : Int32) S)), (3, .inl (F_Clr_totalOf r1 (0 : Int32) S)), (6, .inr (.inr (0, (S8.2.1 13 1 x5.toNatClampNeg)))), (7, .inl x23)]) 5 rfl dX2_shareOut_151 rfl (by decide) rfl ?_
            refine wa_goto X (tgt := 29) dX2_shareOut_154 (by decide) ?_
            obtain ⟨q26, p27, hv⟩ := hv
            refine wa_lv (lv' := [(0, .inr (.inr (2, 1))), (1, .inr (.inr (8, r1))), (2, .inl (F_Clr_totalOf r1 (1 : Int32) S)), (3, .inl (F_Clr_totalOf r1 (0 : Int32) S)), (4, .inl (1 : Int32)), (5, .inl (x5 + 1))]) [2, 3, 4, 5, 1, 0] rfl ?_
            exact h13 q26 p27 _ _ _ hw hv
          · replace hv := hv.2 c24
            refine wa_iload X 7 rfl dX2_shareOut_127 ?_
            refine wa_aload X 6 rfl dX2_shareOut_129 ?_
            refine wa_getI X (j := 9) hk_0 hc_0 i_0 (by decide) kw_865 rfl dX2_shareOut_131 o18 ?_
            refine wa_icmp_eq X (tgt := 141) dX2_shareOut_134 (by decide) (fun c28 => ?_) (fun c28 => ?_)
            · replace hv := hv.1 c28
              refine wa_iconst X dX2_shareOut_141 kc0 ?_
              refine wa_istore X (lv' := [(4, .inl (0 : Int32)), (0, .inr (.inr (2, 1))), (1, .inr (.inr (8, r1))), (2, .inl (F_Clr_totalOf r1 (1 : Int32) S)), (3, .inl (F_Clr_totalOf r1 (0 : Int32) S)), (5, .inl x5), (6, .inr (.inr (0, (S8.2.1 13 1 x5.toNatClampNeg)))), (7, .inl x23)]) dX2_shareOut_142 (by decide) rfl ?_
              refine wa_aload X 6 rfl dX2_shareOut_144 ?_
              refine wa_iload X 7 rfl dX2_shareOut_146 ?_
              refine wa_putI X (j := 9) hk_0 hc_0 i_0 tyX0 tyX0_ok nmX0 (by decide) kw_865 rfl rfl dX2_shareOut_148 o18 ⟨rfl, Or.inl rfl⟩ (hs_eqS fun S29 hS29 => ?_)
              replace hv := hv S29 hS29
              replace hw : hs_Wi S29 := hS29 ▸ hs_Wi_I hw
              refine wa_iinc X (v := (x5 + 1)) (lv' := [(5, .inl (x5 + 1)), (4, .inl (0 : Int32)), (0, .inr (.inr (2, 1))), (1, .inr (.inr (8, r1))), (2, .inl (F_Clr_totalOf r1 (1 : Int32) S)), (3, .inl (F_Clr_totalOf r1 (0 : Int32) S)), (6, .inr (.inr (0, (S8.2.1 13 1 x5.toNatClampNeg)))), (7, .inl x23)]) 5 rfl dX2_shareOut_151 rfl (by decide) rfl ?_
              refine wa_goto X (tgt := 29) dX2_shareOut_154 (by decide) ?_
              obtain ⟨q30, p31, hv⟩ := hv
              refine wa_lv (lv' := [(0, .inr (.inr (2, 1))), (1, .inr (.inr (8, r1))), (2, .inl (F_Clr_totalOf r1 (1 : Int32) S)), (3, .inl (F_Clr_totalOf r1 (0 : Int32) S)), (4, .inl (0 : Int32)), (5, .inl (x5 + 1))]) [2, 3, 4, 5, 1, 0] rfl ?_
              exact h13 q30 p31 _ _ _ hw hv
            · replace hv := hv.2 c28
              refine wa_iconst X dX2_shareOut_137 kc1 ?_
              refine wa_goto X (tgt := 142) dX2_shareOut_138 (by decide) ?_
              refine wa_istore X (lv' := [(4, .inl (1 : Int32)), (0, .inr (.inr (2, 1))), (1, .inr (.inr (8, r1))), (2, .inl (F_Clr_totalOf r1 (1 : Int32) S)), (3, .inl (F_Clr_totalOf r1 (0 : Int32) S)), (5, .inl x5), (6, .inr (.inr (0, (S8.2.1 13 1 x5.toNatClampNeg)))), (7, .inl x23)]) dX2_shareOut_142 (by decide) rfl ?_
              refine wa_aload X 6 rfl dX2_shareOut_144 ?_
              refine wa_iload X 7 rfl dX2_shareOut_146 ?_
              refine wa_putI X (j := 9) hk_0 hc_0 i_0 tyX0 tyX0_ok nmX0 (by decide) kw_865 rfl rfl dX2_shareOut_148 o18 ⟨rfl, Or.inl rfl⟩ (hs_eqS fun S32 hS32 => ?_)
              replace hv := hv S32 hS32
              replace hw : hs_Wi S32 := hS32 ▸ hs_Wi_I hw
              refine wa_iinc X (v := (x5 + 1)) (lv' := [(5, .inl (x5 + 1)), (4, .inl (1 : Int32)), (0, .inr (.inr (2, 1))), (1, .inr (.inr (8, r1))), (2, .inl (F_Clr_totalOf r1 (1 : Int32) S)), (3, .inl (F_Clr_totalOf r1 (0 : Int32) S)), (6, .inr (.inr (0, (S8.2.1 13 1 x5.toNatClampNeg)))), (7, .inl x23)]) 5 rfl dX2_shareOut_151 rfl (by decide) rfl ?_
              refine wa_goto X (tgt := 29) dX2_shareOut_154 (by decide) ?_
              obtain ⟨q33, p34, hv⟩ := hv
              refine wa_lv (lv' := [(0, .inr (.inr (2, 1))), (1, .inr (.inr (8, r1))), (2, .inl (F_Clr_totalOf r1 (1 : Int32) S)), (3, .inl (F_Clr_totalOf r1 (0 : Int32) S)), (4, .inl (1 : Int32)), (5, .inl (x5 + 1))]) [2, 3, 4, 5, 1, 0] rfl ?_
              exact h13 q33 p34 _ _ _ hw hv
        replace hv := o36
        refine wa_if_eq X (tgt := 122) dX2_shareOut_82 (by decide) (fun c38 => ?_) (fun c38 => ?_)
        · replace hv := hv.1 c38
          refine wa_lv (lv' := [(0, .inr (.inr (2, 1))), (1, .inr (.inr (8, r1))), (2, .inl (F_Clr_totalOf r1 (1 : Int32) S)), (3, .inl (F_Clr_totalOf r1 (0 : Int32) S)), (4, .inl x4), (5, .inl x5), (6, .inr (.inr (0, (S8.2.1 13 1 x5.toNatClampNeg)))), (7, .inl (0 : Int32))]) [2, 3, 4, 5, 6, 7, 1, 0] rfl ?_
          exact wa_wid (Nat.le_of_ble_eq_true rfl) (Nat.le_of_ble_eq_true rfl) (k35 _  (by rw [if_pos c38]))
        · replace hv := hv.2 c38
          refine wa_aload_n X 3 rfl dX2_shareOut_85 rfl ?_
          refine wa_getI X (j := 3) hk_8 hc_8 i_8 (by decide) kw_186 rfl dX2_shareOut_86 hr1 ?_
          refine wa_if_eq X (tgt := 114) dX2_shareOut_89 (by decide) (fun c39 => ?_) (fun c39 => ?_)
          · replace hv := hv.1 c39
            refine wa_aload_n X 2 rfl dX2_shareOut_114 rfl ?_
            refine wa_aload X 1 rfl dX2_shareOut_115 ?_
            obtain ⟨o40, hv⟩ := hv
            refine wa_callV X (As := [.inr (.inr (0, (S8.2.1 13 1 x5.toNatClampNeg)))]) (f_Clr_partByOrder o18 hw o40) hk_2 hc_2 rfl kw_975 kw_31 kw_972 kw_974 kw_17 nd_X2_partByOrder rfl rfl (Nat.le_of_ble_eq_true rfl) dX2_shareOut_117 hs_1ne ⟨⟨Nat.le_of_ble_eq_true rfl, Nat.le_of_ble_eq_true rfl⟩, Nat.le_of_ble_eq_true rfl, Nat.le_of_ble_eq_true rfl⟩ (hs_pdk0 ?_) (fun _ _ h => h.elim)
            refine wa_istore X (lv' := [(7, .inl (F_Clr_partByOrder (S8.2.1 13 1 x5.toNatClampNeg) S8)), (6, .inr (.inr (0, (S8.2.1 13 1 x5.toNatClampNeg)))), (0, .inr (.inr (2, 1))), (1, .inr (.inr (8, r1))), (2, .inl (F_Clr_totalOf r1 (1 : Int32) S)), (3, .inl (F_Clr_totalOf r1 (0 : Int32) S)), (4, .inl x4), (5, .inl x5)]) dX2_shareOut_120 (by decide) rfl ?_
            refine wa_lv (lv' := [(0, .inr (.inr (2, 1))), (1, .inr (.inr (8, r1))), (2, .inl (F_Clr_totalOf r1 (1 : Int32) S)), (3, .inl (F_Clr_totalOf r1 (0 : Int32) S)), (4, .inl x4), (5, .inl x5), (6, .inr (.inr (0, (S8.2.1 13 1 x5.toNatClampNeg)))), (7, .inl (F_Clr_partByOrder (S8.2.1 13 1 x5.toNatClampNeg) S8))]) [2, 3, 4, 5, 6, 7, 1, 0] rfl ?_
            exact wa_wid (Nat.le_of_ble_eq_true rfl) (Nat.le_of_ble_eq_true rfl) (k35 _  (by rw [if_neg c38, if_pos c39]))
          · replace hv := hv.2 c39
            refine wa_aload_n X 2 rfl dX2_shareOut_92 rfl ?_
            refine wa_aload X 1 rfl dX2_shareOut_93 ?_
            refine wa_aload X 1 rfl dX2_shareOut_95 ?_
            refine wa_getI X (j := 3) hk_0 hc_0 i_0 (by decide) kw_848 rfl dX2_shareOut_97 o18 ?_
            refine wa_if_eq X (tgt := 107) dX2_shareOut_100 (by decide) (fun c41 => ?_) (fun c41 => ?_)
            · replace hv := hv.1 c41
              refine wa_iload_n X 5 rfl dX2_shareOut_107 rfl ?_
              obtain ⟨o42, hv⟩ := hv
              refine wa_callV X (As := [.inr (.inr (0, (S8.2.1 13 1 x5.toNatClampNeg))), .inl (F_Clr_totalOf r1 (0 : Int32) S)]) (f_Clr_partByShares o18 hw o42) hk_2 hc_2 rfl kw_971 kw_31 kw_968 kw_970 kw_16 nd_X2_partByShares rfl rfl (Nat.le_of_ble_eq_true rfl) dX2_shareOut_108 hs_1ne ⟨⟨Nat.le_of_ble_eq_true rfl, Nat.le_of_ble_eq_true rfl⟩, Nat.le_of_ble_eq_true rfl, Nat.le_of_ble_eq_true rfl⟩ (hs_pdk0 ?_) (fun _ _ h => h.elim)
              refine wa_goto X (tgt := 120) dX2_shareOut_111 (by decide) ?_
              refine wa_istore X (lv' := [(7, .inl (F_Clr_partByShares (S8.2.1 13 1 x5.toNatClampNeg) (F_Clr_totalOf r1 (0 : Int32) S) S8)), (6, .inr (.inr (0, (S8.2.1 13 1 x5.toNatClampNeg)))), (0, .inr (.inr (2, 1))), (1, .inr (.inr (8, r1))), (2, .inl (F_Clr_totalOf r1 (1 : Int32) S)), (3, .inl (F_Clr_totalOf r1 (0 : Int32) S)), (4, .inl x4), (5, .inl x5)]) dX2_shareOut_120 (by decide) rfl ?_
              refine wa_lv (lv' := [(0, .inr (.inr (2, 1))), (1, .inr (.inr (8, r1))), (2, .inl (F_Clr_totalOf r1 (1 : Int32) S)), (3, .inl (F_Clr_totalOf r1 (0 : Int32) S)), (4, .inl x4), (5, .inl x5), (6, .inr (.inr (0, (S8.2.1 13 1 x5.toNatClampNeg)))), (7, .inl (F_Clr_partByShares (S8.2.1 13 1 x5.toNatClampNeg) (F_Clr_totalOf r1 (0 : Int32) S) S8))]) [2, 3, 4, 5, 6, 7, 1, 0] rfl ?_
              exact wa_wid (Nat.le_of_ble_eq_true rfl) (Nat.le_of_ble_eq_true rfl) (k35 _  (by rw [if_neg c38, if_neg c39, if_pos c41]))
            · replace hv := hv.2 c41
              refine wa_iload_n X 4 rfl dX2_shareOut_103 rfl ?_
              refine wa_goto X (tgt := 108) dX2_shareOut_104 (by decide) ?_
              obtain ⟨o43, hv⟩ := hv
              refine wa_callV X (As := [.inr (.inr (0, (S8.2.1 13 1 x5.toNatClampNeg))), .inl (F_Clr_totalOf r1 (1 : Int32) S)]) (f_Clr_partByShares o18 hw o43) hk_2 hc_2 rfl kw_971 kw_31 kw_968 kw_970 kw_16 nd_X2_partByShares rfl rfl (Nat.le_of_ble_eq_true rfl) dX2_shareOut_108 hs_1ne ⟨⟨Nat.le_of_ble_eq_true rfl, Nat.le_of_ble_eq_true rfl⟩, Nat.le_of_ble_eq_true rfl, Nat.le_of_ble_eq_true rfl⟩ (hs_pdk0 ?_) (fun _ _ h => h.elim)
              refine wa_goto X (tgt := 120) dX2_shareOut_111 (by decide) ?_
              refine wa_istore X (lv' := [(7, .inl (F_Clr_partByShares (S8.2.1 13 1 x5.toNatClampNeg) (F_Clr_totalOf r1 (1 : Int32) S) S8)), (6, .inr (.inr (0, (S8.2.1 13 1 x5.toNatClampNeg)))), (0, .inr (.inr (2, 1))), (1, .inr (.inr (8, r1))), (2, .inl (F_Clr_totalOf r1 (1 : Int32) S)), (3, .inl (F_Clr_totalOf r1 (0 : Int32) S)), (4, .inl x4), (5, .inl x5)]) dX2_shareOut_120 (by decide) rfl ?_
              refine wa_lv (lv' := [(0, .inr (.inr (2, 1))), (1, .inr (.inr (8, r1))), (2, .inl (F_Clr_totalOf r1 (1 : Int32) S)), (3, .inl (F_Clr_totalOf r1 (0 : Int32) S)), (4, .inl x4), (5, .inl x5), (6, .inr (.inr (0, (S8.2.1 13 1 x5.toNatClampNeg)))), (7, .inl (F_Clr_partByShares (S8.2.1 13 1 x5.toNatClampNeg) (F_Clr_totalOf r1 (1 : Int32) S) S8))]) [2, 3, 4, 5, 6, 7, 1, 0] rfl ?_
              exact wa_wid (Nat.le_of_ble_eq_true rfl) (Nat.le_of_ble_eq_true rfl) (k35 _  (by rw [if_neg c38, if_neg c39, if_neg c41]))
theorem v_Clr_shareOut {r1 : Nat} {S : hs_S} (hP : P_Clr_shareOut r1 S) : vc_Clr_shareOut r1 S (fun x T => R_Clr_shareOut r1 S x T) := by
  obtain ⟨g, hg, eg, hb⟩ := hP
  have hBd : ∀ U : hs_S, U.2 = S.2 → cBd U := fun U h => ⟨g, hg, by unfold hs_sz; rw [h]; exact eg, fun k hk => by
    have hk' : S.2.1 13 1 k = k + 1 := (hb k hk).1
    unfold bd br; rw [h]; exact ⟨fun z => absurd (hk'.symm.trans z) (by omega), (hb k hk).2⟩⟩
  unfold vc_Clr_shareOut
  refine ⟨hBd S rfl, hBd S rfl, ?_⟩
  rintro V hV
  have hV' : V = cVS r1 S := hV
  have eV2 : V.2 = S.2 := by rw [hV']; rfl
  have eV9 : ∀ k, V.1 0 k 9 = S.1 0 k 9 := fun k => by rw [hV']; rfl
  refine ⟨fun N x y U => ∃ k, k ≤ g ∧ y = nI k ∧ N = g - k ∧ U.2 = S.2 ∧ (∀ t i p, ¬ (t = 0 ∧ p = 9 ∧ ∃ k, k < g ∧ i = k + 1) → U.1 t i p = V.1 t i p) ∧ (∀ j, j < g → U.1 0 (j + 1) 9 = if j < k ∧ br S j = r1 then cGt r1 S j else S.1 0 (j + 1) 9) ∧ (x = 0 ∨ x = 1) ∧ (x = 0 ↔ ∀ j, j < k → br S j = r1 → cGt r1 S j = S.1 0 (j + 1) 9), ⟨g, 0, by omega, rfl, rfl, eV2, fun _ _ _ _ => rfl, fun j hj => by rw [if_neg (by omega)]; exact eV9 _, Or.inl rfl, ⟨fun _ j hj => absurd hj (by omega), fun _ => rfl⟩⟩, ?_⟩
  rintro N x y U ⟨k, hk, rfl, rfl, hU2, hU, hG, hx, hxi⟩
  have ez : hs_sz U 13 = g := by unfold hs_sz; rw [hU2]; exact eg
  rw [ez]
  refine ⟨fun h => ?_, fun h => ?_⟩
  · have := hl_end (by omega) hk h
    subst this
    refine ⟨hx, hU2, fun t i p q => by rw [hU t i p (by rw [eg] at q; exact q), hV'], fun j hj => ?_, hx, ?_⟩
    · rw [eg] at hj
      rw [hG j hj]
      by_cases q : br S j = r1
      · rw [if_pos ⟨hj, q⟩, if_pos q]
      · rw [if_neg fun z => q z.2, if_neg q]
    · rw [eg]; exact hxi
  · have hk1 := hl_go (by omega) hk h
    rw [hl_cl (by omega), hU2]
    have e1 : S.2.1 13 1 k = k + 1 := (hb k hk1).1
    have ebr : S.2.1 0 (S.2.1 13 1 k) 2 = br S k := rfl
    have hc9 : hs_c9 U = hs_c9 V := c9_of (hU2.trans eV2.symm) fun t i p q => hU t i p fun z => q ⟨z.1, z.2.1⟩
    have ePart : (if F_Bid_takesPart (bd S k) U = 0 then (0 : Int32) else if U.1 8 r1 3 = 0 then F_Clr_partByOrder (bd S k) U else if U.1 0 (bd S k) 3 = 0 then F_Clr_partByShares (bd S k) (F_Clr_totalOf r1 0 S) U else F_Clr_partByShares (bd S k) (F_Clr_totalOf r1 1 S) U) = cGt r1 S k := by
      show cPart U r1 _ _ (bd S k) = _
      rw [c9_fr hc9, hV']
    have old : U.1 0 (k + 1) 9 = S.1 0 (k + 1) 9 := (hG k hk1).trans (if_neg (by omega))
    have hB0 := hBd U hU2
    have hbr : U.2.1 0 (bd S k) 2 ≠ 0 := by rw [hU2]; exact (hb k hk1).2
    refine ⟨hl_ix (by omega) (by omega), by rw [e1]; omega, fun h1 => ⟨g - (k + 1), by omega, k + 1, hk1, nI_1 k, rfl, hU2, hU, fun j hj => ?_, hx, hxi.trans ?_⟩, fun h1 => ⟨hbr, ⟨fun _ => trivial, fun _ => ⟨fun _ => ⟨⟨hbr, hB0⟩, trivial⟩, fun _ => ⟨fun _ => ⟨⟨hbr, hB0⟩, trivial⟩, fun _ => ⟨⟨hbr, hB0⟩, trivial⟩⟩⟩⟩, ?_⟩⟩
    · rw [hG j hj]
      by_cases q : j = k
      · rw [q, if_neg (by omega), if_neg fun z => h1 z.2]
      · by_cases q2 : j < k ∧ br S j = r1
        · rw [if_pos q2, if_pos ⟨by omega, q2.2⟩]
        · rw [if_neg q2, if_neg fun z => q2 ⟨by omega, z.2⟩]
    · constructor
      · intro z j hj hbj
        by_cases q : j = k
        · rw [q] at hbj; exact absurd hbj h1
        · exact z j (by omega) hbj
      · intro z j hj; exact z j (by omega)
    · intro x23 hx23
      rw [ePart] at hx23
      subst hx23
      rw [e1]
      have step : ∀ (x' : Int32), (x' = 0 ∨ x' = 1) → (x' = 0 ↔ x = 0 ∧ cGt r1 S k = S.1 0 (k + 1) 9) → ∃ q, q < g - k ∧ ∃ k', k' ≤ g ∧ nI k + 1 = nI k' ∧ q = g - k' ∧ (hs_wI U 0 (k + 1) 9 (cGt r1 S k)).2 = S.2 ∧ (∀ t i p, ¬ (t = 0 ∧ p = 9 ∧ ∃ k, k < g ∧ i = k + 1) → (hs_wI U 0 (k + 1) 9 (cGt r1 S k)).1 t i p = V.1 t i p) ∧ (∀ j, j < g → (hs_wI U 0 (k + 1) 9 (cGt r1 S k)).1 0 (j + 1) 9 = if j < k' ∧ br S j = r1 then cGt r1 S j else S.1 0 (j + 1) 9) ∧ (x' = 0 ∨ x' = 1) ∧ (x' = 0 ↔ ∀ j, j < k' → br S j = r1 → cGt r1 S j = S.1 0 (j + 1) 9) := by
        intro x' h01 hiff
        refine ⟨g - (k + 1), by omega, k + 1, hk1, nI_1 k, rfl, hU2, fun t i p q => ?_, fun j hj => ?_, h01, hiff.trans ?_⟩
        · rw [← hU t i p q]
          exact if_neg fun z => q ⟨z.1, z.2.2, k, hk1, z.2.1⟩
        · rw [w09]
          by_cases q : j = k
          · rw [q, if_pos rfl, if_pos ⟨by omega, h1⟩]
          · rw [if_neg (by omega), hG j hj]
            by_cases q2 : j < k ∧ br S j = r1
            · rw [if_pos q2, if_pos ⟨by omega, q2.2⟩]
            · rw [if_neg q2, if_neg fun z => q2 ⟨by omega, z.2⟩]
        · constructor
          · rintro ⟨z1, z2⟩ j hj hbj
            by_cases q : j = k
            · rw [q]; exact z2
            · exact hxi.mp z1 j (by omega) hbj
          · intro z
            exact ⟨hxi.mpr fun j hj hbj => z j (by omega) hbj, z k (by omega) h1⟩
      rw [old]
      refine ⟨fun q => ?_, fun q => ⟨fun q2 => ?_, fun q2 => ?_⟩⟩
      · rintro _ rfl
        exact step 1 (Or.inr rfl) ⟨fun z => absurd z (by decide), fun z => absurd z.1 q⟩
      · rintro _ rfl
        exact step 0 (Or.inl rfl) ⟨fun _ => ⟨q, q2⟩, fun _ => rfl⟩
      · rintro _ rfl
        exact step 1 (Or.inr rfl) ⟨fun z => absurd z (by decide), fun z => absurd z.2 q2⟩

