def E_Sht_tell (a1 a2 a3 : Int32) (r4 : Nat) (S : hs_S) : hs_S := hs_add (E_Edit_init (S.2.2.2 3 + 1) (nI (hs_sz S 12)) a1 a2 a3 (a3 + (if (1 : Int32) < S.1 25 1 (a1 / 6).toNatClampNeg then S.1 25 1 (a1 / 6).toNatClampNeg else 1)) r4 (hs_nw S 3)) 12 (S.2.2.2 3 + 1)
def P_Sht_tell (a1 a2 a3 : Int32) (r4 : Nat) (S : hs_S) : Prop := (∃ c : Nat, c < 24 ∧ a1 = nI c) ∧ hs_sz S 12 < 100 ∧ r4 ≠ 0
def R_Sht_tell (a1 a2 a3 : Int32) (r4 : Nat) (S : hs_S) (r : Int32) (T : hs_S) : Prop := r = nI (hs_sz S 12) ∧ T = E_Sht_tell a1 a2 a3 r4 S
def m_Sht_tell (a1 : Int32) (a2 : Int32) (a3 : Int32) (r4 : Nat) (S : hs_S) (Q : Int32 → hs_S → Prop) : Prop := hs_M 9 yX9_tell (.code yX9_tell cX9_tell 7 (some FieldType.int)) [.inr (.inr (9, 1)), .inl a1, .inl a2, .inl a3, .inr (.inr (5, r4))] S 2 167 (hs_qI Q) hs_nX
def vc_Sht_tell (a1 : Int32) (a2 : Int32) (a3 : Int32) (r4 : Nat) (S : hs_S) (Q : Int32 → hs_S → Prop) : Prop := ((0 ≤ (a1 / (6 : Int32)).toInt ∧ (a1 / (6 : Int32)).toInt < 4) ∧ (∀ S2 : hs_S, S2 = (hs_nw S 3) → (hs_Wi S2 → m_Edit_init (S.2.2.2 3 + 1) (nI (hs_sz S 12)) a1 a2 a3 (a3 + (if (1 : Int32) < (S.1 25 1 (a1 / (6 : Int32)).toNatClampNeg) then (S.1 25 1 (a1 / (6 : Int32)).toNatClampNeg) else (1 : Int32))) r4 S2 (fun S3 => hs_Wi S3 ∧ (((hs_sz S3 12) < 100) ∧ (∀ S6 : hs_S, S6 = (hs_add S3 12 (S.2.2.2 3 + 1)) → (Q (nI (hs_sz S 12)) S6)))))))
set_option maxRecDepth 100000 in
set_option maxHeartbeats 4000000 in
theorem ok_Sht_tell {a1 : Int32} {a2 : Int32} {a3 : Int32} {r4 : Nat} {S : hs_S} {Q : Int32 → hs_S → Prop} (hr4 : r4 ≠ 0) (hw : hs_Wi S) (hv : vc_Sht_tell a1 a2 a3 r4 S Q) : m_Sht_tell a1 a2 a3 r4 S Q := by
  unfold vc_Sht_tell at hv
  refine hs_body (own := RX9) rfl rfl (Nat.le_of_ble_eq_true rfl) (fun Z X E N J0 => ?_)
  show wa Z 0 0 S 0 [(0, .inr (.inr (9, 1))), (1, .inl a1), (2, .inl a2), (3, .inl a3), (4, .inr (.inr (5, r4)))] []
  refine wa_aload_n X 0 rfl dX9_tell_0 rfl ?_
  refine wa_getfw X hw (j := 1) (r := 1) hk_9 hc_9 i_9 (by decide) kw_135 rfl rfl (by decide) rfl dX9_tell_1 hs_1ne ?_
  refine wa_lsize X hk_12 kw_430 dX9_tell_4 hs_1ne ⟨⟨Nat.le_of_ble_eq_true rfl, Nat.le_of_ble_eq_true rfl⟩, Nat.le_of_ble_eq_true rfl, Nat.le_of_ble_eq_true rfl⟩ (Nat.le_of_ble_eq_true rfl) ?_
  refine wa_istore X (lv' := [(5, .inl (nI (hs_sz S 12))), (0, .inr (.inr (9, 1))), (1, .inl a1), (2, .inl a2), (3, .inl a3), (4, .inr (.inr (5, r4)))]) dX9_tell_9 (by decide) rfl ?_
  refine wa_iload_n X 4 rfl dX9_tell_11 rfl ?_
  refine wa_iconst X dX9_tell_12 kc1 ?_
  refine wa_aload_n X 1 rfl dX9_tell_13 rfl ?_
  refine wa_getfw X hw (j := 2) (r := 1) hk_9 hc_9 i_9 (by decide) kw_138 rfl rfl (by decide) rfl dX9_tell_14 hs_1ne ?_
  refine wa_iload_n X 2 rfl dX9_tell_17 rfl ?_
  refine wa_bipush X dX9_tell_18 kb6 ?_
  refine wa_idiv X dX9_tell_20 (by decide) ?_
  obtain ⟨o1, hv⟩ := hv
  refine wa_iald X hk_25 dX9_tell_21 hs_1ne o1 ?_
  refine wa_mmax X kw_606 kw_607 kw_39 kw_608 (Nat.le_of_ble_eq_true rfl) dX9_tell_22 ⟨⟨Nat.le_of_ble_eq_true rfl, Nat.le_of_ble_eq_true rfl⟩, Nat.le_of_ble_eq_true rfl, Nat.le_of_ble_eq_true rfl⟩ ?_
  refine wa_iadd X dX9_tell_25 ?_
  refine wa_istore X (lv' := [(6, .inl (a3 + (if (1 : Int32) < (S.1 25 1 (a1 / (6 : Int32)).toNatClampNeg) then (S.1 25 1 (a1 / (6 : Int32)).toNatClampNeg) else (1 : Int32)))), (5, .inl (nI (hs_sz S 12))), (0, .inr (.inr (9, 1))), (1, .inl a1), (2, .inl a2), (3, .inl a3), (4, .inr (.inr (5, r4)))]) dX9_tell_26 (by decide) rfl ?_
  refine wa_aload_n X 2 rfl dX9_tell_28 rfl ?_
  refine wa_getfw X hw (j := 1) (r := 1) hk_9 hc_9 i_9 (by decide) kw_135 rfl rfl (by decide) rfl dX9_tell_29 hs_1ne ?_
  refine wa_new X (t := 3) hk_3 hc_3 i_3 tyX3 tyX3_ok dv_3 kw_458 kw_609 kw_42 dX9_tell_32 ⟨Nat.le_of_ble_eq_true rfl, Nat.le_of_ble_eq_true rfl⟩ (hs_eqS fun S2 hS2 => ?_)
  replace hv := hv S2 hS2
  replace hw : hs_Wi S2 := hS2 ▸ hs_Wi_nw (t := 3) (fun _ => rfl) (by decide) hw
  refine wa_dup X dX9_tell_35 rfl ?_
  refine wa_iload X 1 rfl dX9_tell_36 ?_
  refine wa_iload_n X 3 rfl dX9_tell_38 rfl ?_
  refine wa_iload_n X 4 rfl dX9_tell_39 rfl ?_
  refine wa_iload_n X 5 rfl dX9_tell_40 rfl ?_
  refine wa_iload X 0 rfl dX9_tell_41 ?_
  refine wa_aload X 6 rfl dX9_tell_43 ?_
  refine wa_callI X (As := [.inl (nI (hs_sz S 12)), .inl a1, .inl a2, .inl a3, .inl (a3 + (if (1 : Int32) < (S.1 25 1 (a1 / (6 : Int32)).toNatClampNeg) then (S.1 25 1 (a1 / (6 : Int32)).toNatClampNeg) else (1 : Int32))), .inr (.inr (5, r4))]) (hv hw) kw_612 kw_42 kw_610 kw_611 rfl nd_X3_init rfl rfl (Nat.le_of_ble_eq_true rfl) dX9_tell_45 (hs_sne _) ⟨⟨Nat.le_of_ble_eq_true rfl, Nat.le_of_ble_eq_true rfl⟩, Nat.le_of_ble_eq_true rfl, Nat.le_of_ble_eq_true rfl⟩ (fun v S3 h => ?_) (fun _ _ h => h.elim)
  obtain ⟨rfl, hw, hv⟩ := h
  obtain ⟨o5, hv⟩ := hv
  refine wa_liadd X hk_12 hk_3 hc_3 kw_646 kw_1125 dX9_tell_48 hs_1ne (hs_sne _) ⟨Nat.le_of_ble_eq_true rfl, Nat.le_of_ble_eq_true rfl⟩ (Nat.le_of_ble_eq_true rfl) ⟨Nat.le_of_ble_eq_true rfl, Nat.le_of_ble_eq_true rfl⟩ o5 (hs_eqS fun S6 hS6 => ?_)
  replace hv := hv S6 hS6
  replace hw : hs_Wi S6 := hS6 ▸ hs_Wi_add (t := 12) (fun _ => rfl) (by decide) hw
  refine wa_pop X dX9_tell_53 rfl ?_
  refine wa_iload X 1 rfl dX9_tell_54 ?_
  exact wa_ireturn X E dX9_tell_56 (Nat.le_of_ble_eq_true rfl) (Nat.le_of_ble_eq_true rfl) (Or.inl rfl) ⟨hw, _, rfl, hv⟩
theorem v_Sht_tell {a1 a2 a3 : Int32} {r4 : Nat} {S : hs_S} (hP : P_Sht_tell a1 a2 a3 r4 S) : vc_Sht_tell a1 a2 a3 r4 S (fun r T => R_Sht_tell a1 a2 a3 r4 S r T) := by
  obtain ⟨⟨c, hc, rfl⟩, hs, hr4⟩ := hP
  unfold vc_Sht_tell
  refine ⟨by rw [nI_div6 (by omega)]; exact hl_ix (by omega) (by omega), ?_⟩
  rintro _ rfl hw
  refine ok_Edit_init (Nat.succ_ne_zero _) hr4 (v_Edit_init ⟨?_, ?_, ?_⟩)
  · exact hs_Wi_R rfl (by decide) (hs_Wi_I (hs_Wi_I (hs_Wi_I (hs_Wi_I (hs_Wi_I (hs_Wi_I hw))))))
  · exact hs
  · rintro _ rfl
    exact ⟨rfl, rfl⟩

abbrev Close0 (r1 : Nat) (a2 : Int32) (S : hs_S) : hs_S := hs_add (hs_wI S 8 r1 2 a2) 14 r1
def E_Book_close (r1 : Nat) (a2 : Int32) (S : hs_S) : hs_S := hs_wR (E_Rnd_init (S.2.2.2 8 + 1) (S.1 8 r1 0) (hs_nw (Close0 r1 a2 S) 8)) 26 1 (S.1 8 r1 0).toNatClampNeg (S.2.2.2 8 + 1)
def P_Book_close (r1 : Nat) (a2 : Int32) (S : hs_S) : Prop := hs_Wi S ∧ hs_sz S 14 < 100 ∧ (∃ c : Nat, c < 4 ∧ S.1 8 r1 0 = nI c) ∧ r1 ≤ S.2.2.2 8 ∧ S.2.2.2 7 = S.2.2.2 8 + 1 ∧ S.2.2.2 20 = S.2.2.2 7 ∧ S.2.2.2 21 = S.2.2.2 7
def R_Book_close (r1 : Nat) (a2 : Int32) (S : hs_S) (r : Int32) (T : hs_S) : Prop := r = nI (hs_sz S 14) ∧ T = E_Book_close r1 a2 S
theorem Wi_at {S T : hs_S} (h : hs_Wi S) (hR : ∀ t i j, hs_wi t j ≠ 0 → hs_ok T t i → (hs_ok S t i ∧ T.2.1 t i j = S.2.1 t i j) ∨ T.2.1 t i j = hs_wv (hs_wi t j) i) (h32 : ∀ j, T.2.1 32 1 j = S.2.1 32 1 j) (hk : hs_ok T 32 1 → hs_ok S 32 1) : hs_Wi T := by
  refine ⟨fun t i j a b => ?_, fun j a b => by rw [h32]; exact h.2 j a (hk b)⟩
  rcases hR t i j a b with ⟨c, d⟩ | d
  · rw [d]; exact h.1 t i j a c
  · exact d
theorem ok_le {S : hs_S} {t i : Nat} (h : hs_ok S t i) : i ≤ S.2.2.2 t := h.2.2.2
theorem ok_of {S T : hs_S} {t i : Nat} (h : hs_ok T t i) (q : i ≤ S.2.2.2 t) : hs_ok S t i := ⟨h.1, h.2.1, h.2.2.1, q⟩
/-- references behind a round is made -/
theorem Rnd_R {S : hs_S} {a : Int32} {t i p : Nat} : (E_Rnd_init (S.2.2.2 8 + 1) a (hs_nw S 8)).2.1 t i p = if t = 8 ∧ i = S.2.2.2 8 + 1 ∧ p = 4 then S.2.2.2 7 + 1 else if t = 7 ∧ i = S.2.2.2 7 + 1 ∧ p = 1 then S.2.2.2 21 + 1 else if t = 21 ∧ i = S.2.2.2 21 + 1 then 0 else if t = 7 ∧ i = S.2.2.2 7 + 1 ∧ p = 0 then S.2.2.2 20 + 1 else if t = 20 ∧ i = S.2.2.2 20 + 1 then 0 else if t = 7 ∧ i = S.2.2.2 7 + 1 then 0 else if t = 8 ∧ i = S.2.2.2 8 + 1 then 0 else S.2.1 t i p := rfl
theorem Rnd_N {S : hs_S} {a : Int32} {t : Nat} : (E_Rnd_init (S.2.2.2 8 + 1) a (hs_nw S 8)).2.2.2 t = if t = 21 then S.2.2.2 21 + 1 else if t = 20 then S.2.2.2 20 + 1 else if t = 7 then S.2.2.2 7 + 1 else if t = 8 then S.2.2.2 8 + 1 else S.2.2.2 t := rfl
theorem Wi_Rnd {S : hs_S} {a : Int32} (h : hs_Wi S) (h7 : S.2.2.2 7 = S.2.2.2 8 + 1) (h20 : S.2.2.2 20 = S.2.2.2 7) (h21 : S.2.2.2 21 = S.2.2.2 7) : hs_Wi (E_Rnd_init (S.2.2.2 8 + 1) a (hs_nw S 8)) := by
  refine Wi_at h (fun t i j hw hok => ?_) (fun j => ?_) (fun hok => ?_)
  · have hle := ok_le hok
    rw [Rnd_N] at hle
    rw [Rnd_R]
    by_cases t8 : t = 8
    · subst t8
      rw [if_neg (by decide), if_neg (by decide), if_neg (by decide), if_pos rfl] at hle
      by_cases hi : i = S.2.2.2 8 + 1
      · right
        have hj : j = 4 := by
          by_cases q : j = 4
          · exact q
          · refine absurd ?_ hw
            show (match j with | 4 => 3 | _ => 0) = 0
            split
            · exact absurd rfl q
            · rfl
        rw [hj, if_pos ⟨rfl, hi, rfl⟩]
        show _ = hs_wv 3 i
        show _ = i + 1
        omega
      · left
        refine ⟨ok_of hok (by omega), ?_⟩
        rw [if_neg (by omega), if_neg (by omega), if_neg (by omega), if_neg (by omega), if_neg (by omega), if_neg (by omega), if_neg (by omega)]
    · by_cases t7 : t = 7
      · subst t7
        rw [if_neg (by decide), if_neg (by decide), if_pos rfl] at hle
        by_cases hi : i = S.2.2.2 7 + 1
        · right
          by_cases q1 : j = 1
          · rw [q1, if_neg (by omega), if_pos ⟨rfl, hi, rfl⟩]
            show _ = i
            omega
          · by_cases q0 : j = 0
            · rw [q0, if_neg (by omega), if_neg (by omega), if_neg (by omega), if_pos ⟨rfl, hi, rfl⟩]
              show _ = i
              omega
            · refine absurd ?_ hw
              show (match j with | 0 => 2 | 1 => 2 | _ => 0) = 0
              split
              · exact absurd rfl q0
              · exact absurd rfl q1
              · rfl
        · left
          refine ⟨ok_of hok (by omega), ?_⟩
          rw [if_neg (by omega), if_neg (by omega), if_neg (by omega), if_neg (by omega), if_neg (by omega), if_neg (by omega), if_neg (by omega)]
      · left
        have t20 : t ≠ 20 := fun z => hw (by rw [z]; rfl)
        have t21 : t ≠ 21 := fun z => hw (by rw [z]; rfl)
        rw [if_neg t21, if_neg t20, if_neg t7, if_neg t8] at hle
        refine ⟨ok_of hok hle, ?_⟩
        rw [if_neg (by omega), if_neg (by omega), if_neg (by omega), if_neg (by omega), if_neg (by omega), if_neg (by omega), if_neg (by omega)]
  · rw [Rnd_R, if_neg (by omega), if_neg (by omega), if_neg (by omega), if_neg (by omega), if_neg (by omega), if_neg (by omega), if_neg (by omega)]
  · have hle := ok_le hok
    rw [Rnd_N, if_neg (by omega), if_neg (by omega), if_neg (by omega), if_neg (by omega)] at hle
    exact ok_of hok hle
def m_Book_close (r1 : Nat) (a2 : Int32) (S : hs_S) (Q : Int32 → hs_S → Prop) : Prop := hs_M 9 yX1_close (.code yX1_close cX1_close 4 (some FieldType.int)) [.inr (.inr (1, 1)), .inr (.inr (8, r1)), .inl a2] S 5 219 (hs_qI Q) hs_nX
def vc_Book_close (r1 : Nat) (a2 : Int32) (S : hs_S) (Q : Int32 → hs_S → Prop) : Prop := (∀ S1 : hs_S, S1 = (hs_wI S 8 r1 2 a2) → (((hs_sz S1 14) < 100) ∧ (∀ S3 : hs_S, S3 = (hs_add S1 14 r1) → (∀ S4 : hs_S, S4 = (hs_nw S3 8) → (m_Rnd_init (S3.2.2.2 8 + 1) (S4.1 8 r1 0) S4 (fun S5 => hs_Wi S5 ∧ ((0 ≤ (S3.1 8 r1 0).toInt ∧ (S3.1 8 r1 0).toInt < 4) ∧ (∀ S8 : hs_S, S8 = (hs_wR S5 26 1 (S3.1 8 r1 0).toNatClampNeg (S3.2.2.2 8 + 1)) → (Q (nI (hs_sz S 14)) S8)))))))))
set_option maxRecDepth 100000 in
set_option maxHeartbeats 4000000 in
theorem ok_Book_close {r1 : Nat} {a2 : Int32} {S : hs_S} {Q : Int32 → hs_S → Prop} (hr1 : r1 ≠ 0) (hw : hs_Wi S) (hv : vc_Book_close r1 a2 S Q) : m_Book_close r1 a2 S Q := by
  unfold vc_Book_close at hv
  refine hs_body (own := RX1) rfl rfl (Nat.le_of_ble_eq_true rfl) (fun Z X E N J0 => ?_)
  show wa Z 0 0 S 0 [(0, .inr (.inr (1, 1))), (1, .inr (.inr (8, r1))), (2, .inl a2)] []
  refine wa_aload_n X 0 rfl dX1_close_0 rfl ?_
  refine wa_getfw X hw (j := 2) (r := 1) hk_1 hc_1 i_1 (by decide) kw_230 rfl rfl (by decide) rfl dX1_close_1 hs_1ne ?_
  refine wa_lsize X hk_14 kw_476 dX1_close_4 hs_1ne ⟨⟨Nat.le_of_ble_eq_true rfl, Nat.le_of_ble_eq_true rfl⟩, Nat.le_of_ble_eq_true rfl, Nat.le_of_ble_eq_true rfl⟩ (Nat.le_of_ble_eq_true rfl) ?_
  refine wa_istore_n X (lv' := [(3, .inl (nI (hs_sz S 14))), (0, .inr (.inr (1, 1))), (1, .inr (.inr (8, r1))), (2, .inl a2)]) dX1_close_9 rfl (by decide) rfl ?_
  refine wa_aload_n X 2 rfl dX1_close_10 rfl ?_
  refine wa_iload_n X 3 rfl dX1_close_11 rfl ?_
  refine wa_putI X (j := 2) hk_8 hc_8 i_8 tyX8 tyX8_ok nmX8 (by decide) kw_182 rfl rfl dX1_close_12 hr1 ⟨rfl, Or.inl rfl⟩ (hs_eqS fun S1 hS1 => ?_)
  replace hv := hv S1 hS1
  replace hw : hs_Wi S1 := hS1 ▸ hs_Wi_I hw
  refine wa_aload_n X 1 rfl dX1_close_15 rfl ?_
  refine wa_getfw X hw (j := 2) (r := 1) hk_1 hc_1 i_1 (by decide) kw_230 rfl rfl (by decide) rfl dX1_close_16 hs_1ne ?_
  refine wa_aload_n X 2 rfl dX1_close_19 rfl ?_
  obtain ⟨o2, hv⟩ := hv
  refine wa_liadd X hk_14 hk_8 hc_8 kw_930 kw_1112 dX1_close_20 hs_1ne hr1 ⟨Nat.le_of_ble_eq_true rfl, Nat.le_of_ble_eq_true rfl⟩ (Nat.le_of_ble_eq_true rfl) ⟨Nat.le_of_ble_eq_true rfl, Nat.le_of_ble_eq_true rfl⟩ o2 (hs_eqS fun S3 hS3 => ?_)
  replace hv := hv S3 hS3
  replace hw : hs_Wi S3 := hS3 ▸ hs_Wi_add (t := 14) (fun _ => rfl) (by decide) hw
  refine wa_pop X dX1_close_25 rfl ?_
  refine wa_aload_n X 1 rfl dX1_close_26 rfl ?_
  refine wa_getfw X hw (j := 1) (r := 1) hk_1 hc_1 i_1 (by decide) kw_228 rfl rfl (by decide) rfl dX1_close_27 hs_1ne ?_
  refine wa_aload_n X 2 rfl dX1_close_30 rfl ?_
  refine wa_getI X (j := 0) hk_8 hc_8 i_8 (by decide) kw_175 rfl dX1_close_31 hr1 ?_
  refine wa_new X (t := 8) hk_8 hc_8 i_8 tyX8 tyX8_ok dv_8 kw_164 kw_166 kw_29 dX1_close_34 ⟨Nat.le_of_ble_eq_true rfl, Nat.le_of_ble_eq_true rfl⟩ (hs_eqS fun S4 hS4 => ?_)
  replace hv := hv S4 hS4
  clear hw
  refine wa_dup X dX1_close_37 rfl ?_
  refine wa_aload_n X 2 rfl dX1_close_38 rfl ?_
  refine wa_getI X (j := 0) hk_8 hc_8 i_8 (by decide) kw_175 rfl dX1_close_39 hr1 ?_
  refine wa_callI X (As := [.inl (S4.1 8 r1 0)]) (hv) kw_169 kw_29 kw_167 kw_168 rfl nd_X8_init rfl rfl (Nat.le_of_ble_eq_true rfl) dX1_close_42 (hs_sne _) ⟨⟨Nat.le_of_ble_eq_true rfl, Nat.le_of_ble_eq_true rfl⟩, Nat.le_of_ble_eq_true rfl, Nat.le_of_ble_eq_true rfl⟩ (fun v S5 h => ?_) (fun _ _ h => h.elim)
  obtain ⟨rfl, hw, hv⟩ := h
  obtain ⟨o7, hv⟩ := hv
  refine wa_aast X hk_26 hk_8 hc_8 (fun _ => rfl) dX1_close_45 hs_1ne o7 (hs_sne _) (hs_eqS fun S8 hS8 => ?_)
  replace hv := hv S8 hS8
  replace hw : hs_Wi S8 := hS8 ▸ hs_Wi_R rfl (by decide) hw
  refine wa_iload_n X 0 rfl dX1_close_46 rfl ?_
  exact wa_ireturn X E dX1_close_47 (Nat.le_of_ble_eq_true rfl) (Nat.le_of_ble_eq_true rfl) (Or.inl rfl) ⟨hw, _, rfl, hv⟩
theorem v_Book_close {r1 : Nat} {a2 : Int32} {S : hs_S} (hP : P_Book_close r1 a2 S) : vc_Book_close r1 a2 S (fun r T => R_Book_close r1 a2 S r T) := by
  obtain ⟨hw, hz, ⟨c, hc, ec⟩, hr, h7, h20, h21⟩ := hP
  unfold vc_Book_close
  rintro _ rfl
  refine ⟨hz, ?_⟩
  rintro _ rfl _ rfl
  have hw3 : hs_Wi (Close0 r1 a2 S) := hs_Wi_add (fun _ => rfl) (by decide) (hs_Wi_I hw)
  have e8' : (Close0 r1 a2 S).1 8 r1 0 = S.1 8 r1 0 := if_neg fun z => absurd z.2.2 (by decide)
  have e8 : (hs_nw (Close0 r1 a2 S) 8).1 8 r1 0 = S.1 8 r1 0 := by
    refine Eq.trans (if_neg fun z => ?_) e8'
    have : r1 = S.2.2.2 8 + 1 := z.2
    omega
  refine ok_Rnd_init (Nat.succ_ne_zero _) (v_Rnd_init ⟨Wi_Rnd hw3 h7 h20 h21, ?_, ?_⟩)
  · rw [e8', ec]; exact hl_ix (by omega) (by omega)
  · rintro _ rfl
    refine ⟨rfl, ?_⟩
    unfold E_Book_close
    rw [e8', e8]
    rfl

