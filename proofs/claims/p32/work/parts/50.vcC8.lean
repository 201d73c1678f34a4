def m_Fnd_goThrough (dd : Nat) (r1 : Nat) (a2 : Int32) (a3 : Int32) (S : hs_S) (Q : Int32 → hs_S → Prop) : Prop := hs_M (2 * dd + 1) yX4_goThrough (.code yX4_goThrough cX4_goThrough 9 (some FieldType.int)) [.inr (.inr (4, 1)), .inr (.inr (5, r1)), .inl a2, .inl a3] S 0 0 (hs_qI Q) hs_nX
def m_Fnd_find (dd : Nat) (a1 : Int32) (a2 : Int32) (S : hs_S) (Q : Int32 → hs_S → Prop) : Prop := hs_M (2 * dd + 2) yX4_find (.code yX4_find cX4_find 3 (some FieldType.int)) [.inr (.inr (4, 1)), .inl a1, .inl a2] S 0 0 (hs_qI Q) hs_nX
def vc_Fnd_find (dd : Nat) (a1 : Int32) (a2 : Int32) (S : hs_S) (Q : Int32 → hs_S → Prop) : Prop := ((0 ≤ a1.toInt ∧ a1.toInt < 24) ∧ ((¬ (S.1 29 1 a1.toNatClampNeg) = (2 : Int32) → (((S.1 29 1 a1.toNatClampNeg) = (1 : Int32) → (Q (2 : Int32) S)) ∧ (¬ (S.1 29 1 a1.toNatClampNeg) = (1 : Int32) → ((a2 < (24 : Int32) → (∀ S5 : hs_S, S5 = (hs_wI S 29 1 a1.toNatClampNeg (1 : Int32)) → (∀ S6 : hs_S, S6 = (hs_wI S5 4 1 9 (0 : Int32)) → (hs_Wi S6 → (m_Fnd_goThrough dd (S6.2.1 28 1 a1.toNatClampNeg) a1 a2 S6 (fun r8 S7 => (∀ S9 : hs_S, S9 = (hs_wI S7 31 1 a1.toNatClampNeg r8) → (∀ S10 : hs_S, S10 = (hs_wI S9 30 1 a1.toNatClampNeg (S9.1 4 1 9)) → (∀ S11 : hs_S, S11 = (hs_wI S10 29 1 a1.toNatClampNeg (2 : Int32)) → (Q (S11.1 31 1 a1.toNatClampNeg) S11)))))))))) ∧ (¬ a2 < (24 : Int32) → (Q (2 : Int32) S)))))) ∧ ((S.1 29 1 a1.toNatClampNeg) = (2 : Int32) → (Q (S.1 31 1 a1.toNatClampNeg) S))))
set_option maxRecDepth 100000 in
set_option maxHeartbeats 4000000 in
theorem ok_Fnd_find {dd : Nat} {a1 : Int32} {a2 : Int32} {S : hs_S} {Q : Int32 → hs_S → Prop} (hw : hs_Wi S) (hv : vc_Fnd_find dd a1 a2 S Q) : m_Fnd_find dd a1 a2 S Q := by
  unfold vc_Fnd_find at hv
  refine hs_body (own := RX4) rfl rfl (Nat.le_of_ble_eq_true rfl) (fun Z X E N J0 => ?_)
  show wa Z 0 0 S 0 [(0, .inr (.inr (4, 1))), (1, .inl a1), (2, .inl a2)] []
  refine wa_aload_n X 0 rfl dX4_find_0 rfl ?_
  refine wa_getfw X hw (j := 4) (r := 1) hk_4 hc_4 i_4 (by decide) kw_259 rfl rfl (by decide) rfl dX4_find_1 hs_1ne ?_
  refine wa_iload_n X 1 rfl dX4_find_4 rfl ?_
  obtain ⟨o1, hv⟩ := hv
  refine wa_iald X hk_29 dX4_find_5 hs_1ne o1 ?_
  refine wa_iconst X dX4_find_6 kc2 ?_
  refine wa_icmp_ne X (tgt := 17) dX4_find_7 (by decide) (fun c2 => ?_) (fun c2 => ?_)
  · replace hv := hv.1 c2
    refine wa_aload_n X 0 rfl dX4_find_17 rfl ?_
    refine wa_getfw X hw (j := 4) (r := 1) hk_4 hc_4 i_4 (by decide) kw_259 rfl rfl (by decide) rfl dX4_find_18 hs_1ne ?_
    refine wa_iload_n X 1 rfl dX4_find_21 rfl ?_
    refine wa_iald X hk_29 dX4_find_22 hs_1ne o1 ?_
    refine wa_iconst X dX4_find_23 kc1 ?_
    refine wa_icmp_eq X (tgt := 33) dX4_find_24 (by decide) (fun c3 => ?_) (fun c3 => ?_)
    · replace hv := hv.1 c3
      refine wa_iconst X dX4_find_33 kc2 ?_
      exact wa_ireturn X E dX4_find_34 (Nat.le_of_ble_eq_true rfl) (Nat.le_of_ble_eq_true rfl) (Or.inl rfl) ⟨hw, _, rfl, hv⟩
    · replace hv := hv.2 c3
      refine wa_iload_n X 2 rfl dX4_find_27 rfl ?_
      refine wa_bipush X dX4_find_28 kb24 ?_
      refine wa_icmp_lt X (tgt := 35) dX4_find_30 (by decide) (fun c4 => ?_) (fun c4 => ?_)
      · replace hv := hv.1 c4
        refine wa_aload_n X 0 rfl dX4_find_35 rfl ?_
        refine wa_getfw X hw (j := 4) (r := 1) hk_4 hc_4 i_4 (by decide) kw_259 rfl rfl (by decide) rfl dX4_find_36 hs_1ne ?_
        refine wa_iload_n X 1 rfl dX4_find_39 rfl ?_
        refine wa_iconst X dX4_find_40 kc1 ?_
        refine wa_iast X hk_29 dX4_find_41 hs_1ne o1 (hs_eqS fun S5 hS5 => ?_)
        replace hv := hv S5 hS5
        replace hw : hs_Wi S5 := hS5 ▸ hs_Wi_I hw
        refine wa_aload_n X 0 rfl dX4_find_42 rfl ?_
        refine wa_iconst X dX4_find_43 kc0 ?_
        refine wa_putI X (j := 9) hk_4 hc_4 i_4 tyX4 tyX4_ok nmX4 (by decide) kw_264 rfl rfl dX4_find_44 hs_1ne ⟨rfl, Or.inl rfl⟩ (hs_eqS fun S6 hS6 => ?_)
        replace hv := hv S6 hS6
        replace hw : hs_Wi S6 := hS6 ▸ hs_Wi_I hw
        refine wa_aload_n X 0 rfl dX4_find_47 rfl ?_
        refine wa_getfw X hw (j := 6) (r := 1) hk_4 hc_4 i_4 (by decide) kw_261 rfl rfl (by decide) rfl dX4_find_48 hs_1ne ?_
        refine wa_iload_n X 1 rfl dX4_find_51 rfl ?_
        refine wa_aload_n X 0 rfl dX4_find_52 rfl ?_
        refine wa_aload_n X 0 rfl dX4_find_53 rfl ?_
        refine wa_getfw X hw (j := 3) (r := 1) hk_4 hc_4 i_4 (by decide) kw_258 rfl rfl (by decide) rfl dX4_find_54 hs_1ne ?_
        refine wa_iload_n X 1 rfl dX4_find_57 rfl ?_
        refine wa_aald X hk_28 dX4_find_58 hs_1ne o1 ?_
        refine wa_iload_n X 1 rfl dX4_find_59 rfl ?_
        refine wa_iload_n X 2 rfl dX4_find_60 rfl ?_
        refine wa_callV X (As := [.inr (.inr (5, (S6.2.1 28 1 a1.toNatClampNeg))), .inl a1, .inl a2]) (hv hw) hk_4 hc_4 rfl kw_774 kw_30 kw_771 kw_773 kw_10 nd_X4_goThrough rfl rfl (Nat.le_of_ble_eq_true rfl) dX4_find_61 hs_1ne ⟨⟨by simp only [hs_rm]; omega, by simp only [hs_rm]; omega⟩, Nat.le_of_ble_eq_true rfl, Nat.le_of_ble_eq_true rfl⟩ (fun v S7 h => ?_) (fun _ _ h => h.elim)
        obtain ⟨hw, r8, rfl, hv⟩ := h
        refine wa_iast X hk_31 dX4_find_64 hs_1ne o1 (hs_eqS fun S9 hS9 => ?_)
        replace hv := hv S9 hS9
        replace hw : hs_Wi S9 := hS9 ▸ hs_Wi_I hw
        refine wa_aload_n X 0 rfl dX4_find_65 rfl ?_
        refine wa_getfw X hw (j := 5) (r := 1) hk_4 hc_4 i_4 (by decide) kw_260 rfl rfl (by decide) rfl dX4_find_66 hs_1ne ?_
        refine wa_iload_n X 1 rfl dX4_find_69 rfl ?_
        refine wa_aload_n X 0 rfl dX4_find_70 rfl ?_
        refine wa_getI X (j := 9) hk_4 hc_4 i_4 (by decide) kw_264 rfl dX4_find_71 hs_1ne ?_
        refine wa_iast X hk_30 dX4_find_74 hs_1ne o1 (hs_eqS fun S10 hS10 => ?_)
        replace hv := hv S10 hS10
        replace hw : hs_Wi S10 := hS10 ▸ hs_Wi_I hw
        refine wa_aload_n X 0 rfl dX4_find_75 rfl ?_
        refine wa_getfw X hw (j := 4) (r := 1) hk_4 hc_4 i_4 (by decide) kw_259 rfl rfl (by decide) rfl dX4_find_76 hs_1ne ?_
        refine wa_iload_n X 1 rfl dX4_find_79 rfl ?_
        refine wa_iconst X dX4_find_80 kc2 ?_
        refine wa_iast X hk_29 dX4_find_81 hs_1ne o1 (hs_eqS fun S11 hS11 => ?_)
        replace hv := hv S11 hS11
        replace hw : hs_Wi S11 := hS11 ▸ hs_Wi_I hw
        refine wa_aload_n X 0 rfl dX4_find_82 rfl ?_
        refine wa_getfw X hw (j := 6) (r := 1) hk_4 hc_4 i_4 (by decide) kw_261 rfl rfl (by decide) rfl dX4_find_83 hs_1ne ?_
        refine wa_iload_n X 1 rfl dX4_find_86 rfl ?_
        refine wa_iald X hk_31 dX4_find_87 hs_1ne o1 ?_
        exact wa_ireturn X E dX4_find_88 (Nat.le_of_ble_eq_true rfl) (Nat.le_of_ble_eq_true rfl) (Or.inl rfl) ⟨hw, _, rfl, hv⟩
      · replace hv := hv.2 c4
        refine wa_iconst X dX4_find_33 kc2 ?_
        exact wa_ireturn X E dX4_find_34 (Nat.le_of_ble_eq_true rfl) (Nat.le_of_ble_eq_true rfl) (Or.inl rfl) ⟨hw, _, rfl, hv⟩
  · replace hv := hv.2 c2
    refine wa_aload_n X 0 rfl dX4_find_10 rfl ?_
    refine wa_getfw X hw (j := 6) (r := 1) hk_4 hc_4 i_4 (by decide) kw_261 rfl rfl (by decide) rfl dX4_find_11 hs_1ne ?_
    refine wa_iload_n X 1 rfl dX4_find_14 rfl ?_
    refine wa_iald X hk_31 dX4_find_15 hs_1ne o1 ?_
    exact wa_ireturn X E dX4_find_16 (Nat.le_of_ble_eq_true rfl) (Nat.le_of_ble_eq_true rfl) (Or.inl rfl) ⟨hw, _, rfl, hv⟩

/-- what finding a cell leaves -/
def FO (S T : hs_S) (fs : List Frm) (c r : Int32) : Prop := FS S T ∧ FI T fs ∧ (∀ j, j < 12 * fs.length → T.1 34 1 j = S.1 34 1 j) ∧ ∃ v, gVal (cEnv S) c r v ∧ (r = 0 → T.1 30 1 c.toNatClampNeg = v ∧ rng v)
def GO (S T : hs_S) (fs : List Frm) (c r : Int32) : Prop := FS S T ∧ (∃ i p, FI T ((c, (i, p)) :: fs)) ∧ (∀ j, j < 12 * fs.length → T.1 34 1 j = S.1 34 1 j) ∧ ∃ v, gVal (cEnv S) c r v ∧ (r = 0 → T.1 4 1 9 = v ∧ rng v)
def find_is (dd : Nat) : Prop := ∀ (S : hs_S) (fs : List Frm) (n : Nat), FI S fs → n < 24 → fs.length + dd = 24 → (∀ f r, fs = f :: r → gAsk (cEnv S) f (nI n)) → hs_Wi S → m_Fnd_find dd (nI n) (nI fs.length) S (fun r T => FO S T fs (nI n) r)
theorem m_find_mono {dd : Nat} {a1 a2 : Int32} {S : hs_S} {Q Q' : Int32 → hs_S → Prop} (h : m_Fnd_find dd a1 a2 S Q) (hQ : ∀ r T, Q r T → Q' r T) : m_Fnd_find dd a1 a2 S Q' := hs_M.mono h (fun v S' q => by obtain ⟨hw, r, e, q⟩ := q; exact ⟨hw, r, e, hQ r S' q⟩) (fun _ _ q => q)
theorem m_gt_mono {dd r1 : Nat} {a1 a2 : Int32} {S : hs_S} {Q Q' : Int32 → hs_S → Prop} (h : m_Fnd_goThrough dd r1 a1 a2 S Q) (hQ : ∀ r T, Q r T → Q' r T) : m_Fnd_goThrough dd r1 a1 a2 S Q' := hs_M.mono h (fun v S' q => by obtain ⟨hw, r, e, q⟩ := q; exact ⟨hw, r, e, hQ r S' q⟩) (fun _ _ q => q)
theorem takes_n {w : Int32} : F_takes w = nI (tkN w) := by
  unfold F_takes tkN
  by_cases h : w < 8
  · rw [if_pos h, if_pos h]; rfl
  · rw [if_neg h, if_neg h]
    by_cases h2 : w = 14
    · rw [if_pos h2, if_pos h2]; rfl
    · rw [if_neg h2, if_neg h2]; rfl
theorem nI_61 {a b : Nat} : nI a * 6 + nI b = nI (6 * a + b) := by
  rw [Int32.mul_comm, show (6 : Int32) * nI a = nI (6 * a) from pk_mul 6 a, nI_add]
theorem nI_nn {a : Nat} (h : a < 2147483648) : ¬ nI a < 0 := by
  rw [i32_lt, nI_toInt (by omega)]
  have z0 : (0 : Int32).toInt = 0 := rfl
  omega
def vc_Fnd_goThrough (dd : Nat) (r1 : Nat) (a2 : Int32) (a3 : Int32) (S : hs_S) (Q : Int32 → hs_S → Prop) : Prop := (∃ I3 : Nat → Int32 → Int32 → hs_S → Prop, (∃ n8, I3 n8 (a3 * (12 : Int32)) (0 : Int32) S) ∧ (∀ N4 : Nat, ∀ x1 : Int32, ∀ x2 : Int32, ∀ S5 : hs_S, I3 N4 x1 x2 S5 → (((S5.1 5 r1 3) ≤ x2 → (Q (0 : Int32) S5)) ∧ (¬ (S5.1 5 r1 3) ≤ x2 → ((0 ≤ x2.toInt ∧ x2.toInt < 12) ∧ (((x1 - (F_takes (S5.1 22 r1 x2.toNatClampNeg))) < 0 → (Q (4 : Int32) S5)) ∧ (¬ (x1 - (F_takes (S5.1 22 r1 x2.toNatClampNeg))) < 0 → (((x1 - (F_takes (S5.1 22 r1 x2.toNatClampNeg))) < (288 : Int32) → (∀ K18 : Int32 → hs_S → Prop, (∀ (x16 : Int32) (S17 : hs_S), ((x16 = 0 → ((0 ≤ (x1 - (F_takes (S5.1 22 r1 x2.toNatClampNeg))).toInt ∧ (x1 - (F_takes (S5.1 22 r1 x2.toNatClampNeg))).toInt < 291) ∧ (∀ S21 : hs_S, S21 = (hs_wI S17 34 1 (x1 - (F_takes (S5.1 22 r1 x2.toNatClampNeg))).toNatClampNeg (S17.1 4 1 9)) → (∃ q22, q22 < N4 ∧ I3 q22 ((x1 - (F_takes (S5.1 22 r1 x2.toNatClampNeg))) + 1) (x2 + 1) S21)))) ∧ (¬ x16 = 0 → (Q x16 S17))) → K18 x16 S17) → (((S5.1 22 r1 x2.toNatClampNeg) = (1 : Int32) → (((S5.2.1 4 1 2) ≠ 0) ∧ ((0 ≤ a2.toInt ∧ a2.toInt < 24) ∧ ((P_Rts_canRead (S5.2.1 4 1 2) (S5.1 20 (S5.2.1 4 1 2) a2.toNatClampNeg) (((S5.1 23 r1 x2.toNatClampNeg) * (6 : Int32)) + (S5.1 24 r1 x2.toNatClampNeg)) S5) ∧ (((F_Rts_canRead (S5.2.1 4 1 2) (S5.1 20 (S5.2.1 4 1 2) a2.toNatClampNeg) (((S5.1 23 r1 x2.toNatClampNeg) * (6 : Int32)) + (S5.1 24 r1 x2.toNatClampNeg)) S5) = 0 → ((0 ≤ (((S5.1 23 r1 x2.toNatClampNeg) * (6 : Int32)) + (S5.1 24 r1 x2.toNatClampNeg)).toInt ∧ (((S5.1 23 r1 x2.toNatClampNeg) * (6 : Int32)) + (S5.1 24 r1 x2.toNatClampNeg)).toInt < 24) ∧ (∀ S30 : hs_S, S30 = (hs_wI S5 4 1 9 (S5.1 30 1 (((S5.1 23 r1 x2.toNatClampNeg) * (6 : Int32)) + (S5.1 24 r1 x2.toNatClampNeg)).toNatClampNeg)) → (K18 (1 : Int32) S30)))) ∧ (¬ (F_Rts_canRead (S5.2.1 4 1 2) (S5.1 20 (S5.2.1 4 1 2) a2.toNatClampNeg) (((S5.1 23 r1 x2.toNatClampNeg) * (6 : Int32)) + (S5.1 24 r1 x2.toNatClampNeg)) S5) = 0 → (hs_Wi S5 → (m_Fnd_find dd (((S5.1 23 r1 x2.toNatClampNeg) * (6 : Int32)) + (S5.1 24 r1 x2.toNatClampNeg)) (a3 + (1 : Int32)) S5 (fun r32 S31 => ((0 ≤ (((S5.1 23 r1 x2.toNatClampNeg) * (6 : Int32)) + (S5.1 24 r1 x2.toNatClampNeg)).toInt ∧ (((S5.1 23 r1 x2.toNatClampNeg) * (6 : Int32)) + (S5.1 24 r1 x2.toNatClampNeg)).toInt < 24) ∧ (∀ S34 : hs_S, S34 = (hs_wI S31 4 1 9 (S31.1 30 1 (((S5.1 23 r1 x2.toNatClampNeg) * (6 : Int32)) + (S5.1 24 r1 x2.toNatClampNeg)).toNatClampNeg)) → (K18 r32 S34)))))))))))) ∧ (¬ (S5.1 22 r1 x2.toNatClampNeg) = (1 : Int32) → ((P_Fnd_reckonWord (S5.1 22 r1 x2.toNatClampNeg) (S5.1 23 r1 x2.toNatClampNeg) (x1 - (F_takes (S5.1 22 r1 x2.toNatClampNeg))) S5) ∧ (∀ S36 : hs_S, S36 = (E_Fnd_reckonWord (S5.1 22 r1 x2.toNatClampNeg) (S5.1 23 r1 x2.toNatClampNeg) (x1 - (F_takes (S5.1 22 r1 x2.toNatClampNeg))) S5) → (K18 (F_Fnd_reckonWord (S5.1 22 r1 x2.toNatClampNeg) (S5.1 23 r1 x2.toNatClampNeg) (x1 - (F_takes (S5.1 22 r1 x2.toNatClampNeg))) S5) S36))))))) ∧ (¬ (x1 - (F_takes (S5.1 22 r1 x2.toNatClampNeg))) < (288 : Int32) → (Q (4 : Int32) S5))))))))))
set_option maxRecDepth 100000 in
set_option maxHeartbeats 4000000 in
theorem ok_Fnd_goThrough {dd : Nat} {r1 : Nat} {a2 : Int32} {a3 : Int32} {S : hs_S} {Q : Int32 → hs_S → Prop} (hr1 : r1 ≠ 0) (hw : hs_Wi S) (hv : vc_Fnd_goThrough dd r1 a2 a3 S Q) : m_Fnd_goThrough (dd + 1) r1 a2 a3 S Q := by
  unfold vc_Fnd_goThrough at hv
  refine hs_body (own := RX4) rfl rfl (Nat.le_of_ble_eq_true rfl) (fun Z X E N J0 => ?_)
  show wa Z 0 0 S 0 [(0, .inr (.inr (4, 1))), (1, .inr (.inr (5, r1))), (2, .inl a2), (3, .inl a3)] []
  refine wa_iload_n X 3 rfl dX4_goThrough_0 rfl ?_
  refine wa_bipush X dX4_goThrough_1 kb12 ?_
  refine wa_imul X dX4_goThrough_3 ?_
  refine wa_istore X (lv' := [(4, .inl (a3 * (12 : Int32))), (0, .inr (.inr (4, 1))), (1, .inr (.inr (5, r1))), (2, .inl a2), (3, .inl a3)]) dX4_goThrough_4 (by decide) rfl ?_
  refine wa_iconst X dX4_goThrough_6 kc0 ?_
  refine wa_istore X (lv' := [(5, .inl (0 : Int32)), (4, .inl (a3 * (12 : Int32))), (0, .inr (.inr (4, 1))), (1, .inr (.inr (5, r1))), (2, .inl a2), (3, .inl a3)]) dX4_goThrough_7 (by decide) rfl ?_
  obtain ⟨I3, ⟨n8, i6⟩, b7⟩ := hv
  refine wa_lv (lv' := [(0, .inr (.inr (4, 1))), (1, .inr (.inr (5, r1))), (2, .inl a2), (3, .inl a3), (4, .inl (a3 * (12 : Int32))), (5, .inl (0 : Int32))]) [2, 3, 4, 5, 1, 0] rfl ?_
  suffices L9 : ∀ N4 : Nat, ∀ x1 : Int32, ∀ x2 : Int32, ∀ S5 : hs_S, hs_Wi S5 → I3 N4 x1 x2 S5 → wa Z 0 0 S5 9 [(0, .inr (.inr (4, 1))), (1, .inr (.inr (5, r1))), (2, .inl a2), (3, .inl a3), (4, .inl x1), (5, .inl x2)] [] from L9 _ _ _ _ hw i6
  clear hw
  clear i6
  intro N4
  induction N4 using Nat.strongRecOn with
  | _ N4 h10 =>
    intro x1 x2 S5 hw j11
    have hv := b7 N4 x1 x2 S5 j11
    refine wa_iload X 5 rfl dX4_goThrough_9 ?_
    refine wa_aload_n X 1 rfl dX4_goThrough_11 rfl ?_
    refine wa_getI X (j := 3) hk_5 hc_5 i_5 (by decide) kw_117 rfl dX4_goThrough_12 hr1 ?_
    refine wa_icmp_ge X (tgt := 173) dX4_goThrough_15 (by decide) (fun c12 => ?_) (fun c12 => ?_)
    · replace hv := hv.1 c12
      refine wa_iconst X dX4_goThrough_173 kc0 ?_
      exact wa_ireturn X E dX4_goThrough_174 (Nat.le_of_ble_eq_true rfl) (Nat.le_of_ble_eq_true rfl) (Or.inl rfl) ⟨hw, _, rfl, hv⟩
    · replace hv := hv.2 c12
      refine wa_aload_n X 1 rfl dX4_goThrough_18 rfl ?_
      refine wa_getfw X hw (j := 0) (r := r1) hk_5 hc_5 i_5 (by decide) kw_111 rfl rfl (by decide) rfl dX4_goThrough_19 hr1 ?_
      refine wa_iload X 5 rfl dX4_goThrough_22 ?_
      obtain ⟨o13, hv⟩ := hv
      refine wa_iald X hk_22 dX4_goThrough_24 hr1 o13 ?_
      refine wa_istore X (lv' := [(6, .inl (S5.1 22 r1 x2.toNatClampNeg)), (0, .inr (.inr (4, 1))), (1, .inr (.inr (5, r1))), (2, .inl a2), (3, .inl a3), (4, .inl x1), (5, .inl x2)]) dX4_goThrough_25 (by decide) rfl ?_
      refine wa_iload X 5 rfl dX4_goThrough_27 ?_
      refine wa_iload X 0 rfl dX4_goThrough_29 ?_
      refine wa_callSN X (As := [.inl (S5.1 22 r1 x2.toNatClampNeg)]) (f_C_taken hw) kw_578 kw_21 kw_775 kw_577 nd_X10_taken rfl rfl (Nat.le_of_ble_eq_true rfl) dX4_goThrough_31 ⟨⟨by simp only [hs_rm]; omega, by simp only [hs_rm]; omega⟩, Nat.le_of_ble_eq_true rfl, Nat.le_of_ble_eq_true rfl⟩ (hs_pdk0 ?_) (fun _ _ h => h.elim)
      refine wa_isub X dX4_goThrough_34 ?_
      refine wa_istore X (lv' := [(4, .inl (x1 - (F_takes (S5.1 22 r1 x2.toNatClampNeg)))), (6, .inl (S5.1 22 r1 x2.toNatClampNeg)), (0, .inr (.inr (4, 1))), (1, .inr (.inr (5, r1))), (2, .inl a2), (3, .inl a3), (5, .inl x2)]) dX4_goThrough_35 (by decide) rfl ?_
      refine wa_iload X 0 rfl dX4_goThrough_37 ?_
      refine wa_if_lt X (tgt := 50) dX4_goThrough_39 (by decide) (fun c14 => ?_) (fun c14 => ?_)
      · replace hv := hv.1 c14
        refine wa_iconst X dX4_goThrough_50 kc4 ?_
        exact wa_ireturn X E dX4_goThrough_51 (Nat.le_of_ble_eq_true rfl) (Nat.le_of_ble_eq_true rfl) (Or.inl rfl) ⟨hw, _, rfl, hv⟩
      · replace hv := hv.2 c14
        refine wa_iload X 0 rfl dX4_goThrough_42 ?_
        refine wa_sipush X dX4_goThrough_44 ks288 ?_
        refine wa_icmp_lt X (tgt := 52) dX4_goThrough_47 (by decide) (fun c15 => ?_) (fun c15 => ?_)
        · replace hv := hv.1 c15
          refine wa_iload X 1 rfl dX4_goThrough_52 ?_
          refine wa_iconst X dX4_goThrough_54 kc1 ?_
          replace hv := hv (fun x16 S17 => hs_Wi S17 → wa Z 0 0 S17 145 [(0, .inr (.inr (4, 1))), (1, .inr (.inr (5, r1))), (2, .inl a2), (3, .inl a3), (4, .inl (x1 - (F_takes (S5.1 22 r1 x2.toNatClampNeg)))), (5, .inl x2), (7, .inl x16)] []) (fun x16 S17 hv hw => by
            refine wa_iload X 6 rfl dX4_goThrough_145 ?_
            refine wa_if_eq X (tgt := 153) dX4_goThrough_147 (by decide) (fun c19 => ?_) (fun c19 => ?_)
            · replace hv := hv.1 c19
              refine wa_aload_n X 0 rfl dX4_goThrough_153 rfl ?_
              refine wa_getfw X hw (j := 8) (r := 1) hk_4 hc_4 i_4 (by decide) kw_263 rfl rfl (by decide) rfl dX4_goThrough_154 hs_1ne ?_
              refine wa_iload X 4 rfl dX4_goThrough_157 ?_
              refine wa_aload_n X 0 rfl dX4_goThrough_159 rfl ?_
              refine wa_getI X (j := 9) hk_4 hc_4 i_4 (by decide) kw_264 rfl dX4_goThrough_160 hs_1ne ?_
              obtain ⟨o20, hv⟩ := hv
              refine wa_iast X hk_34 dX4_goThrough_163 hs_1ne o20 (hs_eqS fun S21 hS21 => ?_)
              replace hv := hv S21 hS21
              replace hw : hs_Wi S21 := hS21 ▸ hs_Wi_I hw
              refine wa_iinc X (v := ((x1 - (F_takes (S5.1 22 r1 x2.toNatClampNeg))) + 1)) (lv' := [(4, .inl ((x1 - (F_takes (S5.1 22 r1 x2.toNatClampNeg))) + 1)), (0, .inr (.inr (4, 1))), (1, .inr (.inr (5, r1))), (2, .inl a2), (3, .inl a3), (5, .inl x2), (7, .inl x16)]) 4 rfl dX4_goThrough_164 rfl (by decide) rfl ?_
              refine wa_iinc X (v := (x2 + 1)) (lv' := [(5, .inl (x2 + 1)), (4, .inl ((x1 - (F_takes (S5.1 22 r1 x2.toNatClampNeg))) + 1)), (0, .inr (.inr (4, 1))), (1, .inr (.inr (5, r1))), (2, .inl a2), (3, .inl a3), (7, .inl x16)]) 5 rfl dX4_goThrough_167 rfl (by decide) rfl ?_
              refine wa_goto X (tgt := 9) dX4_goThrough_170 (by decide) ?_
              obtain ⟨q22, p23, hv⟩ := hv
              refine wa_lv (lv' := [(0, .inr (.inr (4, 1))), (1, .inr (.inr (5, r1))), (2, .inl a2), (3, .inl a3), (4, .inl ((x1 - (F_takes (S5.1 22 r1 x2.toNatClampNeg))) + 1)), (5, .inl (x2 + 1))]) [2, 3, 4, 5, 1, 0] rfl ?_
              exact h10 q22 p23 _ _ _ hw hv
            · replace hv := hv.2 c19
              refine wa_iload X 6 rfl dX4_goThrough_150 ?_
              exact wa_ireturn X E dX4_goThrough_152 (Nat.le_of_ble_eq_true rfl) (Nat.le_of_ble_eq_true rfl) (Or.inl rfl) ⟨hw, _, rfl, hv⟩)
          refine wa_icmp_eq X (tgt := 78) dX4_goThrough_55 (by decide) (fun c24 => ?_) (fun c24 => ?_)
          · replace hv := hv.1 c24
            refine wa_aload_n X 3 rfl dX4_goThrough_78 rfl ?_
            refine wa_getfw X hw (j := 1) (r := r1) hk_5 hc_5 i_5 (by decide) kw_113 rfl rfl (by decide) rfl dX4_goThrough_79 hr1 ?_
            refine wa_iload X 6 rfl dX4_goThrough_82 ?_
            refine wa_iald X hk_23 dX4_goThrough_84 hr1 o13 ?_
            refine wa_bipush X dX4_goThrough_85 kb6 ?_
            refine wa_imul X dX4_goThrough_87 ?_
            refine wa_aload_n X 3 rfl dX4_goThrough_88 rfl ?_
            refine wa_getfw X hw (j := 2) (r := r1) hk_5 hc_5 i_5 (by decide) kw_115 rfl rfl (by decide) rfl dX4_goThrough_89 hr1 ?_
            refine wa_iload X 6 rfl dX4_goThrough_92 ?_
            refine wa_iald X hk_24 dX4_goThrough_94 hr1 o13 ?_
            refine wa_iadd X dX4_goThrough_95 ?_
            refine wa_istore X (lv' := [(8, .inl (((S5.1 23 r1 x2.toNatClampNeg) * (6 : Int32)) + (S5.1 24 r1 x2.toNatClampNeg))), (4, .inl (x1 - (F_takes (S5.1 22 r1 x2.toNatClampNeg)))), (6, .inl (S5.1 22 r1 x2.toNatClampNeg)), (0, .inr (.inr (4, 1))), (1, .inr (.inr (5, r1))), (2, .inl a2), (3, .inl a3), (5, .inl x2)]) dX4_goThrough_96 (by decide) rfl ?_
            refine wa_aload_n X 3 rfl dX4_goThrough_98 rfl ?_
            refine wa_getR X (j := 2) hk_4 hc_4 i_4 (by decide) kw_257 rfl dX4_goThrough_99 hs_1ne ?_
            refine wa_aload_n X 3 rfl dX4_goThrough_102 rfl ?_
            refine wa_getR X (j := 2) hk_4 hc_4 i_4 (by decide) kw_257 rfl dX4_goThrough_103 hs_1ne ?_
            obtain ⟨o25, hv⟩ := hv
            refine wa_getfw X hw (j := 0) (r := (S5.2.1 4 1 2)) hk_7 hc_7 i_7 (by decide) kw_70 rfl rfl (by decide) rfl dX4_goThrough_106 o25 ?_
            refine wa_iload_n X 5 rfl dX4_goThrough_109 rfl ?_
            obtain ⟨o26, hv⟩ := hv
            refine wa_iald X hk_20 dX4_goThrough_110 o25 o26 ?_
            refine wa_iload X 0 rfl dX4_goThrough_111 ?_
            obtain ⟨o27, hv⟩ := hv
            refine wa_callV X (As := [.inl (S5.1 20 (S5.2.1 4 1 2) a2.toNatClampNeg), .inl (((S5.1 23 r1 x2.toNatClampNeg) * (6 : Int32)) + (S5.1 24 r1 x2.toNatClampNeg))]) (f_Rts_canRead o25 hw o27) hk_7 hc_7 rfl kw_732 kw_23 kw_782 kw_730 kw_731 nd_X7_canRead rfl rfl (Nat.le_of_ble_eq_true rfl) dX4_goThrough_113 o25 ⟨⟨by simp only [hs_rm]; omega, by simp only [hs_rm]; omega⟩, Nat.le_of_ble_eq_true rfl, Nat.le_of_ble_eq_true rfl⟩ (hs_pdk0 ?_) (fun _ _ h => h.elim)
            refine wa_if_eq X (tgt := 131) dX4_goThrough_116 (by decide) (fun c28 => ?_) (fun c28 => ?_)
            · replace hv := hv.1 c28
              refine wa_iconst X dX4_goThrough_131 kc1 ?_
              refine wa_istore X (lv' := [(7, .inl (1 : Int32)), (8, .inl (((S5.1 23 r1 x2.toNatClampNeg) * (6 : Int32)) + (S5.1 24 r1 x2.toNatClampNeg))), (4, .inl (x1 - (F_takes (S5.1 22 r1 x2.toNatClampNeg)))), (6, .inl (S5.1 22 r1 x2.toNatClampNeg)), (0, .inr (.inr (4, 1))), (1, .inr (.inr (5, r1))), (2, .inl a2), (3, .inl a3), (5, .inl x2)]) dX4_goThrough_132 (by decide) rfl ?_
              refine wa_aload_n X 4 rfl dX4_goThrough_134 rfl ?_
              refine wa_aload_n X 4 rfl dX4_goThrough_135 rfl ?_
              refine wa_getfw X hw (j := 5) (r := 1) hk_4 hc_4 i_4 (by decide) kw_260 rfl rfl (by decide) rfl dX4_goThrough_136 hs_1ne ?_
              refine wa_iload X 1 rfl dX4_goThrough_139 ?_
              obtain ⟨o29, hv⟩ := hv
              refine wa_iald X hk_30 dX4_goThrough_141 hs_1ne o29 ?_
              refine wa_putI X (j := 9) hk_4 hc_4 i_4 tyX4 tyX4_ok nmX4 (by decide) kw_264 rfl rfl dX4_goThrough_142 hs_1ne ⟨rfl, Or.inl rfl⟩ (hs_eqS fun S30 hS30 => ?_)
              replace hv := hv S30 hS30
              replace hw : hs_Wi S30 := hS30 ▸ hs_Wi_I hw
              refine wa_lv (lv' := [(0, .inr (.inr (4, 1))), (1, .inr (.inr (5, r1))), (2, .inl a2), (3, .inl a3), (4, .inl (x1 - (F_takes (S5.1 22 r1 x2.toNatClampNeg)))), (5, .inl x2), (7, .inl (1 : Int32))]) [4, 5, 6, 7, 2, 8, 0] rfl ?_
              exact wa_wid (Nat.le_of_ble_eq_true rfl) (Nat.le_of_ble_eq_true rfl) (hv hw)
            · replace hv := hv.2 c28
              refine wa_aload_n X 3 rfl dX4_goThrough_119 rfl ?_
              refine wa_iload X 0 rfl dX4_goThrough_120 ?_
              refine wa_iload_n X 6 rfl dX4_goThrough_122 rfl ?_
              refine wa_iconst X dX4_goThrough_123 kc1 ?_
              refine wa_iadd X dX4_goThrough_124 ?_
              refine wa_callV X (As := [.inl (((S5.1 23 r1 x2.toNatClampNeg) * (6 : Int32)) + (S5.1 24 r1 x2.toNatClampNeg)), .inl (a3 + (1 : Int32))]) (hv hw) hk_4 hc_4 rfl kw_770 kw_30 kw_767 kw_769 kw_9 nd_X4_find rfl rfl (Nat.le_of_ble_eq_true rfl) dX4_goThrough_125 hs_1ne ⟨⟨by simp only [hs_rm]; omega, by simp only [hs_rm]; omega⟩, Nat.le_of_ble_eq_true rfl, Nat.le_of_ble_eq_true rfl⟩ (fun v S31 h => ?_) (fun _ _ h => h.elim)
              obtain ⟨hw, r32, rfl, hv⟩ := h
              refine wa_goto X (tgt := 132) dX4_goThrough_128 (by decide) ?_
              refine wa_istore X (lv' := [(7, .inl r32), (8, .inl (((S5.1 23 r1 x2.toNatClampNeg) * (6 : Int32)) + (S5.1 24 r1 x2.toNatClampNeg))), (4, .inl (x1 - (F_takes (S5.1 22 r1 x2.toNatClampNeg)))), (6, .inl (S5.1 22 r1 x2.toNatClampNeg)), (0, .inr (.inr (4, 1))), (1, .inr (.inr (5, r1))), (2, .inl a2), (3, .inl a3), (5, .inl x2)]) dX4_goThrough_132 (by decide) rfl ?_
              refine wa_aload_n X 4 rfl dX4_goThrough_134 rfl ?_
              refine wa_aload_n X 4 rfl dX4_goThrough_135 rfl ?_
              refine wa_getfw X hw (j := 5) (r := 1) hk_4 hc_4 i_4 (by decide) kw_260 rfl rfl (by decide) rfl dX4_goThrough_136 hs_1ne ?_
              refine wa_iload X 1 rfl dX4_goThrough_139 ?_
              obtain ⟨o33, hv⟩ := hv
              refine wa_iald X hk_30 dX4_goThrough_141 hs_1ne o33 ?_
              refine wa_putI X (j := 9) hk_4 hc_4 i_4 tyX4 tyX4_ok nmX4 (by decide) kw_264 rfl rfl dX4_goThrough_142 hs_1ne ⟨rfl, Or.inl rfl⟩ (hs_eqS fun S34 hS34 => ?_)
              replace hv := hv S34 hS34
              replace hw : hs_Wi S34 := hS34 ▸ hs_Wi_I hw
              refine wa_lv (lv' := [(0, .inr (.inr (4, 1))), (1, .inr (.inr (5, r1))), (2, .inl a2), (3, .inl a3), (4, .inl (x1 - (F_takes (S5.1 22 r1 x2.toNatClampNeg)))), (5, .inl x2), (7, .inl r32)]) [4, 5, 6, 7, 2, 8, 0] rfl ?_
              exact wa_wid (Nat.le_of_ble_eq_true rfl) (Nat.le_of_ble_eq_true rfl) (hv hw)
          · replace hv := hv.2 c24
            refine wa_aload_n X 2 rfl dX4_goThrough_58 rfl ?_
            refine wa_iload X 1 rfl dX4_goThrough_59 ?_
            refine wa_aload_n X 3 rfl dX4_goThrough_61 rfl ?_
            refine wa_getfw X hw (j := 1) (r := r1) hk_5 hc_5 i_5 (by decide) kw_113 rfl rfl (by decide) rfl dX4_goThrough_62 hr1 ?_
            refine wa_iload X 6 rfl dX4_goThrough_65 ?_
            refine wa_iald X hk_23 dX4_goThrough_67 hr1 o13 ?_
            refine wa_iload X 0 rfl dX4_goThrough_68 ?_
            obtain ⟨o35, hv⟩ := hv
            refine wa_callV X (As := [.inl (S5.1 22 r1 x2.toNatClampNeg), .inl (S5.1 23 r1 x2.toNatClampNeg), .inl (x1 - (F_takes (S5.1 22 r1 x2.toNatClampNeg)))]) (f_Fnd_reckonWord hw o35) hk_4 hc_4 rfl kw_779 kw_30 kw_776 kw_778 kw_11 nd_X4_reckonWord rfl rfl (Nat.le_of_ble_eq_true rfl) dX4_goThrough_70 hs_1ne ⟨⟨by simp only [hs_rm]; omega, by simp only [hs_rm]; omega⟩, Nat.le_of_ble_eq_true rfl, Nat.le_of_ble_eq_true rfl⟩ (hs_pdk fun S36 hS36 hw => ?_) (fun _ _ h => h.elim)
            replace hv := hv S36 hS36
            refine wa_istore X (lv' := [(7, .inl (F_Fnd_reckonWord (S5.1 22 r1 x2.toNatClampNeg) (S5.1 23 r1 x2.toNatClampNeg) (x1 - (F_takes (S5.1 22 r1 x2.toNatClampNeg))) S5)), (4, .inl (x1 - (F_takes (S5.1 22 r1 x2.toNatClampNeg)))), (6, .inl (S5.1 22 r1 x2.toNatClampNeg)), (0, .inr (.inr (4, 1))), (1, .inr (.inr (5, r1))), (2, .inl a2), (3, .inl a3), (5, .inl x2)]) dX4_goThrough_73 (by decide) rfl ?_
            refine wa_goto X (tgt := 145) dX4_goThrough_75 (by decide) ?_
            refine wa_lv (lv' := [(0, .inr (.inr (4, 1))), (1, .inr (.inr (5, r1))), (2, .inl a2), (3, .inl a3), (4, .inl (x1 - (F_takes (S5.1 22 r1 x2.toNatClampNeg)))), (5, .inl x2), (7, .inl (F_Fnd_reckonWord (S5.1 22 r1 x2.toNatClampNeg) (S5.1 23 r1 x2.toNatClampNeg) (x1 - (F_takes (S5.1 22 r1 x2.toNatClampNeg))) S5))]) [3, 4, 5, 6, 1, 7, 0] rfl ?_
            exact wa_wid (Nat.le_of_ble_eq_true rfl) (Nat.le_of_ble_eq_true rfl) (hv hw)
        · replace hv := hv.2 c15
          refine wa_iconst X dX4_goThrough_50 kc4 ?_
          exact wa_ireturn X E dX4_goThrough_51 (Nat.le_of_ble_eq_true rfl) (Nat.le_of_ble_eq_true rfl) (Or.inl rfl) ⟨hw, _, rfl, hv⟩
theorem gt_ok {dd : Nat} (IH : find_is dd) {S : hs_S} {fs : List Frm} {n : Nat} (hI : FI S ((nI n, (0, [])) :: fs)) (hn : n < 24) (hl : fs.length + (dd + 1) = 24) (h0 : S.1 4 1 9 = 0) (hw : hs_Wi S) : m_Fnd_goThrough (dd + 1) (S.2.1 28 1 n) (nI n) (nI fs.length) S (fun r T => GO S T fs (nI n) r) := by
  obtain ⟨hz, g, hg, eg, hword⟩ := hI.1.2 n hn
  refine ok_Fnd_goThrough hz hw ?_
  have hcn : (nI n).toNatClampNeg = n := cl24 hn
  unfold vc_Fnd_goThrough
  generalize ef : S.2.1 28 1 n = f at *
  refine ⟨fun N x1 x2 U => ∃ i p, i ≤ g ∧ N = g - i ∧ x1 = nI (12 * fs.length + p.length) ∧ x2 = nI i ∧ hs_Wi U ∧ FS S U ∧ FI U ((nI n, (i, p)) :: fs) ∧ p.length = cht S f i ∧ (∀ v ∈ p, rng v) ∧ sg U (12 * fs.length) p ∧ U.1 4 1 9 = p.headD 0 ∧ (∀ j, j < 12 * fs.length → U.1 34 1 j = S.1 34 1 j), ⟨g, 0, [], Nat.zero_le _, rfl, ?_, rfl, hw, FS.rf, hI, rfl, (fun v hv => nomatch hv), True.intro, h0, fun _ _ => rfl⟩, ?_⟩
  · show nI fs.length * 12 = nI (12 * fs.length)
    rw [Int32.mul_comm]; exact pk_mul 12 _
  rintro N x1 x2 U ⟨i, p, hi, rfl, rfl, rfl, hwU, hU, hF, hlen, hrg, hsg, hmade, hpile⟩
  have e5 : U.1 5 f 3 = nI g := (hU.2 5 f 3 rfl).trans eg
  have efU : U.2.1 28 1 n = f := by rw [hU.1]; exact ef
  have hpi : p.length ≤ i := by rw [hlen]; exact cht_le i
  have hgd := hF.2.1.1 _ (List.mem_cons_self ..)
  have E1 : (cEnv U).1 (nI n) = g := by
    show (U.1 5 (U.2.1 28 1 (nI n).toNatClampNeg) 3).toNatClampNeg = g
    rw [hcn, efU, e5]; exact hl_cl (by omega)
  rw [e5]
  refine ⟨fun h => ?_, fun h => ?_⟩
  · have hig : i = g := hl_end (by omega) hi h
    refine ⟨hU, ⟨i, p, hF⟩, hpile, p.headD 0, ?_, fun _ => ⟨hmade, ?_⟩⟩
    · rw [← hU.env]
      exact Or.inl (hgd.2 1 (0, p.headD 0) (gev_end (hig.trans E1.symm)))
    · cases p with
      | nil => exact ⟨by decide, by decide⟩
      | cons v q => exact hrg v (List.mem_cons_self ..)
  · have hig : i < g := hl_go (by omega) hi h
    obtain ⟨hw15, htk, hcell, hcol⟩ := hword i hig
    have e22 : U.1 22 f i = S.1 22 f i := hU.2 22 f i rfl
    have e23 : U.1 23 f i = S.1 23 f i := hU.2 23 f i rfl
    have e24 : U.1 24 f i = S.1 24 f i := hU.2 24 f i rfl
    have E2 : (cEnv U).2.1 (nI n) i = S.1 22 f i := by
      show U.1 22 (U.2.1 28 1 (nI n).toNatClampNeg) i = _
      rw [hcn, efU, e22]
    have E3 : (cEnv U).2.2.1 (nI n) i = S.1 23 f i * 6 + S.1 24 f i := by
      show U.1 23 (U.2.1 28 1 (nI n).toNatClampNeg) i * 6 + U.1 24 (U.2.1 28 1 (nI n).toNatClampNeg) i = _
      rw [hcn, efU, e23, e24]
    have E5 : (cEnv U).2.2.2.2 (nI n) i p = cStp (U.1 33) (S.1 22 f i) (S.1 23 f i) p := by
      show cStp (U.1 33) (U.1 22 (U.2.1 28 1 (nI n).toNatClampNeg) i) (U.1 23 (U.2.1 28 1 (nI n).toNatClampNeg) i) p = _
      rw [hcn, efU, e22, e23]
    have hiE : i ≠ (cEnv U).1 (nI n) := by rw [E1]; omega
    have hch : cht S f (i + 1) = p.length + 1 - tkN (S.1 22 f i) := by rw [hlen]; rfl
    have hFL := FI_len hF
    rw [List.length_cons] at hFL
    rw [hl_cl (by omega), e22, e23, e24]
    rw [← hlen] at htk
    generalize hwd : S.1 22 f i = w at *
    rw [takes_n, nI_subI (by omega) (by omega)]
    have out : ∀ (T : hs_S) (k : Int32), FS U T → FI T ((nI n, (i, p)) :: fs) → (∀ j, j < 12 * fs.length → T.1 34 1 j = U.1 34 1 j) → k ≠ 0 → gVal (cEnv U) (nI n) k 0 → GO S T fs (nI n) k := fun T k t1 t2 t3 t4 t5 => ⟨hU.tr t1, ⟨i, p, t2⟩, fun j hj => (t3 j hj).trans (hpile j hj), 0, by rw [← hU.env]; exact t5, fun z => absurd z t4⟩
    have j288 : 12 * fs.length + p.length - tkN w < 288 := by omega
    refine ⟨hl_ix (by omega) (by omega), fun h => absurd h (nI_nn (by omega)), fun _ => ⟨fun _ K hK => ?_, fun h => absurd ((hl_lt (a := 12 * fs.length + p.length - tkN w) (b := 288) (by omega) (by omega)).mpr j288) h⟩⟩
    -- a number is laid on the pile
    have push : ∀ (T : hs_S) (v : Int32) (q : List Int32), hs_Wi T → FS U T → FI T ((nI n, (i, p)) :: fs) → gGd (cEnv U) (nI n, (i + 1, v :: q)) → q.length = p.length - tkN w → (∀ x ∈ q, x ∈ p) → sg T (12 * fs.length) q → (∀ j, j < 12 * fs.length → T.1 34 1 j = U.1 34 1 j) → T.1 4 1 9 = v → rng v →
        ∀ S21 : hs_S, S21 = hs_wI T 34 1 (nI (12 * fs.length + p.length - tkN w)).toNatClampNeg (T.1 4 1 9) → ∃ q22, q22 < g - i ∧ ∃ i' p', i' ≤ g ∧ q22 = g - i' ∧ nI (12 * fs.length + p.length - tkN w) + 1 = nI (12 * fs.length + p'.length) ∧ nI i + 1 = nI i' ∧ hs_Wi S21 ∧ FS S S21 ∧ FI S21 ((nI n, (i', p')) :: fs) ∧ p'.length = cht S f i' ∧ (∀ v ∈ p', rng v) ∧ sg S21 (12 * fs.length) p' ∧ S21.1 4 1 9 = p'.headD 0 ∧ (∀ j, j < 12 * fs.length → S21.1 34 1 j = S.1 34 1 j) := by
      intro T v q hwT t1 t2 t3 t4 t5 t6 t7 t8 t9 S21 h21
      rw [hl_cl (by omega), t8] at h21
      subst h21
      have hql : (v :: q).length = q.length + 1 := List.length_cons
      refine ⟨g - (i + 1), by omega, i + 1, v :: q, by omega, rfl, ?_, nI_1 i, hs_Wi_I hwT, (hU.tr t1).w rfl, FI_fr (FS.rf.w rfl) rfl rfl rfl (FI_top t2 (by rw [t1.env]; exact t3)), ?_, fun x hx => ?_, ?_, t8, fun j hj => ?_⟩
      · rw [nI_1, hql]; congr 1; omega
      · rw [hch, hql]; omega
      · rcases List.mem_cons.mp hx with y | y
        · rw [y]; exact t9
        · exact hrg x (t5 x y)
      · refine ⟨?_, sg_fr q (fun j hj => ?_) t6⟩
        · rw [w34, if_pos (by omega)]
        · rw [w34, if_neg (by omega)]
      · rw [w34, if_neg (by omega)]
        exact (t7 j hj).trans (hpile j hj)
    refine ⟨fun h1 => ?_, fun h1 => ?_⟩
    · obtain ⟨a, b, ha, hb, ea, eb⟩ := hcell h1
      have htk0 : tkN w = 0 := by rw [h1]; rfl
      rw [ea, eb, nI_61] at E3 ⊢
      generalize hm : 6 * a + b = m at *
      have hm24 : m < 24 := by omega
      have hmc : (nI m).toNatClampNeg = m := cl24 hm24
      have E4 : (cEnv U).2.2.2.1 (nI n) (nI m) = !decide (F_Rts_canRead (U.2.1 4 1 2) (U.1 20 (U.2.1 4 1 2) (nI n).toNatClampNeg) (nI m) U = 0) := rfl
      refine ⟨hF.1.1, hl_ix (by omega) (by omega), hl_ix (by omega) (by omega), fun hc => ⟨hl_ix (by omega) (by omega), ?_⟩, fun hc hwU2 => ?_⟩
      · rintro _ rfl
        refine hK _ _ ⟨fun z => absurd z (by decide), fun _ => out _ _ (FS.rf.w rfl) (FI_fr (FS.rf.w rfl) rfl rfl rfl hF) (fun _ _ => rfl) (by decide) (Or.inl (hgd.2 1 (1, 0) (gev_hid hiE (E2.trans h1) ?_)))⟩
        rw [E3, E4, decide_eq_true hc]; rfl
      · have hask : gAsk (cEnv U) (nI n, (i, p)) (nI m) := ⟨hiE, E2.trans h1, by
          show ¬ (cEnv U).2.2.2.1 (nI n) ((cEnv U).2.2.1 (nI n) i) = false
          rw [E3, E4, decide_eq_false hc]; decide, E3⟩
        have hcall := IH U ((nI n, (i, p)) :: fs) m hF hm24 (by rw [List.length_cons]; omega) (fun f' r' e => by
          have := List.cons.inj e
          rw [← this.1]; exact hask) hwU2
        rw [List.length_cons, ← nI_1] at hcall
        refine hs_M.mono hcall (fun v S' q => ?_) (fun _ _ q => q)
        obtain ⟨hwT, r, ev, t1, t2, t3, v2, t4, t5⟩ := q
        refine ⟨hwT, r, ev, hl_ix (by omega) (by omega), ?_⟩
        rintro _ rfl
        rw [hmc] at t5
        refine hK _ _ ⟨fun r0 => ⟨hl_ix (by omega) (by omega), ?_⟩, fun r0 => ?_⟩
        · obtain ⟨t6, t7⟩ := t5 r0
          rw [hmc, t6]
          rcases t4 with ⟨k, hk⟩ | ⟨z, _, _⟩
          · rw [r0] at hk
            refine push _ v2 p (hs_Wi_I hwT) (t1.w rfl) (FI_fr (FS.rf.w rfl) rfl rfl rfl t2) (gGd_c hgd hask hk) (by omega) (fun x hx => hx) (sg_fr p (fun j hj => ?_) hsg) (fun j hj => ?_) rfl t7
            · exact t3 j (by rw [List.length_cons]; omega)
            · exact t3 j (by rw [List.length_cons]; omega)
          · rw [z] at r0; exact absurd r0 (by decide)
        · exact out _ r (t1.w rfl) (FI_fr (FS.rf.w rfl) rfl rfl rfl t2) (fun j hj => t3 j (by rw [List.length_cons]; omega)) r0 (gVal_c hgd hask t4 r0)
    · have R := rw_ok (one := S.1 23 f i) hsg (by omega) htk hw15 h1 (by omega)
      refine ⟨⟨⟨_, by omega, rfl⟩, hw15, hcol⟩, ?_⟩
      rintro _ rfl
      cases hst : cStp (U.1 33) w (S.1 23 f i) p with
      | inl k =>
        obtain ⟨r1, r2, r3⟩ := R.1 k hst
        rw [r1, r3]
        refine hK _ _ ⟨fun z => absurd z r2, fun _ => out U k FS.rf hF (fun _ _ => rfl) r2 (Or.inl (hgd.2 1 (k, 0) ?_))⟩
        show gev (cEnv U) 1 (nI n) i p = some (k, 0)
        rw [gev_word hiE (by rw [E2]; exact h1), E5, hst]
      | inr q =>
        obtain ⟨r1, v, q', r2, r3, r4, r5, r6, r7⟩ := R.2 q hst
        rw [r1, r4]
        refine hK _ _ ⟨fun _ => ⟨hl_ix (by omega) (by omega), push _ v q' (hs_Wi_I hwU) (FS.rf.w rfl) (FI_fr (FS.rf.w rfl) rfl rfl rfl hF) ?_ r6 r7 (sg_fr (T := U) (T' := hs_wI U 4 1 9 v) q' (fun _ _ => rfl) r5) (fun _ _ => rfl) rfl r3⟩, fun z => absurd rfl z⟩
        refine gGd_w hgd hiE (by rw [E2]; exact h1) ?_
        rw [E5, hst, r2]
theorem find_ok : ∀ dd, find_is dd := by
  intro dd
  induction dd with
  | zero =>
    intro S fs n hI hn hl ha hw
    refine ok_Fnd_find hw ?_
    unfold vc_Fnd_find
    rw [cl24 hn]
    have hge : ¬ nI fs.length < 24 := fun z => by
      have := (hl_lt (a := fs.length) (b := 24) (by omega) (by omega)).mp z
      omega
    refine ⟨hl_ix (by omega) (by omega), fun h2 => ⟨fun h1 => ?_, fun h1 => ⟨fun z => absurd z hge, fun _ => ?_⟩⟩, fun h2 => ?_⟩
    · exact ⟨FS.rf, hI, fun _ _ => rfl, 0, Or.inr ⟨rfl, rfl, gcirc2 fs (nI n) hI.2.1.1 hI.2.1.2.1 ha ((hI.2.2.1 n hn).mp h1)⟩, fun z => absurd z (by decide)⟩
    · have := FI_len (FI_push (T := hs_wI S 29 1 n 1) (FS.rf.w rfl) hI hn h1 ha (fun _ => w29) rfl rfl)
      rw [List.length_cons] at this
      omega
    · obtain ⟨v, h3, h4⟩ := hI.2.2.2 n hn h2
      exact ⟨FS.rf, hI, fun _ _ => rfl, v, h3, by rw [cl24 hn]; exact h4⟩
  | succ dd IH =>
    intro S fs n hI hn hl ha hw
    refine ok_Fnd_find hw ?_
    unfold vc_Fnd_find
    rw [cl24 hn]
    have hlt : nI fs.length < 24 := (hl_lt (a := fs.length) (b := 24) (by omega) (by omega)).mpr (by omega)
    refine ⟨hl_ix (by omega) (by omega), fun h2 => ⟨fun h1 => ?_, fun h1 => ⟨fun _ => ?_, fun z => absurd hlt z⟩⟩, fun h2 => ?_⟩
    · exact ⟨FS.rf, hI, fun _ _ => rfl, 0, Or.inr ⟨rfl, rfl, gcirc2 fs (nI n) hI.2.1.1 hI.2.1.2.1 ha ((hI.2.2.1 n hn).mp h1)⟩, fun z => absurd z (by decide)⟩
    · rintro S5 rfl S6 rfl hw6
      have f6 : FS S (hs_wI (hs_wI S 29 1 n 1) 4 1 9 0) := (FS.rf.w rfl).w rfl
      have hI6 : FI (hs_wI (hs_wI S 29 1 n 1) 4 1 9 0) ((nI n, (0, [])) :: fs) := FI_push f6 hI hn h1 ha (fun _ => w29) rfl rfl
      refine m_gt_mono (gt_ok IH hI6 hn hl rfl hw6) fun r T q => ?_
      obtain ⟨t1, ⟨i, p, t2⟩, t3, v, t4, t5⟩ := q
      rintro _ rfl _ rfl _ rfl
      have e31 : (hs_wI (hs_wI (hs_wI T 31 1 n r) 30 1 n ((hs_wI T 31 1 n r).1 4 1 9)) 29 1 n 2).1 31 1 n = r := (w31 (S := T) (x := r)).trans (if_pos rfl)
      have fT : FS T (hs_wI (hs_wI (hs_wI T 31 1 n r) 30 1 n ((hs_wI T 31 1 n r).1 4 1 9)) 29 1 n 2) := ((FS.rf.w rfl).w rfl).w rfl
      rw [e31]
      rw [f6.env] at t4
      have t4' : gVal (cEnv T) (nI n) r v := by rw [t1.env, f6.env]; exact t4
      refine ⟨(f6.tr t1).tr fT, FI_pop fT t2 hn rfl t4' (fun z => ?_) (fun k => ?_) (fun k hk => ?_) (fun k => ?_), fun j hj => ?_, v, t4, fun z => ?_⟩
      · refine ⟨?_, (t5 z).2⟩
        exact ((w30 (S := hs_wI T 31 1 n r) (x := T.1 4 1 9)).trans (if_pos rfl)).trans (t5 z).1
      · exact w29 (S := hs_wI (hs_wI T 31 1 n r) 30 1 n (T.1 4 1 9)) (x := 2)
      · exact (w30 (S := hs_wI T 31 1 n r) (x := T.1 4 1 9)).trans (if_neg hk)
      · exact w31 (S := T) (x := r)
      · exact t3 j hj
      · rw [cl24 hn]
        refine ⟨?_, (t5 z).2⟩
        exact ((w30 (S := hs_wI T 31 1 n r) (x := T.1 4 1 9)).trans (if_pos rfl)).trans (t5 z).1
    · obtain ⟨v, h3, h4⟩ := hI.2.2.2 n hn h2
      exact ⟨FS.rf, hI, fun _ _ => rfl, v, h3, by rw [cl24 hn]; exact h4⟩

def P_Fnd_faultOf (a1 : Int32) (S : hs_S) : Prop := FI S [] ∧ ∃ n : Nat, n < 24 ∧ a1 = nI n
def R_Fnd_faultOf (a1 : Int32) (S : hs_S) (r : Int32) (T : hs_S) : Prop := FS S T ∧ FI T [] ∧ ∃ v, gVal (cEnv S) a1 r v
def m_Fnd_faultOf (a1 : Int32) (S : hs_S) (Q : Int32 → hs_S → Prop) : Prop := hs_M 51 yX4_faultOf (.code yX4_faultOf cX4_faultOf 2 (some FieldType.int)) [.inr (.inr (4, 1)), .inl a1] S 0 0 (hs_qI Q) hs_nX
def vc_Fnd_faultOf (a1 : Int32) (S : hs_S) (Q : Int32 → hs_S → Prop) : Prop := (hs_Wi S → (m_Fnd_find 24 a1 (0 : Int32) S (fun r2 S1 => (Q r2 S1))))
set_option maxRecDepth 100000 in
set_option maxHeartbeats 4000000 in
theorem ok_Fnd_faultOf {a1 : Int32} {S : hs_S} {Q : Int32 → hs_S → Prop} (hw : hs_Wi S) (hv : vc_Fnd_faultOf a1 S Q) : m_Fnd_faultOf a1 S Q := by
  unfold vc_Fnd_faultOf at hv
  refine hs_body (own := RX4) rfl rfl (Nat.le_of_ble_eq_true rfl) (fun Z X E N J0 => ?_)
  show wa Z 0 0 S 0 [(0, .inr (.inr (4, 1))), (1, .inl a1)] []
  refine wa_aload_n X 0 rfl dX4_faultOf_0 rfl ?_
  refine wa_iload_n X 1 rfl dX4_faultOf_1 rfl ?_
  refine wa_iconst X dX4_faultOf_2 kc0 ?_
  refine wa_callV X (As := [.inl a1, .inl (0 : Int32)]) (hv hw) hk_4 hc_4 rfl kw_770 kw_30 kw_767 kw_769 kw_9 nd_X4_find rfl rfl (Nat.le_of_ble_eq_true rfl) dX4_faultOf_3 hs_1ne ⟨⟨Nat.le_of_ble_eq_true rfl, Nat.le_of_ble_eq_true rfl⟩, Nat.le_of_ble_eq_true rfl, Nat.le_of_ble_eq_true rfl⟩ (fun v S1 h => ?_) (fun _ _ h => h.elim)
  obtain ⟨hw, r2, rfl, hv⟩ := h
  exact wa_ireturn X E dX4_faultOf_6 (Nat.le_of_ble_eq_true rfl) (Nat.le_of_ble_eq_true rfl) (Or.inl rfl) ⟨hw, _, rfl, hv⟩
theorem v_Fnd_faultOf {a1 : Int32} {S : hs_S} (hP : P_Fnd_faultOf a1 S) : vc_Fnd_faultOf a1 S (fun r T => R_Fnd_faultOf a1 S r T) := by
  obtain ⟨hI, n, hn, rfl⟩ := hP
  intro hw
  refine m_find_mono (find_ok 24 S [] n hI hn rfl (fun f r z => nomatch z) hw) fun r T q => ?_
  obtain ⟨t1, t2, _, v, t4, _⟩ := q
  exact ⟨t1, t2, v, t4⟩

def P_Fnd_numberOf (a1 : Int32) (S : hs_S) : Prop := FI S [] ∧ ∃ n : Nat, n < 24 ∧ a1 = nI n
def R_Fnd_numberOf (a1 : Int32) (S : hs_S) (r : Int32) (T : hs_S) : Prop := FS S T ∧ FI T [] ∧ (∃ f, gVal (cEnv S) a1 f r) ∧ rng r
def m_Fnd_numberOf (a1 : Int32) (S : hs_S) (Q : Int32 → hs_S → Prop) : Prop := hs_M 51 yX4_numberOf (.code yX4_numberOf cX4_numberOf 2 (some FieldType.int)) [.inr (.inr (4, 1)), .inl a1] S 0 0 (hs_qI Q) hs_nX
def vc_Fnd_numberOf (a1 : Int32) (S : hs_S) (Q : Int32 → hs_S → Prop) : Prop := (hs_Wi S → (m_Fnd_find 24 a1 (0 : Int32) S (fun r2 S1 => ((¬ r2 = 0 → (Q (0 : Int32) S1)) ∧ (r2 = 0 → ((0 ≤ a1.toInt ∧ a1.toInt < 24) ∧ (Q (S1.1 30 1 a1.toNatClampNeg) S1)))))))
set_option maxRecDepth 100000 in
set_option maxHeartbeats 4000000 in
theorem ok_Fnd_numberOf {a1 : Int32} {S : hs_S} {Q : Int32 → hs_S → Prop} (hw : hs_Wi S) (hv : vc_Fnd_numberOf a1 S Q) : m_Fnd_numberOf a1 S Q := by
  unfold vc_Fnd_numberOf at hv
  refine hs_body (own := RX4) rfl rfl (Nat.le_of_ble_eq_true rfl) (fun Z X E N J0 => ?_)
  show wa Z 0 0 S 0 [(0, .inr (.inr (4, 1))), (1, .inl a1)] []
  refine wa_aload_n X 0 rfl dX4_numberOf_0 rfl ?_
  refine wa_iload_n X 1 rfl dX4_numberOf_1 rfl ?_
  refine wa_iconst X dX4_numberOf_2 kc0 ?_
  refine wa_callV X (As := [.inl a1, .inl (0 : Int32)]) (hv hw) hk_4 hc_4 rfl kw_770 kw_30 kw_767 kw_769 kw_9 nd_X4_find rfl rfl (Nat.le_of_ble_eq_true rfl) dX4_numberOf_3 hs_1ne ⟨⟨Nat.le_of_ble_eq_true rfl, Nat.le_of_ble_eq_true rfl⟩, Nat.le_of_ble_eq_true rfl, Nat.le_of_ble_eq_true rfl⟩ (fun v S1 h => ?_) (fun _ _ h => h.elim)
  obtain ⟨hw, r2, rfl, hv⟩ := h
  refine wa_if_ne X (tgt := 18) dX4_numberOf_6 (by decide) (fun c3 => ?_) (fun c3 => ?_)
  · replace hv := hv.1 c3
    refine wa_iconst X dX4_numberOf_18 kc0 ?_
    exact wa_ireturn X E dX4_numberOf_19 (Nat.le_of_ble_eq_true rfl) (Nat.le_of_ble_eq_true rfl) (Or.inl rfl) ⟨hw, _, rfl, hv⟩
  · replace hv := hv.2 c3
    refine wa_aload_n X 0 rfl dX4_numberOf_9 rfl ?_
    refine wa_getfw X hw (j := 5) (r := 1) hk_4 hc_4 i_4 (by decide) kw_260 rfl rfl (by decide) rfl dX4_numberOf_10 hs_1ne ?_
    refine wa_iload_n X 1 rfl dX4_numberOf_13 rfl ?_
    obtain ⟨o4, hv⟩ := hv
    refine wa_iald X hk_30 dX4_numberOf_14 hs_1ne o4 ?_
    refine wa_goto X (tgt := 19) dX4_numberOf_15 (by decide) ?_
    exact wa_ireturn X E dX4_numberOf_19 (Nat.le_of_ble_eq_true rfl) (Nat.le_of_ble_eq_true rfl) (Or.inl rfl) ⟨hw, _, rfl, hv⟩
theorem v_Fnd_numberOf {a1 : Int32} {S : hs_S} (hP : P_Fnd_numberOf a1 S) : vc_Fnd_numberOf a1 S (fun r T => R_Fnd_numberOf a1 S r T) := by
  obtain ⟨hI, n, hn, rfl⟩ := hP
  intro hw
  refine m_find_mono (find_ok 24 S [] n hI hn rfl (fun f r z => nomatch z) hw) fun r T q => ?_
  obtain ⟨t1, t2, _, v, t4, t5⟩ := q
  refine ⟨fun h => ⟨t1, t2, ⟨r, ?_⟩, by decide, by decide⟩, fun h => ⟨hl_ix (by omega) (by omega), t1, t2, ⟨r, ?_⟩, ?_⟩⟩
  · have := gVal_bad t4 h
    rw [this] at t4; exact t4
  · rw [(t5 h).1]; exact t4
  · rw [(t5 h).1]; exact (t5 h).2

