def E_puts (a1 : Int64) (S : hs_S) : hs_S := if lg_cmp a1 (-1000000000) < 0 then hs_wI S 11 1 58 4 else if lg_cmp a1 1000000000 ≤ 0 then hs_wI (hs_wI S 94 1 (S.1 11 1 55).toNatClampNeg a1.toInt32) 11 1 55 (S.1 11 1 55 + 1) else hs_wI S 11 1 58 4
def P_puts (a1 : Int64) (S : hs_S) : Prop := cN (S.1 11 1 55) 319
def m_M_puts (a1 : Int64) (S : hs_S) (Q : hs_S → Prop) : Prop := hs_M 1 yX11_puts (.code yX11_puts cX11_puts 3 none) [.inr (.inr (11, 1)), .inr (.inl a1)] S 0 0 (hs_qV Q) hs_nX
def vc_M_puts (a1 : Int64) (S : hs_S) (Q : hs_S → Prop) : Prop := (((lg_cmp a1 (-1000000000 : Int64)) < 0 → (∀ S2 : hs_S, S2 = (hs_wI S 11 1 58 (4 : Int32)) → (Q S2))) ∧ (¬ (lg_cmp a1 (-1000000000 : Int64)) < 0 → (((lg_cmp a1 (1000000000 : Int64)) ≤ 0 → ((0 ≤ (S.1 11 1 55).toInt ∧ (S.1 11 1 55).toInt < 320) ∧ (∀ S5 : hs_S, S5 = (hs_wI S 94 1 (S.1 11 1 55).toNatClampNeg a1.toInt32) → (∀ S6 : hs_S, S6 = (hs_wI S5 11 1 55 ((S5.1 11 1 55) + (1 : Int32))) → (Q S6))))) ∧ (¬ (lg_cmp a1 (1000000000 : Int64)) ≤ 0 → (∀ S7 : hs_S, S7 = (hs_wI S 11 1 58 (4 : Int32)) → (Q S7))))))
set_option maxRecDepth 100000 in
set_option maxHeartbeats 4000000 in
theorem ok_M_puts {a1 : Int64} {S : hs_S} {Q : hs_S → Prop} (hw : hs_Wi S) (hv : vc_M_puts a1 S Q) : m_M_puts a1 S Q := by
  unfold vc_M_puts at hv
  refine hs_body (own := RX11) rfl rfl (Nat.le_of_ble_eq_true rfl) (fun Z X E N J0 => ?_)
  show wa Z 0 0 S 0 [(0, .inr (.inr (11, 1))), (1, .inr (.inl a1))] []
  refine wa_lload_n X 1 rfl dX11_puts_0 rfl ?_
  refine wa_ldc2 X kw_1484 dX11_puts_1 ?_
  refine wa_lcmp X dX11_puts_4 ?_
  refine wa_if_lt X (tgt := 16) dX11_puts_5 (by decide) (fun c1 => ?_) (fun c1 => ?_)
  · replace hv := hv.1 c1
    refine wa_aload_n X 0 rfl dX11_puts_16 rfl ?_
    refine wa_iconst X dX11_puts_17 kc4 ?_
    refine wa_putI X (j := 58) hk_11 hc_11 i_11 tyX11 tyX11_ok nmX11 (by decide) kw_1242 rfl rfl dX11_puts_18 hs_1ne ⟨rfl, Or.inl rfl⟩ (hs_eqS fun S2 hS2 => ?_)
    replace hv := hv S2 hS2
    replace hw : hs_Wi S2 := hS2 ▸ hs_Wi_I hw
    refine wa_goto X (tgt := 45) dX11_puts_21 (by decide) ?_
    exact wa_return X E dX11_puts_45 (Nat.le_of_ble_eq_true rfl) (Nat.le_of_ble_eq_true rfl) ⟨hw, rfl, hv⟩
  · replace hv := hv.2 c1
    refine wa_lload_n X 1 rfl dX11_puts_8 rfl ?_
    refine wa_ldc2 X kw_1485 dX11_puts_9 ?_
    refine wa_lcmp X dX11_puts_12 ?_
    refine wa_if_le X (tgt := 24) dX11_puts_13 (by decide) (fun c3 => ?_) (fun c3 => ?_)
    · replace hv := hv.1 c3
      refine wa_aload_n X 0 rfl dX11_puts_24 rfl ?_
      refine wa_getfw X hw (j := 54) (r := 1) hk_11 hc_11 i_11 (by decide) kw_1238 rfl rfl (by decide) rfl dX11_puts_25 hs_1ne ?_
      refine wa_aload_n X 0 rfl dX11_puts_28 rfl ?_
      refine wa_getI X (j := 55) hk_11 hc_11 i_11 (by decide) kw_1239 rfl dX11_puts_29 hs_1ne ?_
      refine wa_lload_n X 1 rfl dX11_puts_32 rfl ?_
      refine wa_l2i X dX11_puts_33 ?_
      obtain ⟨o4, hv⟩ := hv
      refine wa_iast X hk_94 dX11_puts_34 hs_1ne o4 (hs_eqS fun S5 hS5 => ?_)
      replace hv := hv S5 hS5
      replace hw : hs_Wi S5 := hS5 ▸ hs_Wi_I hw
      refine wa_aload_n X 0 rfl dX11_puts_35 rfl ?_
      refine wa_dup X dX11_puts_36 rfl ?_
      refine wa_getI X (j := 55) hk_11 hc_11 i_11 (by decide) kw_1239 rfl dX11_puts_37 hs_1ne ?_
      refine wa_iconst X dX11_puts_40 kc1 ?_
      refine wa_iadd X dX11_puts_41 ?_
      refine wa_putI X (j := 55) hk_11 hc_11 i_11 tyX11 tyX11_ok nmX11 (by decide) kw_1239 rfl rfl dX11_puts_42 hs_1ne ⟨rfl, Or.inl rfl⟩ (hs_eqS fun S6 hS6 => ?_)
      replace hv := hv S6 hS6
      replace hw : hs_Wi S6 := hS6 ▸ hs_Wi_I hw
      exact wa_return X E dX11_puts_45 (Nat.le_of_ble_eq_true rfl) (Nat.le_of_ble_eq_true rfl) ⟨hw, rfl, hv⟩
    · replace hv := hv.2 c3
      refine wa_aload_n X 0 rfl dX11_puts_16 rfl ?_
      refine wa_iconst X dX11_puts_17 kc4 ?_
      refine wa_putI X (j := 58) hk_11 hc_11 i_11 tyX11 tyX11_ok nmX11 (by decide) kw_1242 rfl rfl dX11_puts_18 hs_1ne ⟨rfl, Or.inl rfl⟩ (hs_eqS fun S7 hS7 => ?_)
      replace hv := hv S7 hS7
      replace hw : hs_Wi S7 := hS7 ▸ hs_Wi_I hw
      refine wa_goto X (tgt := 45) dX11_puts_21 (by decide) ?_
      exact wa_return X E dX11_puts_45 (Nat.le_of_ble_eq_true rfl) (Nat.le_of_ble_eq_true rfl) ⟨hw, rfl, hv⟩
theorem v_M_puts {a1 : Int64} {S : hs_S} (hP : P_puts a1 S) : vc_M_puts a1 S (fun S' => S' = E_puts a1 S) := by
  obtain ⟨g, hg, eg⟩ := hP
  unfold vc_M_puts E_puts
  refine ⟨fun h S2 h2 => by rw [h2, if_pos h], fun h => ⟨fun q => ⟨?_, fun S5 h5 S6 h6 => ?_⟩, fun q S7 h7 => ?_⟩⟩
  · rw [eg]; exact hl_ix (by omega) (by omega)
  · rw [if_neg h, if_pos q, h6, h5]; rfl
  · rw [if_neg h, if_neg q, h7]
theorem f_M_puts {a1 : Int64} {S : hs_S} (hw : hs_Wi S) (hP : P_puts a1 S) : hs_M 1 yX11_puts (.code yX11_puts cX11_puts 3 none) [.inr (.inr (11, 1)), .inr (.inl a1)] S 0 0 (hs_pd (none) (E_puts a1 S)) hs_nX := hs_pdV (ok_M_puts hw (v_M_puts hP))

/-- what a word of two numbers comes to -/
def mAr (w : Int32) (a b : Int64) : Int64 := if w = 8 then a + b else if w = 9 then a - b else if w = 10 then a * b else if w = 11 then a / b else if w = 12 then (if 0 ≤ lg_cmp a b then b else a) else (if 0 ≤ lg_cmp a b then a else b)
def E_reckons (a1 : Int32) (S : hs_S) : hs_S :=
  if a1 = 14 then E_puts (if S.1 94 1 (S.1 11 1 55 - 3).toNatClampNeg ≤ 0 then (S.1 94 1 (S.1 11 1 55 - 1).toNatClampNeg).toInt64 else (S.1 94 1 (S.1 11 1 55 - 2).toNatClampNeg).toInt64) (hs_wI S 11 1 55 (S.1 11 1 55 - 3))
  else if a1 = 11 ∧ S.1 94 1 (S.1 11 1 55 - 1).toNatClampNeg = 0 then hs_wI (hs_wI S 11 1 55 (S.1 11 1 55 - 2)) 11 1 58 3
  else E_puts (mAr a1 (S.1 94 1 (S.1 11 1 55 - 2).toNatClampNeg).toInt64 (S.1 94 1 (S.1 11 1 55 - 1).toNatClampNeg).toInt64) (hs_wI S 11 1 55 (S.1 11 1 55 - 2))
def P_reckons (a1 : Int32) (S : hs_S) : Prop := ∃ g : Nat, 2 ≤ g ∧ g ≤ 320 ∧ (a1 = 14 → 3 ≤ g) ∧ S.1 11 1 55 = nI g
def m_M_reckons (a1 : Int32) (S : hs_S) (Q : hs_S → Prop) : Prop := hs_M 2 yX11_reckons (.code yX11_reckons cX11_reckons 6 none) [.inr (.inr (11, 1)), .inl a1] S 0 0 (hs_qV Q) hs_nX
def vc_M_reckons (a1 : Int32) (S : hs_S) (Q : hs_S → Prop) : Prop := ((0 ≤ ((S.1 11 1 55) - (1 : Int32)).toInt ∧ ((S.1 11 1 55) - (1 : Int32)).toInt < 320) ∧ ((0 ≤ ((S.1 11 1 55) - (2 : Int32)).toInt ∧ ((S.1 11 1 55) - (2 : Int32)).toInt < 320) ∧ ((¬ a1 = (14 : Int32) → (∀ S4 : hs_S, S4 = (hs_wI S 11 1 55 ((S.1 11 1 55) - (2 : Int32))) → ((¬ a1 = (11 : Int32) → (((¬ a1 = (8 : Int32) → ((¬ a1 = (9 : Int32) → ((¬ a1 = (10 : Int32) → ((¬ a1 = (11 : Int32) → ((¬ a1 = (12 : Int32) → ((0 ≤ (lg_cmp (S.1 94 1 ((S.1 11 1 55) - (2 : Int32)).toNatClampNeg).toInt64 (S.1 94 1 ((S.1 11 1 55) - (1 : Int32)).toNatClampNeg).toInt64) → True) ∧ (¬ 0 ≤ (lg_cmp (S.1 94 1 ((S.1 11 1 55) - (2 : Int32)).toNatClampNeg).toInt64 (S.1 94 1 ((S.1 11 1 55) - (1 : Int32)).toNatClampNeg).toInt64) → True))) ∧ (a1 = (12 : Int32) → ((0 ≤ (lg_cmp (S.1 94 1 ((S.1 11 1 55) - (2 : Int32)).toNatClampNeg).toInt64 (S.1 94 1 ((S.1 11 1 55) - (1 : Int32)).toNatClampNeg).toInt64) → True) ∧ (¬ 0 ≤ (lg_cmp (S.1 94 1 ((S.1 11 1 55) - (2 : Int32)).toNatClampNeg).toInt64 (S.1 94 1 ((S.1 11 1 55) - (1 : Int32)).toNatClampNeg).toInt64) → True))))) ∧ (a1 = (11 : Int32) → ((¬ (S.1 94 1 ((S.1 11 1 55) - (1 : Int32)).toNatClampNeg).toInt64 = 0) ∧ True)))) ∧ (a1 = (10 : Int32) → True))) ∧ (a1 = (9 : Int32) → True))) ∧ (a1 = (8 : Int32) → True)) ∧ (∀ x6 : Int64, x6 = (if a1 = (8 : Int32) then ((S.1 94 1 ((S.1 11 1 55) - (2 : Int32)).toNatClampNeg).toInt64 + (S.1 94 1 ((S.1 11 1 55) - (1 : Int32)).toNatClampNeg).toInt64) else (if a1 = (9 : Int32) then ((S.1 94 1 ((S.1 11 1 55) - (2 : Int32)).toNatClampNeg).toInt64 - (S.1 94 1 ((S.1 11 1 55) - (1 : Int32)).toNatClampNeg).toInt64) else (if a1 = (10 : Int32) then ((S.1 94 1 ((S.1 11 1 55) - (2 : Int32)).toNatClampNeg).toInt64 * (S.1 94 1 ((S.1 11 1 55) - (1 : Int32)).toNatClampNeg).toInt64) else (if a1 = (11 : Int32) then ((S.1 94 1 ((S.1 11 1 55) - (2 : Int32)).toNatClampNeg).toInt64 / (S.1 94 1 ((S.1 11 1 55) - (1 : Int32)).toNatClampNeg).toInt64) else (if a1 = (12 : Int32) then (if 0 ≤ (lg_cmp (S.1 94 1 ((S.1 11 1 55) - (2 : Int32)).toNatClampNeg).toInt64 (S.1 94 1 ((S.1 11 1 55) - (1 : Int32)).toNatClampNeg).toInt64) then (S.1 94 1 ((S.1 11 1 55) - (1 : Int32)).toNatClampNeg).toInt64 else (S.1 94 1 ((S.1 11 1 55) - (2 : Int32)).toNatClampNeg).toInt64) else (if 0 ≤ (lg_cmp (S.1 94 1 ((S.1 11 1 55) - (2 : Int32)).toNatClampNeg).toInt64 (S.1 94 1 ((S.1 11 1 55) - (1 : Int32)).toNatClampNeg).toInt64) then (S.1 94 1 ((S.1 11 1 55) - (2 : Int32)).toNatClampNeg).toInt64 else (S.1 94 1 ((S.1 11 1 55) - (1 : Int32)).toNatClampNeg).toInt64)))))) → ((P_puts x6 S4) ∧ (∀ S8 : hs_S, S8 = (E_puts x6 S4) → (Q S8)))))) ∧ (a1 = (11 : Int32) → ((¬ (S.1 94 1 ((S.1 11 1 55) - (1 : Int32)).toNatClampNeg) = 0 → (((¬ a1 = (8 : Int32) → ((¬ a1 = (9 : Int32) → ((¬ a1 = (10 : Int32) → ((¬ a1 = (11 : Int32) → ((¬ a1 = (12 : Int32) → ((0 ≤ (lg_cmp (S.1 94 1 ((S.1 11 1 55) - (2 : Int32)).toNatClampNeg).toInt64 (S.1 94 1 ((S.1 11 1 55) - (1 : Int32)).toNatClampNeg).toInt64) → True) ∧ (¬ 0 ≤ (lg_cmp (S.1 94 1 ((S.1 11 1 55) - (2 : Int32)).toNatClampNeg).toInt64 (S.1 94 1 ((S.1 11 1 55) - (1 : Int32)).toNatClampNeg).toInt64) → True))) ∧ (a1 = (12 : Int32) → ((0 ≤ (lg_cmp (S.1 94 1 ((S.1 11 1 55) - (2 : Int32)).toNatClampNeg).toInt64 (S.1 94 1 ((S.1 11 1 55) - (1 : Int32)).toNatClampNeg).toInt64) → True) ∧ (¬ 0 ≤ (lg_cmp (S.1 94 1 ((S.1 11 1 55) - (2 : Int32)).toNatClampNeg).toInt64 (S.1 94 1 ((S.1 11 1 55) - (1 : Int32)).toNatClampNeg).toInt64) → True))))) ∧ (a1 = (11 : Int32) → ((¬ (S.1 94 1 ((S.1 11 1 55) - (1 : Int32)).toNatClampNeg).toInt64 = 0) ∧ True)))) ∧ (a1 = (10 : Int32) → True))) ∧ (a1 = (9 : Int32) → True))) ∧ (a1 = (8 : Int32) → True)) ∧ (∀ x25 : Int64, x25 = (if a1 = (8 : Int32) then ((S.1 94 1 ((S.1 11 1 55) - (2 : Int32)).toNatClampNeg).toInt64 + (S.1 94 1 ((S.1 11 1 55) - (1 : Int32)).toNatClampNeg).toInt64) else (if a1 = (9 : Int32) then ((S.1 94 1 ((S.1 11 1 55) - (2 : Int32)).toNatClampNeg).toInt64 - (S.1 94 1 ((S.1 11 1 55) - (1 : Int32)).toNatClampNeg).toInt64) else (if a1 = (10 : Int32) then ((S.1 94 1 ((S.1 11 1 55) - (2 : Int32)).toNatClampNeg).toInt64 * (S.1 94 1 ((S.1 11 1 55) - (1 : Int32)).toNatClampNeg).toInt64) else (if a1 = (11 : Int32) then ((S.1 94 1 ((S.1 11 1 55) - (2 : Int32)).toNatClampNeg).toInt64 / (S.1 94 1 ((S.1 11 1 55) - (1 : Int32)).toNatClampNeg).toInt64) else (if a1 = (12 : Int32) then (if 0 ≤ (lg_cmp (S.1 94 1 ((S.1 11 1 55) - (2 : Int32)).toNatClampNeg).toInt64 (S.1 94 1 ((S.1 11 1 55) - (1 : Int32)).toNatClampNeg).toInt64) then (S.1 94 1 ((S.1 11 1 55) - (1 : Int32)).toNatClampNeg).toInt64 else (S.1 94 1 ((S.1 11 1 55) - (2 : Int32)).toNatClampNeg).toInt64) else (if 0 ≤ (lg_cmp (S.1 94 1 ((S.1 11 1 55) - (2 : Int32)).toNatClampNeg).toInt64 (S.1 94 1 ((S.1 11 1 55) - (1 : Int32)).toNatClampNeg).toInt64) then (S.1 94 1 ((S.1 11 1 55) - (2 : Int32)).toNatClampNeg).toInt64 else (S.1 94 1 ((S.1 11 1 55) - (1 : Int32)).toNatClampNeg).toInt64)))))) → ((P_puts x25 S4) ∧ (∀ S27 : hs_S, S27 = (E_puts x25 S4) → (Q S27)))))) ∧ ((S.1 94 1 ((S.1 11 1 55) - (1 : Int32)).toNatClampNeg) = 0 → (∀ S43 : hs_S, S43 = (hs_wI S4 11 1 58 (3 : Int32)) → (Q S43)))))))) ∧ (a1 = (14 : Int32) → ((0 ≤ ((S.1 11 1 55) - (3 : Int32)).toInt ∧ ((S.1 11 1 55) - (3 : Int32)).toInt < 320) ∧ (∀ S45 : hs_S, S45 = (hs_wI S 11 1 55 ((S.1 11 1 55) - (3 : Int32))) → (∀ x46 : Int64, x46 = (if (S.1 94 1 ((S.1 11 1 55) - (3 : Int32)).toNatClampNeg) ≤ 0 then (S.1 94 1 ((S.1 11 1 55) - (1 : Int32)).toNatClampNeg).toInt64 else (S.1 94 1 ((S.1 11 1 55) - (2 : Int32)).toNatClampNeg).toInt64) → ((P_puts x46 S45) ∧ (∀ S48 : hs_S, S48 = (E_puts x46 S45) → (Q S48))))))))))
set_option maxRecDepth 100000 in
set_option maxHeartbeats 4000000 in
theorem ok_M_reckons {a1 : Int32} {S : hs_S} {Q : hs_S → Prop} (hw : hs_Wi S) (hv : vc_M_reckons a1 S Q) : m_M_reckons a1 S Q := by
  unfold vc_M_reckons at hv
  refine hs_body (own := RX11) rfl rfl (Nat.le_of_ble_eq_true rfl) (fun Z X E N J0 => ?_)
  show wa Z 0 0 S 0 [(0, .inr (.inr (11, 1))), (1, .inl a1)] []
  refine wa_aload_n X 0 rfl dX11_reckons_0 rfl ?_
  refine wa_getfw X hw (j := 54) (r := 1) hk_11 hc_11 i_11 (by decide) kw_1238 rfl rfl (by decide) rfl dX11_reckons_1 hs_1ne ?_
  refine wa_aload_n X 0 rfl dX11_reckons_4 rfl ?_
  refine wa_getI X (j := 55) hk_11 hc_11 i_11 (by decide) kw_1239 rfl dX11_reckons_5 hs_1ne ?_
  refine wa_iconst X dX11_reckons_8 kc1 ?_
  refine wa_isub X dX11_reckons_9 ?_
  obtain ⟨o1, hv⟩ := hv
  refine wa_iald X hk_94 dX11_reckons_10 hs_1ne o1 ?_
  refine wa_istore_n X (lv' := [(2, .inl (S.1 94 1 ((S.1 11 1 55) - (1 : Int32)).toNatClampNeg)), (0, .inr (.inr (11, 1))), (1, .inl a1)]) dX11_reckons_11 rfl (by decide) rfl ?_
  refine wa_aload_n X 1 rfl dX11_reckons_12 rfl ?_
  refine wa_getfw X hw (j := 54) (r := 1) hk_11 hc_11 i_11 (by decide) kw_1238 rfl rfl (by decide) rfl dX11_reckons_13 hs_1ne ?_
  refine wa_aload_n X 1 rfl dX11_reckons_16 rfl ?_
  refine wa_getI X (j := 55) hk_11 hc_11 i_11 (by decide) kw_1239 rfl dX11_reckons_17 hs_1ne ?_
  refine wa_iconst X dX11_reckons_20 kc2 ?_
  refine wa_isub X dX11_reckons_21 ?_
  obtain ⟨o2, hv⟩ := hv
  refine wa_iald X hk_94 dX11_reckons_22 hs_1ne o2 ?_
  refine wa_i2l X dX11_reckons_23 ?_
  refine wa_lstore_n X (lv' := [(3, .inr (.inl (S.1 94 1 ((S.1 11 1 55) - (2 : Int32)).toNatClampNeg).toInt64)), (2, .inl (S.1 94 1 ((S.1 11 1 55) - (1 : Int32)).toNatClampNeg)), (0, .inr (.inr (11, 1))), (1, .inl a1)]) dX11_reckons_24 rfl (by decide) rfl ?_
  refine wa_iload_n X 3 rfl dX11_reckons_25 rfl ?_
  refine wa_bipush X dX11_reckons_26 kb14 ?_
  refine wa_icmp_ne X (tgt := 70) dX11_reckons_28 (by decide) (fun c3 => ?_) (fun c3 => ?_)
  · replace hv := hv.1 c3
    refine wa_aload_n X 2 rfl dX11_reckons_70 rfl ?_
    refine wa_dup X dX11_reckons_71 rfl ?_
    refine wa_getI X (j := 55) hk_11 hc_11 i_11 (by decide) kw_1239 rfl dX11_reckons_72 hs_1ne ?_
    refine wa_iconst X dX11_reckons_75 kc2 ?_
    refine wa_isub X dX11_reckons_76 ?_
    refine wa_putI X (j := 55) hk_11 hc_11 i_11 tyX11 tyX11_ok nmX11 (by decide) kw_1239 rfl rfl dX11_reckons_77 hs_1ne ⟨rfl, Or.inl rfl⟩ (hs_eqS fun S4 hS4 => ?_)
    replace hv := hv S4 hS4
    replace hw : hs_Wi S4 := hS4 ▸ hs_Wi_I hw
    refine wa_iload_n X 3 rfl dX11_reckons_80 rfl ?_
    refine wa_bipush X dX11_reckons_81 kb11 ?_
    refine wa_icmp_ne X (tgt := 98) dX11_reckons_83 (by decide) (fun c5 => ?_) (fun c5 => ?_)
    · replace hv := hv.1 c5
      refine wa_aload_n X 2 rfl dX11_reckons_98 rfl ?_
      refine wa_iload_n X 3 rfl dX11_reckons_99 rfl ?_
      refine wa_bipush X dX11_reckons_100 kb8 ?_
      obtain ⟨o10, hv⟩ := hv
      have k9 : ∀ (x6 : Int64), x6 = (if a1 = (8 : Int32) then ((S.1 94 1 ((S.1 11 1 55) - (2 : Int32)).toNatClampNeg).toInt64 + (S.1 94 1 ((S.1 11 1 55) - (1 : Int32)).toNatClampNeg).toInt64) else (if a1 = (9 : Int32) then ((S.1 94 1 ((S.1 11 1 55) - (2 : Int32)).toNatClampNeg).toInt64 - (S.1 94 1 ((S.1 11 1 55) - (1 : Int32)).toNatClampNeg).toInt64) else (if a1 = (10 : Int32) then ((S.1 94 1 ((S.1 11 1 55) - (2 : Int32)).toNatClampNeg).toInt64 * (S.1 94 1 ((S.1 11 1 55) - (1 : Int32)).toNatClampNeg).toInt64) else (if a1 = (11 : Int32) then ((S.1 94 1 ((S.1 11 1 55) - (2 : Int32)).toNatClampNeg).toInt64 / (S.1 94 1 ((S.1 11 1 55) - (1 : Int32)).toNatClampNeg).toInt64) else (if a1 = (12 : Int32) then (if 0 ≤ (lg_cmp (S.1 94 1 ((S.1 11 1 55) - (2 : Int32)).toNatClampNeg).toInt64 (S.1 94 1 ((S.1 11 1 55) - (1 : Int32)).toNatClampNeg).toInt64) then (S.1 94 1 ((S.1 11 1 55) - (1 : Int32)).toNatClampNeg).toInt64 else (S.1 94 1 ((S.1 11 1 55) - (2 : Int32)).toNatClampNeg).toInt64) else (if 0 ≤ (lg_cmp (S.1 94 1 ((S.1 11 1 55) - (2 : Int32)).toNatClampNeg).toInt64 (S.1 94 1 ((S.1 11 1 55) - (1 : Int32)).toNatClampNeg).toInt64) then (S.1 94 1 ((S.1 11 1 55) - (2 : Int32)).toNatClampNeg).toInt64 else (S.1 94 1 ((S.1 11 1 55) - (1 : Int32)).toNatClampNeg).toInt64)))))) → wa Z 0 0 S4 183 [] [.inr (.inl x6), .inr (.inr (11, 1))] := by
        intro x6 hE
        replace hv := hv _ hE
        obtain ⟨o7, hv⟩ := hv
        refine wa_callV X (As := [.inr (.inl x6)]) (f_M_puts hw o7) hk_11 hc_11 rfl kw_1483 kw_66 kw_1480 kw_1482 kw_34 nd_X11_puts rfl rfl (Nat.le_of_ble_eq_true rfl) dX11_reckons_183 hs_1ne ⟨⟨Nat.le_of_ble_eq_true rfl, Nat.le_of_ble_eq_true rfl⟩, Nat.le_of_ble_eq_true rfl, Nat.le_of_ble_eq_true rfl⟩ (hs_pdk fun S8 hS8 hw => ?_) (fun _ _ h => h.elim)
        replace hv := hv S8 hS8
        exact wa_return X E dX11_reckons_186 (Nat.le_of_ble_eq_true rfl) (Nat.le_of_ble_eq_true rfl) ⟨hw, rfl, hv⟩
      replace hv := o10
      refine wa_icmp_ne X (tgt := 112) dX11_reckons_102 (by decide) (fun c12 => ?_) (fun c12 => ?_)
      · replace hv := hv.1 c12
        refine wa_iload_n X 3 rfl dX11_reckons_112 rfl ?_
        refine wa_bipush X dX11_reckons_113 kb9 ?_
        refine wa_icmp_ne X (tgt := 125) dX11_reckons_115 (by decide) (fun c13 => ?_) (fun c13 => ?_)
        · replace hv := hv.1 c13
          refine wa_iload_n X 3 rfl dX11_reckons_125 rfl ?_
          refine wa_bipush X dX11_reckons_126 kb10 ?_
          refine wa_icmp_ne X (tgt := 138) dX11_reckons_128 (by decide) (fun c14 => ?_) (fun c14 => ?_)
          · replace hv := hv.1 c14
            refine wa_iload_n X 3 rfl dX11_reckons_138 rfl ?_
            refine wa_bipush X dX11_reckons_139 kb11 ?_
            refine wa_icmp_ne X (tgt := 151) dX11_reckons_141 (by decide) (fun c15 => ?_) (fun c15 => ?_)
            · replace hv := hv.1 c15
              refine wa_iload_n X 3 rfl dX11_reckons_151 rfl ?_
              refine wa_bipush X dX11_reckons_152 kb12 ?_
              refine wa_icmp_ne X (tgt := 161) dX11_reckons_154 (by decide) (fun c16 => ?_) (fun c16 => ?_)
              · replace hv := hv.1 c16
                refine wa_iconst X dX11_reckons_161 kc0 ?_
                refine wa_lload_n X 0 rfl dX11_reckons_162 rfl ?_
                refine wa_iload_n X 1 rfl dX11_reckons_163 rfl ?_
                refine wa_i2l X dX11_reckons_164 ?_
                refine wa_lcmp X dX11_reckons_165 ?_
                refine wa_if_ge X (tgt := 173) dX11_reckons_166 (by decide) (fun c17 => ?_) (fun c17 => ?_)
                · replace hv := hv.1 c17
                  refine wa_iconst X dX11_reckons_173 kc0 ?_
                  refine wa_icmp_ne X (tgt := 181) dX11_reckons_174 (by decide) (fun c => absurd c (by decide)) (fun _ => ?_)
                  refine wa_lload_n X 0 rfl dX11_reckons_177 rfl ?_
                  refine wa_goto X (tgt := 183) dX11_reckons_178 (by decide) ?_
                  refine wa_lv (lv' := []) [] rfl ?_
                  exact wa_wid (Nat.le_of_ble_eq_true rfl) (Nat.le_of_ble_eq_true rfl) (k9 _  (by rw [if_neg c12, if_neg c13, if_neg c14, if_neg c15, if_neg c16, if_pos c17]))
                · replace hv := hv.2 c17
                  refine wa_iconst X dX11_reckons_169 kc1 ?_
                  refine wa_goto X (tgt := 174) dX11_reckons_170 (by decide) ?_
                  refine wa_icmp_ne X (tgt := 181) dX11_reckons_174 (by decide) (fun _ => ?_) (fun c => absurd c (by decide))
                  refine wa_iload_n X 1 rfl dX11_reckons_181 rfl ?_
                  refine wa_i2l X dX11_reckons_182 ?_
                  refine wa_lv (lv' := []) [] rfl ?_
                  exact wa_wid (Nat.le_of_ble_eq_true rfl) (Nat.le_of_ble_eq_true rfl) (k9 _  (by rw [if_neg c12, if_neg c13, if_neg c14, if_neg c15, if_neg c16, if_neg c17]))
              · replace hv := hv.2 c16
                refine wa_iconst X dX11_reckons_157 kc1 ?_
                refine wa_goto X (tgt := 162) dX11_reckons_158 (by decide) ?_
                refine wa_lload_n X 0 rfl dX11_reckons_162 rfl ?_
                refine wa_iload_n X 1 rfl dX11_reckons_163 rfl ?_
                refine wa_i2l X dX11_reckons_164 ?_
                refine wa_lcmp X dX11_reckons_165 ?_
                refine wa_if_ge X (tgt := 173) dX11_reckons_166 (by decide) (fun c20 => ?_) (fun c20 => ?_)
                · replace hv := hv.1 c20
                  refine wa_iconst X dX11_reckons_173 kc0 ?_
                  refine wa_icmp_ne X (tgt := 181) dX11_reckons_174 (by decide) (fun _ => ?_) (fun c => absurd c (by decide))
                  refine wa_iload_n X 1 rfl dX11_reckons_181 rfl ?_
                  refine wa_i2l X dX11_reckons_182 ?_
                  refine wa_lv (lv' := []) [] rfl ?_
                  exact wa_wid (Nat.le_of_ble_eq_true rfl) (Nat.le_of_ble_eq_true rfl) (k9 _  (by rw [if_neg c12, if_neg c13, if_neg c14, if_neg c15, if_pos c16, if_pos c20]))
                · replace hv := hv.2 c20
                  refine wa_iconst X dX11_reckons_169 kc1 ?_
                  refine wa_goto X (tgt := 174) dX11_reckons_170 (by decide) ?_
                  refine wa_icmp_ne X (tgt := 181) dX11_reckons_174 (by decide) (fun c => absurd c (by decide)) (fun _ => ?_)
                  refine wa_lload_n X 0 rfl dX11_reckons_177 rfl ?_
                  refine wa_goto X (tgt := 183) dX11_reckons_178 (by decide) ?_
                  refine wa_lv (lv' := []) [] rfl ?_
                  exact wa_wid (Nat.le_of_ble_eq_true rfl) (Nat.le_of_ble_eq_true rfl) (k9 _  (by rw [if_neg c12, if_neg c13, if_neg c14, if_neg c15, if_pos c16, if_neg c20]))
            · replace hv := hv.2 c15
              refine wa_lload_n X 0 rfl dX11_reckons_144 rfl ?_
              refine wa_iload_n X 1 rfl dX11_reckons_145 rfl ?_
              refine wa_i2l X dX11_reckons_146 ?_
              obtain ⟨o23, hv⟩ := hv
              refine wa_ldiv X dX11_reckons_147 o23 ?_
              refine wa_goto X (tgt := 183) dX11_reckons_148 (by decide) ?_
              refine wa_lv (lv' := []) [] rfl ?_
              exact wa_wid (Nat.le_of_ble_eq_true rfl) (Nat.le_of_ble_eq_true rfl) (k9 _  (by rw [if_neg c12, if_neg c13, if_neg c14, if_pos c15]))
          · replace hv := hv.2 c14
            refine wa_lload_n X 0 rfl dX11_reckons_131 rfl ?_
            refine wa_iload_n X 1 rfl dX11_reckons_132 rfl ?_
            refine wa_i2l X dX11_reckons_133 ?_
            refine wa_lmul X dX11_reckons_134 ?_
            refine wa_goto X (tgt := 183) dX11_reckons_135 (by decide) ?_
            refine wa_lv (lv' := []) [] rfl ?_
            exact wa_wid (Nat.le_of_ble_eq_true rfl) (Nat.le_of_ble_eq_true rfl) (k9 _  (by rw [if_neg c12, if_neg c13, if_pos c14]))
        · replace hv := hv.2 c13
          refine wa_lload_n X 0 rfl dX11_reckons_118 rfl ?_
          refine wa_iload_n X 1 rfl dX11_reckons_119 rfl ?_
          refine wa_i2l X dX11_reckons_120 ?_
          refine wa_lsub X dX11_reckons_121 ?_
          refine wa_goto X (tgt := 183) dX11_reckons_122 (by decide) ?_
          refine wa_lv (lv' := []) [] rfl ?_
          exact wa_wid (Nat.le_of_ble_eq_true rfl) (Nat.le_of_ble_eq_true rfl) (k9 _  (by rw [if_neg c12, if_pos c13]))
      · replace hv := hv.2 c12
        refine wa_lload_n X 0 rfl dX11_reckons_105 rfl ?_
        refine wa_iload_n X 1 rfl dX11_reckons_106 rfl ?_
        refine wa_i2l X dX11_reckons_107 ?_
        refine wa_ladd X dX11_reckons_108 ?_
        refine wa_goto X (tgt := 183) dX11_reckons_109 (by decide) ?_
        refine wa_lv (lv' := []) [] rfl ?_
        exact wa_wid (Nat.le_of_ble_eq_true rfl) (Nat.le_of_ble_eq_true rfl) (k9 _  (by rw [if_pos c12]))
    · replace hv := hv.2 c5
      refine wa_iload_n X 1 rfl dX11_reckons_86 rfl ?_
      refine wa_if_ne X (tgt := 98) dX11_reckons_87 (by decide) (fun c24 => ?_) (fun c24 => ?_)
      · replace hv := hv.1 c24
        refine wa_aload_n X 2 rfl dX11_reckons_98 rfl ?_
        refine wa_iload_n X 3 rfl dX11_reckons_99 rfl ?_
        refine wa_bipush X dX11_reckons_100 kb8 ?_
        obtain ⟨o29, hv⟩ := hv
        have k28 : ∀ (x25 : Int64), x25 = (if a1 = (8 : Int32) then ((S.1 94 1 ((S.1 11 1 55) - (2 : Int32)).toNatClampNeg).toInt64 + (S.1 94 1 ((S.1 11 1 55) - (1 : Int32)).toNatClampNeg).toInt64) else (if a1 = (9 : Int32) then ((S.1 94 1 ((S.1 11 1 55) - (2 : Int32)).toNatClampNeg).toInt64 - (S.1 94 1 ((S.1 11 1 55) - (1 : Int32)).toNatClampNeg).toInt64) else (if a1 = (10 : Int32) then ((S.1 94 1 ((S.1 11 1 55) - (2 : Int32)).toNatClampNeg).toInt64 * (S.1 94 1 ((S.1 11 1 55) - (1 : Int32)).toNatClampNeg).toInt64) else (if a1 = (11 : Int32) then ((S.1 94 1 ((S.1 11 1 55) - (2 : Int32)).toNatClampNeg).toInt64 / (S.1 94 1 ((S.1 11 1 55) - (1 : Int32)).toNatClampNeg).toInt64) else (if a1 = (12 : Int32) then (if 0 ≤ (lg_cmp (S.1 94 1 ((S.1 11 1 55) - (2 : Int32)).toNatClampNeg).toInt64 (S.1 94 1 ((S.1 11 1 55) - (1 : Int32)).toNatClampNeg).toInt64) then (S.1 94 1 ((S.1 11 1 55) - (1 : Int32)).toNatClampNeg).toInt64 else (S.1 94 1 ((S.1 11 1 55) - (2 : Int32)).toNatClampNeg).toInt64) else (if 0 ≤ (lg_cmp (S.1 94 1 ((S.1 11 1 55) - (2 : Int32)).toNatClampNeg).toInt64 (S.1 94 1 ((S.1 11 1 55) - (1 : Int32)).toNatClampNeg).toInt64) then (S.1 94 1 ((S.1 11 1 55) - (2 : Int32)).toNatClampNeg).toInt64 else (S.1 94 1 ((S.1 11 1 55) - (1 : Int32)).toNatClampNeg).toInt64)))))) → wa Z 0 0 S4 183 [] [.inr (.inl x25), .inr (.inr (11, 1))] := by
          intro x25 hE
          replace hv := hv _ hE
          obtain ⟨o26, hv⟩ := hv
          refine wa_callV X (As := [.inr (.inl x25)]) (f_M_puts hw o26) hk_11 hc_11 rfl kw_1483 kw_66 kw_1480 kw_1482 kw_34 nd_X11_puts rfl rfl (Nat.le_of_ble_eq_true rfl) dX11_reckons_183 hs_1ne ⟨⟨Nat.le_of_ble_eq_true rfl, Nat.le_of_ble_eq_true rfl⟩, Nat.le_of_ble_eq_true rfl, Nat.le_of_ble_eq_true rfl⟩ (hs_pdk fun S27 hS27 hw => ?_) (fun _ _ h => h.elim)
          replace hv := hv S27 hS27
          exact wa_return X E dX11_reckons_186 (Nat.le_of_ble_eq_true rfl) (Nat.le_of_ble_eq_true rfl) ⟨hw, rfl, hv⟩
        replace hv := o29
        refine wa_icmp_ne X (tgt := 112) dX11_reckons_102 (by decide) (fun c31 => ?_) (fun c31 => ?_)
        · replace hv := hv.1 c31
          refine wa_iload_n X 3 rfl dX11_reckons_112 rfl ?_
          refine wa_bipush X dX11_reckons_113 kb9 ?_
          refine wa_icmp_ne X (tgt := 125) dX11_reckons_115 (by decide) (fun c32 => ?_) (fun c32 => ?_)
          · replace hv := hv.1 c32
            refine wa_iload_n X 3 rfl dX11_reckons_125 rfl ?_
            refine wa_bipush X dX11_reckons_126 kb10 ?_
            refine wa_icmp_ne X (tgt := 138) dX11_reckons_128 (by decide) (fun c33 => ?_) (fun c33 => ?_)
            · replace hv := hv.1 c33
              refine wa_iload_n X 3 rfl dX11_reckons_138 rfl ?_
              refine wa_bipush X dX11_reckons_139 kb11 ?_
              refine wa_icmp_ne X (tgt := 151) dX11_reckons_141 (by decide) (fun c34 => ?_) (fun c34 => ?_)
              · replace hv := hv.1 c34
                refine wa_iload_n X 3 rfl dX11_reckons_151 rfl ?_
                refine wa_bipush X dX11_reckons_152 kb12 ?_
                refine wa_icmp_ne X (tgt := 161) dX11_reckons_154 (by decide) (fun c35 => ?_) (fun c35 => ?_)
                · replace hv := hv.1 c35
                  refine wa_iconst X dX11_reckons_161 kc0 ?_
                  refine wa_lload_n X 0 rfl dX11_reckons_162 rfl ?_
                  refine wa_iload_n X 1 rfl dX11_reckons_163 rfl ?_
                  refine wa_i2l X dX11_reckons_164 ?_
                  refine wa_lcmp X dX11_reckons_165 ?_
                  refine wa_if_ge X (tgt := 173) dX11_reckons_166 (by decide) (fun c36 => ?_) (fun c36 => ?_)
                  · replace hv := hv.1 c36
                    refine wa_iconst X dX11_reckons_173 kc0 ?_
                    refine wa_icmp_ne X (tgt := 181) dX11_reckons_174 (by decide) (fun c => absurd c (by decide)) (fun _ => ?_)
                    refine wa_lload_n X 0 rfl dX11_reckons_177 rfl ?_
                    refine wa_goto X (tgt := 183) dX11_reckons_178 (by decide) ?_
                    refine wa_lv (lv' := []) [] rfl ?_
                    exact wa_wid (Nat.le_of_ble_eq_true rfl) (Nat.le_of_ble_eq_true rfl) (k28 _  (by rw [if_neg c31, if_neg c32, if_neg c33, if_neg c34, if_neg c35, if_pos c36]))
                  · replace hv := hv.2 c36
                    refine wa_iconst X dX11_reckons_169 kc1 ?_
                    refine wa_goto X (tgt := 174) dX11_reckons_170 (by decide) ?_
                    refine wa_icmp_ne X (tgt := 181) dX11_reckons_174 (by decide) (fun _ => ?_) (fun c => absurd c (by decide))
                    refine wa_iload_n X 1 rfl dX11_reckons_181 rfl ?_
                    refine wa_i2l X dX11_reckons_182 ?_
                    refine wa_lv (lv' := []) [] rfl ?_
                    exact wa_wid (Nat.le_of_ble_eq_true rfl) (Nat.le_of_ble_eq_true rfl) (k28 _  (by rw [if_neg c31, if_neg c32, if_neg c33, if_neg c34, if_neg c35, if_neg c36]))
                · replace hv := hv.2 c35
                  refine wa_iconst X dX11_reckons_157 kc1 ?_
                  refine wa_goto X (tgt := 162) dX11_reckons_158 (by decide) ?_
                  refine wa_lload_n X 0 rfl dX11_reckons_162 rfl ?_
                  refine wa_iload_n X 1 rfl dX11_reckons_163 rfl ?_
                  refine wa_i2l X dX11_reckons_164 ?_
                  refine wa_lcmp X dX11_reckons_165 ?_
                  refine wa_if_ge X (tgt := 173) dX11_reckons_166 (by decide) (fun c39 => ?_) (fun c39 => ?_)
                  · replace hv := hv.1 c39
                    refine wa_iconst X dX11_reckons_173 kc0 ?_
                    refine wa_icmp_ne X (tgt := 181) dX11_reckons_174 (by decide) (fun _ => ?_) (fun c => absurd c (by decide))
                    refine wa_iload_n X 1 rfl dX11_reckons_181 rfl ?_
                    refine wa_i2l X dX11_reckons_182 ?_
                    refine wa_lv (lv' := []) [] rfl ?_
                    exact wa_wid (Nat.le_of_ble_eq_true rfl) (Nat.le_of_ble_eq_true rfl) (k28 _  (by rw [if_neg c31, if_neg c32, if_neg c33, if_neg c34, if_pos c35, if_pos c39]))
                  · replace hv := hv.2 c39
                    refine wa_iconst X dX11_reckons_169 kc1 ?_
                    refine wa_goto X (tgt := 174) dX11_reckons_170 (by decide) ?_
                    refine wa_icmp_ne X (tgt := 181) dX11_reckons_174 (by decide) (fun c => absurd c (by decide)) (fun _ => ?_)
                    refine wa_lload_n X 0 rfl dX11_reckons_177 rfl ?_
                    refine wa_goto X (tgt := 183) dX11_reckons_178 (by decide) ?_
                    refine wa_lv (lv' := []) [] rfl ?_
                    exact wa_wid (Nat.le_of_ble_eq_true rfl) (Nat.le_of_ble_eq_true rfl) (k28 _  (by rw [if_neg c31, if_neg c32, if_neg c33, if_neg c34, if_pos c35, if_neg c39]))
              · replace hv := hv.2 c34
                refine wa_lload_n X 0 rfl dX11_reckons_144 rfl ?_
                refine wa_iload_n X 1 rfl dX11_reckons_145 rfl ?_
                refine wa_i2l X dX11_reckons_146 ?_
                obtain ⟨o42, hv⟩ := hv
                refine wa_ldiv X dX11_reckons_147 o42 ?_
                refine wa_goto X (tgt := 183) dX11_reckons_148 (by decide) ?_
                refine wa_lv (lv' := []) [] rfl ?_
                exact wa_wid (Nat.le_of_ble_eq_true rfl) (Nat.le_of_ble_eq_true rfl) (k28 _  (by rw [if_neg c31, if_neg c32, if_neg c33, if_pos c34]))
            · replace hv := hv.2 c33
              refine wa_lload_n X 0 rfl dX11_reckons_131 rfl ?_
              refine wa_iload_n X 1 rfl dX11_reckons_132 rfl ?_
              refine wa_i2l X dX11_reckons_133 ?_
              refine wa_lmul X dX11_reckons_134 ?_
              refine wa_goto X (tgt := 183) dX11_reckons_135 (by decide) ?_
              refine wa_lv (lv' := []) [] rfl ?_
              exact wa_wid (Nat.le_of_ble_eq_true rfl) (Nat.le_of_ble_eq_true rfl) (k28 _  (by rw [if_neg c31, if_neg c32, if_pos c33]))
          · replace hv := hv.2 c32
            refine wa_lload_n X 0 rfl dX11_reckons_118 rfl ?_
            refine wa_iload_n X 1 rfl dX11_reckons_119 rfl ?_
            refine wa_i2l X dX11_reckons_120 ?_
            refine wa_lsub X dX11_reckons_121 ?_
            refine wa_goto X (tgt := 183) dX11_reckons_122 (by decide) ?_
            refine wa_lv (lv' := []) [] rfl ?_
            exact wa_wid (Nat.le_of_ble_eq_true rfl) (Nat.le_of_ble_eq_true rfl) (k28 _  (by rw [if_neg c31, if_pos c32]))
        · replace hv := hv.2 c31
          refine wa_lload_n X 0 rfl dX11_reckons_105 rfl ?_
          refine wa_iload_n X 1 rfl dX11_reckons_106 rfl ?_
          refine wa_i2l X dX11_reckons_107 ?_
          refine wa_ladd X dX11_reckons_108 ?_
          refine wa_goto X (tgt := 183) dX11_reckons_109 (by decide) ?_
          refine wa_lv (lv' := []) [] rfl ?_
          exact wa_wid (Nat.le_of_ble_eq_true rfl) (Nat.le_of_ble_eq_true rfl) (k28 _  (by rw [if_pos c31]))
      · replace hv := hv.2 c24
        refine wa_aload_n X 2 rfl dX11_reckons_90 rfl ?_
        refine wa_iconst X dX11_reckons_91 kc3 ?_
        refine wa_putI X (j := 58) hk_11 hc_11 i_11 tyX11 tyX11_ok nmX11 (by decide) kw_1242 rfl rfl dX11_reckons_92 hs_1ne ⟨rfl, Or.inl rfl⟩ (hs_eqS fun S43 hS43 => ?_)
        replace hv := hv S43 hS43
        replace hw : hs_Wi S43 := hS43 ▸ hs_Wi_I hw
        refine wa_goto X (tgt := 186) dX11_reckons_95 (by decide) ?_
        exact wa_return X E dX11_reckons_186 (Nat.le_of_ble_eq_true rfl) (Nat.le_of_ble_eq_true rfl) ⟨hw, rfl, hv⟩
  · replace hv := hv.2 c3
    refine wa_aload_n X 2 rfl dX11_reckons_31 rfl ?_
    refine wa_getfw X hw (j := 54) (r := 1) hk_11 hc_11 i_11 (by decide) kw_1238 rfl rfl (by decide) rfl dX11_reckons_32 hs_1ne ?_
    refine wa_aload_n X 2 rfl dX11_reckons_35 rfl ?_
    refine wa_getI X (j := 55) hk_11 hc_11 i_11 (by decide) kw_1239 rfl dX11_reckons_36 hs_1ne ?_
    refine wa_iconst X dX11_reckons_39 kc3 ?_
    refine wa_isub X dX11_reckons_40 ?_
    obtain ⟨o44, hv⟩ := hv
    refine wa_iald X hk_94 dX11_reckons_41 hs_1ne o44 ?_
    refine wa_istore X (lv' := [(5, .inl (S.1 94 1 ((S.1 11 1 55) - (3 : Int32)).toNatClampNeg)), (3, .inr (.inl (S.1 94 1 ((S.1 11 1 55) - (2 : Int32)).toNatClampNeg).toInt64)), (2, .inl (S.1 94 1 ((S.1 11 1 55) - (1 : Int32)).toNatClampNeg)), (0, .inr (.inr (11, 1))), (1, .inl a1)]) dX11_reckons_42 (by decide) rfl ?_
    refine wa_aload_n X 3 rfl dX11_reckons_44 rfl ?_
    refine wa_dup X dX11_reckons_45 rfl ?_
    refine wa_getI X (j := 55) hk_11 hc_11 i_11 (by decide) kw_1239 rfl dX11_reckons_46 hs_1ne ?_
    refine wa_iconst X dX11_reckons_49 kc3 ?_
    refine wa_isub X dX11_reckons_50 ?_
    refine wa_putI X (j := 55) hk_11 hc_11 i_11 tyX11 tyX11_ok nmX11 (by decide) kw_1239 rfl rfl dX11_reckons_51 hs_1ne ⟨rfl, Or.inl rfl⟩ (hs_eqS fun S45 hS45 => ?_)
    replace hv := hv S45 hS45
    replace hw : hs_Wi S45 := hS45 ▸ hs_Wi_I hw
    refine wa_aload_n X 3 rfl dX11_reckons_54 rfl ?_
    refine wa_iload X 0 rfl dX11_reckons_55 ?_
    have k49 : ∀ (x46 : Int64), x46 = (if (S.1 94 1 ((S.1 11 1 55) - (3 : Int32)).toNatClampNeg) ≤ 0 then (S.1 94 1 ((S.1 11 1 55) - (1 : Int32)).toNatClampNeg).toInt64 else (S.1 94 1 ((S.1 11 1 55) - (2 : Int32)).toNatClampNeg).toInt64) → wa Z 0 0 S45 66 [] [.inr (.inl x46), .inr (.inr (11, 1))] := by
      intro x46 hE
      replace hv := hv _ hE
      obtain ⟨o47, hv⟩ := hv
      refine wa_callV X (As := [.inr (.inl x46)]) (f_M_puts hw o47) hk_11 hc_11 rfl kw_1483 kw_66 kw_1480 kw_1482 kw_34 nd_X11_puts rfl rfl (Nat.le_of_ble_eq_true rfl) dX11_reckons_66 hs_1ne ⟨⟨Nat.le_of_ble_eq_true rfl, Nat.le_of_ble_eq_true rfl⟩, Nat.le_of_ble_eq_true rfl, Nat.le_of_ble_eq_true rfl⟩ (hs_pdk fun S48 hS48 hw => ?_) (fun _ _ h => h.elim)
      replace hv := hv S48 hS48
      exact wa_return X E dX11_reckons_69 (Nat.le_of_ble_eq_true rfl) (Nat.le_of_ble_eq_true rfl) ⟨hw, rfl, hv⟩
    clear hv
    refine wa_if_le X (tgt := 64) dX11_reckons_57 (by decide) (fun c51 => ?_) (fun c51 => ?_)
    · refine wa_iload_n X 2 rfl dX11_reckons_64 rfl ?_
      refine wa_i2l X dX11_reckons_65 ?_
      refine wa_lv (lv' := []) [] rfl ?_
      exact wa_wid (Nat.le_of_ble_eq_true rfl) (Nat.le_of_ble_eq_true rfl) (k49 _  (by rw [if_pos c51]))
    · refine wa_lload_n X 1 rfl dX11_reckons_60 rfl ?_
      refine wa_goto X (tgt := 66) dX11_reckons_61 (by decide) ?_
      refine wa_lv (lv' := []) [] rfl ?_
      exact wa_wid (Nat.le_of_ble_eq_true rfl) (Nat.le_of_ble_eq_true rfl) (k49 _  (by rw [if_neg c51]))
theorem i64_of0 {x : Int32} (h : x.toInt64 = 0) : x = 0 := by
  apply i32_eq.mpr
  have := i64_eq.mp h
  rw [i64_of] at this
  exact this
set_option maxHeartbeats 1000000 in
theorem v_M_reckons {a1 : Int32} {S : hs_S} (hP : P_reckons a1 S) : vc_M_reckons a1 S (fun S' => S' = E_reckons a1 S) := by
  obtain ⟨g, hg2, hg, h3, eg⟩ := hP
  have e1 : S.1 11 1 55 - 1 = nI (g - 1) := by rw [eg]; exact nI_subI (b := 1) (by omega) (by omega)
  have e2 : S.1 11 1 55 - 2 = nI (g - 2) := by rw [eg]; exact nI_subI (b := 2) (by omega) (by omega)
  have hp : ∀ k T, k < 320 → T = hs_wI S 11 1 55 (nI k) → ∀ n, P_puts n T := fun k T hk hT n => ⟨k, by omega, by rw [hT]; rfl⟩
  unfold vc_M_reckons E_reckons
  refine ⟨by rw [e1]; exact hl_ix (by omega) (by omega), by rw [e2]; exact hl_ix (by omega) (by omega), fun h S4 h4 => ?_, fun h => ?_⟩
  · rw [if_neg h]
    have hq : ∀ n, P_puts n S4 := hp (g - 2) S4 (by omega) (by rw [h4, e2])
    refine ⟨fun w => ⟨?_, fun z hz => ⟨hq _, fun S8 h8 => ?_⟩⟩, fun w => ⟨fun u => ⟨?_, fun z hz => ⟨hq _, fun S8 h8 => ?_⟩⟩, fun u S8 h8 => ?_⟩⟩
    · repeat' (first | exact True.intro | refine ⟨?_, ?_⟩ | intro _)
      exact absurd ‹a1 = 11› w
    · rw [if_neg (fun q => w q.1), h8, hz, h4]; rfl
    · repeat' (first | exact True.intro | refine ⟨?_, ?_⟩ | intro _)
      exact u (i64_of0 ‹_›)
    · rw [if_neg (fun q => u q.2), h8, hz, h4]; rfl
    · rw [if_pos ⟨w, u⟩, h8, h4]
  · have e3 : S.1 11 1 55 - 3 = nI (g - 3) := by rw [eg]; exact nI_subI (b := 3) (h3 h) (by omega)
    rw [if_pos h]
    refine ⟨by rw [e3]; exact hl_ix (by have := h3 h; omega) (by omega), fun S5 h5 z hz => ?_⟩
    refine ⟨hp (g - 3) S5 (by have := h3 h; omega) (by rw [h5, e3]) _, fun S6 h6 => ?_⟩
    rw [h6, hz, h5]
theorem f_M_reckons {a1 : Int32} {S : hs_S} (hw : hs_Wi S) (hP : P_reckons a1 S) : hs_M 2 yX11_reckons (.code yX11_reckons cX11_reckons 6 none) [.inr (.inr (11, 1)), .inl a1] S 0 0 (hs_pd (none) (E_reckons a1 S)) hs_nX := hs_pdV (ok_M_reckons hw (v_M_reckons hP))

def E_starts (a1 a2 : Int32) (S : hs_S) : hs_S :=
  if F_isEmptyAt a1 a2 S = 0 then
    hs_wI (hs_wI (hs_wI (hs_wI (hs_wI S 89 1 (S.1 11 1 53).toNatClampNeg a1) 90 1 (S.1 11 1 53).toNatClampNeg 0) 91 1 (S.1 11 1 53).toNatClampNeg (S.1 11 1 55)) 92 1 (S.1 11 1 53).toNatClampNeg (F_editAt a1 a2 S)) 11 1 53 (S.1 11 1 53 + 1)
  else hs_wI (hs_wI S 96 1 a1.toNatClampNeg 1) 97 1 a1.toNatClampNeg 0
def P_starts (a1 a2 : Int32) (S : hs_S) : Prop := cN (S.1 11 1 12) 60 ∧ cN (S.1 11 1 53) 24 ∧ 0 ≤ a1.toInt ∧ a1.toInt < 24
def m_M_starts (a1 : Int32) (a2 : Int32) (S : hs_S) (Q : hs_S → Prop) : Prop := hs_M 3 yX11_starts (.code yX11_starts cX11_starts 3 none) [.inr (.inr (11, 1)), .inl a1, .inl a2] S 0 0 (hs_qV Q) hs_nX
def vc_M_starts (a1 : Int32) (a2 : Int32) (S : hs_S) (Q : hs_S → Prop) : Prop := ((P_isEmptyAt a1 a2 S) ∧ (((F_isEmptyAt a1 a2 S) = 0 → ((0 ≤ (S.1 11 1 53).toInt ∧ (S.1 11 1 53).toInt < 25) ∧ (∀ S4 : hs_S, S4 = (hs_wI S 89 1 (S.1 11 1 53).toNatClampNeg a1) → ((0 ≤ (S4.1 11 1 53).toInt ∧ (S4.1 11 1 53).toInt < 25) ∧ (∀ S6 : hs_S, S6 = (hs_wI S4 90 1 (S4.1 11 1 53).toNatClampNeg (0 : Int32)) → ((0 ≤ (S6.1 11 1 53).toInt ∧ (S6.1 11 1 53).toInt < 25) ∧ (∀ S8 : hs_S, S8 = (hs_wI S6 91 1 (S6.1 11 1 53).toNatClampNeg (S6.1 11 1 55)) → ((P_editAt a1 a2 S8) ∧ ((0 ≤ (S8.1 11 1 53).toInt ∧ (S8.1 11 1 53).toInt < 25) ∧ (∀ S11 : hs_S, S11 = (hs_wI S8 92 1 (S8.1 11 1 53).toNatClampNeg (F_editAt a1 a2 S8)) → (∀ S12 : hs_S, S12 = (hs_wI S11 11 1 53 ((S11.1 11 1 53) + (1 : Int32))) → (Q S12)))))))))))) ∧ (¬ (F_isEmptyAt a1 a2 S) = 0 → ((0 ≤ a1.toInt ∧ a1.toInt < 24) ∧ (∀ S14 : hs_S, S14 = (hs_wI S 96 1 a1.toNatClampNeg (1 : Int32)) → (∀ S15 : hs_S, S15 = (hs_wI S14 97 1 a1.toNatClampNeg (0 : Int32)) → (Q S15)))))))
set_option maxRecDepth 100000 in
set_option maxHeartbeats 4000000 in
theorem ok_M_starts {a1 : Int32} {a2 : Int32} {S : hs_S} {Q : hs_S → Prop} (hw : hs_Wi S) (hv : vc_M_starts a1 a2 S Q) : m_M_starts a1 a2 S Q := by
  unfold vc_M_starts at hv
  refine hs_body (own := RX11) rfl rfl (Nat.le_of_ble_eq_true rfl) (fun Z X E N J0 => ?_)
  show wa Z 0 0 S 0 [(0, .inr (.inr (11, 1))), (1, .inl a1), (2, .inl a2)] []
  refine wa_aload_n X 0 rfl dX11_starts_0 rfl ?_
  refine wa_iload_n X 1 rfl dX11_starts_1 rfl ?_
  refine wa_iload_n X 2 rfl dX11_starts_2 rfl ?_
  obtain ⟨o1, hv⟩ := hv
  refine wa_callV X (As := [.inl a1, .inl a2]) (f_M_isEmptyAt hw o1) hk_11 hc_11 rfl kw_1467 kw_66 kw_1464 kw_1466 kw_30 nd_X11_isEmptyAt rfl rfl (Nat.le_of_ble_eq_true rfl) dX11_starts_3 hs_1ne ⟨⟨Nat.le_of_ble_eq_true rfl, Nat.le_of_ble_eq_true rfl⟩, Nat.le_of_ble_eq_true rfl, Nat.le_of_ble_eq_true rfl⟩ (hs_pdk0 ?_) (fun _ _ h => h.elim)
  refine wa_if_eq X (tgt := 26) dX11_starts_6 (by decide) (fun c2 => ?_) (fun c2 => ?_)
  · replace hv := hv.1 c2
    refine wa_aload_n X 0 rfl dX11_starts_26 rfl ?_
    refine wa_getfw X hw (j := 49) (r := 1) hk_11 hc_11 i_11 (by decide) kw_1233 rfl rfl (by decide) rfl dX11_starts_27 hs_1ne ?_
    refine wa_aload_n X 0 rfl dX11_starts_30 rfl ?_
    refine wa_getI X (j := 53) hk_11 hc_11 i_11 (by decide) kw_1237 rfl dX11_starts_31 hs_1ne ?_
    refine wa_iload_n X 1 rfl dX11_starts_34 rfl ?_
    obtain ⟨o3, hv⟩ := hv
    refine wa_iast X hk_89 dX11_starts_35 hs_1ne o3 (hs_eqS fun S4 hS4 => ?_)
    replace hv := hv S4 hS4
    replace hw : hs_Wi S4 := hS4 ▸ hs_Wi_I hw
    refine wa_aload_n X 0 rfl dX11_starts_36 rfl ?_
    refine wa_getfw X hw (j := 50) (r := 1) hk_11 hc_11 i_11 (by decide) kw_1234 rfl rfl (by decide) rfl dX11_starts_37 hs_1ne ?_
    refine wa_aload_n X 0 rfl dX11_starts_40 rfl ?_
    refine wa_getI X (j := 53) hk_11 hc_11 i_11 (by decide) kw_1237 rfl dX11_starts_41 hs_1ne ?_
    refine wa_iconst X dX11_starts_44 kc0 ?_
    obtain ⟨o5, hv⟩ := hv
    refine wa_iast X hk_90 dX11_starts_45 hs_1ne o5 (hs_eqS fun S6 hS6 => ?_)
    replace hv := hv S6 hS6
    replace hw : hs_Wi S6 := hS6 ▸ hs_Wi_I hw
    refine wa_aload_n X 0 rfl dX11_starts_46 rfl ?_
    refine wa_getfw X hw (j := 51) (r := 1) hk_11 hc_11 i_11 (by decide) kw_1235 rfl rfl (by decide) rfl dX11_starts_47 hs_1ne ?_
    refine wa_aload_n X 0 rfl dX11_starts_50 rfl ?_
    refine wa_getI X (j := 53) hk_11 hc_11 i_11 (by decide) kw_1237 rfl dX11_starts_51 hs_1ne ?_
    refine wa_aload_n X 0 rfl dX11_starts_54 rfl ?_
    refine wa_getI X (j := 55) hk_11 hc_11 i_11 (by decide) kw_1239 rfl dX11_starts_55 hs_1ne ?_
    obtain ⟨o7, hv⟩ := hv
    refine wa_iast X hk_91 dX11_starts_58 hs_1ne o7 (hs_eqS fun S8 hS8 => ?_)
    replace hv := hv S8 hS8
    replace hw : hs_Wi S8 := hS8 ▸ hs_Wi_I hw
    refine wa_aload_n X 0 rfl dX11_starts_59 rfl ?_
    refine wa_getfw X hw (j := 52) (r := 1) hk_11 hc_11 i_11 (by decide) kw_1236 rfl rfl (by decide) rfl dX11_starts_60 hs_1ne ?_
    refine wa_aload_n X 0 rfl dX11_starts_63 rfl ?_
    refine wa_getI X (j := 53) hk_11 hc_11 i_11 (by decide) kw_1237 rfl dX11_starts_64 hs_1ne ?_
    refine wa_aload_n X 0 rfl dX11_starts_67 rfl ?_
    refine wa_iload_n X 1 rfl dX11_starts_68 rfl ?_
    refine wa_iload_n X 2 rfl dX11_starts_69 rfl ?_
    obtain ⟨o9, hv⟩ := hv
    refine wa_callV X (As := [.inl a1, .inl a2]) (f_M_editAt hw o9) hk_11 hc_11 rfl kw_1471 kw_66 kw_1468 kw_1470 kw_31 nd_X11_editAt rfl rfl (Nat.le_of_ble_eq_true rfl) dX11_starts_70 hs_1ne ⟨⟨Nat.le_of_ble_eq_true rfl, Nat.le_of_ble_eq_true rfl⟩, Nat.le_of_ble_eq_true rfl, Nat.le_of_ble_eq_true rfl⟩ (hs_pdk0 ?_) (fun _ _ h => h.elim)
    obtain ⟨o10, hv⟩ := hv
    refine wa_iast X hk_92 dX11_starts_73 hs_1ne o10 (hs_eqS fun S11 hS11 => ?_)
    replace hv := hv S11 hS11
    replace hw : hs_Wi S11 := hS11 ▸ hs_Wi_I hw
    refine wa_aload_n X 0 rfl dX11_starts_74 rfl ?_
    refine wa_dup X dX11_starts_75 rfl ?_
    refine wa_getI X (j := 53) hk_11 hc_11 i_11 (by decide) kw_1237 rfl dX11_starts_76 hs_1ne ?_
    refine wa_iconst X dX11_starts_79 kc1 ?_
    refine wa_iadd X dX11_starts_80 ?_
    refine wa_putI X (j := 53) hk_11 hc_11 i_11 tyX11 tyX11_ok nmX11 (by decide) kw_1237 rfl rfl dX11_starts_81 hs_1ne ⟨rfl, Or.inl rfl⟩ (hs_eqS fun S12 hS12 => ?_)
    replace hv := hv S12 hS12
    replace hw : hs_Wi S12 := hS12 ▸ hs_Wi_I hw
    exact wa_return X E dX11_starts_84 (Nat.le_of_ble_eq_true rfl) (Nat.le_of_ble_eq_true rfl) ⟨hw, rfl, hv⟩
  · replace hv := hv.2 c2
    refine wa_aload_n X 0 rfl dX11_starts_9 rfl ?_
    refine wa_getfw X hw (j := 56) (r := 1) hk_11 hc_11 i_11 (by decide) kw_1240 rfl rfl (by decide) rfl dX11_starts_10 hs_1ne ?_
    refine wa_iload_n X 1 rfl dX11_starts_13 rfl ?_
    refine wa_iconst X dX11_starts_14 kc1 ?_
    obtain ⟨o13, hv⟩ := hv
    refine wa_bast X hk_96 dX11_starts_15 hs_1ne o13 (Or.inr rfl) (hs_eqS fun S14 hS14 => ?_)
    replace hv := hv S14 hS14
    replace hw : hs_Wi S14 := hS14 ▸ hs_Wi_I hw
    refine wa_aload_n X 0 rfl dX11_starts_16 rfl ?_
    refine wa_getfw X hw (j := 57) (r := 1) hk_11 hc_11 i_11 (by decide) kw_1241 rfl rfl (by decide) rfl dX11_starts_17 hs_1ne ?_
    refine wa_iload_n X 1 rfl dX11_starts_20 rfl ?_
    refine wa_iconst X dX11_starts_21 kc0 ?_
    refine wa_iast X hk_97 dX11_starts_22 hs_1ne o13 (hs_eqS fun S15 hS15 => ?_)
    replace hv := hv S15 hS15
    replace hw : hs_Wi S15 := hS15 ▸ hs_Wi_I hw
    refine wa_goto X (tgt := 84) dX11_starts_23 (by decide) ?_
    exact wa_return X E dX11_starts_84 (Nat.le_of_ble_eq_true rfl) (Nat.le_of_ble_eq_true rfl) ⟨hw, rfl, hv⟩
theorem v_M_starts {a1 a2 : Int32} {S : hs_S} (hP : P_starts a1 a2 S) : vc_M_starts a1 a2 S (fun S' => S' = E_starts a1 a2 S) := by
  obtain ⟨hE, ⟨g, hg, eg⟩, hc⟩ := hP
  have hi : 0 ≤ (S.1 11 1 53).toInt ∧ (S.1 11 1 53).toInt < 25 := by rw [eg]; exact hl_ix (by omega) (by omega)
  unfold vc_M_starts E_starts
  refine ⟨hE, fun h => ⟨hi, fun S4 h4 => ⟨by rw [h4]; exact hi, fun S6 h6 => ⟨by rw [h6, h4]; exact hi, fun S8 h8 => ⟨by rw [h8, h6, h4]; exact hE, by rw [h8, h6, h4]; exact hi, fun S11 h11 S12 h12 => ?_⟩⟩⟩⟩, fun h => ⟨hc, fun S14 h14 S15 h15 => ?_⟩⟩
  · have hcl : hs_cl S8 = hs_cl S := by
      rw [h8, hs_cl_I rfl, h6, hs_cl_I rfl, h4, hs_cl_I rfl]
    rw [if_pos h, h12, h11, fr_editAt hcl, h8, h6, h4]; rfl
  · rw [if_neg h, h15, h14]
theorem f_M_starts {a1 : Int32} {a2 : Int32} {S : hs_S} (hw : hs_Wi S) (hP : P_starts a1 a2 S) : hs_M 3 yX11_starts (.code yX11_starts cX11_starts 3 none) [.inr (.inr (11, 1)), .inl a1, .inl a2] S 0 0 (hs_pd (none) (E_starts a1 a2 S)) hs_nX := hs_pdV (ok_M_starts hw (v_M_starts hP))

