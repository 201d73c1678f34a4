abbrev mInc (d : Int32) (T : hs_S) : hs_S := hs_wI T 90 1 d.toNatClampNeg (T.1 90 1 d.toNatClampNeg + 1)
abbrev mGc (w : Int32) (S : hs_S) : Int32 := 6 * S.1 59 1 (w + 1).toNatClampNeg + S.1 59 1 (w + 2).toNatClampNeg
/-- the number of a word that takes none -/
abbrev mGn (w e : Int32) (S : hs_S) : Int64 := if S.1 59 1 w.toNatClampNeg = 0 then (S.1 59 1 (w + 1).toNatClampNeg).toInt64 else if S.1 59 1 w.toNatClampNeg = 7 then (F_lastAt (S.1 59 1 (w + 1).toNatClampNeg) e S).toInt64 else (F_bidsAt (S.1 59 1 w.toNatClampNeg) (S.1 59 1 (w + 1).toNatClampNeg) e S).toInt64
def E_goes (a1 a2 a3 : Int32) (S : hs_S) : hs_S :=
  if S.1 59 1 a2.toNatClampNeg = 1 then
    (if F_readsAt (F_ownerAt (S.1 89 1 a1.toNatClampNeg) a3 S) (mGc a2 S) a3 S = 0 then hs_wI S 11 1 58 1
     else if F_isFinding (mGc a2 S) S = 0 then (if S.1 96 1 (mGc a2 S).toNatClampNeg = 0 then E_starts (mGc a2 S) a3 S else mInc a1 (E_puts (S.1 97 1 (mGc a2 S).toNatClampNeg).toInt64 S))
     else hs_wI S 11 1 58 2)
  else mInc a1 (if 8 ≤ S.1 59 1 a2.toNatClampNeg then E_reckons (S.1 59 1 a2.toNatClampNeg) S else E_puts (mGn a2 a3 S) S)
def P_goes (a1 a2 a3 : Int32) (S : hs_S) : Prop := (∃ d : Nat, d < 25 ∧ a1 = nI d) ∧ (∃ j : Nat, j + 2 < 2160 ∧ a2 = nI j) ∧ cN (S.1 11 1 1) 1200 ∧ cN (S.1 11 1 5) 1200 ∧ cN (S.1 11 1 12) 60 ∧ cN (S.1 11 1 53) 24 ∧ P_lastAt 0 a3 S ∧ P_bidsAt 0 0 a3 S ∧ cN (S.1 11 1 55) 319 ∧ (S.1 59 1 a2.toNatClampNeg = 1 → 0 ≤ (mGc a2 S).toInt ∧ (mGc a2 S).toInt < 24) ∧ (8 ≤ S.1 59 1 a2.toNatClampNeg → P_reckons (S.1 59 1 a2.toNatClampNeg) S)
def m_M_goes (a1 : Int32) (a2 : Int32) (a3 : Int32) (S : hs_S) (Q : hs_S → Prop) : Prop := hs_M 4 yX11_goes (.code yX11_goes cX11_goes 7 none) [.inr (.inr (11, 1)), .inl a1, .inl a2, .inl a3] S 0 0 (hs_qV Q) hs_nX
def vc_M_goes (a1 : Int32) (a2 : Int32) (a3 : Int32) (S : hs_S) (Q : hs_S → Prop) : Prop := ((0 ≤ a2.toInt ∧ a2.toInt < 2160) ∧ ((0 ≤ (a2 + (1 : Int32)).toInt ∧ (a2 + (1 : Int32)).toInt < 2160) ∧ ((0 ≤ (a2 + (2 : Int32)).toInt ∧ (a2 + (2 : Int32)).toInt < 2160) ∧ ((¬ (S.1 59 1 a2.toNatClampNeg) = (1 : Int32) → (∀ K6 : hs_S → Prop, (∀  (S5 : hs_S), ((0 ≤ a1.toInt ∧ a1.toInt < 25) ∧ (∀ S8 : hs_S, S8 = (hs_wI S5 90 1 a1.toNatClampNeg ((S5.1 90 1 a1.toNatClampNeg) + (1 : Int32))) → (Q S8))) → K6  S5) → (((8 : Int32) ≤ (S.1 59 1 a2.toNatClampNeg) → ((P_reckons (S.1 59 1 a2.toNatClampNeg) S) ∧ (∀ S11 : hs_S, S11 = (E_reckons (S.1 59 1 a2.toNatClampNeg) S) → (K6 S11)))) ∧ (¬ (8 : Int32) ≤ (S.1 59 1 a2.toNatClampNeg) → (((¬ (S.1 59 1 a2.toNatClampNeg) = 0 → ((¬ (S.1 59 1 a2.toNatClampNeg) = (7 : Int32) → ((P_bidsAt (S.1 59 1 a2.toNatClampNeg) (S.1 59 1 (a2 + (1 : Int32)).toNatClampNeg) a3 S) ∧ True)) ∧ ((S.1 59 1 a2.toNatClampNeg) = (7 : Int32) → ((P_lastAt (S.1 59 1 (a2 + (1 : Int32)).toNatClampNeg) a3 S) ∧ True)))) ∧ ((S.1 59 1 a2.toNatClampNeg) = 0 → True)) ∧ (∀ x12 : Int64, x12 = (if (S.1 59 1 a2.toNatClampNeg) = 0 then (S.1 59 1 (a2 + (1 : Int32)).toNatClampNeg).toInt64 else (if (S.1 59 1 a2.toNatClampNeg) = (7 : Int32) then (F_lastAt (S.1 59 1 (a2 + (1 : Int32)).toNatClampNeg) a3 S).toInt64 else (F_bidsAt (S.1 59 1 a2.toNatClampNeg) (S.1 59 1 (a2 + (1 : Int32)).toNatClampNeg) a3 S).toInt64)) → ((P_puts x12 S) ∧ (∀ S14 : hs_S, S14 = (E_puts x12 S) → (K6 S14))))))))) ∧ ((S.1 59 1 a2.toNatClampNeg) = (1 : Int32) → ((0 ≤ a1.toInt ∧ a1.toInt < 25) ∧ ((P_ownerAt (S.1 89 1 a1.toNatClampNeg) a3 S) ∧ ((P_readsAt (F_ownerAt (S.1 89 1 a1.toNatClampNeg) a3 S) (((6 : Int32) * (S.1 59 1 (a2 + (1 : Int32)).toNatClampNeg)) + (S.1 59 1 (a2 + (2 : Int32)).toNatClampNeg)) a3 S) ∧ ((¬ (F_readsAt (F_ownerAt (S.1 89 1 a1.toNatClampNeg) a3 S) (((6 : Int32) * (S.1 59 1 (a2 + (1 : Int32)).toNatClampNeg)) + (S.1 59 1 (a2 + (2 : Int32)).toNatClampNeg)) a3 S) = 0 → ((P_isFinding (((6 : Int32) * (S.1 59 1 (a2 + (1 : Int32)).toNatClampNeg)) + (S.1 59 1 (a2 + (2 : Int32)).toNatClampNeg)) S) ∧ (((F_isFinding (((6 : Int32) * (S.1 59 1 (a2 + (1 : Int32)).toNatClampNeg)) + (S.1 59 1 (a2 + (2 : Int32)).toNatClampNeg)) S) = 0 → ((0 ≤ (((6 : Int32) * (S.1 59 1 (a2 + (1 : Int32)).toNatClampNeg)) + (S.1 59 1 (a2 + (2 : Int32)).toNatClampNeg)).toInt ∧ (((6 : Int32) * (S.1 59 1 (a2 + (1 : Int32)).toNatClampNeg)) + (S.1 59 1 (a2 + (2 : Int32)).toNatClampNeg)).toInt < 24) ∧ ((¬ (S.1 96 1 (((6 : Int32) * (S.1 59 1 (a2 + (1 : Int32)).toNatClampNeg)) + (S.1 59 1 (a2 + (2 : Int32)).toNatClampNeg)).toNatClampNeg) = 0 → ((P_puts (S.1 97 1 (((6 : Int32) * (S.1 59 1 (a2 + (1 : Int32)).toNatClampNeg)) + (S.1 59 1 (a2 + (2 : Int32)).toNatClampNeg)).toNatClampNeg).toInt64 S) ∧ (∀ S31 : hs_S, S31 = (E_puts (S.1 97 1 (((6 : Int32) * (S.1 59 1 (a2 + (1 : Int32)).toNatClampNeg)) + (S.1 59 1 (a2 + (2 : Int32)).toNatClampNeg)).toNatClampNeg).toInt64 S) → (∀ S32 : hs_S, S32 = (hs_wI S31 90 1 a1.toNatClampNeg ((S31.1 90 1 a1.toNatClampNeg) + (1 : Int32))) → (Q S32))))) ∧ ((S.1 96 1 (((6 : Int32) * (S.1 59 1 (a2 + (1 : Int32)).toNatClampNeg)) + (S.1 59 1 (a2 + (2 : Int32)).toNatClampNeg)).toNatClampNeg) = 0 → ((P_starts (((6 : Int32) * (S.1 59 1 (a2 + (1 : Int32)).toNatClampNeg)) + (S.1 59 1 (a2 + (2 : Int32)).toNatClampNeg)) a3 S) ∧ (∀ S34 : hs_S, S34 = (E_starts (((6 : Int32) * (S.1 59 1 (a2 + (1 : Int32)).toNatClampNeg)) + (S.1 59 1 (a2 + (2 : Int32)).toNatClampNeg)) a3 S) → (Q S34))))))) ∧ (¬ (F_isFinding (((6 : Int32) * (S.1 59 1 (a2 + (1 : Int32)).toNatClampNeg)) + (S.1 59 1 (a2 + (2 : Int32)).toNatClampNeg)) S) = 0 → (∀ S35 : hs_S, S35 = (hs_wI S 11 1 58 (2 : Int32)) → (Q S35)))))) ∧ ((F_readsAt (F_ownerAt (S.1 89 1 a1.toNatClampNeg) a3 S) (((6 : Int32) * (S.1 59 1 (a2 + (1 : Int32)).toNatClampNeg)) + (S.1 59 1 (a2 + (2 : Int32)).toNatClampNeg)) a3 S) = 0 → (∀ S36 : hs_S, S36 = (hs_wI S 11 1 58 (1 : Int32)) → (Q S36))))))))))))
set_option maxRecDepth 100000 in
set_option maxHeartbeats 4000000 in
theorem ok_M_goes {a1 : Int32} {a2 : Int32} {a3 : Int32} {S : hs_S} {Q : hs_S → Prop} (hw : hs_Wi S) (hv : vc_M_goes a1 a2 a3 S Q) : m_M_goes a1 a2 a3 S Q := by
  unfold vc_M_goes at hv
  refine hs_body (own := RX11) rfl rfl (Nat.le_of_ble_eq_true rfl) (fun Z X E N J0 => ?_)
  show wa Z 0 0 S 0 [(0, .inr (.inr (11, 1))), (1, .inl a1), (2, .inl a2), (3, .inl a3)] []
  refine wa_aload_n X 0 rfl dX11_goes_0 rfl ?_
  refine wa_getfw X hw (j := 19) (r := 1) hk_11 hc_11 i_11 (by decide) kw_1203 rfl rfl (by decide) rfl dX11_goes_1 hs_1ne ?_
  refine wa_iload_n X 2 rfl dX11_goes_4 rfl ?_
  obtain ⟨o1, hv⟩ := hv
  refine wa_iald X hk_59 dX11_goes_5 hs_1ne o1 ?_
  refine wa_istore X (lv' := [(4, .inl (S.1 59 1 a2.toNatClampNeg)), (0, .inr (.inr (11, 1))), (1, .inl a1), (2, .inl a2), (3, .inl a3)]) dX11_goes_6 (by decide) rfl ?_
  refine wa_aload_n X 1 rfl dX11_goes_8 rfl ?_
  refine wa_getfw X hw (j := 19) (r := 1) hk_11 hc_11 i_11 (by decide) kw_1203 rfl rfl (by decide) rfl dX11_goes_9 hs_1ne ?_
  refine wa_iload_n X 3 rfl dX11_goes_12 rfl ?_
  refine wa_iconst X dX11_goes_13 kc1 ?_
  refine wa_iadd X dX11_goes_14 ?_
  obtain ⟨o2, hv⟩ := hv
  refine wa_iald X hk_59 dX11_goes_15 hs_1ne o2 ?_
  refine wa_istore X (lv' := [(5, .inl (S.1 59 1 (a2 + (1 : Int32)).toNatClampNeg)), (4, .inl (S.1 59 1 a2.toNatClampNeg)), (0, .inr (.inr (11, 1))), (1, .inl a1), (2, .inl a2), (3, .inl a3)]) dX11_goes_16 (by decide) rfl ?_
  refine wa_bipush X dX11_goes_18 kb6 ?_
  refine wa_iload X 0 rfl dX11_goes_20 ?_
  refine wa_imul X dX11_goes_22 ?_
  refine wa_aload_n X 2 rfl dX11_goes_23 rfl ?_
  refine wa_getfw X hw (j := 19) (r := 1) hk_11 hc_11 i_11 (by decide) kw_1203 rfl rfl (by decide) rfl dX11_goes_24 hs_1ne ?_
  refine wa_iload_n X 4 rfl dX11_goes_27 rfl ?_
  refine wa_iconst X dX11_goes_28 kc2 ?_
  refine wa_iadd X dX11_goes_29 ?_
  obtain ⟨o3, hv⟩ := hv
  refine wa_iald X hk_59 dX11_goes_30 hs_1ne o3 ?_
  refine wa_iadd X dX11_goes_31 ?_
  refine wa_istore X (lv' := [(6, .inl (((6 : Int32) * (S.1 59 1 (a2 + (1 : Int32)).toNatClampNeg)) + (S.1 59 1 (a2 + (2 : Int32)).toNatClampNeg))), (5, .inl (S.1 59 1 (a2 + (1 : Int32)).toNatClampNeg)), (4, .inl (S.1 59 1 a2.toNatClampNeg)), (0, .inr (.inr (11, 1))), (1, .inl a1), (2, .inl a2), (3, .inl a3)]) dX11_goes_32 (by decide) rfl ?_
  refine wa_iload X 2 rfl dX11_goes_34 ?_
  refine wa_iconst X dX11_goes_36 kc1 ?_
  refine wa_icmp_ne X (tgt := 129) dX11_goes_37 (by decide) (fun c4 => ?_) (fun c4 => ?_)
  · replace hv := hv.1 c4
    refine wa_iload X 2 rfl dX11_goes_129 ?_
    refine wa_bipush X dX11_goes_131 kb8 ?_
    replace hv := hv (fun  S5 => hs_Wi S5 → wa Z 0 0 S5 188 [(0, .inr (.inr (11, 1))), (1, .inl a1)] []) (fun  S5 hv hw => by
      refine wa_aload_n X 0 rfl dX11_goes_188 rfl ?_
      refine wa_getfw X hw (j := 50) (r := 1) hk_11 hc_11 i_11 (by decide) kw_1234 rfl rfl (by decide) rfl dX11_goes_189 hs_1ne ?_
      refine wa_iload_n X 1 rfl dX11_goes_192 rfl ?_
      refine wa_dup2 X dX11_goes_193 rfl rfl ?_
      obtain ⟨o7, hv⟩ := hv
      refine wa_iald X hk_90 dX11_goes_194 hs_1ne o7 ?_
      refine wa_iconst X dX11_goes_195 kc1 ?_
      refine wa_iadd X dX11_goes_196 ?_
      refine wa_iast X hk_90 dX11_goes_197 hs_1ne o7 (hs_eqS fun S8 hS8 => ?_)
      replace hv := hv S8 hS8
      replace hw : hs_Wi S8 := hS8 ▸ hs_Wi_I hw
      exact wa_return X E dX11_goes_198 (Nat.le_of_ble_eq_true rfl) (Nat.le_of_ble_eq_true rfl) ⟨hw, rfl, hv⟩)
    refine wa_icmp_ge X (tgt := 182) dX11_goes_133 (by decide) (fun c9 => ?_) (fun c9 => ?_)
    · replace hv := hv.1 c9
      refine wa_aload_n X 3 rfl dX11_goes_182 rfl ?_
      refine wa_iload X 2 rfl dX11_goes_183 ?_
      obtain ⟨o10, hv⟩ := hv
      refine wa_callV X (As := [.inl (S.1 59 1 a2.toNatClampNeg)]) (f_M_reckons hw o10) hk_11 hc_11 rfl kw_1501 kw_66 kw_1498 kw_1500 kw_38 nd_X11_reckons rfl rfl (Nat.le_of_ble_eq_true rfl) dX11_goes_185 hs_1ne ⟨⟨Nat.le_of_ble_eq_true rfl, Nat.le_of_ble_eq_true rfl⟩, Nat.le_of_ble_eq_true rfl, Nat.le_of_ble_eq_true rfl⟩ (hs_pdk fun S11 hS11 hw => ?_) (fun _ _ h => h.elim)
      replace hv := hv S11 hS11
      refine wa_lv (lv' := [(0, .inr (.inr (11, 1))), (1, .inl a1)]) [3, 4] rfl ?_
      exact wa_wid (Nat.le_of_ble_eq_true rfl) (Nat.le_of_ble_eq_true rfl) (hv hw)
    · replace hv := hv.2 c9
      refine wa_aload_n X 3 rfl dX11_goes_136 rfl ?_
      refine wa_iload X 2 rfl dX11_goes_137 ?_
      obtain ⟨o16, hv⟩ := hv
      have k15 : ∀ (x12 : Int64), x12 = (if (S.1 59 1 a2.toNatClampNeg) = 0 then (S.1 59 1 (a2 + (1 : Int32)).toNatClampNeg).toInt64 else (if (S.1 59 1 a2.toNatClampNeg) = (7 : Int32) then (F_lastAt (S.1 59 1 (a2 + (1 : Int32)).toNatClampNeg) a3 S).toInt64 else (F_bidsAt (S.1 59 1 a2.toNatClampNeg) (S.1 59 1 (a2 + (1 : Int32)).toNatClampNeg) a3 S).toInt64)) → wa Z 0 0 S 176 [(0, .inr (.inr (11, 1))), (1, .inl a1)] [.inr (.inl x12), .inr (.inr (11, 1))] := by
        intro x12 hE
        replace hv := hv _ hE
        obtain ⟨o13, hv⟩ := hv
        refine wa_callV X (As := [.inr (.inl x12)]) (f_M_puts hw o13) hk_11 hc_11 rfl kw_1483 kw_66 kw_1480 kw_1482 kw_34 nd_X11_puts rfl rfl (Nat.le_of_ble_eq_true rfl) dX11_goes_176 hs_1ne ⟨⟨Nat.le_of_ble_eq_true rfl, Nat.le_of_ble_eq_true rfl⟩, Nat.le_of_ble_eq_true rfl, Nat.le_of_ble_eq_true rfl⟩ (hs_pdk fun S14 hS14 hw => ?_) (fun _ _ h => h.elim)
        replace hv := hv S14 hS14
        refine wa_goto X (tgt := 188) dX11_goes_179 (by decide) ?_
        refine wa_lv (lv' := [(0, .inr (.inr (11, 1))), (1, .inl a1)]) [0, 1] rfl ?_
        exact wa_wid (Nat.le_of_ble_eq_true rfl) (Nat.le_of_ble_eq_true rfl) (hv hw)
      replace hv := o16
      refine wa_if_ne X (tgt := 148) dX11_goes_139 (by decide) (fun c18 => ?_) (fun c18 => ?_)
      · replace hv := hv.1 c18
        refine wa_iload X 2 rfl dX11_goes_148 ?_
        refine wa_bipush X dX11_goes_150 kb7 ?_
        refine wa_icmp_ne X (tgt := 166) dX11_goes_152 (by decide) (fun c19 => ?_) (fun c19 => ?_)
        · replace hv := hv.1 c19
          refine wa_aload_n X 3 rfl dX11_goes_166 rfl ?_
          refine wa_iload X 2 rfl dX11_goes_167 ?_
          refine wa_iload X 1 rfl dX11_goes_169 ?_
          refine wa_iload_n X 6 rfl dX11_goes_171 rfl ?_
          obtain ⟨o20, hv⟩ := hv
          refine wa_callV X (As := [.inl (S.1 59 1 a2.toNatClampNeg), .inl (S.1 59 1 (a2 + (1 : Int32)).toNatClampNeg), .inl a3]) (f_M_bidsAt hw o20) hk_11 hc_11 rfl kw_1493 kw_66 kw_1490 kw_1492 kw_36 nd_X11_bidsAt rfl rfl (Nat.le_of_ble_eq_true rfl) dX11_goes_172 hs_1ne ⟨⟨Nat.le_of_ble_eq_true rfl, Nat.le_of_ble_eq_true rfl⟩, Nat.le_of_ble_eq_true rfl, Nat.le_of_ble_eq_true rfl⟩ (hs_pdk0 ?_) (fun _ _ h => h.elim)
          refine wa_i2l X dX11_goes_175 ?_
          refine wa_lv (lv' := [(0, .inr (.inr (11, 1))), (1, .inl a1)]) [3, 4] rfl ?_
          exact wa_wid (Nat.le_of_ble_eq_true rfl) (Nat.le_of_ble_eq_true rfl) (k15 _  (by rw [if_neg c18, if_neg c19]))
        · replace hv := hv.2 c19
          refine wa_aload_n X 3 rfl dX11_goes_155 rfl ?_
          refine wa_iload X 1 rfl dX11_goes_156 ?_
          refine wa_iload_n X 6 rfl dX11_goes_158 rfl ?_
          obtain ⟨o21, hv⟩ := hv
          refine wa_callV X (As := [.inl (S.1 59 1 (a2 + (1 : Int32)).toNatClampNeg), .inl a3]) (f_M_lastAt hw o21) hk_11 hc_11 rfl kw_1489 kw_66 kw_1486 kw_1488 kw_35 nd_X11_lastAt rfl rfl (Nat.le_of_ble_eq_true rfl) dX11_goes_159 hs_1ne ⟨⟨Nat.le_of_ble_eq_true rfl, Nat.le_of_ble_eq_true rfl⟩, Nat.le_of_ble_eq_true rfl, Nat.le_of_ble_eq_true rfl⟩ (hs_pdk0 ?_) (fun _ _ h => h.elim)
          refine wa_i2l X dX11_goes_162 ?_
          refine wa_goto X (tgt := 176) dX11_goes_163 (by decide) ?_
          refine wa_lv (lv' := [(0, .inr (.inr (11, 1))), (1, .inl a1)]) [3, 4] rfl ?_
          exact wa_wid (Nat.le_of_ble_eq_true rfl) (Nat.le_of_ble_eq_true rfl) (k15 _  (by rw [if_neg c18, if_pos c19]))
      · replace hv := hv.2 c18
        refine wa_iload X 1 rfl dX11_goes_142 ?_
        refine wa_i2l X dX11_goes_144 ?_
        refine wa_goto X (tgt := 176) dX11_goes_145 (by decide) ?_
        refine wa_lv (lv' := [(0, .inr (.inr (11, 1))), (1, .inl a1)]) [3, 4] rfl ?_
        exact wa_wid (Nat.le_of_ble_eq_true rfl) (Nat.le_of_ble_eq_true rfl) (k15 _  (by rw [if_pos c18]))
  · replace hv := hv.2 c4
    refine wa_aload_n X 3 rfl dX11_goes_40 rfl ?_
    refine wa_aload_n X 3 rfl dX11_goes_41 rfl ?_
    refine wa_aload_n X 3 rfl dX11_goes_42 rfl ?_
    refine wa_getfw X hw (j := 49) (r := 1) hk_11 hc_11 i_11 (by decide) kw_1233 rfl rfl (by decide) rfl dX11_goes_43 hs_1ne ?_
    refine wa_iload_n X 4 rfl dX11_goes_46 rfl ?_
    obtain ⟨o22, hv⟩ := hv
    refine wa_iald X hk_89 dX11_goes_47 hs_1ne o22 ?_
    refine wa_iload_n X 6 rfl dX11_goes_48 rfl ?_
    obtain ⟨o23, hv⟩ := hv
    refine wa_callV X (As := [.inl (S.1 89 1 a1.toNatClampNeg), .inl a3]) (f_M_ownerAt hw o23) hk_11 hc_11 rfl kw_1387 kw_66 kw_1384 kw_1386 kw_21 nd_X11_ownerAt rfl rfl (Nat.le_of_ble_eq_true rfl) dX11_goes_49 hs_1ne ⟨⟨Nat.le_of_ble_eq_true rfl, Nat.le_of_ble_eq_true rfl⟩, Nat.le_of_ble_eq_true rfl, Nat.le_of_ble_eq_true rfl⟩ (hs_pdk0 ?_) (fun _ _ h => h.elim)
    refine wa_iload X 0 rfl dX11_goes_52 ?_
    refine wa_iload_n X 6 rfl dX11_goes_54 rfl ?_
    obtain ⟨o24, hv⟩ := hv
    refine wa_callV X (As := [.inl (F_ownerAt (S.1 89 1 a1.toNatClampNeg) a3 S), .inl (((6 : Int32) * (S.1 59 1 (a2 + (1 : Int32)).toNatClampNeg)) + (S.1 59 1 (a2 + (2 : Int32)).toNatClampNeg)), .inl a3]) (f_M_readsAt hw o24) hk_11 hc_11 rfl kw_1411 kw_66 kw_1408 kw_1410 kw_24 nd_X11_readsAt rfl rfl (Nat.le_of_ble_eq_true rfl) dX11_goes_55 hs_1ne ⟨⟨Nat.le_of_ble_eq_true rfl, Nat.le_of_ble_eq_true rfl⟩, Nat.le_of_ble_eq_true rfl, Nat.le_of_ble_eq_true rfl⟩ (hs_pdk0 ?_) (fun _ _ h => h.elim)
    refine wa_if_ne X (tgt := 69) dX11_goes_58 (by decide) (fun c25 => ?_) (fun c25 => ?_)
    · replace hv := hv.1 c25
      refine wa_aload_n X 3 rfl dX11_goes_69 rfl ?_
      refine wa_iload X 0 rfl dX11_goes_70 ?_
      obtain ⟨o26, hv⟩ := hv
      refine wa_callV X (As := [.inl (((6 : Int32) * (S.1 59 1 (a2 + (1 : Int32)).toNatClampNeg)) + (S.1 59 1 (a2 + (2 : Int32)).toNatClampNeg))]) (f_M_isFinding hw o26) hk_11 hc_11 rfl kw_1479 kw_66 kw_1476 kw_1478 kw_33 nd_X11_isFinding rfl rfl (Nat.le_of_ble_eq_true rfl) dX11_goes_72 hs_1ne ⟨⟨Nat.le_of_ble_eq_true rfl, Nat.le_of_ble_eq_true rfl⟩, Nat.le_of_ble_eq_true rfl, Nat.le_of_ble_eq_true rfl⟩ (hs_pdk0 ?_) (fun _ _ h => h.elim)
      refine wa_if_eq X (tgt := 86) dX11_goes_75 (by decide) (fun c27 => ?_) (fun c27 => ?_)
      · replace hv := hv.1 c27
        refine wa_aload_n X 3 rfl dX11_goes_86 rfl ?_
        refine wa_getfw X hw (j := 56) (r := 1) hk_11 hc_11 i_11 (by decide) kw_1240 rfl rfl (by decide) rfl dX11_goes_87 hs_1ne ?_
        refine wa_iload X 0 rfl dX11_goes_90 ?_
        obtain ⟨o28, hv⟩ := hv
        refine wa_bald X hk_96 dX11_goes_92 hs_1ne o28 ?_
        refine wa_if_ne X (tgt := 106) dX11_goes_93 (by decide) (fun c29 => ?_) (fun c29 => ?_)
        · replace hv := hv.1 c29
          refine wa_aload_n X 3 rfl dX11_goes_106 rfl ?_
          refine wa_aload_n X 3 rfl dX11_goes_107 rfl ?_
          refine wa_getfw X hw (j := 57) (r := 1) hk_11 hc_11 i_11 (by decide) kw_1241 rfl rfl (by decide) rfl dX11_goes_108 hs_1ne ?_
          refine wa_iload X 0 rfl dX11_goes_111 ?_
          refine wa_iald X hk_97 dX11_goes_113 hs_1ne o28 ?_
          refine wa_i2l X dX11_goes_114 ?_
          obtain ⟨o30, hv⟩ := hv
          refine wa_callV X (As := [.inr (.inl (S.1 97 1 (((6 : Int32) * (S.1 59 1 (a2 + (1 : Int32)).toNatClampNeg)) + (S.1 59 1 (a2 + (2 : Int32)).toNatClampNeg)).toNatClampNeg).toInt64)]) (f_M_puts hw o30) hk_11 hc_11 rfl kw_1483 kw_66 kw_1480 kw_1482 kw_34 nd_X11_puts rfl rfl (Nat.le_of_ble_eq_true rfl) dX11_goes_115 hs_1ne ⟨⟨Nat.le_of_ble_eq_true rfl, Nat.le_of_ble_eq_true rfl⟩, Nat.le_of_ble_eq_true rfl, Nat.le_of_ble_eq_true rfl⟩ (hs_pdk fun S31 hS31 hw => ?_) (fun _ _ h => h.elim)
          replace hv := hv S31 hS31
          refine wa_aload_n X 3 rfl dX11_goes_118 rfl ?_
          refine wa_getfw X hw (j := 50) (r := 1) hk_11 hc_11 i_11 (by decide) kw_1234 rfl rfl (by decide) rfl dX11_goes_119 hs_1ne ?_
          refine wa_iload_n X 4 rfl dX11_goes_122 rfl ?_
          refine wa_dup2 X dX11_goes_123 rfl rfl ?_
          refine wa_iald X hk_90 dX11_goes_124 hs_1ne o22 ?_
          refine wa_iconst X dX11_goes_125 kc1 ?_
          refine wa_iadd X dX11_goes_126 ?_
          refine wa_iast X hk_90 dX11_goes_127 hs_1ne o22 (hs_eqS fun S32 hS32 => ?_)
          replace hv := hv S32 hS32
          replace hw : hs_Wi S32 := hS32 ▸ hs_Wi_I hw
          exact wa_return X E dX11_goes_128 (Nat.le_of_ble_eq_true rfl) (Nat.le_of_ble_eq_true rfl) ⟨hw, rfl, hv⟩
        · replace hv := hv.2 c29
          refine wa_aload_n X 3 rfl dX11_goes_96 rfl ?_
          refine wa_iload X 0 rfl dX11_goes_97 ?_
          refine wa_iload_n X 6 rfl dX11_goes_99 rfl ?_
          obtain ⟨o33, hv⟩ := hv
          refine wa_callV X (As := [.inl (((6 : Int32) * (S.1 59 1 (a2 + (1 : Int32)).toNatClampNeg)) + (S.1 59 1 (a2 + (2 : Int32)).toNatClampNeg)), .inl a3]) (f_M_starts hw o33) hk_11 hc_11 rfl kw_1463 kw_66 kw_1460 kw_1462 kw_29 nd_X11_starts rfl rfl (Nat.le_of_ble_eq_true rfl) dX11_goes_100 hs_1ne ⟨⟨Nat.le_of_ble_eq_true rfl, Nat.le_of_ble_eq_true rfl⟩, Nat.le_of_ble_eq_true rfl, Nat.le_of_ble_eq_true rfl⟩ (hs_pdk fun S34 hS34 hw => ?_) (fun _ _ h => h.elim)
          replace hv := hv S34 hS34
          refine wa_goto X (tgt := 128) dX11_goes_103 (by decide) ?_
          exact wa_return X E dX11_goes_128 (Nat.le_of_ble_eq_true rfl) (Nat.le_of_ble_eq_true rfl) ⟨hw, rfl, hv⟩
      · replace hv := hv.2 c27
        refine wa_aload_n X 3 rfl dX11_goes_78 rfl ?_
        refine wa_iconst X dX11_goes_79 kc2 ?_
        refine wa_putI X (j := 58) hk_11 hc_11 i_11 tyX11 tyX11_ok nmX11 (by decide) kw_1242 rfl rfl dX11_goes_80 hs_1ne ⟨rfl, Or.inl rfl⟩ (hs_eqS fun S35 hS35 => ?_)
        replace hv := hv S35 hS35
        replace hw : hs_Wi S35 := hS35 ▸ hs_Wi_I hw
        refine wa_goto X (tgt := 128) dX11_goes_83 (by decide) ?_
        exact wa_return X E dX11_goes_128 (Nat.le_of_ble_eq_true rfl) (Nat.le_of_ble_eq_true rfl) ⟨hw, rfl, hv⟩
    · replace hv := hv.2 c25
      refine wa_aload_n X 3 rfl dX11_goes_61 rfl ?_
      refine wa_iconst X dX11_goes_62 kc1 ?_
      refine wa_putI X (j := 58) hk_11 hc_11 i_11 tyX11 tyX11_ok nmX11 (by decide) kw_1242 rfl rfl dX11_goes_63 hs_1ne ⟨rfl, Or.inl rfl⟩ (hs_eqS fun S36 hS36 => ?_)
      replace hv := hv S36 hS36
      replace hw : hs_Wi S36 := hS36 ▸ hs_Wi_I hw
      refine wa_goto X (tgt := 128) dX11_goes_66 (by decide) ?_
      exact wa_return X E dX11_goes_128 (Nat.le_of_ble_eq_true rfl) (Nat.le_of_ble_eq_true rfl) ⟨hw, rfl, hv⟩
theorem nI_addI {a b : Nat} (h : a + b < 2147483648) : nI a + nI b = nI (a + b) := by
  apply i32_eq.mpr
  have h1 : (nI a).toInt = a := nI_toInt (by omega)
  have h2 : (nI b).toInt = b := nI_toInt (by omega)
  have h3 : (nI (a + b)).toInt = ((a + b : Nat) : Int) := nI_toInt (by omega)
  rw [i32_add (by rw [h1, h2]; omega), h1, h2, h3]
  omega
theorem v_M_goes {a1 a2 a3 : Int32} {S : hs_S} (hP : P_goes a1 a2 a3 S) : vc_M_goes a1 a2 a3 S (fun S' => S' = E_goes a1 a2 a3 S) := by
  obtain ⟨⟨d, hd, ed⟩, ⟨j, hj, ej⟩, hG, hL, hE, hD, hla, hbi, hT, hcell, hrk⟩ := hP
  have ed0 : 0 ≤ a1.toInt ∧ a1.toInt < 25 := by rw [ed]; exact hl_ix (by omega) (by omega)
  have ej1 : a2 + 1 = nI (j + 1) := by rw [ej]; exact nI_addI (b := 1) (by omega)
  have ej2 : a2 + 2 = nI (j + 2) := by rw [ej]; exact nI_addI (b := 2) (by omega)
  unfold vc_M_goes E_goes
  refine ⟨by rw [ej]; exact hl_ix (by omega) (by omega), by rw [ej1]; exact hl_ix (by omega) (by omega), by rw [ej2]; exact hl_ix (by omega) (by omega), fun h => ?_, fun h => ?_⟩
  · rw [if_neg h]
    intro K hK
    refine ⟨fun q => ⟨hrk q, fun T hT => ?_⟩, fun q => ⟨?_, fun z hz => ⟨hT, fun T hT => ?_⟩⟩⟩
    · apply hK
      refine ⟨ed0, fun S8 h8 => ?_⟩
      rw [if_pos q, h8, hT]
    · exact ⟨fun _ => ⟨fun _ => ⟨hbi, True.intro⟩, fun _ => ⟨hla, True.intro⟩⟩, fun _ => True.intro⟩
    · apply hK
      refine ⟨ed0, fun S8 h8 => ?_⟩
      rw [if_neg q, h8, hT, hz]
  · rw [if_pos h]
    have hc := hcell h
    refine ⟨ed0, hG, ⟨hG, hL⟩, fun q => ⟨?_, fun u => ⟨hc, fun v => ⟨hT, fun T hT S32 h32 => ?_⟩, fun v => ⟨⟨hE, hD, hc⟩, fun T hT => ?_⟩⟩, fun u T hT => ?_⟩, fun q T hT => ?_⟩
    · obtain ⟨g, hg, eg⟩ := hD
      exact ⟨g, by omega, eg⟩
    · rw [if_neg q, if_pos u, if_neg v, h32, hT]
    · rw [if_neg q, if_pos u, if_pos v, hT]
    · rw [if_neg q, if_neg u, hT]
    · rw [if_pos q, hT]
theorem f_M_goes {a1 : Int32} {a2 : Int32} {a3 : Int32} {S : hs_S} (hw : hs_Wi S) (hP : P_goes a1 a2 a3 S) : hs_M 4 yX11_goes (.code yX11_goes cX11_goes 7 none) [.inr (.inr (11, 1)), .inl a1, .inl a2, .inl a3] S 0 0 (hs_pd (none) (E_goes a1 a2 a3 S)) hs_nX := hs_pdV (ok_M_goes hw (v_M_goes hP))

