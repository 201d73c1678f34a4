abbrev mTl (S : hs_S) (o c e : Int32) (k : Nat) : Prop := ¬ e ≤ S.1 46 1 k ∧ S.1 48 1 k = o ∧ S.1 49 1 k - S.1 49 1 k / 4 * 4 = c / 6 ∧ ¬ c - c / 6 * 6 < S.1 49 1 k / 4 - S.1 49 1 k / 4 / 8 * 8 ∧ ¬ S.1 49 1 k / 32 - S.1 49 1 k / 32 / 8 * 8 < c - c / 6 * 6
def mLet (S : hs_S) (o c e : Int32) : Nat → Int32
  | 0 => 0
  | k + 1 => if mTl S o c e k ∧ F_ownerAt c (S.1 46 1 k) S = S.1 47 1 k then bI (S.1 49 1 k / 256 = 1) else mLet S o c e k
def F_readsAt (a1 a2 a3 : Int32) (S : hs_S) : Int32 := if F_ownerAt a2 a3 S = a1 then 1 else mLet S a1 a2 a3 (S.1 11 1 5).toNatClampNeg
def P_readsAt (a1 a2 a3 : Int32) (S : hs_S) : Prop := cN (S.1 11 1 1) 1200 ∧ cN (S.1 11 1 5) 1200
theorem mLet_01 {S : hs_S} {o c e : Int32} (k : Nat) : mLet S o c e k = 0 ∨ mLet S o c e k = 1 := by
  induction k with
  | zero => exact Or.inl rfl
  | succ k ih =>
    unfold mLet
    by_cases h : mTl S o c e k ∧ F_ownerAt c (S.1 46 1 k) S = S.1 47 1 k
    · rw [if_pos h]; exact bI_01 _
    · rw [if_neg h]; exact ih
def m_M_readsAt (a1 : Int32) (a2 : Int32) (a3 : Int32) (S : hs_S) (Q : Int32 → hs_S → Prop) : Prop := hs_M 2 yX11_readsAt (.code yX11_readsAt cX11_readsAt 7 (some FieldType.boolean)) [.inr (.inr (11, 1)), .inl a1, .inl a2, .inl a3] S 0 0 (hs_qI Q) hs_nX
def vc_M_readsAt (a1 : Int32) (a2 : Int32) (a3 : Int32) (S : hs_S) (Q : Int32 → hs_S → Prop) : Prop := ((P_ownerAt a2 a3 S) ∧ ((¬ (F_ownerAt a2 a3 S) = a1 → (∃ I5 : Nat → Int32 → Int32 → Prop, (∃ n9, I5 n9 (0 : Int32) (0 : Int32)) ∧ (∀ N6 : Nat, ∀ x3 : Int32, ∀ x4 : Int32, I5 N6 x3 x4 → (((S.1 11 1 5) ≤ x4 → ((x3 = 0 ∨ x3 = 1) ∧ (Q x3 S))) ∧ (¬ (S.1 11 1 5) ≤ x4 → ((0 ≤ x4.toInt ∧ x4.toInt < 1200) ∧ (∀ x16 : Int32, x16 = (if a3 ≤ (S.1 46 1 x4.toNatClampNeg) then (0 : Int32) else (if (S.1 48 1 x4.toNatClampNeg) = a1 then (if ((S.1 49 1 x4.toNatClampNeg) - (S.1 49 1 x4.toNatClampNeg) / (4 : Int32) * (4 : Int32)) = (a2 / (6 : Int32)) then (if (a2 - a2 / (6 : Int32) * (6 : Int32)) < (((S.1 49 1 x4.toNatClampNeg) / (4 : Int32)) - ((S.1 49 1 x4.toNatClampNeg) / (4 : Int32)) / (8 : Int32) * (8 : Int32)) then (0 : Int32) else (if (((S.1 49 1 x4.toNatClampNeg) / (32 : Int32)) - ((S.1 49 1 x4.toNatClampNeg) / (32 : Int32)) / (8 : Int32) * (8 : Int32)) < (a2 - a2 / (6 : Int32) * (6 : Int32)) then (0 : Int32) else (1 : Int32))) else (0 : Int32)) else (0 : Int32))) → ((x16 = 0 → (∃ q18, q18 < N6 ∧ I5 q18 x3 (x4 + 1))) ∧ (¬ x16 = 0 → ((P_ownerAt a2 (S.1 46 1 x4.toNatClampNeg) S) ∧ ((¬ (F_ownerAt a2 (S.1 46 1 x4.toNatClampNeg) S) = (S.1 47 1 x4.toNatClampNeg) → (∃ q22, q22 < N6 ∧ I5 q22 x3 (x4 + 1))) ∧ ((F_ownerAt a2 (S.1 46 1 x4.toNatClampNeg) S) = (S.1 47 1 x4.toNatClampNeg) → ((¬ ((S.1 49 1 x4.toNatClampNeg) / (256 : Int32)) = (1 : Int32) → (∃ q25, q25 < N6 ∧ I5 q25 (0 : Int32) (x4 + 1))) ∧ (((S.1 49 1 x4.toNatClampNeg) / (256 : Int32)) = (1 : Int32) → (∃ q27, q27 < N6 ∧ I5 q27 (1 : Int32) (x4 + 1)))))))))))))))) ∧ ((F_ownerAt a2 a3 S) = a1 → (Q (1 : Int32) S))))
set_option maxRecDepth 100000 in
set_option maxHeartbeats 4000000 in
theorem ok_M_readsAt {a1 : Int32} {a2 : Int32} {a3 : Int32} {S : hs_S} {Q : Int32 → hs_S → Prop} (hw : hs_Wi S) (hv : vc_M_readsAt a1 a2 a3 S Q) : m_M_readsAt a1 a2 a3 S Q := by
  unfold vc_M_readsAt at hv
  refine hs_body (own := RX11) rfl rfl (Nat.le_of_ble_eq_true rfl) (fun Z X E N J0 => ?_)
  show wa Z 0 0 S 0 [(0, .inr (.inr (11, 1))), (1, .inl a1), (2, .inl a2), (3, .inl a3)] []
  refine wa_aload_n X 0 rfl dX11_readsAt_0 rfl ?_
  refine wa_iload_n X 2 rfl dX11_readsAt_1 rfl ?_
  refine wa_iload_n X 3 rfl dX11_readsAt_2 rfl ?_
  obtain ⟨o1, hv⟩ := hv
  refine wa_callV X (As := [.inl a2, .inl a3]) (f_M_ownerAt hw o1) hk_11 hc_11 rfl kw_1387 kw_66 kw_1384 kw_1386 kw_21 nd_X11_ownerAt rfl rfl (Nat.le_of_ble_eq_true rfl) dX11_readsAt_3 hs_1ne ⟨⟨Nat.le_of_ble_eq_true rfl, Nat.le_of_ble_eq_true rfl⟩, Nat.le_of_ble_eq_true rfl, Nat.le_of_ble_eq_true rfl⟩ (hs_pdk0 ?_) (fun _ _ h => h.elim)
  refine wa_iload_n X 1 rfl dX11_readsAt_6 rfl ?_
  refine wa_icmp_ne X (tgt := 12) dX11_readsAt_7 (by decide) (fun c2 => ?_) (fun c2 => ?_)
  · replace hv := hv.1 c2
    refine wa_iconst X dX11_readsAt_12 kc0 ?_
    refine wa_istore X (lv' := [(4, .inl (0 : Int32)), (0, .inr (.inr (11, 1))), (1, .inl a1), (2, .inl a2), (3, .inl a3)]) dX11_readsAt_13 (by decide) rfl ?_
    refine wa_iconst X dX11_readsAt_15 kc0 ?_
    refine wa_istore X (lv' := [(5, .inl (0 : Int32)), (4, .inl (0 : Int32)), (0, .inr (.inr (11, 1))), (1, .inl a1), (2, .inl a2), (3, .inl a3)]) dX11_readsAt_16 (by decide) rfl ?_
    obtain ⟨I5, ⟨n9, i7⟩, b8⟩ := hv
    refine wa_lv (lv' := [(0, .inr (.inr (11, 1))), (1, .inl a1), (2, .inl a2), (3, .inl a3), (4, .inl (0 : Int32)), (5, .inl (0 : Int32))]) [2, 3, 4, 5, 1, 0] rfl ?_
    suffices L10 : ∀ N6 : Nat, ∀ x3 : Int32, ∀ x4 : Int32, I5 N6 x3 x4 → wa Z 0 0 S 18 [(0, .inr (.inr (11, 1))), (1, .inl a1), (2, .inl a2), (3, .inl a3), (4, .inl x3), (5, .inl x4)] [] from L10 _ _ _ i7
    clear i7
    intro N6
    induction N6 using Nat.strongRecOn with
    | _ N6 h11 =>
      intro x3 x4 j12
      have hv := b8 N6 x3 x4 j12
      refine wa_iload X 5 rfl dX11_readsAt_18 ?_
      refine wa_aload_n X 0 rfl dX11_readsAt_20 rfl ?_
      refine wa_getI X (j := 5) hk_11 hc_11 i_11 (by decide) kw_1189 rfl dX11_readsAt_21 hs_1ne ?_
      refine wa_icmp_ge X (tgt := 171) dX11_readsAt_24 (by decide) (fun c13 => ?_) (fun c13 => ?_)
      · replace hv := hv.1 c13
        refine wa_iload X 4 rfl dX11_readsAt_171 ?_
        obtain ⟨o14, hv⟩ := hv
        exact wa_ireturn X E dX11_readsAt_173 (Nat.le_of_ble_eq_true rfl) (Nat.le_of_ble_eq_true rfl) (Or.inr ⟨rfl, o14⟩) ⟨hw, _, rfl, hv⟩
      · replace hv := hv.2 c13
        refine wa_aload_n X 0 rfl dX11_readsAt_27 rfl ?_
        refine wa_getfw X hw (j := 6) (r := 1) hk_11 hc_11 i_11 (by decide) kw_1190 rfl rfl (by decide) rfl dX11_readsAt_28 hs_1ne ?_
        refine wa_iload X 5 rfl dX11_readsAt_31 ?_
        obtain ⟨o15, hv⟩ := hv
        refine wa_iald X hk_46 dX11_readsAt_33 hs_1ne o15 ?_
        refine wa_iload_n X 3 rfl dX11_readsAt_34 rfl ?_
        have k29 : ∀ (x16 : Int32), x16 = (if a3 ≤ (S.1 46 1 x4.toNatClampNeg) then (0 : Int32) else (if (S.1 48 1 x4.toNatClampNeg) = a1 then (if ((S.1 49 1 x4.toNatClampNeg) - (S.1 49 1 x4.toNatClampNeg) / (4 : Int32) * (4 : Int32)) = (a2 / (6 : Int32)) then (if (a2 - a2 / (6 : Int32) * (6 : Int32)) < (((S.1 49 1 x4.toNatClampNeg) / (4 : Int32)) - ((S.1 49 1 x4.toNatClampNeg) / (4 : Int32)) / (8 : Int32) * (8 : Int32)) then (0 : Int32) else (if (((S.1 49 1 x4.toNatClampNeg) / (32 : Int32)) - ((S.1 49 1 x4.toNatClampNeg) / (32 : Int32)) / (8 : Int32) * (8 : Int32)) < (a2 - a2 / (6 : Int32) * (6 : Int32)) then (0 : Int32) else (1 : Int32))) else (0 : Int32)) else (0 : Int32))) → wa Z 0 0 S 109 [(0, .inr (.inr (11, 1))), (1, .inl a1), (2, .inl a2), (3, .inl a3), (4, .inl x3), (5, .inl x4)] [.inl x16] := by
          intro x16 hE
          replace hv := hv _ hE
          refine wa_istore X (lv' := [(6, .inl x16), (0, .inr (.inr (11, 1))), (1, .inl a1), (2, .inl a2), (3, .inl a3), (4, .inl x3), (5, .inl x4)]) dX11_readsAt_109 (by decide) rfl ?_
          refine wa_iload X 0 rfl dX11_readsAt_111 ?_
          refine wa_if_eq X (tgt := 161) dX11_readsAt_113 (by decide) (fun c17 => ?_) (fun c17 => ?_)
          · replace hv := hv.1 c17
            refine wa_iload X 5 rfl dX11_readsAt_161 ?_
            refine wa_istore X (lv' := [(4, .inl x3), (6, .inl x16), (0, .inr (.inr (11, 1))), (1, .inl a1), (2, .inl a2), (3, .inl a3), (5, .inl x4)]) dX11_readsAt_163 (by decide) rfl ?_
            refine wa_iinc X (v := (x4 + 1)) (lv' := [(5, .inl (x4 + 1)), (4, .inl x3), (6, .inl x16), (0, .inr (.inr (11, 1))), (1, .inl a1), (2, .inl a2), (3, .inl a3)]) 6 rfl dX11_readsAt_165 rfl (by decide) rfl ?_
            refine wa_goto X (tgt := 18) dX11_readsAt_168 (by decide) ?_
            obtain ⟨q18, p19, hv⟩ := hv
            refine wa_lv (lv' := [(0, .inr (.inr (11, 1))), (1, .inl a1), (2, .inl a2), (3, .inl a3), (4, .inl x3), (5, .inl (x4 + 1))]) [3, 4, 5, 6, 1, 0] rfl ?_
            exact h11 q18 p19 _ _ hv
          · replace hv := hv.2 c17
            refine wa_aload_n X 1 rfl dX11_readsAt_116 rfl ?_
            refine wa_iload_n X 3 rfl dX11_readsAt_117 rfl ?_
            refine wa_aload_n X 1 rfl dX11_readsAt_118 rfl ?_
            refine wa_getfw X hw (j := 6) (r := 1) hk_11 hc_11 i_11 (by decide) kw_1190 rfl rfl (by decide) rfl dX11_readsAt_119 hs_1ne ?_
            refine wa_iload X 6 rfl dX11_readsAt_122 ?_
            refine wa_iald X hk_46 dX11_readsAt_124 hs_1ne o15 ?_
            obtain ⟨o20, hv⟩ := hv
            refine wa_callV X (As := [.inl a2, .inl (S.1 46 1 x4.toNatClampNeg)]) (f_M_ownerAt hw o20) hk_11 hc_11 rfl kw_1387 kw_66 kw_1384 kw_1386 kw_21 nd_X11_ownerAt rfl rfl (Nat.le_of_ble_eq_true rfl) dX11_readsAt_125 hs_1ne ⟨⟨Nat.le_of_ble_eq_true rfl, Nat.le_of_ble_eq_true rfl⟩, Nat.le_of_ble_eq_true rfl, Nat.le_of_ble_eq_true rfl⟩ (hs_pdk0 ?_) (fun _ _ h => h.elim)
            refine wa_aload_n X 1 rfl dX11_readsAt_128 rfl ?_
            refine wa_getfw X hw (j := 7) (r := 1) hk_11 hc_11 i_11 (by decide) kw_1191 rfl rfl (by decide) rfl dX11_readsAt_129 hs_1ne ?_
            refine wa_iload X 6 rfl dX11_readsAt_132 ?_
            refine wa_iald X hk_47 dX11_readsAt_134 hs_1ne o15 ?_
            refine wa_icmp_ne X (tgt := 161) dX11_readsAt_135 (by decide) (fun c21 => ?_) (fun c21 => ?_)
            · replace hv := hv.1 c21
              refine wa_iload X 5 rfl dX11_readsAt_161 ?_
              refine wa_istore X (lv' := [(4, .inl x3), (6, .inl x16), (0, .inr (.inr (11, 1))), (1, .inl a1), (2, .inl a2), (3, .inl a3), (5, .inl x4)]) dX11_readsAt_163 (by decide) rfl ?_
              refine wa_iinc X (v := (x4 + 1)) (lv' := [(5, .inl (x4 + 1)), (4, .inl x3), (6, .inl x16), (0, .inr (.inr (11, 1))), (1, .inl a1), (2, .inl a2), (3, .inl a3)]) 6 rfl dX11_readsAt_165 rfl (by decide) rfl ?_
              refine wa_goto X (tgt := 18) dX11_readsAt_168 (by decide) ?_
              obtain ⟨q22, p23, hv⟩ := hv
              refine wa_lv (lv' := [(0, .inr (.inr (11, 1))), (1, .inl a1), (2, .inl a2), (3, .inl a3), (4, .inl x3), (5, .inl (x4 + 1))]) [3, 4, 5, 6, 1, 0] rfl ?_
              exact h11 q22 p23 _ _ hv
            · replace hv := hv.2 c21
              refine wa_aload_n X 1 rfl dX11_readsAt_138 rfl ?_
              refine wa_getfw X hw (j := 9) (r := 1) hk_11 hc_11 i_11 (by decide) kw_1193 rfl rfl (by decide) rfl dX11_readsAt_139 hs_1ne ?_
              refine wa_iload X 6 rfl dX11_readsAt_142 ?_
              refine wa_iald X hk_49 dX11_readsAt_144 hs_1ne o15 ?_
              refine wa_sipush X dX11_readsAt_145 ks256 ?_
              refine wa_idiv X dX11_readsAt_148 (by decide) ?_
              refine wa_iconst X dX11_readsAt_149 kc1 ?_
              refine wa_icmp_ne X (tgt := 157) dX11_readsAt_150 (by decide) (fun c24 => ?_) (fun c24 => ?_)
              · replace hv := hv.1 c24
                refine wa_iconst X dX11_readsAt_157 kc0 ?_
                refine wa_goto X (tgt := 163) dX11_readsAt_158 (by decide) ?_
                refine wa_istore X (lv' := [(4, .inl (0 : Int32)), (6, .inl x16), (0, .inr (.inr (11, 1))), (1, .inl a1), (2, .inl a2), (3, .inl a3), (5, .inl x4)]) dX11_readsAt_163 (by decide) rfl ?_
                refine wa_iinc X (v := (x4 + 1)) (lv' := [(5, .inl (x4 + 1)), (4, .inl (0 : Int32)), (6, .inl x16), (0, .inr (.inr (11, 1))), (1, .inl a1), (2, .inl a2), (3, .inl a3)]) 6 rfl dX11_readsAt_165 rfl (by decide) rfl ?_
                refine wa_goto X (tgt := 18) dX11_readsAt_168 (by decide) ?_
                obtain ⟨q25, p26, hv⟩ := hv
                refine wa_lv (lv' := [(0, .inr (.inr (11, 1))), (1, .inl a1), (2, .inl a2), (3, .inl a3), (4, .inl (0 : Int32)), (5, .inl (x4 + 1))]) [3, 4, 5, 6, 1, 0] rfl ?_
                exact h11 q25 p26 _ _ hv
              · replace hv := hv.2 c24
                refine wa_iconst X dX11_readsAt_153 kc1 ?_
                refine wa_goto X (tgt := 163) dX11_readsAt_154 (by decide) ?_
                refine wa_istore X (lv' := [(4, .inl (1 : Int32)), (6, .inl x16), (0, .inr (.inr (11, 1))), (1, .inl a1), (2, .inl a2), (3, .inl a3), (5, .inl x4)]) dX11_readsAt_163 (by decide) rfl ?_
                refine wa_iinc X (v := (x4 + 1)) (lv' := [(5, .inl (x4 + 1)), (4, .inl (1 : Int32)), (6, .inl x16), (0, .inr (.inr (11, 1))), (1, .inl a1), (2, .inl a2), (3, .inl a3)]) 6 rfl dX11_readsAt_165 rfl (by decide) rfl ?_
                refine wa_goto X (tgt := 18) dX11_readsAt_168 (by decide) ?_
                obtain ⟨q27, p28, hv⟩ := hv
                refine wa_lv (lv' := [(0, .inr (.inr (11, 1))), (1, .inl a1), (2, .inl a2), (3, .inl a3), (4, .inl (1 : Int32)), (5, .inl (x4 + 1))]) [3, 4, 5, 6, 1, 0] rfl ?_
                exact h11 q27 p28 _ _ hv
        clear hv
        refine wa_icmp_ge X (tgt := 108) dX11_readsAt_35 (by decide) (fun c31 => ?_) (fun c31 => ?_)
        · refine wa_iconst X dX11_readsAt_108 kc0 ?_
          refine wa_lv (lv' := [(0, .inr (.inr (11, 1))), (1, .inl a1), (2, .inl a2), (3, .inl a3), (4, .inl x3), (5, .inl x4)]) [0, 1, 2, 3, 4, 5] rfl ?_
          exact wa_wid (Nat.le_of_ble_eq_true rfl) (Nat.le_of_ble_eq_true rfl) (k29 _  (by rw [if_pos c31]))
        · refine wa_aload_n X 0 rfl dX11_readsAt_38 rfl ?_
          refine wa_getfw X hw (j := 8) (r := 1) hk_11 hc_11 i_11 (by decide) kw_1192 rfl rfl (by decide) rfl dX11_readsAt_39 hs_1ne ?_
          refine wa_iload X 5 rfl dX11_readsAt_42 ?_
          refine wa_iald X hk_48 dX11_readsAt_44 hs_1ne o15 ?_
          refine wa_iload_n X 1 rfl dX11_readsAt_45 rfl ?_
          refine wa_icmp_ne X (tgt := 108) dX11_readsAt_46 (by decide) (fun c32 => ?_) (fun c32 => ?_)
          · refine wa_iconst X dX11_readsAt_108 kc0 ?_
            refine wa_lv (lv' := [(0, .inr (.inr (11, 1))), (1, .inl a1), (2, .inl a2), (3, .inl a3), (4, .inl x3), (5, .inl x4)]) [0, 1, 2, 3, 4, 5] rfl ?_
            exact wa_wid (Nat.le_of_ble_eq_true rfl) (Nat.le_of_ble_eq_true rfl) (k29 _  (by rw [if_neg c31, if_neg c32]))
          · refine wa_aload_n X 0 rfl dX11_readsAt_49 rfl ?_
            refine wa_getfw X hw (j := 9) (r := 1) hk_11 hc_11 i_11 (by decide) kw_1193 rfl rfl (by decide) rfl dX11_readsAt_50 hs_1ne ?_
            refine wa_iload X 5 rfl dX11_readsAt_53 ?_
            refine wa_iald X hk_49 dX11_readsAt_55 hs_1ne o15 ?_
            refine wa_iconst X dX11_readsAt_56 kc4 ?_
            refine wa_irem X dX11_readsAt_57 (by decide) ?_
            refine wa_iload_n X 2 rfl dX11_readsAt_58 rfl ?_
            refine wa_bipush X dX11_readsAt_59 kb6 ?_
            refine wa_idiv X dX11_readsAt_61 (by decide) ?_
            refine wa_icmp_ne X (tgt := 108) dX11_readsAt_62 (by decide) (fun c33 => ?_) (fun c33 => ?_)
            · refine wa_iconst X dX11_readsAt_108 kc0 ?_
              refine wa_lv (lv' := [(0, .inr (.inr (11, 1))), (1, .inl a1), (2, .inl a2), (3, .inl a3), (4, .inl x3), (5, .inl x4)]) [0, 1, 2, 3, 4, 5] rfl ?_
              exact wa_wid (Nat.le_of_ble_eq_true rfl) (Nat.le_of_ble_eq_true rfl) (k29 _  (by rw [if_neg c31, if_pos c32, if_neg c33]))
            · refine wa_aload_n X 0 rfl dX11_readsAt_65 rfl ?_
              refine wa_getfw X hw (j := 9) (r := 1) hk_11 hc_11 i_11 (by decide) kw_1193 rfl rfl (by decide) rfl dX11_readsAt_66 hs_1ne ?_
              refine wa_iload X 5 rfl dX11_readsAt_69 ?_
              refine wa_iald X hk_49 dX11_readsAt_71 hs_1ne o15 ?_
              refine wa_iconst X dX11_readsAt_72 kc4 ?_
              refine wa_idiv X dX11_readsAt_73 (by decide) ?_
              refine wa_bipush X dX11_readsAt_74 kb8 ?_
              refine wa_irem X dX11_readsAt_76 (by decide) ?_
              refine wa_iload_n X 2 rfl dX11_readsAt_77 rfl ?_
              refine wa_bipush X dX11_readsAt_78 kb6 ?_
              refine wa_irem X dX11_readsAt_80 (by decide) ?_
              refine wa_icmp_gt X (tgt := 108) dX11_readsAt_81 (by decide) (fun c34 => ?_) (fun c34 => ?_)
              · refine wa_iconst X dX11_readsAt_108 kc0 ?_
                refine wa_lv (lv' := [(0, .inr (.inr (11, 1))), (1, .inl a1), (2, .inl a2), (3, .inl a3), (4, .inl x3), (5, .inl x4)]) [0, 1, 2, 3, 4, 5] rfl ?_
                exact wa_wid (Nat.le_of_ble_eq_true rfl) (Nat.le_of_ble_eq_true rfl) (k29 _  (by rw [if_neg c31, if_pos c32, if_pos c33, if_pos c34]))
              · refine wa_aload_n X 0 rfl dX11_readsAt_84 rfl ?_
                refine wa_getfw X hw (j := 9) (r := 1) hk_11 hc_11 i_11 (by decide) kw_1193 rfl rfl (by decide) rfl dX11_readsAt_85 hs_1ne ?_
                refine wa_iload X 5 rfl dX11_readsAt_88 ?_
                refine wa_iald X hk_49 dX11_readsAt_90 hs_1ne o15 ?_
                refine wa_bipush X dX11_readsAt_91 kb32 ?_
                refine wa_idiv X dX11_readsAt_93 (by decide) ?_
                refine wa_bipush X dX11_readsAt_94 kb8 ?_
                refine wa_irem X dX11_readsAt_96 (by decide) ?_
                refine wa_iload_n X 2 rfl dX11_readsAt_97 rfl ?_
                refine wa_bipush X dX11_readsAt_98 kb6 ?_
                refine wa_irem X dX11_readsAt_100 (by decide) ?_
                refine wa_icmp_lt X (tgt := 108) dX11_readsAt_101 (by decide) (fun c35 => ?_) (fun c35 => ?_)
                · refine wa_iconst X dX11_readsAt_108 kc0 ?_
                  refine wa_lv (lv' := [(0, .inr (.inr (11, 1))), (1, .inl a1), (2, .inl a2), (3, .inl a3), (4, .inl x3), (5, .inl x4)]) [0, 1, 2, 3, 4, 5] rfl ?_
                  exact wa_wid (Nat.le_of_ble_eq_true rfl) (Nat.le_of_ble_eq_true rfl) (k29 _  (by rw [if_neg c31, if_pos c32, if_pos c33, if_neg c34, if_pos c35]))
                · refine wa_iconst X dX11_readsAt_104 kc1 ?_
                  refine wa_goto X (tgt := 109) dX11_readsAt_105 (by decide) ?_
                  refine wa_lv (lv' := [(0, .inr (.inr (11, 1))), (1, .inl a1), (2, .inl a2), (3, .inl a3), (4, .inl x3), (5, .inl x4)]) [0, 1, 2, 3, 4, 5] rfl ?_
                  exact wa_wid (Nat.le_of_ble_eq_true rfl) (Nat.le_of_ble_eq_true rfl) (k29 _  (by rw [if_neg c31, if_pos c32, if_pos c33, if_neg c34, if_neg c35]))
  · replace hv := hv.2 c2
    refine wa_iconst X dX11_readsAt_10 kc1 ?_
    exact wa_ireturn X E dX11_readsAt_11 (Nat.le_of_ble_eq_true rfl) (Nat.le_of_ble_eq_true rfl) (Or.inr ⟨rfl, Or.inr rfl⟩) ⟨hw, _, rfl, hv⟩
theorem v_M_readsAt {a1 a2 a3 : Int32} {S : hs_S} (hP : P_readsAt a1 a2 a3 S) : vc_M_readsAt a1 a2 a3 S (fun r S' => r = F_readsAt a1 a2 a3 S ∧ S' = S) := by
  obtain ⟨hg, g, hg2, eg⟩ := hP
  unfold vc_M_readsAt F_readsAt
  refine ⟨hg, fun h => ?_, fun h => ⟨(if_pos h).symm, rfl⟩⟩
  rw [if_neg h, eg, hl_cl (by omega)]
  refine ⟨fun N x1 x2 => ∃ k, k ≤ g ∧ x2 = nI k ∧ x1 = mLet S a1 a2 a3 k ∧ N = g - k, ⟨g, 0, Nat.zero_le _, rfl, rfl, rfl⟩, ?_⟩
  rintro N x1 x2 ⟨k, hk, rfl, rfl, rfl⟩
  refine ⟨fun h => ?_, fun h => ?_⟩
  · have := hl_end (by omega) hk h
    subst this
    exact ⟨mLet_01 k, rfl, rfl⟩
  · have hk1 := hl_go (by omega) hk h
    rw [hl_cl (by omega)]
    refine ⟨hl_ix (by omega) (by omega), fun x hx => ?_⟩
    have hx2 : x = bI (mTl S a1 a2 a3 k) := by
      rw [hx]
      unfold bI mTl
      by_cases h1 : a3 ≤ S.1 46 1 k <;> by_cases h2 : S.1 48 1 k = a1 <;> by_cases h3 : S.1 49 1 k - S.1 49 1 k / 4 * 4 = a2 / 6 <;> by_cases h4 : a2 - a2 / 6 * 6 < S.1 49 1 k / 4 - S.1 49 1 k / 4 / 8 * 8 <;> by_cases h5 : S.1 49 1 k / 32 - S.1 49 1 k / 32 / 8 * 8 < a2 - a2 / 6 * 6 <;> simp only [h1, h2, h3, h4, h5, if_true, if_false, not_true, not_false_iff, and_true, true_and, and_false, false_and]
    clear hx
    subst hx2
    refine ⟨fun h0 => hl_nx hk1 ?_, fun h0 => ⟨hg, fun h1 => hl_nx hk1 ?_, fun h1 => ⟨fun h2 => hl_nx hk1 ?_, fun h2 => hl_nx hk1 ?_⟩⟩⟩
    · exact (if_neg fun q => bI_eq0.mp h0 q.1).symm
    · exact (if_neg fun q => h1 q.2).symm
    · exact ((if_pos ⟨Classical.not_not.mp fun q => h0 (bI_eq0.mpr q), h1⟩).trans (bI_f h2)).symm
    · exact ((if_pos ⟨Classical.not_not.mp fun q => h0 (bI_eq0.mpr q), h1⟩).trans (bI_t h2)).symm
theorem f_M_readsAt {a1 : Int32} {a2 : Int32} {a3 : Int32} {S : hs_S} (hw : hs_Wi S) (hP : P_readsAt a1 a2 a3 S) : hs_M 2 yX11_readsAt (.code yX11_readsAt cX11_readsAt 7 (some FieldType.boolean)) [.inr (.inr (11, 1)), .inl a1, .inl a2, .inl a3] S 0 0 (hs_pd (some (.inl (F_readsAt a1 a2 a3 S))) S) hs_nX := hs_pdI (ok_M_readsAt hw (v_M_readsAt hP))

def mPile (S : hs_S) : Nat → Int32
  | 0 => 0
  | k + 1 => mPile S k + (1 - F_takes (S.1 51 1 (3 * k)))
def F_pileOfDraft (S : hs_S) : Int32 := mPile S (S.1 11 1 10).toNatClampNeg
def P_pileOfDraft (S : hs_S) : Prop := cN (S.1 11 1 10) 12
theorem hl_mul3 {k : Nat} : (3 : Int32) * nI k = nI (3 * k) := pk_mul 3 k
def m_M_pileOfDraft (S : hs_S) (Q : Int32 → hs_S → Prop) : Prop := hs_M 2 yX11_pileOfDraft (.code yX11_pileOfDraft cX11_pileOfDraft 3 (some FieldType.int)) [.inr (.inr (11, 1))] S 0 0 (hs_qI Q) hs_nX
def vc_M_pileOfDraft (S : hs_S) (Q : Int32 → hs_S → Prop) : Prop := (∃ I3 : Nat → Int32 → Int32 → Prop, (∃ n7, I3 n7 (0 : Int32) (0 : Int32)) ∧ (∀ N4 : Nat, ∀ x1 : Int32, ∀ x2 : Int32, I3 N4 x1 x2 → (((S.1 11 1 10) ≤ x2 → (Q x1 S)) ∧ (¬ (S.1 11 1 10) ≤ x2 → ((0 ≤ ((3 : Int32) * x2).toInt ∧ ((3 : Int32) * x2).toInt < 36) ∧ (∃ q13, q13 < N4 ∧ I3 q13 (x1 + ((1 : Int32) - (F_takes (S.1 51 1 ((3 : Int32) * x2).toNatClampNeg)))) (x2 + 1)))))))
set_option maxRecDepth 100000 in
set_option maxHeartbeats 4000000 in
theorem ok_M_pileOfDraft {S : hs_S} {Q : Int32 → hs_S → Prop} (hw : hs_Wi S) (hv : vc_M_pileOfDraft S Q) : m_M_pileOfDraft S Q := by
  unfold vc_M_pileOfDraft at hv
  refine hs_body (own := RX11) rfl rfl (Nat.le_of_ble_eq_true rfl) (fun Z X E N J0 => ?_)
  show wa Z 0 0 S 0 [(0, .inr (.inr (11, 1)))] []
  refine wa_iconst X dX11_pileOfDraft_0 kc0 ?_
  refine wa_istore_n X (lv' := [(1, .inl (0 : Int32)), (0, .inr (.inr (11, 1)))]) dX11_pileOfDraft_1 rfl (by decide) rfl ?_
  refine wa_iconst X dX11_pileOfDraft_2 kc0 ?_
  refine wa_istore_n X (lv' := [(2, .inl (0 : Int32)), (1, .inl (0 : Int32)), (0, .inr (.inr (11, 1)))]) dX11_pileOfDraft_3 rfl (by decide) rfl ?_
  obtain ⟨I3, ⟨n7, i5⟩, b6⟩ := hv
  refine wa_lv (lv' := [(0, .inr (.inr (11, 1))), (1, .inl (0 : Int32)), (2, .inl (0 : Int32))]) [2, 1, 0] rfl ?_
  suffices L8 : ∀ N4 : Nat, ∀ x1 : Int32, ∀ x2 : Int32, I3 N4 x1 x2 → wa Z 0 0 S 4 [(0, .inr (.inr (11, 1))), (1, .inl x1), (2, .inl x2)] [] from L8 _ _ _ i5
  clear i5
  intro N4
  induction N4 using Nat.strongRecOn with
  | _ N4 h9 =>
    intro x1 x2 j10
    have hv := b6 N4 x1 x2 j10
    refine wa_iload_n X 2 rfl dX11_pileOfDraft_4 rfl ?_
    refine wa_aload_n X 0 rfl dX11_pileOfDraft_5 rfl ?_
    refine wa_getI X (j := 10) hk_11 hc_11 i_11 (by decide) kw_1194 rfl dX11_pileOfDraft_6 hs_1ne ?_
    refine wa_icmp_ge X (tgt := 34) dX11_pileOfDraft_9 (by decide) (fun c11 => ?_) (fun c11 => ?_)
    · replace hv := hv.1 c11
      refine wa_iload_n X 1 rfl dX11_pileOfDraft_34 rfl ?_
      exact wa_ireturn X E dX11_pileOfDraft_35 (Nat.le_of_ble_eq_true rfl) (Nat.le_of_ble_eq_true rfl) (Or.inl rfl) ⟨hw, _, rfl, hv⟩
    · replace hv := hv.2 c11
      refine wa_iload_n X 1 rfl dX11_pileOfDraft_12 rfl ?_
      refine wa_iconst X dX11_pileOfDraft_13 kc1 ?_
      refine wa_aload_n X 0 rfl dX11_pileOfDraft_14 rfl ?_
      refine wa_getfw X hw (j := 11) (r := 1) hk_11 hc_11 i_11 (by decide) kw_1195 rfl rfl (by decide) rfl dX11_pileOfDraft_15 hs_1ne ?_
      refine wa_iconst X dX11_pileOfDraft_18 kc3 ?_
      refine wa_iload_n X 2 rfl dX11_pileOfDraft_19 rfl ?_
      refine wa_imul X dX11_pileOfDraft_20 ?_
      obtain ⟨o12, hv⟩ := hv
      refine wa_iald X hk_51 dX11_pileOfDraft_21 hs_1ne o12 ?_
      refine wa_callS X (As := [.inl (S.1 51 1 ((3 : Int32) * x2).toNatClampNeg)]) (f_M_takes hw) kw_1427 kw_66 kw_1425 kw_1426 nd_X11_takes rfl rfl (Nat.le_of_ble_eq_true rfl) dX11_pileOfDraft_22 ⟨⟨Nat.le_of_ble_eq_true rfl, Nat.le_of_ble_eq_true rfl⟩, Nat.le_of_ble_eq_true rfl, Nat.le_of_ble_eq_true rfl⟩ (hs_pdk0 ?_) (fun _ _ h => h.elim)
      refine wa_isub X dX11_pileOfDraft_25 ?_
      refine wa_iadd X dX11_pileOfDraft_26 ?_
      refine wa_istore_n X (lv' := [(1, .inl (x1 + ((1 : Int32) - (F_takes (S.1 51 1 ((3 : Int32) * x2).toNatClampNeg))))), (0, .inr (.inr (11, 1))), (2, .inl x2)]) dX11_pileOfDraft_27 rfl (by decide) rfl ?_
      refine wa_iinc X (v := (x2 + 1)) (lv' := [(2, .inl (x2 + 1)), (1, .inl (x1 + ((1 : Int32) - (F_takes (S.1 51 1 ((3 : Int32) * x2).toNatClampNeg))))), (0, .inr (.inr (11, 1)))]) 2 rfl dX11_pileOfDraft_28 rfl (by decide) rfl ?_
      refine wa_goto X (tgt := 4) dX11_pileOfDraft_31 (by decide) ?_
      obtain ⟨q13, p14, hv⟩ := hv
      refine wa_lv (lv' := [(0, .inr (.inr (11, 1))), (1, .inl (x1 + ((1 : Int32) - (F_takes (S.1 51 1 ((3 : Int32) * x2).toNatClampNeg))))), (2, .inl (x2 + 1))]) [2, 1, 0] rfl ?_
      exact h9 q13 p14 _ _ hv
theorem v_M_pileOfDraft {S : hs_S} (hP : P_pileOfDraft S) : vc_M_pileOfDraft S (fun r S' => r = F_pileOfDraft S ∧ S' = S) := by
  obtain ⟨g, hg, eg⟩ := hP
  unfold vc_M_pileOfDraft F_pileOfDraft
  rw [eg, hl_cl (by omega)]
  refine ⟨fun N x1 x2 => ∃ k, k ≤ g ∧ x2 = nI k ∧ x1 = mPile S k ∧ N = g - k, ⟨g, 0, Nat.zero_le _, rfl, rfl, rfl⟩, ?_⟩
  rintro N x1 x2 ⟨k, hk, rfl, rfl, rfl⟩
  refine ⟨fun h => ?_, fun h => ?_⟩
  · have := hl_end (by omega) hk h
    subst this
    exact ⟨rfl, rfl⟩
  · have hk1 := hl_go (by omega) hk h
    rw [hl_mul3, hl_cl (by omega)]
    exact ⟨hl_ix (by omega) (by omega), hl_nx hk1 rfl⟩
theorem f_M_pileOfDraft {S : hs_S} (hw : hs_Wi S) (hP : P_pileOfDraft S) : hs_M 2 yX11_pileOfDraft (.code yX11_pileOfDraft cX11_pileOfDraft 3 (some FieldType.int)) [.inr (.inr (11, 1))] S 0 0 (hs_pd (some (.inl (F_pileOfDraft S))) S) hs_nX := hs_pdI (ok_M_pileOfDraft hw (v_M_pileOfDraft hP))

def mEd (S : hs_S) (c e : Int32) : Nat → Int32
  | 0 => -1
  | k + 1 => if S.1 53 1 k = c ∧ ¬ e < S.1 56 1 k ∧ S.1 58 1 k = 0 then nI k else mEd S c e k
def F_editAt (a1 a2 : Int32) (S : hs_S) : Int32 := mEd S a1 a2 (S.1 11 1 12).toNatClampNeg
def P_editAt (a1 a2 : Int32) (S : hs_S) : Prop := cN (S.1 11 1 12) 60
theorem mEd_in {S : hs_S} {c e : Int32} (n : Nat) : mEd S c e n = -1 ∨ ∃ k, k < n ∧ mEd S c e n = nI k := by
  induction n with
  | zero => exact Or.inl rfl
  | succ k ih =>
    unfold mEd
    by_cases h : S.1 53 1 k = c ∧ ¬ e < S.1 56 1 k ∧ S.1 58 1 k = 0
    · rw [if_pos h]; exact Or.inr ⟨k, by omega, rfl⟩
    · rw [if_neg h]
      rcases ih with h1 | ⟨j, h1, h2⟩
      · exact Or.inl h1
      · exact Or.inr ⟨j, by omega, h2⟩
def m_M_editAt (a1 : Int32) (a2 : Int32) (S : hs_S) (Q : Int32 → hs_S → Prop) : Prop := hs_M 1 yX11_editAt (.code yX11_editAt cX11_editAt 5 (some FieldType.int)) [.inr (.inr (11, 1)), .inl a1, .inl a2] S 0 0 (hs_qI Q) hs_nX
def vc_M_editAt (a1 : Int32) (a2 : Int32) (S : hs_S) (Q : Int32 → hs_S → Prop) : Prop := (∃ I3 : Nat → Int32 → Int32 → Prop, (∃ n7, I3 n7 (-1 : Int32) (0 : Int32)) ∧ (∀ N4 : Nat, ∀ x1 : Int32, ∀ x2 : Int32, I3 N4 x1 x2 → (((S.1 11 1 12) ≤ x2 → (Q x1 S)) ∧ (¬ (S.1 11 1 12) ≤ x2 → ((0 ≤ x2.toInt ∧ x2.toInt < 60) ∧ ((¬ (S.1 53 1 x2.toNatClampNeg) = a1 → (∃ q14, q14 < N4 ∧ I3 q14 x1 (x2 + 1))) ∧ ((S.1 53 1 x2.toNatClampNeg) = a1 → ((a2 < (S.1 56 1 x2.toNatClampNeg) → (∃ q17, q17 < N4 ∧ I3 q17 x1 (x2 + 1))) ∧ (¬ a2 < (S.1 56 1 x2.toNatClampNeg) → ((¬ (S.1 58 1 x2.toNatClampNeg) = 0 → (∃ q20, q20 < N4 ∧ I3 q20 x1 (x2 + 1))) ∧ ((S.1 58 1 x2.toNatClampNeg) = 0 → (∃ q22, q22 < N4 ∧ I3 q22 x2 (x2 + 1)))))))))))))
set_option maxRecDepth 100000 in
set_option maxHeartbeats 4000000 in
theorem ok_M_editAt {a1 : Int32} {a2 : Int32} {S : hs_S} {Q : Int32 → hs_S → Prop} (hw : hs_Wi S) (hv : vc_M_editAt a1 a2 S Q) : m_M_editAt a1 a2 S Q := by
  unfold vc_M_editAt at hv
  refine hs_body (own := RX11) rfl rfl (Nat.le_of_ble_eq_true rfl) (fun Z X E N J0 => ?_)
  show wa Z 0 0 S 0 [(0, .inr (.inr (11, 1))), (1, .inl a1), (2, .inl a2)] []
  refine wa_iconst X dX11_editAt_0 kcm1 ?_
  refine wa_istore_n X (lv' := [(3, .inl (-1 : Int32)), (0, .inr (.inr (11, 1))), (1, .inl a1), (2, .inl a2)]) dX11_editAt_1 rfl (by decide) rfl ?_
  refine wa_iconst X dX11_editAt_2 kc0 ?_
  refine wa_istore X (lv' := [(4, .inl (0 : Int32)), (3, .inl (-1 : Int32)), (0, .inr (.inr (11, 1))), (1, .inl a1), (2, .inl a2)]) dX11_editAt_3 (by decide) rfl ?_
  obtain ⟨I3, ⟨n7, i5⟩, b6⟩ := hv
  refine wa_lv (lv' := [(0, .inr (.inr (11, 1))), (1, .inl a1), (2, .inl a2), (3, .inl (-1 : Int32)), (4, .inl (0 : Int32))]) [2, 3, 4, 1, 0] rfl ?_
  suffices L8 : ∀ N4 : Nat, ∀ x1 : Int32, ∀ x2 : Int32, I3 N4 x1 x2 → wa Z 0 0 S 5 [(0, .inr (.inr (11, 1))), (1, .inl a1), (2, .inl a2), (3, .inl x1), (4, .inl x2)] [] from L8 _ _ _ i5
  clear i5
  intro N4
  induction N4 using Nat.strongRecOn with
  | _ N4 h9 =>
    intro x1 x2 j10
    have hv := b6 N4 x1 x2 j10
    refine wa_iload X 4 rfl dX11_editAt_5 ?_
    refine wa_aload_n X 0 rfl dX11_editAt_7 rfl ?_
    refine wa_getI X (j := 12) hk_11 hc_11 i_11 (by decide) kw_1196 rfl dX11_editAt_8 hs_1ne ?_
    refine wa_icmp_ge X (tgt := 59) dX11_editAt_11 (by decide) (fun c11 => ?_) (fun c11 => ?_)
    · replace hv := hv.1 c11
      refine wa_iload_n X 3 rfl dX11_editAt_59 rfl ?_
      exact wa_ireturn X E dX11_editAt_60 (Nat.le_of_ble_eq_true rfl) (Nat.le_of_ble_eq_true rfl) (Or.inl rfl) ⟨hw, _, rfl, hv⟩
    · replace hv := hv.2 c11
      refine wa_aload_n X 0 rfl dX11_editAt_14 rfl ?_
      refine wa_getfw X hw (j := 13) (r := 1) hk_11 hc_11 i_11 (by decide) kw_1197 rfl rfl (by decide) rfl dX11_editAt_15 hs_1ne ?_
      refine wa_iload X 4 rfl dX11_editAt_18 ?_
      obtain ⟨o12, hv⟩ := hv
      refine wa_iald X hk_53 dX11_editAt_20 hs_1ne o12 ?_
      refine wa_iload_n X 1 rfl dX11_editAt_21 rfl ?_
      refine wa_icmp_ne X (tgt := 51) dX11_editAt_22 (by decide) (fun c13 => ?_) (fun c13 => ?_)
      · replace hv := hv.1 c13
        refine wa_iload_n X 3 rfl dX11_editAt_51 rfl ?_
        refine wa_istore_n X (lv' := [(3, .inl x1), (0, .inr (.inr (11, 1))), (1, .inl a1), (2, .inl a2), (4, .inl x2)]) dX11_editAt_52 rfl (by decide) rfl ?_
        refine wa_iinc X (v := (x2 + 1)) (lv' := [(4, .inl (x2 + 1)), (3, .inl x1), (0, .inr (.inr (11, 1))), (1, .inl a1), (2, .inl a2)]) 4 rfl dX11_editAt_53 rfl (by decide) rfl ?_
        refine wa_goto X (tgt := 5) dX11_editAt_56 (by decide) ?_
        obtain ⟨q14, p15, hv⟩ := hv
        refine wa_lv (lv' := [(0, .inr (.inr (11, 1))), (1, .inl a1), (2, .inl a2), (3, .inl x1), (4, .inl (x2 + 1))]) [2, 3, 4, 1, 0] rfl ?_
        exact h9 q14 p15 _ _ hv
      · replace hv := hv.2 c13
        refine wa_aload_n X 0 rfl dX11_editAt_25 rfl ?_
        refine wa_getfw X hw (j := 16) (r := 1) hk_11 hc_11 i_11 (by decide) kw_1200 rfl rfl (by decide) rfl dX11_editAt_26 hs_1ne ?_
        refine wa_iload X 4 rfl dX11_editAt_29 ?_
        refine wa_iald X hk_56 dX11_editAt_31 hs_1ne o12 ?_
        refine wa_iload_n X 2 rfl dX11_editAt_32 rfl ?_
        refine wa_icmp_gt X (tgt := 51) dX11_editAt_33 (by decide) (fun c16 => ?_) (fun c16 => ?_)
        · replace hv := hv.1 c16
          refine wa_iload_n X 3 rfl dX11_editAt_51 rfl ?_
          refine wa_istore_n X (lv' := [(3, .inl x1), (0, .inr (.inr (11, 1))), (1, .inl a1), (2, .inl a2), (4, .inl x2)]) dX11_editAt_52 rfl (by decide) rfl ?_
          refine wa_iinc X (v := (x2 + 1)) (lv' := [(4, .inl (x2 + 1)), (3, .inl x1), (0, .inr (.inr (11, 1))), (1, .inl a1), (2, .inl a2)]) 4 rfl dX11_editAt_53 rfl (by decide) rfl ?_
          refine wa_goto X (tgt := 5) dX11_editAt_56 (by decide) ?_
          obtain ⟨q17, p18, hv⟩ := hv
          refine wa_lv (lv' := [(0, .inr (.inr (11, 1))), (1, .inl a1), (2, .inl a2), (3, .inl x1), (4, .inl (x2 + 1))]) [2, 3, 4, 1, 0] rfl ?_
          exact h9 q17 p18 _ _ hv
        · replace hv := hv.2 c16
          refine wa_aload_n X 0 rfl dX11_editAt_36 rfl ?_
          refine wa_getfw X hw (j := 18) (r := 1) hk_11 hc_11 i_11 (by decide) kw_1202 rfl rfl (by decide) rfl dX11_editAt_37 hs_1ne ?_
          refine wa_iload X 4 rfl dX11_editAt_40 ?_
          refine wa_bald X hk_58 dX11_editAt_42 hs_1ne o12 ?_
          refine wa_if_ne X (tgt := 51) dX11_editAt_43 (by decide) (fun c19 => ?_) (fun c19 => ?_)
          · replace hv := hv.1 c19
            refine wa_iload_n X 3 rfl dX11_editAt_51 rfl ?_
            refine wa_istore_n X (lv' := [(3, .inl x1), (0, .inr (.inr (11, 1))), (1, .inl a1), (2, .inl a2), (4, .inl x2)]) dX11_editAt_52 rfl (by decide) rfl ?_
            refine wa_iinc X (v := (x2 + 1)) (lv' := [(4, .inl (x2 + 1)), (3, .inl x1), (0, .inr (.inr (11, 1))), (1, .inl a1), (2, .inl a2)]) 4 rfl dX11_editAt_53 rfl (by decide) rfl ?_
            refine wa_goto X (tgt := 5) dX11_editAt_56 (by decide) ?_
            obtain ⟨q20, p21, hv⟩ := hv
            refine wa_lv (lv' := [(0, .inr (.inr (11, 1))), (1, .inl a1), (2, .inl a2), (3, .inl x1), (4, .inl (x2 + 1))]) [2, 3, 4, 1, 0] rfl ?_
            exact h9 q20 p21 _ _ hv
          · replace hv := hv.2 c19
            refine wa_iload X 4 rfl dX11_editAt_46 ?_
            refine wa_goto X (tgt := 52) dX11_editAt_48 (by decide) ?_
            refine wa_istore_n X (lv' := [(3, .inl x2), (0, .inr (.inr (11, 1))), (1, .inl a1), (2, .inl a2), (4, .inl x2)]) dX11_editAt_52 rfl (by decide) rfl ?_
            refine wa_iinc X (v := (x2 + 1)) (lv' := [(4, .inl (x2 + 1)), (3, .inl x2), (0, .inr (.inr (11, 1))), (1, .inl a1), (2, .inl a2)]) 4 rfl dX11_editAt_53 rfl (by decide) rfl ?_
            refine wa_goto X (tgt := 5) dX11_editAt_56 (by decide) ?_
            obtain ⟨q22, p23, hv⟩ := hv
            refine wa_lv (lv' := [(0, .inr (.inr (11, 1))), (1, .inl a1), (2, .inl a2), (3, .inl x2), (4, .inl (x2 + 1))]) [2, 3, 4, 1, 0] rfl ?_
            exact h9 q22 p23 _ _ hv
theorem v_M_editAt {a1 a2 : Int32} {S : hs_S} (hP : P_editAt a1 a2 S) : vc_M_editAt a1 a2 S (fun r S' => r = F_editAt a1 a2 S ∧ S' = S) := by
  obtain ⟨g, hg, eg⟩ := hP
  unfold vc_M_editAt F_editAt
  rw [eg, hl_cl (by omega)]
  refine ⟨fun N x1 x2 => ∃ k, k ≤ g ∧ x2 = nI k ∧ x1 = mEd S a1 a2 k ∧ N = g - k, ⟨g, 0, Nat.zero_le _, rfl, rfl, rfl⟩, ?_⟩
  rintro N x1 x2 ⟨k, hk, rfl, rfl, rfl⟩
  refine ⟨fun h => ?_, fun h => ?_⟩
  · have := hl_end (by omega) hk h
    subst this
    exact ⟨rfl, rfl⟩
  · have hk1 := hl_go (by omega) hk h
    rw [hl_cl (by omega)]
    refine ⟨hl_ix (by omega) (by omega), fun h1 => hl_nx hk1 ?_, fun h1 => ⟨fun h2 => hl_nx hk1 ?_, fun h2 => ⟨fun h3 => hl_nx hk1 ?_, fun h3 => hl_nx hk1 ?_⟩⟩⟩
    · exact (if_neg fun q => h1 q.1).symm
    · exact (if_neg fun q => q.2.1 h2).symm
    · exact (if_neg fun q => h3 q.2.2).symm
    · exact (if_pos ⟨h1, h2, h3⟩).symm
theorem f_M_editAt {a1 : Int32} {a2 : Int32} {S : hs_S} (hw : hs_Wi S) (hP : P_editAt a1 a2 S) : hs_M 1 yX11_editAt (.code yX11_editAt cX11_editAt 5 (some FieldType.int)) [.inr (.inr (11, 1)), .inl a1, .inl a2] S 0 0 (hs_pd (some (.inl (F_editAt a1 a2 S))) S) hs_nX := hs_pdI (ok_M_editAt hw (v_M_editAt hP))

def F_isEmptyAt (a1 a2 : Int32) (S : hs_S) : Int32 := bI (F_editAt a1 a2 S = -1 ∨ S.1 57 1 (F_editAt a1 a2 S).toNatClampNeg = 0)
def P_isEmptyAt (a1 a2 : Int32) (S : hs_S) : Prop := cN (S.1 11 1 12) 60
def m_M_isEmptyAt (a1 : Int32) (a2 : Int32) (S : hs_S) (Q : Int32 → hs_S → Prop) : Prop := hs_M 2 yX11_isEmptyAt (.code yX11_isEmptyAt cX11_isEmptyAt 4 (some FieldType.boolean)) [.inr (.inr (11, 1)), .inl a1, .inl a2] S 0 0 (hs_qI Q) hs_nX
def vc_M_isEmptyAt (a1 : Int32) (a2 : Int32) (S : hs_S) (Q : Int32 → hs_S → Prop) : Prop := ((P_editAt a1 a2 S) ∧ (((F_editAt a1 a2 S) = (-1 : Int32) → (Q (1 : Int32) S)) ∧ (¬ (F_editAt a1 a2 S) = (-1 : Int32) → ((0 ≤ (F_editAt a1 a2 S).toInt ∧ (F_editAt a1 a2 S).toInt < 60) ∧ ((¬ (S.1 57 1 (F_editAt a1 a2 S).toNatClampNeg) = 0 → (Q (0 : Int32) S)) ∧ ((S.1 57 1 (F_editAt a1 a2 S).toNatClampNeg) = 0 → (Q (1 : Int32) S)))))))
set_option maxRecDepth 100000 in
set_option maxHeartbeats 4000000 in
theorem ok_M_isEmptyAt {a1 : Int32} {a2 : Int32} {S : hs_S} {Q : Int32 → hs_S → Prop} (hw : hs_Wi S) (hv : vc_M_isEmptyAt a1 a2 S Q) : m_M_isEmptyAt a1 a2 S Q := by
  unfold vc_M_isEmptyAt at hv
  refine hs_body (own := RX11) rfl rfl (Nat.le_of_ble_eq_true rfl) (fun Z X E N J0 => ?_)
  show wa Z 0 0 S 0 [(0, .inr (.inr (11, 1))), (1, .inl a1), (2, .inl a2)] []
  refine wa_aload_n X 0 rfl dX11_isEmptyAt_0 rfl ?_
  refine wa_iload_n X 1 rfl dX11_isEmptyAt_1 rfl ?_
  refine wa_iload_n X 2 rfl dX11_isEmptyAt_2 rfl ?_
  obtain ⟨o1, hv⟩ := hv
  refine wa_callV X (As := [.inl a1, .inl a2]) (f_M_editAt hw o1) hk_11 hc_11 rfl kw_1471 kw_66 kw_1468 kw_1470 kw_31 nd_X11_editAt rfl rfl (Nat.le_of_ble_eq_true rfl) dX11_isEmptyAt_3 hs_1ne ⟨⟨Nat.le_of_ble_eq_true rfl, Nat.le_of_ble_eq_true rfl⟩, Nat.le_of_ble_eq_true rfl, Nat.le_of_ble_eq_true rfl⟩ (hs_pdk0 ?_) (fun _ _ h => h.elim)
  refine wa_istore_n X (lv' := [(3, .inl (F_editAt a1 a2 S)), (0, .inr (.inr (11, 1))), (1, .inl a1), (2, .inl a2)]) dX11_isEmptyAt_6 rfl (by decide) rfl ?_
  refine wa_iload_n X 0 rfl dX11_isEmptyAt_7 rfl ?_
  refine wa_iconst X dX11_isEmptyAt_8 kcm1 ?_
  refine wa_icmp_eq X (tgt := 21) dX11_isEmptyAt_9 (by decide) (fun c2 => ?_) (fun c2 => ?_)
  · replace hv := hv.1 c2
    refine wa_iconst X dX11_isEmptyAt_21 kc1 ?_
    refine wa_goto X (tgt := 26) dX11_isEmptyAt_22 (by decide) ?_
    exact wa_ireturn X E dX11_isEmptyAt_26 (Nat.le_of_ble_eq_true rfl) (Nat.le_of_ble_eq_true rfl) (Or.inr ⟨rfl, Or.inr rfl⟩) ⟨hw, _, rfl, hv⟩
  · replace hv := hv.2 c2
    refine wa_aload_n X 1 rfl dX11_isEmptyAt_12 rfl ?_
    refine wa_getfw X hw (j := 17) (r := 1) hk_11 hc_11 i_11 (by decide) kw_1201 rfl rfl (by decide) rfl dX11_isEmptyAt_13 hs_1ne ?_
    refine wa_iload_n X 0 rfl dX11_isEmptyAt_16 rfl ?_
    obtain ⟨o3, hv⟩ := hv
    refine wa_iald X hk_57 dX11_isEmptyAt_17 hs_1ne o3 ?_
    refine wa_if_ne X (tgt := 25) dX11_isEmptyAt_18 (by decide) (fun c4 => ?_) (fun c4 => ?_)
    · replace hv := hv.1 c4
      refine wa_iconst X dX11_isEmptyAt_25 kc0 ?_
      exact wa_ireturn X E dX11_isEmptyAt_26 (Nat.le_of_ble_eq_true rfl) (Nat.le_of_ble_eq_true rfl) (Or.inr ⟨rfl, Or.inl rfl⟩) ⟨hw, _, rfl, hv⟩
    · replace hv := hv.2 c4
      refine wa_iconst X dX11_isEmptyAt_21 kc1 ?_
      refine wa_goto X (tgt := 26) dX11_isEmptyAt_22 (by decide) ?_
      exact wa_ireturn X E dX11_isEmptyAt_26 (Nat.le_of_ble_eq_true rfl) (Nat.le_of_ble_eq_true rfl) (Or.inr ⟨rfl, Or.inr rfl⟩) ⟨hw, _, rfl, hv⟩
theorem v_M_isEmptyAt {a1 a2 : Int32} {S : hs_S} (hP : P_isEmptyAt a1 a2 S) : vc_M_isEmptyAt a1 a2 S (fun r S' => r = F_isEmptyAt a1 a2 S ∧ S' = S) := by
  unfold vc_M_isEmptyAt F_isEmptyAt
  refine ⟨hP, fun h => ⟨(bI_t (Or.inl h)).symm, rfl⟩, fun h => ⟨?_, fun h2 => ⟨(bI_f fun q => q.elim h h2).symm, rfl⟩, fun h2 => ⟨(bI_t (Or.inr h2)).symm, rfl⟩⟩⟩
  obtain ⟨g, hg, eg⟩ := hP
  unfold F_editAt at h ⊢
  rw [eg, hl_cl (by omega)] at h ⊢
  rcases mEd_in (S := S) (c := a1) (e := a2) g with h1 | ⟨j, h1, h2⟩
  · exact absurd h1 h
  · rw [h2]
    exact hl_ix (by omega) (by omega)
theorem f_M_isEmptyAt {a1 : Int32} {a2 : Int32} {S : hs_S} (hw : hs_Wi S) (hP : P_isEmptyAt a1 a2 S) : hs_M 2 yX11_isEmptyAt (.code yX11_isEmptyAt cX11_isEmptyAt 4 (some FieldType.boolean)) [.inr (.inr (11, 1)), .inl a1, .inl a2] S 0 0 (hs_pd (some (.inl (F_isEmptyAt a1 a2 S))) S) hs_nX := hs_pdI (ok_M_isEmptyAt hw (v_M_isEmptyAt hP))

def mFin (S : hs_S) (c : Int32) : Nat → Int32
  | 0 => 0
  | k + 1 => if mFin S c k = 0 then bI (S.1 89 1 k = c) else 1
def F_isFinding (a1 : Int32) (S : hs_S) : Int32 := mFin S a1 (S.1 11 1 53).toNatClampNeg
def P_isFinding (a1 : Int32) (S : hs_S) : Prop := cN (S.1 11 1 53) 25
theorem mFin_01 {S : hs_S} {c : Int32} (k : Nat) : mFin S c k = 0 ∨ mFin S c k = 1 := by
  cases k with
  | zero => exact Or.inl rfl
  | succ k =>
    unfold mFin
    by_cases h : mFin S c k = 0
    · rw [if_pos h]; exact bI_01 _
    · rw [if_neg h]; exact Or.inr rfl
def m_M_isFinding (a1 : Int32) (S : hs_S) (Q : Int32 → hs_S → Prop) : Prop := hs_M 1 yX11_isFinding (.code yX11_isFinding cX11_isFinding 4 (some FieldType.boolean)) [.inr (.inr (11, 1)), .inl a1] S 0 0 (hs_qI Q) hs_nX
def vc_M_isFinding (a1 : Int32) (S : hs_S) (Q : Int32 → hs_S → Prop) : Prop := (∃ I3 : Nat → Int32 → Int32 → Prop, (∃ n7, I3 n7 (0 : Int32) (0 : Int32)) ∧ (∀ N4 : Nat, ∀ x1 : Int32, ∀ x2 : Int32, I3 N4 x1 x2 → (((S.1 11 1 53) ≤ x2 → ((x1 = 0 ∨ x1 = 1) ∧ (Q x1 S))) ∧ (¬ (S.1 11 1 53) ≤ x2 → ((¬ x1 = 0 → (∃ q14, q14 < N4 ∧ I3 q14 (1 : Int32) (x2 + 1))) ∧ (x1 = 0 → ((0 ≤ x2.toInt ∧ x2.toInt < 25) ∧ ((¬ (S.1 89 1 x2.toNatClampNeg) = a1 → (∃ q18, q18 < N4 ∧ I3 q18 (0 : Int32) (x2 + 1))) ∧ ((S.1 89 1 x2.toNatClampNeg) = a1 → (∃ q20, q20 < N4 ∧ I3 q20 (1 : Int32) (x2 + 1)))))))))))
set_option maxRecDepth 100000 in
set_option maxHeartbeats 4000000 in
theorem ok_M_isFinding {a1 : Int32} {S : hs_S} {Q : Int32 → hs_S → Prop} (hw : hs_Wi S) (hv : vc_M_isFinding a1 S Q) : m_M_isFinding a1 S Q := by
  unfold vc_M_isFinding at hv
  refine hs_body (own := RX11) rfl rfl (Nat.le_of_ble_eq_true rfl) (fun Z X E N J0 => ?_)
  show wa Z 0 0 S 0 [(0, .inr (.inr (11, 1))), (1, .inl a1)] []
  refine wa_iconst X dX11_isFinding_0 kc0 ?_
  refine wa_istore_n X (lv' := [(2, .inl (0 : Int32)), (0, .inr (.inr (11, 1))), (1, .inl a1)]) dX11_isFinding_1 rfl (by decide) rfl ?_
  refine wa_iconst X dX11_isFinding_2 kc0 ?_
  refine wa_istore_n X (lv' := [(3, .inl (0 : Int32)), (2, .inl (0 : Int32)), (0, .inr (.inr (11, 1))), (1, .inl a1)]) dX11_isFinding_3 rfl (by decide) rfl ?_
  obtain ⟨I3, ⟨n7, i5⟩, b6⟩ := hv
  refine wa_lv (lv' := [(0, .inr (.inr (11, 1))), (1, .inl a1), (2, .inl (0 : Int32)), (3, .inl (0 : Int32))]) [2, 3, 1, 0] rfl ?_
  suffices L8 : ∀ N4 : Nat, ∀ x1 : Int32, ∀ x2 : Int32, I3 N4 x1 x2 → wa Z 0 0 S 4 [(0, .inr (.inr (11, 1))), (1, .inl a1), (2, .inl x1), (3, .inl x2)] [] from L8 _ _ _ i5
  clear i5
  intro N4
  induction N4 using Nat.strongRecOn with
  | _ N4 h9 =>
    intro x1 x2 j10
    have hv := b6 N4 x1 x2 j10
    refine wa_iload_n X 3 rfl dX11_isFinding_4 rfl ?_
    refine wa_aload_n X 0 rfl dX11_isFinding_5 rfl ?_
    refine wa_getI X (j := 53) hk_11 hc_11 i_11 (by decide) kw_1237 rfl dX11_isFinding_6 hs_1ne ?_
    refine wa_icmp_ge X (tgt := 38) dX11_isFinding_9 (by decide) (fun c11 => ?_) (fun c11 => ?_)
    · replace hv := hv.1 c11
      refine wa_iload_n X 2 rfl dX11_isFinding_38 rfl ?_
      obtain ⟨o12, hv⟩ := hv
      exact wa_ireturn X E dX11_isFinding_39 (Nat.le_of_ble_eq_true rfl) (Nat.le_of_ble_eq_true rfl) (Or.inr ⟨rfl, o12⟩) ⟨hw, _, rfl, hv⟩
    · replace hv := hv.2 c11
      refine wa_iload_n X 2 rfl dX11_isFinding_12 rfl ?_
      refine wa_if_ne X (tgt := 26) dX11_isFinding_13 (by decide) (fun c13 => ?_) (fun c13 => ?_)
      · replace hv := hv.1 c13
        refine wa_iconst X dX11_isFinding_26 kc1 ?_
        refine wa_goto X (tgt := 31) dX11_isFinding_27 (by decide) ?_
        refine wa_istore_n X (lv' := [(2, .inl (1 : Int32)), (0, .inr (.inr (11, 1))), (1, .inl a1), (3, .inl x2)]) dX11_isFinding_31 rfl (by decide) rfl ?_
        refine wa_iinc X (v := (x2 + 1)) (lv' := [(3, .inl (x2 + 1)), (2, .inl (1 : Int32)), (0, .inr (.inr (11, 1))), (1, .inl a1)]) 3 rfl dX11_isFinding_32 rfl (by decide) rfl ?_
        refine wa_goto X (tgt := 4) dX11_isFinding_35 (by decide) ?_
        obtain ⟨q14, p15, hv⟩ := hv
        refine wa_lv (lv' := [(0, .inr (.inr (11, 1))), (1, .inl a1), (2, .inl (1 : Int32)), (3, .inl (x2 + 1))]) [2, 3, 1, 0] rfl ?_
        exact h9 q14 p15 _ _ hv
      · replace hv := hv.2 c13
        refine wa_aload_n X 0 rfl dX11_isFinding_16 rfl ?_
        refine wa_getfw X hw (j := 49) (r := 1) hk_11 hc_11 i_11 (by decide) kw_1233 rfl rfl (by decide) rfl dX11_isFinding_17 hs_1ne ?_
        refine wa_iload_n X 3 rfl dX11_isFinding_20 rfl ?_
        obtain ⟨o16, hv⟩ := hv
        refine wa_iald X hk_89 dX11_isFinding_21 hs_1ne o16 ?_
        refine wa_iload_n X 1 rfl dX11_isFinding_22 rfl ?_
        refine wa_icmp_ne X (tgt := 30) dX11_isFinding_23 (by decide) (fun c17 => ?_) (fun c17 => ?_)
        · replace hv := hv.1 c17
          refine wa_iconst X dX11_isFinding_30 kc0 ?_
          refine wa_istore_n X (lv' := [(2, .inl (0 : Int32)), (0, .inr (.inr (11, 1))), (1, .inl a1), (3, .inl x2)]) dX11_isFinding_31 rfl (by decide) rfl ?_
          refine wa_iinc X (v := (x2 + 1)) (lv' := [(3, .inl (x2 + 1)), (2, .inl (0 : Int32)), (0, .inr (.inr (11, 1))), (1, .inl a1)]) 3 rfl dX11_isFinding_32 rfl (by decide) rfl ?_
          refine wa_goto X (tgt := 4) dX11_isFinding_35 (by decide) ?_
          obtain ⟨q18, p19, hv⟩ := hv
          refine wa_lv (lv' := [(0, .inr (.inr (11, 1))), (1, .inl a1), (2, .inl (0 : Int32)), (3, .inl (x2 + 1))]) [2, 3, 1, 0] rfl ?_
          exact h9 q18 p19 _ _ hv
        · replace hv := hv.2 c17
          refine wa_iconst X dX11_isFinding_26 kc1 ?_
          refine wa_goto X (tgt := 31) dX11_isFinding_27 (by decide) ?_
          refine wa_istore_n X (lv' := [(2, .inl (1 : Int32)), (0, .inr (.inr (11, 1))), (1, .inl a1), (3, .inl x2)]) dX11_isFinding_31 rfl (by decide) rfl ?_
          refine wa_iinc X (v := (x2 + 1)) (lv' := [(3, .inl (x2 + 1)), (2, .inl (1 : Int32)), (0, .inr (.inr (11, 1))), (1, .inl a1)]) 3 rfl dX11_isFinding_32 rfl (by decide) rfl ?_
          refine wa_goto X (tgt := 4) dX11_isFinding_35 (by decide) ?_
          obtain ⟨q20, p21, hv⟩ := hv
          refine wa_lv (lv' := [(0, .inr (.inr (11, 1))), (1, .inl a1), (2, .inl (1 : Int32)), (3, .inl (x2 + 1))]) [2, 3, 1, 0] rfl ?_
          exact h9 q20 p21 _ _ hv
theorem v_M_isFinding {a1 : Int32} {S : hs_S} (hP : P_isFinding a1 S) : vc_M_isFinding a1 S (fun r S' => r = F_isFinding a1 S ∧ S' = S) := by
  obtain ⟨g, hg, eg⟩ := hP
  unfold vc_M_isFinding F_isFinding
  rw [eg, hl_cl (by omega)]
  refine ⟨fun N x1 x2 => ∃ k, k ≤ g ∧ x2 = nI k ∧ x1 = mFin S a1 k ∧ N = g - k, ⟨g, 0, Nat.zero_le _, rfl, rfl, rfl⟩, ?_⟩
  rintro N x1 x2 ⟨k, hk, rfl, rfl, rfl⟩
  refine ⟨fun h => ?_, fun h => ?_⟩
  · have := hl_end (by omega) hk h
    subst this
    exact ⟨mFin_01 k, rfl, rfl⟩
  · have hk1 := hl_go (by omega) hk h
    rw [hl_cl (by omega)]
    refine ⟨fun h1 => hl_nx hk1 ?_, fun h1 => ⟨hl_ix (by omega) (by omega), fun h2 => hl_nx hk1 ?_, fun h2 => hl_nx hk1 ?_⟩⟩
    · exact (if_neg h1).symm
    · exact ((if_pos h1).trans (bI_f h2)).symm
    · exact ((if_pos h1).trans (bI_t h2)).symm
theorem f_M_isFinding {a1 : Int32} {S : hs_S} (hw : hs_Wi S) (hP : P_isFinding a1 S) : hs_M 1 yX11_isFinding (.code yX11_isFinding cX11_isFinding 4 (some FieldType.boolean)) [.inr (.inr (11, 1)), .inl a1] S 0 0 (hs_pd (some (.inl (F_isFinding a1 S))) S) hs_nX := hs_pdI (ok_M_isFinding hw (v_M_isFinding hP))

def mLast (S : hs_S) (c e : Int32) : Nat → Int32
  | 0 => 0
  | k + 1 => if S.1 77 1 k = c ∧ ¬ e ≤ S.1 79 1 k ∧ ¬ S.1 81 1 k = -1 then S.1 81 1 k else mLast S c e k
def F_lastAt (a1 a2 : Int32) (S : hs_S) : Int32 := mLast S a1 a2 (S.1 11 1 36).toNatClampNeg
def P_lastAt (a1 a2 : Int32) (S : hs_S) : Prop := cN (S.1 11 1 36) 30
def m_M_lastAt (a1 : Int32) (a2 : Int32) (S : hs_S) (Q : Int32 → hs_S → Prop) : Prop := hs_M 1 yX11_lastAt (.code yX11_lastAt cX11_lastAt 5 (some FieldType.int)) [.inr (.inr (11, 1)), .inl a1, .inl a2] S 0 0 (hs_qI Q) hs_nX
def vc_M_lastAt (a1 : Int32) (a2 : Int32) (S : hs_S) (Q : Int32 → hs_S → Prop) : Prop := (∃ I3 : Nat → Int32 → Int32 → Prop, (∃ n7, I3 n7 (0 : Int32) (0 : Int32)) ∧ (∀ N4 : Nat, ∀ x1 : Int32, ∀ x2 : Int32, I3 N4 x1 x2 → (((S.1 11 1 36) ≤ x2 → (Q x1 S)) ∧ (¬ (S.1 11 1 36) ≤ x2 → ((0 ≤ x2.toInt ∧ x2.toInt < 30) ∧ ((¬ (S.1 77 1 x2.toNatClampNeg) = a1 → (∃ q14, q14 < N4 ∧ I3 q14 x1 (x2 + 1))) ∧ ((S.1 77 1 x2.toNatClampNeg) = a1 → ((a2 ≤ (S.1 79 1 x2.toNatClampNeg) → (∃ q17, q17 < N4 ∧ I3 q17 x1 (x2 + 1))) ∧ (¬ a2 ≤ (S.1 79 1 x2.toNatClampNeg) → (((S.1 81 1 x2.toNatClampNeg) = (-1 : Int32) → (∃ q20, q20 < N4 ∧ I3 q20 x1 (x2 + 1))) ∧ (¬ (S.1 81 1 x2.toNatClampNeg) = (-1 : Int32) → (∃ q22, q22 < N4 ∧ I3 q22 (S.1 81 1 x2.toNatClampNeg) (x2 + 1)))))))))))))
set_option maxRecDepth 100000 in
set_option maxHeartbeats 4000000 in
theorem ok_M_lastAt {a1 : Int32} {a2 : Int32} {S : hs_S} {Q : Int32 → hs_S → Prop} (hw : hs_Wi S) (hv : vc_M_lastAt a1 a2 S Q) : m_M_lastAt a1 a2 S Q := by
  unfold vc_M_lastAt at hv
  refine hs_body (own := RX11) rfl rfl (Nat.le_of_ble_eq_true rfl) (fun Z X E N J0 => ?_)
  show wa Z 0 0 S 0 [(0, .inr (.inr (11, 1))), (1, .inl a1), (2, .inl a2)] []
  refine wa_iconst X dX11_lastAt_0 kc0 ?_
  refine wa_istore_n X (lv' := [(3, .inl (0 : Int32)), (0, .inr (.inr (11, 1))), (1, .inl a1), (2, .inl a2)]) dX11_lastAt_1 rfl (by decide) rfl ?_
  refine wa_iconst X dX11_lastAt_2 kc0 ?_
  refine wa_istore X (lv' := [(4, .inl (0 : Int32)), (3, .inl (0 : Int32)), (0, .inr (.inr (11, 1))), (1, .inl a1), (2, .inl a2)]) dX11_lastAt_3 (by decide) rfl ?_
  obtain ⟨I3, ⟨n7, i5⟩, b6⟩ := hv
  refine wa_lv (lv' := [(0, .inr (.inr (11, 1))), (1, .inl a1), (2, .inl a2), (3, .inl (0 : Int32)), (4, .inl (0 : Int32))]) [2, 3, 4, 1, 0] rfl ?_
  suffices L8 : ∀ N4 : Nat, ∀ x1 : Int32, ∀ x2 : Int32, I3 N4 x1 x2 → wa Z 0 0 S 5 [(0, .inr (.inr (11, 1))), (1, .inl a1), (2, .inl a2), (3, .inl x1), (4, .inl x2)] [] from L8 _ _ _ i5
  clear i5
  intro N4
  induction N4 using Nat.strongRecOn with
  | _ N4 h9 =>
    intro x1 x2 j10
    have hv := b6 N4 x1 x2 j10
    refine wa_iload X 4 rfl dX11_lastAt_5 ?_
    refine wa_aload_n X 0 rfl dX11_lastAt_7 rfl ?_
    refine wa_getI X (j := 36) hk_11 hc_11 i_11 (by decide) kw_1220 rfl dX11_lastAt_8 hs_1ne ?_
    refine wa_icmp_ge X (tgt := 65) dX11_lastAt_11 (by decide) (fun c11 => ?_) (fun c11 => ?_)
    · replace hv := hv.1 c11
      refine wa_iload_n X 3 rfl dX11_lastAt_65 rfl ?_
      exact wa_ireturn X E dX11_lastAt_66 (Nat.le_of_ble_eq_true rfl) (Nat.le_of_ble_eq_true rfl) (Or.inl rfl) ⟨hw, _, rfl, hv⟩
    · replace hv := hv.2 c11
      refine wa_aload_n X 0 rfl dX11_lastAt_14 rfl ?_
      refine wa_getfw X hw (j := 37) (r := 1) hk_11 hc_11 i_11 (by decide) kw_1221 rfl rfl (by decide) rfl dX11_lastAt_15 hs_1ne ?_
      refine wa_iload X 4 rfl dX11_lastAt_18 ?_
      obtain ⟨o12, hv⟩ := hv
      refine wa_iald X hk_77 dX11_lastAt_20 hs_1ne o12 ?_
      refine wa_iload_n X 1 rfl dX11_lastAt_21 rfl ?_
      refine wa_icmp_ne X (tgt := 57) dX11_lastAt_22 (by decide) (fun c13 => ?_) (fun c13 => ?_)
      · replace hv := hv.1 c13
        refine wa_iload_n X 3 rfl dX11_lastAt_57 rfl ?_
        refine wa_istore_n X (lv' := [(3, .inl x1), (0, .inr (.inr (11, 1))), (1, .inl a1), (2, .inl a2), (4, .inl x2)]) dX11_lastAt_58 rfl (by decide) rfl ?_
        refine wa_iinc X (v := (x2 + 1)) (lv' := [(4, .inl (x2 + 1)), (3, .inl x1), (0, .inr (.inr (11, 1))), (1, .inl a1), (2, .inl a2)]) 4 rfl dX11_lastAt_59 rfl (by decide) rfl ?_
        refine wa_goto X (tgt := 5) dX11_lastAt_62 (by decide) ?_
        obtain ⟨q14, p15, hv⟩ := hv
        refine wa_lv (lv' := [(0, .inr (.inr (11, 1))), (1, .inl a1), (2, .inl a2), (3, .inl x1), (4, .inl (x2 + 1))]) [2, 3, 4, 1, 0] rfl ?_
        exact h9 q14 p15 _ _ hv
      · replace hv := hv.2 c13
        refine wa_aload_n X 0 rfl dX11_lastAt_25 rfl ?_
        refine wa_getfw X hw (j := 39) (r := 1) hk_11 hc_11 i_11 (by decide) kw_1223 rfl rfl (by decide) rfl dX11_lastAt_26 hs_1ne ?_
        refine wa_iload X 4 rfl dX11_lastAt_29 ?_
        refine wa_iald X hk_79 dX11_lastAt_31 hs_1ne o12 ?_
        refine wa_iload_n X 2 rfl dX11_lastAt_32 rfl ?_
        refine wa_icmp_ge X (tgt := 57) dX11_lastAt_33 (by decide) (fun c16 => ?_) (fun c16 => ?_)
        · replace hv := hv.1 c16
          refine wa_iload_n X 3 rfl dX11_lastAt_57 rfl ?_
          refine wa_istore_n X (lv' := [(3, .inl x1), (0, .inr (.inr (11, 1))), (1, .inl a1), (2, .inl a2), (4, .inl x2)]) dX11_lastAt_58 rfl (by decide) rfl ?_
          refine wa_iinc X (v := (x2 + 1)) (lv' := [(4, .inl (x2 + 1)), (3, .inl x1), (0, .inr (.inr (11, 1))), (1, .inl a1), (2, .inl a2)]) 4 rfl dX11_lastAt_59 rfl (by decide) rfl ?_
          refine wa_goto X (tgt := 5) dX11_lastAt_62 (by decide) ?_
          obtain ⟨q17, p18, hv⟩ := hv
          refine wa_lv (lv' := [(0, .inr (.inr (11, 1))), (1, .inl a1), (2, .inl a2), (3, .inl x1), (4, .inl (x2 + 1))]) [2, 3, 4, 1, 0] rfl ?_
          exact h9 q17 p18 _ _ hv
        · replace hv := hv.2 c16
          refine wa_aload_n X 0 rfl dX11_lastAt_36 rfl ?_
          refine wa_getfw X hw (j := 41) (r := 1) hk_11 hc_11 i_11 (by decide) kw_1225 rfl rfl (by decide) rfl dX11_lastAt_37 hs_1ne ?_
          refine wa_iload X 4 rfl dX11_lastAt_40 ?_
          refine wa_iald X hk_81 dX11_lastAt_42 hs_1ne o12 ?_
          refine wa_iconst X dX11_lastAt_43 kcm1 ?_
          refine wa_icmp_eq X (tgt := 57) dX11_lastAt_44 (by decide) (fun c19 => ?_) (fun c19 => ?_)
          · replace hv := hv.1 c19
            refine wa_iload_n X 3 rfl dX11_lastAt_57 rfl ?_
            refine wa_istore_n X (lv' := [(3, .inl x1), (0, .inr (.inr (11, 1))), (1, .inl a1), (2, .inl a2), (4, .inl x2)]) dX11_lastAt_58 rfl (by decide) rfl ?_
            refine wa_iinc X (v := (x2 + 1)) (lv' := [(4, .inl (x2 + 1)), (3, .inl x1), (0, .inr (.inr (11, 1))), (1, .inl a1), (2, .inl a2)]) 4 rfl dX11_lastAt_59 rfl (by decide) rfl ?_
            refine wa_goto X (tgt := 5) dX11_lastAt_62 (by decide) ?_
            obtain ⟨q20, p21, hv⟩ := hv
            refine wa_lv (lv' := [(0, .inr (.inr (11, 1))), (1, .inl a1), (2, .inl a2), (3, .inl x1), (4, .inl (x2 + 1))]) [2, 3, 4, 1, 0] rfl ?_
            exact h9 q20 p21 _ _ hv
          · replace hv := hv.2 c19
            refine wa_aload_n X 0 rfl dX11_lastAt_47 rfl ?_
            refine wa_getfw X hw (j := 41) (r := 1) hk_11 hc_11 i_11 (by decide) kw_1225 rfl rfl (by decide) rfl dX11_lastAt_48 hs_1ne ?_
            refine wa_iload X 4 rfl dX11_lastAt_51 ?_
            refine wa_iald X hk_81 dX11_lastAt_53 hs_1ne o12 ?_
            refine wa_goto X (tgt := 58) dX11_lastAt_54 (by decide) ?_
            refine wa_istore_n X (lv' := [(3, .inl (S.1 81 1 x2.toNatClampNeg)), (0, .inr (.inr (11, 1))), (1, .inl a1), (2, .inl a2), (4, .inl x2)]) dX11_lastAt_58 rfl (by decide) rfl ?_
            refine wa_iinc X (v := (x2 + 1)) (lv' := [(4, .inl (x2 + 1)), (3, .inl (S.1 81 1 x2.toNatClampNeg)), (0, .inr (.inr (11, 1))), (1, .inl a1), (2, .inl a2)]) 4 rfl dX11_lastAt_59 rfl (by decide) rfl ?_
            refine wa_goto X (tgt := 5) dX11_lastAt_62 (by decide) ?_
            obtain ⟨q22, p23, hv⟩ := hv
            refine wa_lv (lv' := [(0, .inr (.inr (11, 1))), (1, .inl a1), (2, .inl a2), (3, .inl (S.1 81 1 x2.toNatClampNeg)), (4, .inl (x2 + 1))]) [2, 3, 4, 1, 0] rfl ?_
            exact h9 q22 p23 _ _ hv
theorem v_M_lastAt {a1 a2 : Int32} {S : hs_S} (hP : P_lastAt a1 a2 S) : vc_M_lastAt a1 a2 S (fun r S' => r = F_lastAt a1 a2 S ∧ S' = S) := by
  obtain ⟨g, hg, eg⟩ := hP
  unfold vc_M_lastAt F_lastAt
  rw [eg, hl_cl (by omega)]
  refine ⟨fun N x1 x2 => ∃ k, k ≤ g ∧ x2 = nI k ∧ x1 = mLast S a1 a2 k ∧ N = g - k, ⟨g, 0, Nat.zero_le _, rfl, rfl, rfl⟩, ?_⟩
  rintro N x1 x2 ⟨k, hk, rfl, rfl, rfl⟩
  refine ⟨fun h => ?_, fun h => ?_⟩
  · have := hl_end (by omega) hk h
    subst this
    exact ⟨rfl, rfl⟩
  · have hk1 := hl_go (by omega) hk h
    rw [hl_cl (by omega)]
    refine ⟨hl_ix (by omega) (by omega), fun h1 => hl_nx hk1 ?_, fun h1 => ⟨fun h2 => hl_nx hk1 ?_, fun h2 => ⟨fun h3 => hl_nx hk1 ?_, fun h3 => hl_nx hk1 ?_⟩⟩⟩
    · exact (if_neg fun q => h1 q.1).symm
    · exact (if_neg fun q => q.2.1 h2).symm
    · exact (if_neg fun q => q.2.2 h3).symm
    · exact (if_pos ⟨h1, h2, h3⟩).symm
theorem f_M_lastAt {a1 : Int32} {a2 : Int32} {S : hs_S} (hw : hs_Wi S) (hP : P_lastAt a1 a2 S) : hs_M 1 yX11_lastAt (.code yX11_lastAt cX11_lastAt 5 (some FieldType.int)) [.inr (.inr (11, 1)), .inl a1, .inl a2] S 0 0 (hs_pd (some (.inl (F_lastAt a1 a2 S))) S) hs_nX := hs_pdI (ok_M_lastAt hw (v_M_lastAt hP))

abbrev mTh (S : hs_S) (b : Nat) (e : Int32) : Prop := ¬ e ≤ S.1 70 1 b ∧ (S.1 72 1 b = -1 ∨ e ≤ S.1 79 1 (S.1 72 1 b).toNatClampNeg) ∧ (S.1 71 1 b = -1 ∨ e ≤ S.1 71 1 b) ∧ S.1 73 1 b = 0
def F_isThere (a1 a2 : Int32) (S : hs_S) : Int32 := bI (mTh S a1.toNatClampNeg a2)
def P_isThere (a1 a2 : Int32) (S : hs_S) : Prop := (0 ≤ a1.toInt ∧ a1.toInt < 80) ∧ (S.1 72 1 a1.toNatClampNeg = -1 ∨ (0 ≤ (S.1 72 1 a1.toNatClampNeg).toInt ∧ (S.1 72 1 a1.toNatClampNeg).toInt < 30))
def m_M_isThere (a1 : Int32) (a2 : Int32) (S : hs_S) (Q : Int32 → hs_S → Prop) : Prop := hs_M 1 yX11_isThere (.code yX11_isThere cX11_isThere 5 (some FieldType.boolean)) [.inr (.inr (11, 1)), .inl a1, .inl a2] S 0 0 (hs_qI Q) hs_nX
def vc_M_isThere (a1 : Int32) (a2 : Int32) (S : hs_S) (Q : Int32 → hs_S → Prop) : Prop := ((0 ≤ a1.toInt ∧ a1.toInt < 80) ∧ ((((S.1 72 1 a1.toNatClampNeg) = (-1 : Int32) → True) ∧ (¬ (S.1 72 1 a1.toNatClampNeg) = (-1 : Int32) → ((0 ≤ (S.1 72 1 a1.toNatClampNeg).toInt ∧ (S.1 72 1 a1.toNatClampNeg).toInt < 30) ∧ ((a2 ≤ (S.1 79 1 (S.1 72 1 a1.toNatClampNeg).toNatClampNeg) → True) ∧ (¬ a2 ≤ (S.1 79 1 (S.1 72 1 a1.toNatClampNeg).toNatClampNeg) → True))))) ∧ (∀ x2 : Int32, x2 = (if (S.1 72 1 a1.toNatClampNeg) = (-1 : Int32) then (0 : Int32) else (if a2 ≤ (S.1 79 1 (S.1 72 1 a1.toNatClampNeg).toNatClampNeg) then (0 : Int32) else (1 : Int32))) → (∀ x3 : Int32, x3 = (if (S.1 71 1 a1.toNatClampNeg) = (-1 : Int32) then (0 : Int32) else (if a2 ≤ (S.1 71 1 a1.toNatClampNeg) then (0 : Int32) else (1 : Int32))) → ((a2 ≤ (S.1 70 1 a1.toNatClampNeg) → (Q (0 : Int32) S)) ∧ (¬ a2 ≤ (S.1 70 1 a1.toNatClampNeg) → ((¬ x2 = 0 → (Q (0 : Int32) S)) ∧ (x2 = 0 → ((¬ x3 = 0 → (Q (0 : Int32) S)) ∧ (x3 = 0 → ((¬ (S.1 73 1 a1.toNatClampNeg) = 0 → (Q (0 : Int32) S)) ∧ ((S.1 73 1 a1.toNatClampNeg) = 0 → (Q (1 : Int32) S)))))))))))))
set_option maxRecDepth 100000 in
set_option maxHeartbeats 4000000 in
theorem ok_M_isThere {a1 : Int32} {a2 : Int32} {S : hs_S} {Q : Int32 → hs_S → Prop} (hw : hs_Wi S) (hv : vc_M_isThere a1 a2 S Q) : m_M_isThere a1 a2 S Q := by
  unfold vc_M_isThere at hv
  refine hs_body (own := RX11) rfl rfl (Nat.le_of_ble_eq_true rfl) (fun Z X E N J0 => ?_)
  show wa Z 0 0 S 0 [(0, .inr (.inr (11, 1))), (1, .inl a1), (2, .inl a2)] []
  refine wa_aload_n X 0 rfl dX11_isThere_0 rfl ?_
  refine wa_getfw X hw (j := 32) (r := 1) hk_11 hc_11 i_11 (by decide) kw_1216 rfl rfl (by decide) rfl dX11_isThere_1 hs_1ne ?_
  refine wa_iload_n X 1 rfl dX11_isThere_4 rfl ?_
  obtain ⟨o1, hv⟩ := hv
  refine wa_iald X hk_72 dX11_isThere_5 hs_1ne o1 ?_
  refine wa_iconst X dX11_isThere_6 kcm1 ?_
  obtain ⟨o13, hv⟩ := hv
  have k12 : ∀ (x2 : Int32), x2 = (if (S.1 72 1 a1.toNatClampNeg) = (-1 : Int32) then (0 : Int32) else (if a2 ≤ (S.1 79 1 (S.1 72 1 a1.toNatClampNeg).toNatClampNeg) then (0 : Int32) else (1 : Int32))) → wa Z 0 0 S 30 [(0, .inr (.inr (11, 1))), (1, .inl a1), (2, .inl a2)] [.inl x2] := by
    intro x2 hE
    replace hv := hv _ hE
    refine wa_istore_n X (lv' := [(3, .inl x2), (0, .inr (.inr (11, 1))), (1, .inl a1), (2, .inl a2)]) dX11_isThere_30 rfl (by decide) rfl ?_
    refine wa_aload_n X 1 rfl dX11_isThere_31 rfl ?_
    refine wa_getfw X hw (j := 31) (r := 1) hk_11 hc_11 i_11 (by decide) kw_1215 rfl rfl (by decide) rfl dX11_isThere_32 hs_1ne ?_
    refine wa_iload_n X 2 rfl dX11_isThere_35 rfl ?_
    refine wa_iald X hk_71 dX11_isThere_36 hs_1ne o1 ?_
    refine wa_iconst X dX11_isThere_37 kcm1 ?_
    have k8 : ∀ (x3 : Int32), x3 = (if (S.1 71 1 a1.toNatClampNeg) = (-1 : Int32) then (0 : Int32) else (if a2 ≤ (S.1 71 1 a1.toNatClampNeg) then (0 : Int32) else (1 : Int32))) → wa Z 0 0 S 56 [(0, .inr (.inr (11, 1))), (1, .inl a1), (2, .inl a2), (3, .inl x2)] [.inl x3] := by
      intro x3 hE
      replace hv := hv _ hE
      refine wa_istore X (lv' := [(4, .inl x3), (0, .inr (.inr (11, 1))), (1, .inl a1), (2, .inl a2), (3, .inl x2)]) dX11_isThere_56 (by decide) rfl ?_
      refine wa_aload_n X 1 rfl dX11_isThere_58 rfl ?_
      refine wa_getfw X hw (j := 30) (r := 1) hk_11 hc_11 i_11 (by decide) kw_1214 rfl rfl (by decide) rfl dX11_isThere_59 hs_1ne ?_
      refine wa_iload_n X 2 rfl dX11_isThere_62 rfl ?_
      refine wa_iald X hk_70 dX11_isThere_63 hs_1ne o1 ?_
      refine wa_iload_n X 3 rfl dX11_isThere_64 rfl ?_
      refine wa_icmp_ge X (tgt := 90) dX11_isThere_65 (by decide) (fun c4 => ?_) (fun c4 => ?_)
      · replace hv := hv.1 c4
        refine wa_iconst X dX11_isThere_90 kc0 ?_
        exact wa_ireturn X E dX11_isThere_91 (Nat.le_of_ble_eq_true rfl) (Nat.le_of_ble_eq_true rfl) (Or.inr ⟨rfl, Or.inl rfl⟩) ⟨hw, _, rfl, hv⟩
      · replace hv := hv.2 c4
        refine wa_iload_n X 4 rfl dX11_isThere_68 rfl ?_
        refine wa_if_ne X (tgt := 90) dX11_isThere_69 (by decide) (fun c5 => ?_) (fun c5 => ?_)
        · replace hv := hv.1 c5
          refine wa_iconst X dX11_isThere_90 kc0 ?_
          exact wa_ireturn X E dX11_isThere_91 (Nat.le_of_ble_eq_true rfl) (Nat.le_of_ble_eq_true rfl) (Or.inr ⟨rfl, Or.inl rfl⟩) ⟨hw, _, rfl, hv⟩
        · replace hv := hv.2 c5
          refine wa_iload X 0 rfl dX11_isThere_72 ?_
          refine wa_if_ne X (tgt := 90) dX11_isThere_74 (by decide) (fun c6 => ?_) (fun c6 => ?_)
          · replace hv := hv.1 c6
            refine wa_iconst X dX11_isThere_90 kc0 ?_
            exact wa_ireturn X E dX11_isThere_91 (Nat.le_of_ble_eq_true rfl) (Nat.le_of_ble_eq_true rfl) (Or.inr ⟨rfl, Or.inl rfl⟩) ⟨hw, _, rfl, hv⟩
          · replace hv := hv.2 c6
            refine wa_aload_n X 1 rfl dX11_isThere_77 rfl ?_
            refine wa_getfw X hw (j := 33) (r := 1) hk_11 hc_11 i_11 (by decide) kw_1217 rfl rfl (by decide) rfl dX11_isThere_78 hs_1ne ?_
            refine wa_iload_n X 2 rfl dX11_isThere_81 rfl ?_
            refine wa_bald X hk_73 dX11_isThere_82 hs_1ne o1 ?_
            refine wa_if_ne X (tgt := 90) dX11_isThere_83 (by decide) (fun c7 => ?_) (fun c7 => ?_)
            · replace hv := hv.1 c7
              refine wa_iconst X dX11_isThere_90 kc0 ?_
              exact wa_ireturn X E dX11_isThere_91 (Nat.le_of_ble_eq_true rfl) (Nat.le_of_ble_eq_true rfl) (Or.inr ⟨rfl, Or.inl rfl⟩) ⟨hw, _, rfl, hv⟩
            · replace hv := hv.2 c7
              refine wa_iconst X dX11_isThere_86 kc1 ?_
              refine wa_goto X (tgt := 91) dX11_isThere_87 (by decide) ?_
              exact wa_ireturn X E dX11_isThere_91 (Nat.le_of_ble_eq_true rfl) (Nat.le_of_ble_eq_true rfl) (Or.inr ⟨rfl, Or.inr rfl⟩) ⟨hw, _, rfl, hv⟩
    clear hv
    refine wa_icmp_eq X (tgt := 55) dX11_isThere_38 (by decide) (fun c10 => ?_) (fun c10 => ?_)
    · refine wa_iconst X dX11_isThere_55 kc0 ?_
      refine wa_lv (lv' := [(0, .inr (.inr (11, 1))), (1, .inl a1), (2, .inl a2), (3, .inl x2)]) [1, 2, 3, 0] rfl ?_
      exact wa_wid (Nat.le_of_ble_eq_true rfl) (Nat.le_of_ble_eq_true rfl) (k8 _  (by rw [if_pos c10]))
    · refine wa_aload_n X 1 rfl dX11_isThere_41 rfl ?_
      refine wa_getfw X hw (j := 31) (r := 1) hk_11 hc_11 i_11 (by decide) kw_1215 rfl rfl (by decide) rfl dX11_isThere_42 hs_1ne ?_
      refine wa_iload_n X 2 rfl dX11_isThere_45 rfl ?_
      refine wa_iald X hk_71 dX11_isThere_46 hs_1ne o1 ?_
      refine wa_iload_n X 3 rfl dX11_isThere_47 rfl ?_
      refine wa_icmp_ge X (tgt := 55) dX11_isThere_48 (by decide) (fun c11 => ?_) (fun c11 => ?_)
      · refine wa_iconst X dX11_isThere_55 kc0 ?_
        refine wa_lv (lv' := [(0, .inr (.inr (11, 1))), (1, .inl a1), (2, .inl a2), (3, .inl x2)]) [1, 2, 3, 0] rfl ?_
        exact wa_wid (Nat.le_of_ble_eq_true rfl) (Nat.le_of_ble_eq_true rfl) (k8 _  (by rw [if_neg c10, if_pos c11]))
      · refine wa_iconst X dX11_isThere_51 kc1 ?_
        refine wa_goto X (tgt := 56) dX11_isThere_52 (by decide) ?_
        refine wa_lv (lv' := [(0, .inr (.inr (11, 1))), (1, .inl a1), (2, .inl a2), (3, .inl x2)]) [1, 2, 3, 0] rfl ?_
        exact wa_wid (Nat.le_of_ble_eq_true rfl) (Nat.le_of_ble_eq_true rfl) (k8 _  (by rw [if_neg c10, if_neg c11]))
  replace hv := o13
  refine wa_icmp_eq X (tgt := 29) dX11_isThere_7 (by decide) (fun c15 => ?_) (fun c15 => ?_)
  · replace hv := hv.1 c15
    refine wa_iconst X dX11_isThere_29 kc0 ?_
    refine wa_lv (lv' := [(0, .inr (.inr (11, 1))), (1, .inl a1), (2, .inl a2)]) [0, 1, 2] rfl ?_
    exact wa_wid (Nat.le_of_ble_eq_true rfl) (Nat.le_of_ble_eq_true rfl) (k12 _  (by rw [if_pos c15]))
  · replace hv := hv.2 c15
    refine wa_aload_n X 0 rfl dX11_isThere_10 rfl ?_
    refine wa_getfw X hw (j := 39) (r := 1) hk_11 hc_11 i_11 (by decide) kw_1223 rfl rfl (by decide) rfl dX11_isThere_11 hs_1ne ?_
    refine wa_aload_n X 0 rfl dX11_isThere_14 rfl ?_
    refine wa_getfw X hw (j := 32) (r := 1) hk_11 hc_11 i_11 (by decide) kw_1216 rfl rfl (by decide) rfl dX11_isThere_15 hs_1ne ?_
    refine wa_iload_n X 1 rfl dX11_isThere_18 rfl ?_
    refine wa_iald X hk_72 dX11_isThere_19 hs_1ne o1 ?_
    obtain ⟨o16, hv⟩ := hv
    refine wa_iald X hk_79 dX11_isThere_20 hs_1ne o16 ?_
    refine wa_iload_n X 2 rfl dX11_isThere_21 rfl ?_
    refine wa_icmp_ge X (tgt := 29) dX11_isThere_22 (by decide) (fun c17 => ?_) (fun c17 => ?_)
    · replace hv := hv.1 c17
      refine wa_iconst X dX11_isThere_29 kc0 ?_
      refine wa_lv (lv' := [(0, .inr (.inr (11, 1))), (1, .inl a1), (2, .inl a2)]) [0, 1, 2] rfl ?_
      exact wa_wid (Nat.le_of_ble_eq_true rfl) (Nat.le_of_ble_eq_true rfl) (k12 _  (by rw [if_neg c15, if_pos c17]))
    · replace hv := hv.2 c17
      refine wa_iconst X dX11_isThere_25 kc1 ?_
      refine wa_goto X (tgt := 30) dX11_isThere_26 (by decide) ?_
      refine wa_lv (lv' := [(0, .inr (.inr (11, 1))), (1, .inl a1), (2, .inl a2)]) [0, 1, 2] rfl ?_
      exact wa_wid (Nat.le_of_ble_eq_true rfl) (Nat.le_of_ble_eq_true rfl) (k12 _  (by rw [if_neg c15, if_neg c17]))
theorem v_M_isThere {a1 a2 : Int32} {S : hs_S} (hP : P_isThere a1 a2 S) : vc_M_isThere a1 a2 S (fun r S' => r = F_isThere a1 a2 S ∧ S' = S) := by
  obtain ⟨h0, h1⟩ := hP
  unfold vc_M_isThere F_isThere
  generalize a1.toNatClampNeg = b at *
  refine ⟨h0, ⟨fun _ => trivial, fun q => ⟨h1.resolve_left q, fun _ => trivial, fun _ => trivial⟩⟩, fun x hx y hy => ?_⟩
  have ex : x = bI (¬ (S.1 72 1 b = -1 ∨ a2 ≤ S.1 79 1 (S.1 72 1 b).toNatClampNeg)) := by
    rw [hx]; unfold bI
    by_cases h2 : S.1 72 1 b = -1 <;> by_cases h3 : a2 ≤ S.1 79 1 (S.1 72 1 b).toNatClampNeg <;> simp only [h2, h3, if_true, if_false, not_true, not_false_iff, or_true, true_or, or_false]
  have ey : y = bI (¬ (S.1 71 1 b = -1 ∨ a2 ≤ S.1 71 1 b)) := by
    rw [hy]; unfold bI
    by_cases h2 : S.1 71 1 b = -1 <;> by_cases h3 : a2 ≤ S.1 71 1 b <;> simp only [h2, h3, if_true, if_false, not_true, not_false_iff, or_true, true_or, or_false]
  clear hx hy
  subst ex ey
  refine ⟨fun q => ⟨(bI_f fun z => z.1 q).symm, rfl⟩, fun q => ⟨fun q2 => ⟨(bI_f fun z => q2 (bI_f fun w => w z.2.1)).symm, rfl⟩, fun q2 => ⟨fun q3 => ⟨(bI_f fun z => q3 (bI_f fun w => w z.2.2.1)).symm, rfl⟩, fun q3 => ⟨fun q4 => ⟨(bI_f fun z => q4 z.2.2.2).symm, rfl⟩, fun q4 => ⟨(bI_t ⟨q, ?_, ?_, q4⟩).symm, rfl⟩⟩⟩⟩⟩
  · exact Classical.not_not.mp (bI_eq0.mp q2)
  · exact Classical.not_not.mp (bI_eq0.mp q3)
theorem f_M_isThere {a1 : Int32} {a2 : Int32} {S : hs_S} (hw : hs_Wi S) (hP : P_isThere a1 a2 S) : hs_M 1 yX11_isThere (.code yX11_isThere cX11_isThere 5 (some FieldType.boolean)) [.inr (.inr (11, 1)), .inl a1, .inl a2] S 0 0 (hs_pd (some (.inl (F_isThere a1 a2 S))) S) hs_nX := hs_pdI (ok_M_isThere hw (v_M_isThere hP))

/-- greatest limit to buy, least to sell, how much to buy, to sell, how many -/
def mBA (S : hs_S) (c e : Int32) : Nat → Int32 × (Int32 × (Int32 × (Int32 × Int32)))
  | 0 => (0, (0, (0, (0, 0))))
  | k + 1 => if S.1 66 1 k = c ∧ ¬ F_isThere (nI k) e S = 0 then
      (if S.1 67 1 k = 0 then ((mBA S c e k).1, ((if (mBA S c e k).2.2.2.1 = 0 then S.1 69 1 k else (if (mBA S c e k).2.1 ≤ S.1 69 1 k then (mBA S c e k).2.1 else S.1 69 1 k)), ((mBA S c e k).2.2.1, ((mBA S c e k).2.2.2.1 + S.1 68 1 k, (mBA S c e k).2.2.2.2 + 1))))
       else ((if S.1 69 1 k ≤ (mBA S c e k).1 then (mBA S c e k).1 else S.1 69 1 k), ((mBA S c e k).2.1, ((mBA S c e k).2.2.1 + S.1 68 1 k, ((mBA S c e k).2.2.2.1, (mBA S c e k).2.2.2.2 + 1)))))
    else mBA S c e k
def mBS (w : Int32) (r : Int32 × (Int32 × (Int32 × (Int32 × Int32)))) : Int32 := if w = 2 then r.1 else if w = 3 then r.2.1 else if w = 4 then r.2.2.1 else if w = 5 then r.2.2.2.1 else r.2.2.2.2
def F_bidsAt (a1 a2 a3 : Int32) (S : hs_S) : Int32 := mBS a1 (mBA S a2 a3 (S.1 11 1 24).toNatClampNeg)
def P_bidsAt (a1 a2 a3 : Int32) (S : hs_S) : Prop := ∃ g : Nat, g ≤ 80 ∧ S.1 11 1 24 = nI g ∧ ∀ b, b < g → P_isThere (nI b) a3 S
def m_M_bidsAt (a1 : Int32) (a2 : Int32) (a3 : Int32) (S : hs_S) (Q : Int32 → hs_S → Prop) : Prop := hs_M 2 yX11_bidsAt (.code yX11_bidsAt cX11_bidsAt 10 (some FieldType.int)) [.inr (.inr (11, 1)), .inl a1, .inl a2, .inl a3] S 0 0 (hs_qI Q) hs_nX
def vc_M_bidsAt (a1 : Int32) (a2 : Int32) (a3 : Int32) (S : hs_S) (Q : Int32 → hs_S → Prop) : Prop := (∃ I7 : Nat → Int32 → Int32 → Int32 → Int32 → Int32 → Int32 → Prop, (∃ n11, I7 n11 (0 : Int32) (0 : Int32) (0 : Int32) (0 : Int32) (0 : Int32) (0 : Int32)) ∧ (∀ N8 : Nat, ∀ x1 : Int32, ∀ x2 : Int32, ∀ x3 : Int32, ∀ x4 : Int32, ∀ x5 : Int32, ∀ x6 : Int32, I7 N8 x1 x2 x3 x4 x5 x6 → (((S.1 11 1 24) ≤ x6 → ((¬ a1 = (2 : Int32) → ((¬ a1 = (3 : Int32) → ((¬ a1 = (4 : Int32) → ((¬ a1 = (5 : Int32) → (Q x5 S)) ∧ (a1 = (5 : Int32) → (Q x4 S)))) ∧ (a1 = (4 : Int32) → (Q x3 S)))) ∧ (a1 = (3 : Int32) → (Q x2 S)))) ∧ (a1 = (2 : Int32) → (Q x1 S)))) ∧ (¬ (S.1 11 1 24) ≤ x6 → ((0 ≤ x6.toInt ∧ x6.toInt < 80) ∧ ((¬ (S.1 66 1 x6.toNatClampNeg) = a2 → (∃ q22, q22 < N8 ∧ I7 q22 x1 x2 x3 x4 x5 (x6 + 1))) ∧ ((S.1 66 1 x6.toNatClampNeg) = a2 → ((P_isThere x6 a3 S) ∧ (((F_isThere x6 a3 S) = 0 → (∃ q26, q26 < N8 ∧ I7 q26 x1 x2 x3 x4 x5 (x6 + 1))) ∧ (¬ (F_isThere x6 a3 S) = 0 → (((S.1 67 1 x6.toNatClampNeg) = 0 → (∀ x29 : Int32, x29 = (if x4 = 0 then (S.1 69 1 x6.toNatClampNeg) else (if x2 ≤ (S.1 69 1 x6.toNatClampNeg) then x2 else (S.1 69 1 x6.toNatClampNeg))) → (∃ q30, q30 < N8 ∧ I7 q30 x1 x29 x3 (x4 + (S.1 68 1 x6.toNatClampNeg)) (x5 + 1) (x6 + 1)))) ∧ (¬ (S.1 67 1 x6.toNatClampNeg) = 0 → (∀ x36 : Int32, x36 = (if (S.1 69 1 x6.toNatClampNeg) ≤ x1 then x1 else (S.1 69 1 x6.toNatClampNeg)) → (∃ q37, q37 < N8 ∧ I7 q37 x36 x2 (x3 + (S.1 68 1 x6.toNatClampNeg)) x4 (x5 + 1) (x6 + 1)))))))))))))))
set_option maxRecDepth 100000 in
set_option maxHeartbeats 4000000 in
theorem ok_M_bidsAt {a1 : Int32} {a2 : Int32} {a3 : Int32} {S : hs_S} {Q : Int32 → hs_S → Prop} (hw : hs_Wi S) (hv : vc_M_bidsAt a1 a2 a3 S Q) : m_M_bidsAt a1 a2 a3 S Q := by
  unfold vc_M_bidsAt at hv
  refine hs_body (own := RX11) rfl rfl (Nat.le_of_ble_eq_true rfl) (fun Z X E N J0 => ?_)
  show wa Z 0 0 S 0 [(0, .inr (.inr (11, 1))), (1, .inl a1), (2, .inl a2), (3, .inl a3)] []
  refine wa_iconst X dX11_bidsAt_0 kc0 ?_
  refine wa_istore X (lv' := [(4, .inl (0 : Int32)), (0, .inr (.inr (11, 1))), (1, .inl a1), (2, .inl a2), (3, .inl a3)]) dX11_bidsAt_1 (by decide) rfl ?_
  refine wa_iconst X dX11_bidsAt_3 kc0 ?_
  refine wa_istore X (lv' := [(5, .inl (0 : Int32)), (4, .inl (0 : Int32)), (0, .inr (.inr (11, 1))), (1, .inl a1), (2, .inl a2), (3, .inl a3)]) dX11_bidsAt_4 (by decide) rfl ?_
  refine wa_iconst X dX11_bidsAt_6 kc0 ?_
  refine wa_istore X (lv' := [(6, .inl (0 : Int32)), (5, .inl (0 : Int32)), (4, .inl (0 : Int32)), (0, .inr (.inr (11, 1))), (1, .inl a1), (2, .inl a2), (3, .inl a3)]) dX11_bidsAt_7 (by decide) rfl ?_
  refine wa_iconst X dX11_bidsAt_9 kc0 ?_
  refine wa_istore X (lv' := [(7, .inl (0 : Int32)), (6, .inl (0 : Int32)), (5, .inl (0 : Int32)), (4, .inl (0 : Int32)), (0, .inr (.inr (11, 1))), (1, .inl a1), (2, .inl a2), (3, .inl a3)]) dX11_bidsAt_10 (by decide) rfl ?_
  refine wa_iconst X dX11_bidsAt_12 kc0 ?_
  refine wa_istore X (lv' := [(8, .inl (0 : Int32)), (7, .inl (0 : Int32)), (6, .inl (0 : Int32)), (5, .inl (0 : Int32)), (4, .inl (0 : Int32)), (0, .inr (.inr (11, 1))), (1, .inl a1), (2, .inl a2), (3, .inl a3)]) dX11_bidsAt_13 (by decide) rfl ?_
  refine wa_iconst X dX11_bidsAt_15 kc0 ?_
  refine wa_istore X (lv' := [(9, .inl (0 : Int32)), (8, .inl (0 : Int32)), (7, .inl (0 : Int32)), (6, .inl (0 : Int32)), (5, .inl (0 : Int32)), (4, .inl (0 : Int32)), (0, .inr (.inr (11, 1))), (1, .inl a1), (2, .inl a2), (3, .inl a3)]) dX11_bidsAt_16 (by decide) rfl ?_
  obtain ⟨I7, ⟨n11, i9⟩, b10⟩ := hv
  refine wa_lv (lv' := [(0, .inr (.inr (11, 1))), (1, .inl a1), (2, .inl a2), (3, .inl a3), (4, .inl (0 : Int32)), (5, .inl (0 : Int32)), (6, .inl (0 : Int32)), (7, .inl (0 : Int32)), (8, .inl (0 : Int32)), (9, .inl (0 : Int32))]) [6, 7, 8, 9, 5, 4, 3, 2, 1, 0] rfl ?_
  suffices L12 : ∀ N8 : Nat, ∀ x1 : Int32, ∀ x2 : Int32, ∀ x3 : Int32, ∀ x4 : Int32, ∀ x5 : Int32, ∀ x6 : Int32, I7 N8 x1 x2 x3 x4 x5 x6 → wa Z 0 0 S 18 [(0, .inr (.inr (11, 1))), (1, .inl a1), (2, .inl a2), (3, .inl a3), (4, .inl x1), (5, .inl x2), (6, .inl x3), (7, .inl x4), (8, .inl x5), (9, .inl x6)] [] from L12 _ _ _ _ _ _ _ i9
  clear i9
  intro N8
  induction N8 using Nat.strongRecOn with
  | _ N8 h13 =>
    intro x1 x2 x3 x4 x5 x6 j14
    have hv := b10 N8 x1 x2 x3 x4 x5 x6 j14
    refine wa_iload X 9 rfl dX11_bidsAt_18 ?_
    refine wa_aload_n X 0 rfl dX11_bidsAt_20 rfl ?_
    refine wa_getI X (j := 24) hk_11 hc_11 i_11 (by decide) kw_1208 rfl dX11_bidsAt_21 hs_1ne ?_
    refine wa_icmp_ge X (tgt := 151) dX11_bidsAt_24 (by decide) (fun c15 => ?_) (fun c15 => ?_)
    · replace hv := hv.1 c15
      refine wa_iload_n X 1 rfl dX11_bidsAt_151 rfl ?_
      refine wa_iconst X dX11_bidsAt_152 kc2 ?_
      refine wa_icmp_ne X (tgt := 161) dX11_bidsAt_153 (by decide) (fun c16 => ?_) (fun c16 => ?_)
      · replace hv := hv.1 c16
        refine wa_iload_n X 1 rfl dX11_bidsAt_161 rfl ?_
        refine wa_iconst X dX11_bidsAt_162 kc3 ?_
        refine wa_icmp_ne X (tgt := 171) dX11_bidsAt_163 (by decide) (fun c17 => ?_) (fun c17 => ?_)
        · replace hv := hv.1 c17
          refine wa_iload_n X 1 rfl dX11_bidsAt_171 rfl ?_
          refine wa_iconst X dX11_bidsAt_172 kc4 ?_
          refine wa_icmp_ne X (tgt := 181) dX11_bidsAt_173 (by decide) (fun c18 => ?_) (fun c18 => ?_)
          · replace hv := hv.1 c18
            refine wa_iload_n X 1 rfl dX11_bidsAt_181 rfl ?_
            refine wa_iconst X dX11_bidsAt_182 kc5 ?_
            refine wa_icmp_ne X (tgt := 191) dX11_bidsAt_183 (by decide) (fun c19 => ?_) (fun c19 => ?_)
            · replace hv := hv.1 c19
              refine wa_iload X 8 rfl dX11_bidsAt_191 ?_
              exact wa_ireturn X E dX11_bidsAt_193 (Nat.le_of_ble_eq_true rfl) (Nat.le_of_ble_eq_true rfl) (Or.inl rfl) ⟨hw, _, rfl, hv⟩
            · replace hv := hv.2 c19
              refine wa_iload X 7 rfl dX11_bidsAt_186 ?_
              refine wa_goto X (tgt := 193) dX11_bidsAt_188 (by decide) ?_
              exact wa_ireturn X E dX11_bidsAt_193 (Nat.le_of_ble_eq_true rfl) (Nat.le_of_ble_eq_true rfl) (Or.inl rfl) ⟨hw, _, rfl, hv⟩
          · replace hv := hv.2 c18
            refine wa_iload X 6 rfl dX11_bidsAt_176 ?_
            refine wa_goto X (tgt := 193) dX11_bidsAt_178 (by decide) ?_
            exact wa_ireturn X E dX11_bidsAt_193 (Nat.le_of_ble_eq_true rfl) (Nat.le_of_ble_eq_true rfl) (Or.inl rfl) ⟨hw, _, rfl, hv⟩
        · replace hv := hv.2 c17
          refine wa_iload X 5 rfl dX11_bidsAt_166 ?_
          refine wa_goto X (tgt := 193) dX11_bidsAt_168 (by decide) ?_
          exact wa_ireturn X E dX11_bidsAt_193 (Nat.le_of_ble_eq_true rfl) (Nat.le_of_ble_eq_true rfl) (Or.inl rfl) ⟨hw, _, rfl, hv⟩
      · replace hv := hv.2 c16
        refine wa_iload X 4 rfl dX11_bidsAt_156 ?_
        refine wa_goto X (tgt := 193) dX11_bidsAt_158 (by decide) ?_
        exact wa_ireturn X E dX11_bidsAt_193 (Nat.le_of_ble_eq_true rfl) (Nat.le_of_ble_eq_true rfl) (Or.inl rfl) ⟨hw, _, rfl, hv⟩
    · replace hv := hv.2 c15
      refine wa_aload_n X 0 rfl dX11_bidsAt_27 rfl ?_
      refine wa_getfw X hw (j := 26) (r := 1) hk_11 hc_11 i_11 (by decide) kw_1210 rfl rfl (by decide) rfl dX11_bidsAt_28 hs_1ne ?_
      refine wa_iload X 9 rfl dX11_bidsAt_31 ?_
      obtain ⟨o20, hv⟩ := hv
      refine wa_iald X hk_66 dX11_bidsAt_33 hs_1ne o20 ?_
      refine wa_iload_n X 2 rfl dX11_bidsAt_34 rfl ?_
      refine wa_icmp_ne X (tgt := 145) dX11_bidsAt_35 (by decide) (fun c21 => ?_) (fun c21 => ?_)
      · replace hv := hv.1 c21
        refine wa_iinc X (v := (x6 + 1)) (lv' := [(9, .inl (x6 + 1)), (0, .inr (.inr (11, 1))), (1, .inl a1), (2, .inl a2), (3, .inl a3), (4, .inl x1), (5, .inl x2), (6, .inl x3), (7, .inl x4), (8, .inl x5)]) 9 rfl dX11_bidsAt_145 rfl (by decide) rfl ?_
        refine wa_goto X (tgt := 18) dX11_bidsAt_148 (by decide) ?_
        obtain ⟨q22, p23, hv⟩ := hv
        refine wa_lv (lv' := [(0, .inr (.inr (11, 1))), (1, .inl a1), (2, .inl a2), (3, .inl a3), (4, .inl x1), (5, .inl x2), (6, .inl x3), (7, .inl x4), (8, .inl x5), (9, .inl (x6 + 1))]) [1, 2, 3, 4, 5, 6, 7, 8, 9, 0] rfl ?_
        exact h13 q22 p23 _ _ _ _ _ _ hv
      · replace hv := hv.2 c21
        refine wa_aload_n X 0 rfl dX11_bidsAt_38 rfl ?_
        refine wa_iload X 9 rfl dX11_bidsAt_39 ?_
        refine wa_iload_n X 3 rfl dX11_bidsAt_41 rfl ?_
        obtain ⟨o24, hv⟩ := hv
        refine wa_callV X (As := [.inl x6, .inl a3]) (f_M_isThere hw o24) hk_11 hc_11 rfl kw_1497 kw_66 kw_1494 kw_1496 kw_37 nd_X11_isThere rfl rfl (Nat.le_of_ble_eq_true rfl) dX11_bidsAt_42 hs_1ne ⟨⟨Nat.le_of_ble_eq_true rfl, Nat.le_of_ble_eq_true rfl⟩, Nat.le_of_ble_eq_true rfl, Nat.le_of_ble_eq_true rfl⟩ (hs_pdk0 ?_) (fun _ _ h => h.elim)
        refine wa_if_eq X (tgt := 145) dX11_bidsAt_45 (by decide) (fun c25 => ?_) (fun c25 => ?_)
        · replace hv := hv.1 c25
          refine wa_iinc X (v := (x6 + 1)) (lv' := [(9, .inl (x6 + 1)), (0, .inr (.inr (11, 1))), (1, .inl a1), (2, .inl a2), (3, .inl a3), (4, .inl x1), (5, .inl x2), (6, .inl x3), (7, .inl x4), (8, .inl x5)]) 9 rfl dX11_bidsAt_145 rfl (by decide) rfl ?_
          refine wa_goto X (tgt := 18) dX11_bidsAt_148 (by decide) ?_
          obtain ⟨q26, p27, hv⟩ := hv
          refine wa_lv (lv' := [(0, .inr (.inr (11, 1))), (1, .inl a1), (2, .inl a2), (3, .inl a3), (4, .inl x1), (5, .inl x2), (6, .inl x3), (7, .inl x4), (8, .inl x5), (9, .inl (x6 + 1))]) [1, 2, 3, 4, 5, 6, 7, 8, 9, 0] rfl ?_
          exact h13 q26 p27 _ _ _ _ _ _ hv
        · replace hv := hv.2 c25
          refine wa_iinc X (v := (x5 + 1)) (lv' := [(8, .inl (x5 + 1)), (0, .inr (.inr (11, 1))), (1, .inl a1), (2, .inl a2), (3, .inl a3), (4, .inl x1), (5, .inl x2), (6, .inl x3), (7, .inl x4), (9, .inl x6)]) 8 rfl dX11_bidsAt_48 rfl (by decide) rfl ?_
          refine wa_aload_n X 1 rfl dX11_bidsAt_51 rfl ?_
          refine wa_getfw X hw (j := 27) (r := 1) hk_11 hc_11 i_11 (by decide) kw_1211 rfl rfl (by decide) rfl dX11_bidsAt_52 hs_1ne ?_
          refine wa_iload X 9 rfl dX11_bidsAt_55 ?_
          refine wa_bald X hk_67 dX11_bidsAt_57 hs_1ne o20 ?_
          refine wa_if_eq X (tgt := 102) dX11_bidsAt_58 (by decide) (fun c28 => ?_) (fun c28 => ?_)
          · replace hv := hv.1 c28
            refine wa_iload X 8 rfl dX11_bidsAt_102 ?_
            have k32 : ∀ (x29 : Int32), x29 = (if x4 = 0 then (S.1 69 1 x6.toNatClampNeg) else (if x2 ≤ (S.1 69 1 x6.toNatClampNeg) then x2 else (S.1 69 1 x6.toNatClampNeg))) → wa Z 0 0 S 131 [(0, .inr (.inr (11, 1))), (1, .inl a1), (2, .inl a2), (3, .inl a3), (4, .inl x1), (6, .inl x3), (7, .inl x4), (8, .inl (x5 + 1)), (9, .inl x6)] [.inl x29] := by
              intro x29 hE
              replace hv := hv _ hE
              refine wa_istore X (lv' := [(5, .inl x29), (0, .inr (.inr (11, 1))), (1, .inl a1), (2, .inl a2), (3, .inl a3), (4, .inl x1), (6, .inl x3), (7, .inl x4), (8, .inl (x5 + 1)), (9, .inl x6)]) dX11_bidsAt_131 (by decide) rfl ?_
              refine wa_iload X 7 rfl dX11_bidsAt_133 ?_
              refine wa_aload_n X 1 rfl dX11_bidsAt_135 rfl ?_
              refine wa_getfw X hw (j := 28) (r := 1) hk_11 hc_11 i_11 (by decide) kw_1212 rfl rfl (by decide) rfl dX11_bidsAt_136 hs_1ne ?_
              refine wa_iload X 9 rfl dX11_bidsAt_139 ?_
              refine wa_iald X hk_68 dX11_bidsAt_141 hs_1ne o20 ?_
              refine wa_iadd X dX11_bidsAt_142 ?_
              refine wa_istore X (lv' := [(7, .inl (x4 + (S.1 68 1 x6.toNatClampNeg))), (5, .inl x29), (0, .inr (.inr (11, 1))), (1, .inl a1), (2, .inl a2), (3, .inl a3), (4, .inl x1), (6, .inl x3), (8, .inl (x5 + 1)), (9, .inl x6)]) dX11_bidsAt_143 (by decide) rfl ?_
              refine wa_iinc X (v := (x6 + 1)) (lv' := [(9, .inl (x6 + 1)), (7, .inl (x4 + (S.1 68 1 x6.toNatClampNeg))), (5, .inl x29), (0, .inr (.inr (11, 1))), (1, .inl a1), (2, .inl a2), (3, .inl a3), (4, .inl x1), (6, .inl x3), (8, .inl (x5 + 1))]) 9 rfl dX11_bidsAt_145 rfl (by decide) rfl ?_
              refine wa_goto X (tgt := 18) dX11_bidsAt_148 (by decide) ?_
              obtain ⟨q30, p31, hv⟩ := hv
              refine wa_lv (lv' := [(0, .inr (.inr (11, 1))), (1, .inl a1), (2, .inl a2), (3, .inl a3), (4, .inl x1), (5, .inl x29), (6, .inl x3), (7, .inl (x4 + (S.1 68 1 x6.toNatClampNeg))), (8, .inl (x5 + 1)), (9, .inl (x6 + 1))]) [3, 4, 5, 6, 7, 2, 8, 1, 9, 0] rfl ?_
              exact h13 q30 p31 _ _ _ _ _ _ hv
            clear hv
            refine wa_if_eq X (tgt := 119) dX11_bidsAt_104 (by decide) (fun c34 => ?_) (fun c34 => ?_)
            · refine wa_aload_n X 1 rfl dX11_bidsAt_119 rfl ?_
              refine wa_getfw X hw (j := 29) (r := 1) hk_11 hc_11 i_11 (by decide) kw_1213 rfl rfl (by decide) rfl dX11_bidsAt_120 hs_1ne ?_
              refine wa_iload X 9 rfl dX11_bidsAt_123 ?_
              refine wa_iald X hk_69 dX11_bidsAt_125 hs_1ne o20 ?_
              refine wa_goto X (tgt := 131) dX11_bidsAt_126 (by decide) ?_
              refine wa_lv (lv' := [(0, .inr (.inr (11, 1))), (1, .inl a1), (2, .inl a2), (3, .inl a3), (4, .inl x1), (6, .inl x3), (7, .inl x4), (8, .inl (x5 + 1)), (9, .inl x6)]) [1, 2, 3, 4, 5, 7, 8, 0, 9] rfl ?_
              exact wa_wid (Nat.le_of_ble_eq_true rfl) (Nat.le_of_ble_eq_true rfl) (k32 _  (by rw [if_pos c34]))
            · refine wa_aload_n X 1 rfl dX11_bidsAt_107 rfl ?_
              refine wa_getfw X hw (j := 29) (r := 1) hk_11 hc_11 i_11 (by decide) kw_1213 rfl rfl (by decide) rfl dX11_bidsAt_108 hs_1ne ?_
              refine wa_iload X 9 rfl dX11_bidsAt_111 ?_
              refine wa_iald X hk_69 dX11_bidsAt_113 hs_1ne o20 ?_
              refine wa_iload X 6 rfl dX11_bidsAt_114 ?_
              refine wa_icmp_ge X (tgt := 129) dX11_bidsAt_116 (by decide) (fun c35 => ?_) (fun c35 => ?_)
              · refine wa_iload X 6 rfl dX11_bidsAt_129 ?_
                refine wa_lv (lv' := [(0, .inr (.inr (11, 1))), (1, .inl a1), (2, .inl a2), (3, .inl a3), (4, .inl x1), (6, .inl x3), (7, .inl x4), (8, .inl (x5 + 1)), (9, .inl x6)]) [1, 2, 3, 4, 5, 7, 8, 0, 9] rfl ?_
                exact wa_wid (Nat.le_of_ble_eq_true rfl) (Nat.le_of_ble_eq_true rfl) (k32 _  (by rw [if_neg c34, if_pos c35]))
              · refine wa_aload_n X 1 rfl dX11_bidsAt_119 rfl ?_
                refine wa_getfw X hw (j := 29) (r := 1) hk_11 hc_11 i_11 (by decide) kw_1213 rfl rfl (by decide) rfl dX11_bidsAt_120 hs_1ne ?_
                refine wa_iload X 9 rfl dX11_bidsAt_123 ?_
                refine wa_iald X hk_69 dX11_bidsAt_125 hs_1ne o20 ?_
                refine wa_goto X (tgt := 131) dX11_bidsAt_126 (by decide) ?_
                refine wa_lv (lv' := [(0, .inr (.inr (11, 1))), (1, .inl a1), (2, .inl a2), (3, .inl a3), (4, .inl x1), (6, .inl x3), (7, .inl x4), (8, .inl (x5 + 1)), (9, .inl x6)]) [1, 2, 3, 4, 5, 7, 8, 0, 9] rfl ?_
                exact wa_wid (Nat.le_of_ble_eq_true rfl) (Nat.le_of_ble_eq_true rfl) (k32 _  (by rw [if_neg c34, if_neg c35]))
          · replace hv := hv.2 c28
            refine wa_aload_n X 1 rfl dX11_bidsAt_61 rfl ?_
            refine wa_getfw X hw (j := 29) (r := 1) hk_11 hc_11 i_11 (by decide) kw_1213 rfl rfl (by decide) rfl dX11_bidsAt_62 hs_1ne ?_
            refine wa_iload X 9 rfl dX11_bidsAt_65 ?_
            refine wa_iald X hk_69 dX11_bidsAt_67 hs_1ne o20 ?_
            refine wa_iload X 5 rfl dX11_bidsAt_68 ?_
            have k39 : ∀ (x36 : Int32), x36 = (if (S.1 69 1 x6.toNatClampNeg) ≤ x1 then x1 else (S.1 69 1 x6.toNatClampNeg)) → wa Z 0 0 S 85 [(0, .inr (.inr (11, 1))), (1, .inl a1), (2, .inl a2), (3, .inl a3), (5, .inl x2), (6, .inl x3), (7, .inl x4), (8, .inl (x5 + 1)), (9, .inl x6)] [.inl x36] := by
              intro x36 hE
              replace hv := hv _ hE
              refine wa_istore X (lv' := [(4, .inl x36), (0, .inr (.inr (11, 1))), (1, .inl a1), (2, .inl a2), (3, .inl a3), (5, .inl x2), (6, .inl x3), (7, .inl x4), (8, .inl (x5 + 1)), (9, .inl x6)]) dX11_bidsAt_85 (by decide) rfl ?_
              refine wa_iload X 6 rfl dX11_bidsAt_87 ?_
              refine wa_aload_n X 1 rfl dX11_bidsAt_89 rfl ?_
              refine wa_getfw X hw (j := 28) (r := 1) hk_11 hc_11 i_11 (by decide) kw_1212 rfl rfl (by decide) rfl dX11_bidsAt_90 hs_1ne ?_
              refine wa_iload X 9 rfl dX11_bidsAt_93 ?_
              refine wa_iald X hk_68 dX11_bidsAt_95 hs_1ne o20 ?_
              refine wa_iadd X dX11_bidsAt_96 ?_
              refine wa_istore X (lv' := [(6, .inl (x3 + (S.1 68 1 x6.toNatClampNeg))), (4, .inl x36), (0, .inr (.inr (11, 1))), (1, .inl a1), (2, .inl a2), (3, .inl a3), (5, .inl x2), (7, .inl x4), (8, .inl (x5 + 1)), (9, .inl x6)]) dX11_bidsAt_97 (by decide) rfl ?_
              refine wa_goto X (tgt := 145) dX11_bidsAt_99 (by decide) ?_
              refine wa_iinc X (v := (x6 + 1)) (lv' := [(9, .inl (x6 + 1)), (6, .inl (x3 + (S.1 68 1 x6.toNatClampNeg))), (4, .inl x36), (0, .inr (.inr (11, 1))), (1, .inl a1), (2, .inl a2), (3, .inl a3), (5, .inl x2), (7, .inl x4), (8, .inl (x5 + 1))]) 9 rfl dX11_bidsAt_145 rfl (by decide) rfl ?_
              refine wa_goto X (tgt := 18) dX11_bidsAt_148 (by decide) ?_
              obtain ⟨q37, p38, hv⟩ := hv
              refine wa_lv (lv' := [(0, .inr (.inr (11, 1))), (1, .inl a1), (2, .inl a2), (3, .inl a3), (4, .inl x36), (5, .inl x2), (6, .inl (x3 + (S.1 68 1 x6.toNatClampNeg))), (7, .inl x4), (8, .inl (x5 + 1)), (9, .inl (x6 + 1))]) [3, 4, 5, 6, 2, 7, 1, 8, 9, 0] rfl ?_
              exact h13 q37 p38 _ _ _ _ _ _ hv
            clear hv
            refine wa_icmp_le X (tgt := 83) dX11_bidsAt_70 (by decide) (fun c41 => ?_) (fun c41 => ?_)
            · refine wa_iload X 5 rfl dX11_bidsAt_83 ?_
              refine wa_lv (lv' := [(0, .inr (.inr (11, 1))), (1, .inl a1), (2, .inl a2), (3, .inl a3), (5, .inl x2), (6, .inl x3), (7, .inl x4), (8, .inl (x5 + 1)), (9, .inl x6)]) [1, 2, 3, 4, 6, 7, 8, 0, 9] rfl ?_
              exact wa_wid (Nat.le_of_ble_eq_true rfl) (Nat.le_of_ble_eq_true rfl) (k39 _  (by rw [if_pos c41]))
            · refine wa_aload_n X 1 rfl dX11_bidsAt_73 rfl ?_
              refine wa_getfw X hw (j := 29) (r := 1) hk_11 hc_11 i_11 (by decide) kw_1213 rfl rfl (by decide) rfl dX11_bidsAt_74 hs_1ne ?_
              refine wa_iload X 9 rfl dX11_bidsAt_77 ?_
              refine wa_iald X hk_69 dX11_bidsAt_79 hs_1ne o20 ?_
              refine wa_goto X (tgt := 85) dX11_bidsAt_80 (by decide) ?_
              refine wa_lv (lv' := [(0, .inr (.inr (11, 1))), (1, .inl a1), (2, .inl a2), (3, .inl a3), (5, .inl x2), (6, .inl x3), (7, .inl x4), (8, .inl (x5 + 1)), (9, .inl x6)]) [1, 2, 3, 4, 6, 7, 8, 0, 9] rfl ?_
              exact wa_wid (Nat.le_of_ble_eq_true rfl) (Nat.le_of_ble_eq_true rfl) (k39 _  (by rw [if_neg c41]))
theorem v_M_bidsAt {a1 a2 a3 : Int32} {S : hs_S} (hP : P_bidsAt a1 a2 a3 S) : vc_M_bidsAt a1 a2 a3 S (fun r S' => r = F_bidsAt a1 a2 a3 S ∧ S' = S) := by
  obtain ⟨g, hg, eg, hb⟩ := hP
  unfold vc_M_bidsAt F_bidsAt
  rw [eg, hl_cl (by omega)]
  refine ⟨fun N x1 x2 x3 x4 x5 x6 => ∃ k, k ≤ g ∧ x6 = nI k ∧ (x1, (x2, (x3, (x4, x5)))) = mBA S a2 a3 k ∧ N = g - k, ⟨g, 0, Nat.zero_le _, rfl, rfl, rfl⟩, ?_⟩
  rintro N x1 x2 x3 x4 x5 x6 ⟨k, hk, rfl, hm, rfl⟩
  refine ⟨fun h => ?_, fun h => ?_⟩
  · have := hl_end (by omega) hk h
    subst this
    rw [← hm]
    unfold mBS
    refine ⟨fun h2 => ⟨fun h3 => ⟨fun h4 => ⟨fun h5 => ⟨?_, rfl⟩, fun h5 => ⟨?_, rfl⟩⟩, fun h4 => ⟨?_, rfl⟩⟩, fun h3 => ⟨?_, rfl⟩⟩, fun h2 => ⟨?_, rfl⟩⟩
    · rw [if_neg h2, if_neg h3, if_neg h4, if_neg h5]
    · rw [if_neg h2, if_neg h3, if_neg h4, if_pos h5]
    · rw [if_neg h2, if_neg h3, if_pos h4]
    · rw [if_neg h2, if_pos h3]
    · rw [if_pos h2]
  · have hk1 := hl_go (by omega) hk h
    rw [hl_cl (by omega)]
    have e1 : (mBA S a2 a3 k).1 = x1 := by rw [← hm]
    have e2 : (mBA S a2 a3 k).2.1 = x2 := by rw [← hm]
    have e3 : (mBA S a2 a3 k).2.2.1 = x3 := by rw [← hm]
    have e4 : (mBA S a2 a3 k).2.2.2.1 = x4 := by rw [← hm]
    have e5 : (mBA S a2 a3 k).2.2.2.2 = x5 := by rw [← hm]
    have es : mBA S a2 a3 (k + 1) = if S.1 66 1 k = a2 ∧ ¬ F_isThere (nI k) a3 S = 0 then (if S.1 67 1 k = 0 then (x1, ((if x4 = 0 then S.1 69 1 k else (if x2 ≤ S.1 69 1 k then x2 else S.1 69 1 k)), (x3, (x4 + S.1 68 1 k, x5 + 1)))) else ((if S.1 69 1 k ≤ x1 then x1 else S.1 69 1 k), (x2, (x3 + S.1 68 1 k, (x4, x5 + 1))))) else (x1, (x2, (x3, (x4, x5)))) := by
      rw [mBA, e1, e2, e3, e4, e5, ← hm]
    refine ⟨hl_ix (by omega) (by omega), fun h1 => hl_nx hk1 ?_, fun h1 => ⟨hb k hk1, fun h2 => hl_nx hk1 ?_, fun h2 => ⟨fun h3 x hx => hl_nx hk1 ?_, fun h3 x hx => hl_nx hk1 ?_⟩⟩⟩
    · rw [es, if_neg fun q => h1 q.1]
    · rw [es, if_neg fun q => q.2 h2]
    · rw [es, if_pos ⟨h1, h2⟩, if_pos h3, hx]
    · rw [es, if_pos ⟨h1, h2⟩, if_neg h3, hx]
theorem f_M_bidsAt {a1 : Int32} {a2 : Int32} {a3 : Int32} {S : hs_S} (hw : hs_Wi S) (hP : P_bidsAt a1 a2 a3 S) : hs_M 2 yX11_bidsAt (.code yX11_bidsAt cX11_bidsAt 10 (some FieldType.int)) [.inr (.inr (11, 1)), .inl a1, .inl a2, .inl a3] S 0 0 (hs_pd (some (.inl (F_bidsAt a1 a2 a3 S))) S) hs_nX := hs_pdI (ok_M_bidsAt hw (v_M_bidsAt hP))

def mEO (S : hs_S) (c : Int32) : Nat → Int32
  | 0 => 0
  | k + 1 => if S.1 53 1 k = c then mEO S c k + 1 else mEO S c k + 0
def F_editsOf (a1 : Int32) (S : hs_S) : Int32 := mEO S a1 (S.1 11 1 12).toNatClampNeg
def P_editsOf (a1 : Int32) (S : hs_S) : Prop := cN (S.1 11 1 12) 60
def m_M_editsOf (a1 : Int32) (S : hs_S) (Q : Int32 → hs_S → Prop) : Prop := hs_M 1 yX11_editsOf (.code yX11_editsOf cX11_editsOf 4 (some FieldType.int)) [.inr (.inr (11, 1)), .inl a1] S 0 0 (hs_qI Q) hs_nX
def vc_M_editsOf (a1 : Int32) (S : hs_S) (Q : Int32 → hs_S → Prop) : Prop := (∃ I3 : Nat → Int32 → Int32 → Prop, (∃ n7, I3 n7 (0 : Int32) (0 : Int32)) ∧ (∀ N4 : Nat, ∀ x1 : Int32, ∀ x2 : Int32, I3 N4 x1 x2 → (((S.1 11 1 12) ≤ x2 → (Q x1 S)) ∧ (¬ (S.1 11 1 12) ≤ x2 → ((0 ≤ x2.toInt ∧ x2.toInt < 60) ∧ ((¬ (S.1 53 1 x2.toNatClampNeg) = a1 → (∃ q14, q14 < N4 ∧ I3 q14 (x1 + (0 : Int32)) (x2 + 1))) ∧ ((S.1 53 1 x2.toNatClampNeg) = a1 → (∃ q16, q16 < N4 ∧ I3 q16 (x1 + (1 : Int32)) (x2 + 1)))))))))
set_option maxRecDepth 100000 in
set_option maxHeartbeats 4000000 in
theorem ok_M_editsOf {a1 : Int32} {S : hs_S} {Q : Int32 → hs_S → Prop} (hw : hs_Wi S) (hv : vc_M_editsOf a1 S Q) : m_M_editsOf a1 S Q := by
  unfold vc_M_editsOf at hv
  refine hs_body (own := RX11) rfl rfl (Nat.le_of_ble_eq_true rfl) (fun Z X E N J0 => ?_)
  show wa Z 0 0 S 0 [(0, .inr (.inr (11, 1))), (1, .inl a1)] []
  refine wa_iconst X dX11_editsOf_0 kc0 ?_
  refine wa_istore_n X (lv' := [(2, .inl (0 : Int32)), (0, .inr (.inr (11, 1))), (1, .inl a1)]) dX11_editsOf_1 rfl (by decide) rfl ?_
  refine wa_iconst X dX11_editsOf_2 kc0 ?_
  refine wa_istore_n X (lv' := [(3, .inl (0 : Int32)), (2, .inl (0 : Int32)), (0, .inr (.inr (11, 1))), (1, .inl a1)]) dX11_editsOf_3 rfl (by decide) rfl ?_
  obtain ⟨I3, ⟨n7, i5⟩, b6⟩ := hv
  refine wa_lv (lv' := [(0, .inr (.inr (11, 1))), (1, .inl a1), (2, .inl (0 : Int32)), (3, .inl (0 : Int32))]) [2, 3, 1, 0] rfl ?_
  suffices L8 : ∀ N4 : Nat, ∀ x1 : Int32, ∀ x2 : Int32, I3 N4 x1 x2 → wa Z 0 0 S 4 [(0, .inr (.inr (11, 1))), (1, .inl a1), (2, .inl x1), (3, .inl x2)] [] from L8 _ _ _ i5
  clear i5
  intro N4
  induction N4 using Nat.strongRecOn with
  | _ N4 h9 =>
    intro x1 x2 j10
    have hv := b6 N4 x1 x2 j10
    refine wa_iload_n X 3 rfl dX11_editsOf_4 rfl ?_
    refine wa_aload_n X 0 rfl dX11_editsOf_5 rfl ?_
    refine wa_getI X (j := 12) hk_11 hc_11 i_11 (by decide) kw_1196 rfl dX11_editsOf_6 hs_1ne ?_
    refine wa_icmp_ge X (tgt := 36) dX11_editsOf_9 (by decide) (fun c11 => ?_) (fun c11 => ?_)
    · replace hv := hv.1 c11
      refine wa_iload_n X 2 rfl dX11_editsOf_36 rfl ?_
      exact wa_ireturn X E dX11_editsOf_37 (Nat.le_of_ble_eq_true rfl) (Nat.le_of_ble_eq_true rfl) (Or.inl rfl) ⟨hw, _, rfl, hv⟩
    · replace hv := hv.2 c11
      refine wa_iload_n X 2 rfl dX11_editsOf_12 rfl ?_
      refine wa_aload_n X 0 rfl dX11_editsOf_13 rfl ?_
      refine wa_getfw X hw (j := 13) (r := 1) hk_11 hc_11 i_11 (by decide) kw_1197 rfl rfl (by decide) rfl dX11_editsOf_14 hs_1ne ?_
      refine wa_iload_n X 3 rfl dX11_editsOf_17 rfl ?_
      obtain ⟨o12, hv⟩ := hv
      refine wa_iald X hk_53 dX11_editsOf_18 hs_1ne o12 ?_
      refine wa_iload_n X 1 rfl dX11_editsOf_19 rfl ?_
      refine wa_icmp_ne X (tgt := 27) dX11_editsOf_20 (by decide) (fun c13 => ?_) (fun c13 => ?_)
      · replace hv := hv.1 c13
        refine wa_iconst X dX11_editsOf_27 kc0 ?_
        refine wa_iadd X dX11_editsOf_28 ?_
        refine wa_istore_n X (lv' := [(2, .inl (x1 + (0 : Int32))), (0, .inr (.inr (11, 1))), (1, .inl a1), (3, .inl x2)]) dX11_editsOf_29 rfl (by decide) rfl ?_
        refine wa_iinc X (v := (x2 + 1)) (lv' := [(3, .inl (x2 + 1)), (2, .inl (x1 + (0 : Int32))), (0, .inr (.inr (11, 1))), (1, .inl a1)]) 3 rfl dX11_editsOf_30 rfl (by decide) rfl ?_
        refine wa_goto X (tgt := 4) dX11_editsOf_33 (by decide) ?_
        obtain ⟨q14, p15, hv⟩ := hv
        refine wa_lv (lv' := [(0, .inr (.inr (11, 1))), (1, .inl a1), (2, .inl (x1 + (0 : Int32))), (3, .inl (x2 + 1))]) [2, 3, 1, 0] rfl ?_
        exact h9 q14 p15 _ _ hv
      · replace hv := hv.2 c13
        refine wa_iconst X dX11_editsOf_23 kc1 ?_
        refine wa_goto X (tgt := 28) dX11_editsOf_24 (by decide) ?_
        refine wa_iadd X dX11_editsOf_28 ?_
        refine wa_istore_n X (lv' := [(2, .inl (x1 + (1 : Int32))), (0, .inr (.inr (11, 1))), (1, .inl a1), (3, .inl x2)]) dX11_editsOf_29 rfl (by decide) rfl ?_
        refine wa_iinc X (v := (x2 + 1)) (lv' := [(3, .inl (x2 + 1)), (2, .inl (x1 + (1 : Int32))), (0, .inr (.inr (11, 1))), (1, .inl a1)]) 3 rfl dX11_editsOf_30 rfl (by decide) rfl ?_
        refine wa_goto X (tgt := 4) dX11_editsOf_33 (by decide) ?_
        obtain ⟨q16, p17, hv⟩ := hv
        refine wa_lv (lv' := [(0, .inr (.inr (11, 1))), (1, .inl a1), (2, .inl (x1 + (1 : Int32))), (3, .inl (x2 + 1))]) [2, 3, 1, 0] rfl ?_
        exact h9 q16 p17 _ _ hv
theorem v_M_editsOf {a1 : Int32} {S : hs_S} (hP : P_editsOf a1 S) : vc_M_editsOf a1 S (fun r S' => r = F_editsOf a1 S ∧ S' = S) := by
  obtain ⟨g, hg, eg⟩ := hP
  unfold vc_M_editsOf F_editsOf
  rw [eg, hl_cl (by omega)]
  refine ⟨fun N x1 x2 => ∃ k, k ≤ g ∧ x2 = nI k ∧ x1 = mEO S a1 k ∧ N = g - k, ⟨g, 0, Nat.zero_le _, rfl, rfl, rfl⟩, ?_⟩
  rintro N x1 x2 ⟨k, hk, rfl, rfl, rfl⟩
  refine ⟨fun h => ?_, fun h => ?_⟩
  · have := hl_end (by omega) hk h
    subst this
    exact ⟨rfl, rfl⟩
  · have hk1 := hl_go (by omega) hk h
    rw [hl_cl (by omega)]
    exact ⟨hl_ix (by omega) (by omega), fun h1 => hl_nx hk1 (if_neg h1).symm, fun h1 => hl_nx hk1 (if_pos h1).symm⟩
theorem f_M_editsOf {a1 : Int32} {S : hs_S} (hw : hs_Wi S) (hP : P_editsOf a1 S) : hs_M 1 yX11_editsOf (.code yX11_editsOf cX11_editsOf 4 (some FieldType.int)) [.inr (.inr (11, 1)), .inl a1] S 0 0 (hs_pd (some (.inl (F_editsOf a1 S))) S) hs_nX := hs_pdI (ok_M_editsOf hw (v_M_editsOf hP))

def F_isBid (a1 : Int32) (S : hs_S) : Int32 := bI (0 ≤ a1 ∧ a1 < S.1 11 1 24)
def m_M_isBid (a1 : Int32) (S : hs_S) (Q : Int32 → hs_S → Prop) : Prop := hs_M 1 yX11_isBid (.code yX11_isBid cX11_isBid 2 (some FieldType.boolean)) [.inr (.inr (11, 1)), .inl a1] S 0 0 (hs_qI Q) hs_nX
def vc_M_isBid (a1 : Int32) (S : hs_S) (Q : Int32 → hs_S → Prop) : Prop := ((a1 < 0 → (Q (0 : Int32) S)) ∧ (¬ a1 < 0 → (((S.1 11 1 24) ≤ a1 → (Q (0 : Int32) S)) ∧ (¬ (S.1 11 1 24) ≤ a1 → (Q (1 : Int32) S)))))
set_option maxRecDepth 100000 in
set_option maxHeartbeats 4000000 in
theorem ok_M_isBid {a1 : Int32} {S : hs_S} {Q : Int32 → hs_S → Prop} (hw : hs_Wi S) (hv : vc_M_isBid a1 S Q) : m_M_isBid a1 S Q := by
  unfold vc_M_isBid at hv
  refine hs_body (own := RX11) rfl rfl (Nat.le_of_ble_eq_true rfl) (fun Z X E N J0 => ?_)
  show wa Z 0 0 S 0 [(0, .inr (.inr (11, 1))), (1, .inl a1)] []
  refine wa_iload_n X 1 rfl dX11_isBid_0 rfl ?_
  refine wa_if_lt X (tgt := 16) dX11_isBid_1 (by decide) (fun c1 => ?_) (fun c1 => ?_)
  · replace hv := hv.1 c1
    refine wa_iconst X dX11_isBid_16 kc0 ?_
    exact wa_ireturn X E dX11_isBid_17 (Nat.le_of_ble_eq_true rfl) (Nat.le_of_ble_eq_true rfl) (Or.inr ⟨rfl, Or.inl rfl⟩) ⟨hw, _, rfl, hv⟩
  · replace hv := hv.2 c1
    refine wa_iload_n X 1 rfl dX11_isBid_4 rfl ?_
    refine wa_aload_n X 0 rfl dX11_isBid_5 rfl ?_
    refine wa_getI X (j := 24) hk_11 hc_11 i_11 (by decide) kw_1208 rfl dX11_isBid_6 hs_1ne ?_
    refine wa_icmp_ge X (tgt := 16) dX11_isBid_9 (by decide) (fun c2 => ?_) (fun c2 => ?_)
    · replace hv := hv.1 c2
      refine wa_iconst X dX11_isBid_16 kc0 ?_
      exact wa_ireturn X E dX11_isBid_17 (Nat.le_of_ble_eq_true rfl) (Nat.le_of_ble_eq_true rfl) (Or.inr ⟨rfl, Or.inl rfl⟩) ⟨hw, _, rfl, hv⟩
    · replace hv := hv.2 c2
      refine wa_iconst X dX11_isBid_12 kc1 ?_
      refine wa_goto X (tgt := 17) dX11_isBid_13 (by decide) ?_
      exact wa_ireturn X E dX11_isBid_17 (Nat.le_of_ble_eq_true rfl) (Nat.le_of_ble_eq_true rfl) (Or.inr ⟨rfl, Or.inr rfl⟩) ⟨hw, _, rfl, hv⟩
theorem v_M_isBid {a1 : Int32} {S : hs_S} : vc_M_isBid a1 S (fun r S' => r = F_isBid a1 S ∧ S' = S) := by
  unfold vc_M_isBid F_isBid
  refine ⟨fun h => ⟨(bI_f fun q => ?_).symm, rfl⟩, fun h => ⟨fun h2 => ⟨(bI_f fun q => ?_).symm, rfl⟩, fun h2 => ⟨(bI_t ⟨?_, ?_⟩).symm, rfl⟩⟩⟩
  all_goals (simp only [i32_lt, i32_le] at *; omega)
theorem f_M_isBid {a1 : Int32} {S : hs_S} (hw : hs_Wi S) : hs_M 1 yX11_isBid (.code yX11_isBid cX11_isBid 2 (some FieldType.boolean)) [.inr (.inr (11, 1)), .inl a1] S 0 0 (hs_pd (some (.inl (F_isBid a1 S))) S) hs_nX := hs_pdI (ok_M_isBid hw (v_M_isBid))

def P_costOf (a1 : Int32) (S : hs_S) : Prop := (0 ≤ a1.toInt ∧ a1.toInt < 80) ∧ 0 ≤ (S.1 72 1 a1.toNatClampNeg).toInt ∧ (S.1 72 1 a1.toNatClampNeg).toInt < 30
def F_costOf (a1 : Int32) (S : hs_S) : Int64 := (S.1 81 1 (S.1 72 1 a1.toNatClampNeg).toNatClampNeg).toInt64 * (S.1 74 1 a1.toNatClampNeg).toInt64
def m_M_costOf (a1 : Int32) (S : hs_S) (Q : Int64 → hs_S → Prop) : Prop := hs_M 1 yX11_costOf (.code yX11_costOf cX11_costOf 2 (some FieldType.long)) [.inr (.inr (11, 1)), .inl a1] S 0 0 (hs_qL Q) hs_nX
def vc_M_costOf (a1 : Int32) (S : hs_S) (Q : Int64 → hs_S → Prop) : Prop := ((0 ≤ a1.toInt ∧ a1.toInt < 80) ∧ ((0 ≤ (S.1 72 1 a1.toNatClampNeg).toInt ∧ (S.1 72 1 a1.toNatClampNeg).toInt < 30) ∧ (Q ((S.1 81 1 (S.1 72 1 a1.toNatClampNeg).toNatClampNeg).toInt64 * (S.1 74 1 a1.toNatClampNeg).toInt64) S)))
set_option maxRecDepth 100000 in
set_option maxHeartbeats 4000000 in
theorem ok_M_costOf {a1 : Int32} {S : hs_S} {Q : Int64 → hs_S → Prop} (hw : hs_Wi S) (hv : vc_M_costOf a1 S Q) : m_M_costOf a1 S Q := by
  unfold vc_M_costOf at hv
  refine hs_body (own := RX11) rfl rfl (Nat.le_of_ble_eq_true rfl) (fun Z X E N J0 => ?_)
  show wa Z 0 0 S 0 [(0, .inr (.inr (11, 1))), (1, .inl a1)] []
  refine wa_aload_n X 0 rfl dX11_costOf_0 rfl ?_
  refine wa_getfw X hw (j := 41) (r := 1) hk_11 hc_11 i_11 (by decide) kw_1225 rfl rfl (by decide) rfl dX11_costOf_1 hs_1ne ?_
  refine wa_aload_n X 0 rfl dX11_costOf_4 rfl ?_
  refine wa_getfw X hw (j := 32) (r := 1) hk_11 hc_11 i_11 (by decide) kw_1216 rfl rfl (by decide) rfl dX11_costOf_5 hs_1ne ?_
  refine wa_iload_n X 1 rfl dX11_costOf_8 rfl ?_
  obtain ⟨o1, hv⟩ := hv
  refine wa_iald X hk_72 dX11_costOf_9 hs_1ne o1 ?_
  obtain ⟨o2, hv⟩ := hv
  refine wa_iald X hk_81 dX11_costOf_10 hs_1ne o2 ?_
  refine wa_i2l X dX11_costOf_11 ?_
  refine wa_aload_n X 0 rfl dX11_costOf_12 rfl ?_
  refine wa_getfw X hw (j := 34) (r := 1) hk_11 hc_11 i_11 (by decide) kw_1218 rfl rfl (by decide) rfl dX11_costOf_13 hs_1ne ?_
  refine wa_iload_n X 1 rfl dX11_costOf_16 rfl ?_
  refine wa_iald X hk_74 dX11_costOf_17 hs_1ne o1 ?_
  refine wa_i2l X dX11_costOf_18 ?_
  refine wa_lmul X dX11_costOf_19 ?_
  exact wa_lreturn X E dX11_costOf_20 (Nat.le_of_ble_eq_true rfl) (Nat.le_of_ble_eq_true rfl) ⟨hw, _, rfl, hv⟩
theorem v_M_costOf {a1 : Int32} {S : hs_S} (hP : P_costOf a1 S) : vc_M_costOf a1 S (fun r S' => r = F_costOf a1 S ∧ S' = S) := ⟨hP.1, hP.2, rfl, rfl⟩
theorem f_M_costOf {a1 : Int32} {S : hs_S} (hw : hs_Wi S) (hP : P_costOf a1 S) : hs_M 1 yX11_costOf (.code yX11_costOf cX11_costOf 2 (some FieldType.long)) [.inr (.inr (11, 1)), .inl a1] S 0 0 (hs_pd (some (.inr (.inl (F_costOf a1 S)))) S) hs_nX := hs_pdL (ok_M_costOf hw (v_M_costOf hP))

def P_feeOf (a1 : Int32) (S : hs_S) : Prop := P_costOf a1 S
def F_feeOf (a1 : Int32) (S : hs_S) : Int64 := if S.1 67 1 a1.toNatClampNeg = 0 then 0 else F_costOf a1 S * (S.1 83 1 (S.1 72 1 a1.toNatClampNeg).toNatClampNeg).toInt64 / 1000
def m_M_feeOf (a1 : Int32) (S : hs_S) (Q : Int64 → hs_S → Prop) : Prop := hs_M 2 yX11_feeOf (.code yX11_feeOf cX11_feeOf 2 (some FieldType.long)) [.inr (.inr (11, 1)), .inl a1] S 0 0 (hs_qL Q) hs_nX
def vc_M_feeOf (a1 : Int32) (S : hs_S) (Q : Int64 → hs_S → Prop) : Prop := ((0 ≤ a1.toInt ∧ a1.toInt < 80) ∧ (((S.1 67 1 a1.toNatClampNeg) = 0 → (Q (0 : Int64) S)) ∧ (¬ (S.1 67 1 a1.toNatClampNeg) = 0 → ((P_costOf a1 S) ∧ ((0 ≤ (S.1 72 1 a1.toNatClampNeg).toInt ∧ (S.1 72 1 a1.toNatClampNeg).toInt < 30) ∧ (Q (((F_costOf a1 S) * (S.1 83 1 (S.1 72 1 a1.toNatClampNeg).toNatClampNeg).toInt64) / (1000 : Int64)) S))))))
set_option maxRecDepth 100000 in
set_option maxHeartbeats 4000000 in
theorem ok_M_feeOf {a1 : Int32} {S : hs_S} {Q : Int64 → hs_S → Prop} (hw : hs_Wi S) (hv : vc_M_feeOf a1 S Q) : m_M_feeOf a1 S Q := by
  unfold vc_M_feeOf at hv
  refine hs_body (own := RX11) rfl rfl (Nat.le_of_ble_eq_true rfl) (fun Z X E N J0 => ?_)
  show wa Z 0 0 S 0 [(0, .inr (.inr (11, 1))), (1, .inl a1)] []
  refine wa_aload_n X 0 rfl dX11_feeOf_0 rfl ?_
  refine wa_getfw X hw (j := 27) (r := 1) hk_11 hc_11 i_11 (by decide) kw_1211 rfl rfl (by decide) rfl dX11_feeOf_1 hs_1ne ?_
  refine wa_iload_n X 1 rfl dX11_feeOf_4 rfl ?_
  obtain ⟨o1, hv⟩ := hv
  refine wa_bald X hk_67 dX11_feeOf_5 hs_1ne o1 ?_
  refine wa_if_eq X (tgt := 34) dX11_feeOf_6 (by decide) (fun c2 => ?_) (fun c2 => ?_)
  · replace hv := hv.1 c2
    refine wa_lconst X dX11_feeOf_34 kl0 ?_
    exact wa_lreturn X E dX11_feeOf_35 (Nat.le_of_ble_eq_true rfl) (Nat.le_of_ble_eq_true rfl) ⟨hw, _, rfl, hv⟩
  · replace hv := hv.2 c2
    refine wa_aload_n X 0 rfl dX11_feeOf_9 rfl ?_
    refine wa_iload_n X 1 rfl dX11_feeOf_10 rfl ?_
    obtain ⟨o3, hv⟩ := hv
    refine wa_callV X (As := [.inl a1]) (f_M_costOf hw o3) hk_11 hc_11 rfl kw_1541 kw_66 kw_1538 kw_1540 kw_44 nd_X11_costOf rfl rfl (Nat.le_of_ble_eq_true rfl) dX11_feeOf_11 hs_1ne ⟨⟨Nat.le_of_ble_eq_true rfl, Nat.le_of_ble_eq_true rfl⟩, Nat.le_of_ble_eq_true rfl, Nat.le_of_ble_eq_true rfl⟩ (hs_pdk0 ?_) (fun _ _ h => h.elim)
    refine wa_aload_n X 0 rfl dX11_feeOf_14 rfl ?_
    refine wa_getfw X hw (j := 43) (r := 1) hk_11 hc_11 i_11 (by decide) kw_1227 rfl rfl (by decide) rfl dX11_feeOf_15 hs_1ne ?_
    refine wa_aload_n X 0 rfl dX11_feeOf_18 rfl ?_
    refine wa_getfw X hw (j := 32) (r := 1) hk_11 hc_11 i_11 (by decide) kw_1216 rfl rfl (by decide) rfl dX11_feeOf_19 hs_1ne ?_
    refine wa_iload_n X 1 rfl dX11_feeOf_22 rfl ?_
    refine wa_iald X hk_72 dX11_feeOf_23 hs_1ne o1 ?_
    obtain ⟨o4, hv⟩ := hv
    refine wa_iald X hk_83 dX11_feeOf_24 hs_1ne o4 ?_
    refine wa_i2l X dX11_feeOf_25 ?_
    refine wa_lmul X dX11_feeOf_26 ?_
    refine wa_ldc2 X kw_1542 dX11_feeOf_27 ?_
    refine wa_ldiv X dX11_feeOf_30 (by decide) ?_
    refine wa_goto X (tgt := 35) dX11_feeOf_31 (by decide) ?_
    exact wa_lreturn X E dX11_feeOf_35 (Nat.le_of_ble_eq_true rfl) (Nat.le_of_ble_eq_true rfl) ⟨hw, _, rfl, hv⟩
theorem v_M_feeOf {a1 : Int32} {S : hs_S} (hP : P_feeOf a1 S) : vc_M_feeOf a1 S (fun r S' => r = F_feeOf a1 S ∧ S' = S) := ⟨hP.1, fun h => ⟨(if_pos h).symm, rfl⟩, fun h => ⟨hP, hP.2, (if_neg h).symm, rfl⟩⟩
theorem f_M_feeOf {a1 : Int32} {S : hs_S} (hw : hs_Wi S) (hP : P_feeOf a1 S) : hs_M 2 yX11_feeOf (.code yX11_feeOf cX11_feeOf 2 (some FieldType.long)) [.inr (.inr (11, 1)), .inl a1] S 0 0 (hs_pd (some (.inr (.inl (F_feeOf a1 S)))) S) hs_nX := hs_pdL (ok_M_feeOf hw (v_M_feeOf hP))

def mFs (S : hs_S) (r : Int32) : Nat → Int64
  | 0 => 0
  | k + 1 => if S.1 72 1 k = r then mFs S r k + F_feeOf (nI k) S else mFs S r k + 0
def P_feesOf (a1 : Int32) (S : hs_S) : Prop := cN (S.1 11 1 24) 80 ∧ 0 ≤ a1.toInt ∧ a1.toInt < 30
def F_feesOf (a1 : Int32) (S : hs_S) : Int64 := mFs S a1 (S.1 11 1 24).toNatClampNeg
def m_M_feesOf (a1 : Int32) (S : hs_S) (Q : Int64 → hs_S → Prop) : Prop := hs_M 3 yX11_feesOf (.code yX11_feesOf cX11_feesOf 5 (some FieldType.long)) [.inr (.inr (11, 1)), .inl a1] S 0 0 (hs_qL Q) hs_nX
def vc_M_feesOf (a1 : Int32) (S : hs_S) (Q : Int64 → hs_S → Prop) : Prop := (∃ I3 : Nat → Int64 → Int32 → Prop, (∃ n7, I3 n7 (0 : Int64) (0 : Int32)) ∧ (∀ N4 : Nat, ∀ x1 : Int64, ∀ x2 : Int32, I3 N4 x1 x2 → (((S.1 11 1 24) ≤ x2 → (Q x1 S)) ∧ (¬ (S.1 11 1 24) ≤ x2 → ((0 ≤ x2.toInt ∧ x2.toInt < 80) ∧ ((¬ (S.1 72 1 x2.toNatClampNeg) = a1 → (∃ q14, q14 < N4 ∧ I3 q14 (x1 + (0 : Int64)) (x2 + 1))) ∧ ((S.1 72 1 x2.toNatClampNeg) = a1 → ((P_feeOf x2 S) ∧ (∃ q17, q17 < N4 ∧ I3 q17 (x1 + (F_feeOf x2 S)) (x2 + 1))))))))))
set_option maxRecDepth 100000 in
set_option maxHeartbeats 4000000 in
theorem ok_M_feesOf {a1 : Int32} {S : hs_S} {Q : Int64 → hs_S → Prop} (hw : hs_Wi S) (hv : vc_M_feesOf a1 S Q) : m_M_feesOf a1 S Q := by
  unfold vc_M_feesOf at hv
  refine hs_body (own := RX11) rfl rfl (Nat.le_of_ble_eq_true rfl) (fun Z X E N J0 => ?_)
  show wa Z 0 0 S 0 [(0, .inr (.inr (11, 1))), (1, .inl a1)] []
  refine wa_lconst X dX11_feesOf_0 kl0 ?_
  refine wa_lstore_n X (lv' := [(2, .inr (.inl (0 : Int64))), (0, .inr (.inr (11, 1))), (1, .inl a1)]) dX11_feesOf_1 rfl (by decide) rfl ?_
  refine wa_iconst X dX11_feesOf_2 kc0 ?_
  refine wa_istore X (lv' := [(4, .inl (0 : Int32)), (2, .inr (.inl (0 : Int64))), (0, .inr (.inr (11, 1))), (1, .inl a1)]) dX11_feesOf_3 (by decide) rfl ?_
  obtain ⟨I3, ⟨n7, i5⟩, b6⟩ := hv
  refine wa_lv (lv' := [(0, .inr (.inr (11, 1))), (1, .inl a1), (2, .inr (.inl (0 : Int64))), (4, .inl (0 : Int32))]) [2, 3, 1, 0] rfl ?_
  suffices L8 : ∀ N4 : Nat, ∀ x1 : Int64, ∀ x2 : Int32, I3 N4 x1 x2 → wa Z 0 0 S 5 [(0, .inr (.inr (11, 1))), (1, .inl a1), (2, .inr (.inl x1)), (4, .inl x2)] [] from L8 _ _ _ i5
  clear i5
  intro N4
  induction N4 using Nat.strongRecOn with
  | _ N4 h9 =>
    intro x1 x2 j10
    have hv := b6 N4 x1 x2 j10
    refine wa_iload X 3 rfl dX11_feesOf_5 ?_
    refine wa_aload_n X 0 rfl dX11_feesOf_7 rfl ?_
    refine wa_getI X (j := 24) hk_11 hc_11 i_11 (by decide) kw_1208 rfl dX11_feesOf_8 hs_1ne ?_
    refine wa_icmp_ge X (tgt := 44) dX11_feesOf_11 (by decide) (fun c11 => ?_) (fun c11 => ?_)
    · replace hv := hv.1 c11
      refine wa_lload_n X 2 rfl dX11_feesOf_44 rfl ?_
      exact wa_lreturn X E dX11_feesOf_45 (Nat.le_of_ble_eq_true rfl) (Nat.le_of_ble_eq_true rfl) ⟨hw, _, rfl, hv⟩
    · replace hv := hv.2 c11
      refine wa_lload_n X 2 rfl dX11_feesOf_14 rfl ?_
      refine wa_aload_n X 0 rfl dX11_feesOf_15 rfl ?_
      refine wa_getfw X hw (j := 32) (r := 1) hk_11 hc_11 i_11 (by decide) kw_1216 rfl rfl (by decide) rfl dX11_feesOf_16 hs_1ne ?_
      refine wa_iload X 3 rfl dX11_feesOf_19 ?_
      obtain ⟨o12, hv⟩ := hv
      refine wa_iald X hk_72 dX11_feesOf_21 hs_1ne o12 ?_
      refine wa_iload_n X 1 rfl dX11_feesOf_22 rfl ?_
      refine wa_icmp_ne X (tgt := 35) dX11_feesOf_23 (by decide) (fun c13 => ?_) (fun c13 => ?_)
      · replace hv := hv.1 c13
        refine wa_lconst X dX11_feesOf_35 kl0 ?_
        refine wa_ladd X dX11_feesOf_36 ?_
        refine wa_lstore_n X (lv' := [(2, .inr (.inl (x1 + (0 : Int64)))), (0, .inr (.inr (11, 1))), (1, .inl a1), (4, .inl x2)]) dX11_feesOf_37 rfl (by decide) rfl ?_
        refine wa_iinc X (v := (x2 + 1)) (lv' := [(4, .inl (x2 + 1)), (2, .inr (.inl (x1 + (0 : Int64)))), (0, .inr (.inr (11, 1))), (1, .inl a1)]) 3 rfl dX11_feesOf_38 rfl (by decide) rfl ?_
        refine wa_goto X (tgt := 5) dX11_feesOf_41 (by decide) ?_
        obtain ⟨q14, p15, hv⟩ := hv
        refine wa_lv (lv' := [(0, .inr (.inr (11, 1))), (1, .inl a1), (2, .inr (.inl (x1 + (0 : Int64)))), (4, .inl (x2 + 1))]) [2, 3, 1, 0] rfl ?_
        exact h9 q14 p15 _ _ hv
      · replace hv := hv.2 c13
        refine wa_aload_n X 0 rfl dX11_feesOf_26 rfl ?_
        refine wa_iload X 3 rfl dX11_feesOf_27 ?_
        obtain ⟨o16, hv⟩ := hv
        refine wa_callV X (As := [.inl x2]) (f_M_feeOf hw o16) hk_11 hc_11 rfl kw_1537 kw_66 kw_1534 kw_1536 kw_43 nd_X11_feeOf rfl rfl (Nat.le_of_ble_eq_true rfl) dX11_feesOf_29 hs_1ne ⟨⟨Nat.le_of_ble_eq_true rfl, Nat.le_of_ble_eq_true rfl⟩, Nat.le_of_ble_eq_true rfl, Nat.le_of_ble_eq_true rfl⟩ (hs_pdk0 ?_) (fun _ _ h => h.elim)
        refine wa_goto X (tgt := 36) dX11_feesOf_32 (by decide) ?_
        refine wa_ladd X dX11_feesOf_36 ?_
        refine wa_lstore_n X (lv' := [(2, .inr (.inl (x1 + (F_feeOf x2 S)))), (0, .inr (.inr (11, 1))), (1, .inl a1), (4, .inl x2)]) dX11_feesOf_37 rfl (by decide) rfl ?_
        refine wa_iinc X (v := (x2 + 1)) (lv' := [(4, .inl (x2 + 1)), (2, .inr (.inl (x1 + (F_feeOf x2 S)))), (0, .inr (.inr (11, 1))), (1, .inl a1)]) 3 rfl dX11_feesOf_38 rfl (by decide) rfl ?_
        refine wa_goto X (tgt := 5) dX11_feesOf_41 (by decide) ?_
        obtain ⟨q17, p18, hv⟩ := hv
        refine wa_lv (lv' := [(0, .inr (.inr (11, 1))), (1, .inl a1), (2, .inr (.inl (x1 + (F_feeOf x2 S)))), (4, .inl (x2 + 1))]) [2, 3, 1, 0] rfl ?_
        exact h9 q17 p18 _ _ hv
theorem v_M_feesOf {a1 : Int32} {S : hs_S} (hP : P_feesOf a1 S) : vc_M_feesOf a1 S (fun r S' => r = F_feesOf a1 S ∧ S' = S) := by
  obtain ⟨⟨g, hg, eg⟩, h30⟩ := hP
  unfold vc_M_feesOf F_feesOf
  rw [eg, hl_cl (by omega)]
  refine ⟨fun N x1 x2 => ∃ k, k ≤ g ∧ x2 = nI k ∧ x1 = mFs S a1 k ∧ N = g - k, ⟨g, 0, Nat.zero_le _, rfl, rfl, rfl⟩, ?_⟩
  rintro N x1 x2 ⟨k, hk, rfl, rfl, rfl⟩
  refine ⟨fun h => ?_, fun h => ?_⟩
  · have := hl_end (by omega) hk h
    subst this
    exact ⟨rfl, rfl⟩
  · have hk1 := hl_go (by omega) hk h
    have hc : (nI k).toNatClampNeg = k := hl_cl (by omega)
    rw [hc]
    have hx := hl_ix (k := k) (n := 80) (by omega) (by omega)
    exact ⟨hx, fun h1 => hl_nx hk1 (if_neg h1).symm, fun h1 => ⟨⟨hx, by rw [hc, h1]; exact h30⟩, hl_nx hk1 (if_pos h1).symm⟩⟩
theorem f_M_feesOf {a1 : Int32} {S : hs_S} (hw : hs_Wi S) (hP : P_feesOf a1 S) : hs_M 3 yX11_feesOf (.code yX11_feesOf cX11_feesOf 5 (some FieldType.long)) [.inr (.inr (11, 1)), .inl a1] S 0 0 (hs_pd (some (.inr (.inl (F_feesOf a1 S)))) S) hs_nX := hs_pdL (ok_M_feesOf hw (v_M_feesOf hP))

