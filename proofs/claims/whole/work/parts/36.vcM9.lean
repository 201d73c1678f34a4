/-- a row of numbers -/
def hs_rw (S : hs_S) (u : Nat) (q : Nat → Int32) : hs_S := (fun t i p => if t = u ∧ i = 1 then q p else S.1 t i p, S.2)
def dI (S T : hs_S) (i : Nat) : Nat → Int32
  | 0 => if S.1 81 1 i = T.1 81 1 i then (if S.1 82 1 i = T.1 82 1 i then (if S.1 83 1 i = T.1 83 1 i then 0 else 1) else 1) else 1
  | b + 1 => if dI S T i b = 0 then (if S.1 72 1 b = nI i then (if T.1 74 1 b = S.1 74 1 b then 0 else 1) else 0) else 1
def dC (S : hs_S) (U : Nat → hs_S) (g : Nat) : Nat → Int32
  | 0 => 0
  | i + 1 => if dI S (U (i + 1)) i g = 0 then dC S U g i + 0 else dC S U g i + 1
def P_clearsAll (S : hs_S) : Prop := (∃ n : Nat, n ≤ 30 ∧ S.1 11 1 36 = nI n ∧ ∀ k, k < n → P_clears (nI k) S) ∧ cN (S.1 11 1 24) 80
def R_clearsAll (S : hs_S) (r : Int32) (T : hs_S) : Prop := ∃ (q1 q2 : Nat → Int32) (U : Nat → hs_S), U 0 = hs_rw (hs_rw S 85 q1) 75 q2 ∧ ∀ n g : Nat, n ≤ 30 → S.1 11 1 36 = nI n → g ≤ 80 → S.1 11 1 24 = nI g → (∀ i, i < n → R_clears (nI i) (U i) (U (i + 1))) ∧ T = U n ∧ r = dC S U g n
def m_M_clearsAll (S : hs_S) (Q : Int32 → hs_S → Prop) : Prop := hs_M 7 yX11_clearsAll (.code yX11_clearsAll cX11_clearsAll 5 (some FieldType.int)) [.inr (.inr (11, 1))] S 0 0 (hs_qI Q) hs_nX
def vc_M_clearsAll (S : hs_S) (Q : Int32 → hs_S → Prop) : Prop := (∃ I2 : Nat → Int32 → hs_S → Prop, (∃ n7, I2 n7 (0 : Int32) S) ∧ (∀ N3 : Nat, ∀ x1 : Int32, ∀ S4 : hs_S, I2 N3 x1 S4 → (((S4.1 11 1 36) ≤ x1 → (∃ I13 : Nat → Int32 → hs_S → Prop, (∃ n18, I13 n18 (0 : Int32) S4) ∧ (∀ N14 : Nat, ∀ x12 : Int32, ∀ S15 : hs_S, I13 N14 x12 S15 → (((S15.1 11 1 24) ≤ x12 → (∃ I25 : Nat → Int32 → Int32 → hs_S → Prop, (∃ n30, I25 n30 (0 : Int32) (0 : Int32) S15) ∧ (∀ N26 : Nat, ∀ x23 : Int32, ∀ x24 : Int32, ∀ S27 : hs_S, I25 N26 x23 x24 S27 → (((S27.1 11 1 36) ≤ x24 → (Q x23 S27)) ∧ (¬ (S27.1 11 1 36) ≤ x24 → ((P_clears x24 S27) ∧ (∀ S36 : hs_S, R_clears x24 S27 S36 → ((0 ≤ ((3 : Int32) * x24).toInt ∧ ((3 : Int32) * x24).toInt < 90) ∧ ((0 ≤ x24.toInt ∧ x24.toInt < 30) ∧ (((¬ (S36.1 85 1 ((3 : Int32) * x24).toNatClampNeg) = (S36.1 81 1 x24.toNatClampNeg) → True) ∧ ((S36.1 85 1 ((3 : Int32) * x24).toNatClampNeg) = (S36.1 81 1 x24.toNatClampNeg) → ((0 ≤ (((3 : Int32) * x24) + (1 : Int32)).toInt ∧ (((3 : Int32) * x24) + (1 : Int32)).toInt < 90) ∧ ((¬ (S36.1 85 1 (((3 : Int32) * x24) + (1 : Int32)).toNatClampNeg) = (S36.1 82 1 x24.toNatClampNeg) → True) ∧ ((S36.1 85 1 (((3 : Int32) * x24) + (1 : Int32)).toNatClampNeg) = (S36.1 82 1 x24.toNatClampNeg) → ((0 ≤ (((3 : Int32) * x24) + (2 : Int32)).toInt ∧ (((3 : Int32) * x24) + (2 : Int32)).toInt < 90) ∧ (((S36.1 85 1 (((3 : Int32) * x24) + (2 : Int32)).toNatClampNeg) = (S36.1 83 1 x24.toNatClampNeg) → True) ∧ (¬ (S36.1 85 1 (((3 : Int32) * x24) + (2 : Int32)).toNatClampNeg) = (S36.1 83 1 x24.toNatClampNeg) → True)))))))) ∧ (∀ x41 : Int32, x41 = (if (S36.1 85 1 ((3 : Int32) * x24).toNatClampNeg) = (S36.1 81 1 x24.toNatClampNeg) then (if (S36.1 85 1 (((3 : Int32) * x24) + (1 : Int32)).toNatClampNeg) = (S36.1 82 1 x24.toNatClampNeg) then (if (S36.1 85 1 (((3 : Int32) * x24) + (2 : Int32)).toNatClampNeg) = (S36.1 83 1 x24.toNatClampNeg) then (0 : Int32) else (1 : Int32)) else (1 : Int32)) else (1 : Int32)) → (∃ I44 : Nat → Int32 → Int32 → Prop, (∃ n48, I44 n48 x41 (0 : Int32)) ∧ (∀ N45 : Nat, ∀ x42 : Int32, ∀ x43 : Int32, I44 N45 x42 x43 → (((S36.1 11 1 24) ≤ x43 → ((x42 = 0 → (∃ q54, q54 < N26 ∧ I25 q54 (x23 + (0 : Int32)) (x24 + 1) S36)) ∧ (¬ x42 = 0 → (∃ q56, q56 < N26 ∧ I25 q56 (x23 + (1 : Int32)) (x24 + 1) S36)))) ∧ (¬ (S36.1 11 1 24) ≤ x43 → ((¬ x42 = 0 → (∃ q59, q59 < N45 ∧ I44 q59 (1 : Int32) (x43 + 1))) ∧ (x42 = 0 → ((0 ≤ x43.toInt ∧ x43.toInt < 80) ∧ ((¬ (S36.1 72 1 x43.toNatClampNeg) = x24 → (∃ q63, q63 < N45 ∧ I44 q63 (0 : Int32) (x43 + 1))) ∧ ((S36.1 72 1 x43.toNatClampNeg) = x24 → (((S36.1 74 1 x43.toNatClampNeg) = (S36.1 75 1 x43.toNatClampNeg) → (∃ q66, q66 < N45 ∧ I44 q66 (0 : Int32) (x43 + 1))) ∧ (¬ (S36.1 74 1 x43.toNatClampNeg) = (S36.1 75 1 x43.toNatClampNeg) → (∃ q68, q68 < N45 ∧ I44 q68 (1 : Int32) (x43 + 1)))))))))))))))))))))))) ∧ (¬ (S15.1 11 1 24) ≤ x12 → ((0 ≤ x12.toInt ∧ x12.toInt < 80) ∧ (∀ S79 : hs_S, S79 = (hs_wI S15 75 1 x12.toNatClampNeg (S15.1 74 1 x12.toNatClampNeg)) → (∃ q80, q80 < N14 ∧ I13 q80 (x12 + 1) S79)))))))) ∧ (¬ (S4.1 11 1 36) ≤ x1 → ((0 ≤ x1.toInt ∧ x1.toInt < 30) ∧ ((0 ≤ ((3 : Int32) * x1).toInt ∧ ((3 : Int32) * x1).toInt < 90) ∧ (∀ S84 : hs_S, S84 = (hs_wI S4 85 1 ((3 : Int32) * x1).toNatClampNeg (S4.1 81 1 x1.toNatClampNeg)) → ((0 ≤ (((3 : Int32) * x1) + (1 : Int32)).toInt ∧ (((3 : Int32) * x1) + (1 : Int32)).toInt < 90) ∧ (∀ S86 : hs_S, S86 = (hs_wI S84 85 1 (((3 : Int32) * x1) + (1 : Int32)).toNatClampNeg (S84.1 82 1 x1.toNatClampNeg)) → ((0 ≤ (((3 : Int32) * x1) + (2 : Int32)).toInt ∧ (((3 : Int32) * x1) + (2 : Int32)).toInt < 90) ∧ (∀ S88 : hs_S, S88 = (hs_wI S86 85 1 (((3 : Int32) * x1) + (2 : Int32)).toNatClampNeg (S86.1 83 1 x1.toNatClampNeg)) → (∃ q89, q89 < N3 ∧ I2 q89 (x1 + 1) S88))))))))))))
set_option maxRecDepth 100000 in
set_option maxHeartbeats 4000000 in
theorem ok_M_clearsAll {S : hs_S} {Q : Int32 → hs_S → Prop} (hw : hs_Wi S) (hv : vc_M_clearsAll S Q) : m_M_clearsAll S Q := by
  unfold vc_M_clearsAll at hv
  refine hs_body (own := RX11) rfl rfl (Nat.le_of_ble_eq_true rfl) (fun Z X E N J0 => ?_)
  show wa Z 0 0 S 0 [(0, .inr (.inr (11, 1)))] []
  refine wa_iconst X dX11_clearsAll_0 kc0 ?_
  refine wa_istore_n X (lv' := [(1, .inl (0 : Int32)), (0, .inr (.inr (11, 1)))]) dX11_clearsAll_1 rfl (by decide) rfl ?_
  obtain ⟨I2, ⟨n7, i5⟩, b6⟩ := hv
  refine wa_lv (lv' := [(0, .inr (.inr (11, 1))), (1, .inl (0 : Int32))]) [1, 0] rfl ?_
  suffices L8 : ∀ N3 : Nat, ∀ x1 : Int32, ∀ S4 : hs_S, hs_Wi S4 → I2 N3 x1 S4 → wa Z 0 0 S4 2 [(0, .inr (.inr (11, 1))), (1, .inl x1)] [] from L8 _ _ _ hw i5
  clear hw
  clear i5
  intro N3
  induction N3 using Nat.strongRecOn with
  | _ N3 h9 =>
    intro x1 S4 hw j10
    have hv := b6 N3 x1 S4 j10
    refine wa_iload_n X 1 rfl dX11_clearsAll_2 rfl ?_
    refine wa_aload_n X 0 rfl dX11_clearsAll_3 rfl ?_
    refine wa_getI X (j := 36) hk_11 hc_11 i_11 (by decide) kw_1220 rfl dX11_clearsAll_4 hs_1ne ?_
    refine wa_icmp_ge X (tgt := 62) dX11_clearsAll_7 (by decide) (fun c11 => ?_) (fun c11 => ?_)
    · replace hv := hv.1 c11
      refine wa_iconst X dX11_clearsAll_62 kc0 ?_
      refine wa_istore_n X (lv' := [(1, .inl (0 : Int32)), (0, .inr (.inr (11, 1)))]) dX11_clearsAll_63 rfl (by decide) rfl ?_
      obtain ⟨I13, ⟨n18, i16⟩, b17⟩ := hv
      refine wa_lv (lv' := [(0, .inr (.inr (11, 1))), (1, .inl (0 : Int32))]) [1, 0] rfl ?_
      suffices L19 : ∀ N14 : Nat, ∀ x12 : Int32, ∀ S15 : hs_S, hs_Wi S15 → I13 N14 x12 S15 → wa Z 0 0 S15 64 [(0, .inr (.inr (11, 1))), (1, .inl x12)] [] from L19 _ _ _ hw i16
      clear hw
      clear i16
      intro N14
      induction N14 using Nat.strongRecOn with
      | _ N14 h20 =>
        intro x12 S15 hw j21
        have hv := b17 N14 x12 S15 j21
        refine wa_iload_n X 1 rfl dX11_clearsAll_64 rfl ?_
        refine wa_aload_n X 0 rfl dX11_clearsAll_65 rfl ?_
        refine wa_getI X (j := 24) hk_11 hc_11 i_11 (by decide) kw_1208 rfl dX11_clearsAll_66 hs_1ne ?_
        refine wa_icmp_ge X (tgt := 90) dX11_clearsAll_69 (by decide) (fun c22 => ?_) (fun c22 => ?_)
        · replace hv := hv.1 c22
          refine wa_iconst X dX11_clearsAll_90 kc0 ?_
          refine wa_istore_n X (lv' := [(1, .inl (0 : Int32)), (0, .inr (.inr (11, 1)))]) dX11_clearsAll_91 rfl (by decide) rfl ?_
          refine wa_iconst X dX11_clearsAll_92 kc0 ?_
          refine wa_istore_n X (lv' := [(2, .inl (0 : Int32)), (1, .inl (0 : Int32)), (0, .inr (.inr (11, 1)))]) dX11_clearsAll_93 rfl (by decide) rfl ?_
          obtain ⟨I25, ⟨n30, i28⟩, b29⟩ := hv
          refine wa_lv (lv' := [(0, .inr (.inr (11, 1))), (1, .inl (0 : Int32)), (2, .inl (0 : Int32))]) [2, 1, 0] rfl ?_
          suffices L31 : ∀ N26 : Nat, ∀ x23 : Int32, ∀ x24 : Int32, ∀ S27 : hs_S, hs_Wi S27 → I25 N26 x23 x24 S27 → wa Z 0 0 S27 94 [(0, .inr (.inr (11, 1))), (1, .inl x23), (2, .inl x24)] [] from L31 _ _ _ _ hw i28
          clear hw
          clear i28
          intro N26
          induction N26 using Nat.strongRecOn with
          | _ N26 h32 =>
            intro x23 x24 S27 hw j33
            have hv := b29 N26 x23 x24 S27 j33
            refine wa_iload_n X 2 rfl dX11_clearsAll_94 rfl ?_
            refine wa_aload_n X 0 rfl dX11_clearsAll_95 rfl ?_
            refine wa_getI X (j := 36) hk_11 hc_11 i_11 (by decide) kw_1220 rfl dX11_clearsAll_96 hs_1ne ?_
            refine wa_icmp_ge X (tgt := 242) dX11_clearsAll_99 (by decide) (fun c34 => ?_) (fun c34 => ?_)
            · replace hv := hv.1 c34
              refine wa_iload_n X 1 rfl dX11_clearsAll_242 rfl ?_
              exact wa_ireturn X E dX11_clearsAll_243 (Nat.le_of_ble_eq_true rfl) (Nat.le_of_ble_eq_true rfl) (Or.inl rfl) ⟨hw, _, rfl, hv⟩
            · replace hv := hv.2 c34
              refine wa_aload_n X 0 rfl dX11_clearsAll_102 rfl ?_
              refine wa_iload_n X 2 rfl dX11_clearsAll_103 rfl ?_
              obtain ⟨o35, hv⟩ := hv
              refine wa_callV X (As := [.inl x24]) (ok_M_clears hw (v_M_clears o35)) hk_11 hc_11 rfl kw_1562 kw_66 kw_1559 kw_1561 kw_46 nd_X11_clears rfl rfl (Nat.le_of_ble_eq_true rfl) dX11_clearsAll_104 hs_1ne ⟨⟨Nat.le_of_ble_eq_true rfl, Nat.le_of_ble_eq_true rfl⟩, Nat.le_of_ble_eq_true rfl, Nat.le_of_ble_eq_true rfl⟩ (fun _ S36 h => ?_) (fun _ _ h => h.elim)
              obtain ⟨hw, rfl, g38⟩ := h
              replace hv := hv S36 g38
              refine wa_aload_n X 0 rfl dX11_clearsAll_107 rfl ?_
              refine wa_getfw X hw (j := 45) (r := 1) hk_11 hc_11 i_11 (by decide) kw_1229 rfl rfl (by decide) rfl dX11_clearsAll_108 hs_1ne ?_
              refine wa_iconst X dX11_clearsAll_111 kc3 ?_
              refine wa_iload_n X 2 rfl dX11_clearsAll_112 rfl ?_
              refine wa_imul X dX11_clearsAll_113 ?_
              obtain ⟨o39, hv⟩ := hv
              refine wa_iald X hk_85 dX11_clearsAll_114 hs_1ne o39 ?_
              refine wa_aload_n X 0 rfl dX11_clearsAll_115 rfl ?_
              refine wa_getfw X hw (j := 41) (r := 1) hk_11 hc_11 i_11 (by decide) kw_1225 rfl rfl (by decide) rfl dX11_clearsAll_116 hs_1ne ?_
              refine wa_iload_n X 2 rfl dX11_clearsAll_119 rfl ?_
              obtain ⟨o40, hv⟩ := hv
              refine wa_iald X hk_81 dX11_clearsAll_120 hs_1ne o40 ?_
              obtain ⟨o71, hv⟩ := hv
              have k70 : ∀ (x41 : Int32), x41 = (if (S36.1 85 1 ((3 : Int32) * x24).toNatClampNeg) = (S36.1 81 1 x24.toNatClampNeg) then (if (S36.1 85 1 (((3 : Int32) * x24) + (1 : Int32)).toNatClampNeg) = (S36.1 82 1 x24.toNatClampNeg) then (if (S36.1 85 1 (((3 : Int32) * x24) + (2 : Int32)).toNatClampNeg) = (S36.1 83 1 x24.toNatClampNeg) then (0 : Int32) else (1 : Int32)) else (1 : Int32)) else (1 : Int32)) → wa Z 0 0 S36 167 [(0, .inr (.inr (11, 1))), (1, .inl x23), (2, .inl x24)] [.inl x41] := by
                intro x41 hE
                replace hv := hv _ hE
                refine wa_istore_n X (lv' := [(3, .inl x41), (0, .inr (.inr (11, 1))), (1, .inl x23), (2, .inl x24)]) dX11_clearsAll_167 rfl (by decide) rfl ?_
                refine wa_iconst X dX11_clearsAll_168 kc0 ?_
                refine wa_istore X (lv' := [(4, .inl (0 : Int32)), (3, .inl x41), (0, .inr (.inr (11, 1))), (1, .inl x23), (2, .inl x24)]) dX11_clearsAll_169 (by decide) rfl ?_
                obtain ⟨I44, ⟨n48, i46⟩, b47⟩ := hv
                refine wa_lv (lv' := [(0, .inr (.inr (11, 1))), (1, .inl x23), (2, .inl x24), (3, .inl x41), (4, .inl (0 : Int32))]) [2, 3, 4, 1, 0] rfl ?_
                suffices L49 : ∀ N45 : Nat, ∀ x42 : Int32, ∀ x43 : Int32, I44 N45 x42 x43 → wa Z 0 0 S36 171 [(0, .inr (.inr (11, 1))), (1, .inl x23), (2, .inl x24), (3, .inl x42), (4, .inl x43)] [] from L49 _ _ _ i46
                clear i46
                intro N45
                induction N45 using Nat.strongRecOn with
                | _ N45 h50 =>
                  intro x42 x43 j51
                  have hv := b47 N45 x42 x43 j51
                  refine wa_iload X 4 rfl dX11_clearsAll_171 ?_
                  refine wa_aload_n X 0 rfl dX11_clearsAll_173 rfl ?_
                  refine wa_getI X (j := 24) hk_11 hc_11 i_11 (by decide) kw_1208 rfl dX11_clearsAll_174 hs_1ne ?_
                  refine wa_icmp_ge X (tgt := 224) dX11_clearsAll_177 (by decide) (fun c52 => ?_) (fun c52 => ?_)
                  · replace hv := hv.1 c52
                    refine wa_iload_n X 1 rfl dX11_clearsAll_224 rfl ?_
                    refine wa_iload_n X 3 rfl dX11_clearsAll_225 rfl ?_
                    refine wa_if_eq X (tgt := 233) dX11_clearsAll_226 (by decide) (fun c53 => ?_) (fun c53 => ?_)
                    · replace hv := hv.1 c53
                      refine wa_iconst X dX11_clearsAll_233 kc0 ?_
                      refine wa_iadd X dX11_clearsAll_234 ?_
                      refine wa_istore_n X (lv' := [(1, .inl (x23 + (0 : Int32))), (0, .inr (.inr (11, 1))), (2, .inl x24), (3, .inl x42), (4, .inl x43)]) dX11_clearsAll_235 rfl (by decide) rfl ?_
                      refine wa_iinc X (v := (x24 + 1)) (lv' := [(2, .inl (x24 + 1)), (1, .inl (x23 + (0 : Int32))), (0, .inr (.inr (11, 1))), (3, .inl x42), (4, .inl x43)]) 2 rfl dX11_clearsAll_236 rfl (by decide) rfl ?_
                      refine wa_goto X (tgt := 94) dX11_clearsAll_239 (by decide) ?_
                      obtain ⟨q54, p55, hv⟩ := hv
                      refine wa_lv (lv' := [(0, .inr (.inr (11, 1))), (1, .inl (x23 + (0 : Int32))), (2, .inl (x24 + 1))]) [2, 1, 0] rfl ?_
                      exact h32 q54 p55 _ _ _ hw hv
                    · replace hv := hv.2 c53
                      refine wa_iconst X dX11_clearsAll_229 kc1 ?_
                      refine wa_goto X (tgt := 234) dX11_clearsAll_230 (by decide) ?_
                      refine wa_iadd X dX11_clearsAll_234 ?_
                      refine wa_istore_n X (lv' := [(1, .inl (x23 + (1 : Int32))), (0, .inr (.inr (11, 1))), (2, .inl x24), (3, .inl x42), (4, .inl x43)]) dX11_clearsAll_235 rfl (by decide) rfl ?_
                      refine wa_iinc X (v := (x24 + 1)) (lv' := [(2, .inl (x24 + 1)), (1, .inl (x23 + (1 : Int32))), (0, .inr (.inr (11, 1))), (3, .inl x42), (4, .inl x43)]) 2 rfl dX11_clearsAll_236 rfl (by decide) rfl ?_
                      refine wa_goto X (tgt := 94) dX11_clearsAll_239 (by decide) ?_
                      obtain ⟨q56, p57, hv⟩ := hv
                      refine wa_lv (lv' := [(0, .inr (.inr (11, 1))), (1, .inl (x23 + (1 : Int32))), (2, .inl (x24 + 1))]) [2, 1, 0] rfl ?_
                      exact h32 q56 p57 _ _ _ hw hv
                  · replace hv := hv.2 c52
                    refine wa_iload_n X 3 rfl dX11_clearsAll_180 rfl ?_
                    refine wa_if_ne X (tgt := 212) dX11_clearsAll_181 (by decide) (fun c58 => ?_) (fun c58 => ?_)
                    · replace hv := hv.1 c58
                      refine wa_iconst X dX11_clearsAll_212 kc1 ?_
                      refine wa_goto X (tgt := 217) dX11_clearsAll_213 (by decide) ?_
                      refine wa_istore_n X (lv' := [(3, .inl (1 : Int32)), (0, .inr (.inr (11, 1))), (1, .inl x23), (2, .inl x24), (4, .inl x43)]) dX11_clearsAll_217 rfl (by decide) rfl ?_
                      refine wa_iinc X (v := (x43 + 1)) (lv' := [(4, .inl (x43 + 1)), (3, .inl (1 : Int32)), (0, .inr (.inr (11, 1))), (1, .inl x23), (2, .inl x24)]) 4 rfl dX11_clearsAll_218 rfl (by decide) rfl ?_
                      refine wa_goto X (tgt := 171) dX11_clearsAll_221 (by decide) ?_
                      obtain ⟨q59, p60, hv⟩ := hv
                      refine wa_lv (lv' := [(0, .inr (.inr (11, 1))), (1, .inl x23), (2, .inl x24), (3, .inl (1 : Int32)), (4, .inl (x43 + 1))]) [2, 3, 4, 1, 0] rfl ?_
                      exact h50 q59 p60 _ _ hv
                    · replace hv := hv.2 c58
                      refine wa_aload_n X 0 rfl dX11_clearsAll_184 rfl ?_
                      refine wa_getfw X hw (j := 32) (r := 1) hk_11 hc_11 i_11 (by decide) kw_1216 rfl rfl (by decide) rfl dX11_clearsAll_185 hs_1ne ?_
                      refine wa_iload X 4 rfl dX11_clearsAll_188 ?_
                      obtain ⟨o61, hv⟩ := hv
                      refine wa_iald X hk_72 dX11_clearsAll_190 hs_1ne o61 ?_
                      refine wa_iload_n X 2 rfl dX11_clearsAll_191 rfl ?_
                      refine wa_icmp_ne X (tgt := 216) dX11_clearsAll_192 (by decide) (fun c62 => ?_) (fun c62 => ?_)
                      · replace hv := hv.1 c62
                        refine wa_iconst X dX11_clearsAll_216 kc0 ?_
                        refine wa_istore_n X (lv' := [(3, .inl (0 : Int32)), (0, .inr (.inr (11, 1))), (1, .inl x23), (2, .inl x24), (4, .inl x43)]) dX11_clearsAll_217 rfl (by decide) rfl ?_
                        refine wa_iinc X (v := (x43 + 1)) (lv' := [(4, .inl (x43 + 1)), (3, .inl (0 : Int32)), (0, .inr (.inr (11, 1))), (1, .inl x23), (2, .inl x24)]) 4 rfl dX11_clearsAll_218 rfl (by decide) rfl ?_
                        refine wa_goto X (tgt := 171) dX11_clearsAll_221 (by decide) ?_
                        obtain ⟨q63, p64, hv⟩ := hv
                        refine wa_lv (lv' := [(0, .inr (.inr (11, 1))), (1, .inl x23), (2, .inl x24), (3, .inl (0 : Int32)), (4, .inl (x43 + 1))]) [2, 3, 4, 1, 0] rfl ?_
                        exact h50 q63 p64 _ _ hv
                      · replace hv := hv.2 c62
                        refine wa_aload_n X 0 rfl dX11_clearsAll_195 rfl ?_
                        refine wa_getfw X hw (j := 34) (r := 1) hk_11 hc_11 i_11 (by decide) kw_1218 rfl rfl (by decide) rfl dX11_clearsAll_196 hs_1ne ?_
                        refine wa_iload X 4 rfl dX11_clearsAll_199 ?_
                        refine wa_iald X hk_74 dX11_clearsAll_201 hs_1ne o61 ?_
                        refine wa_aload_n X 0 rfl dX11_clearsAll_202 rfl ?_
                        refine wa_getfw X hw (j := 35) (r := 1) hk_11 hc_11 i_11 (by decide) kw_1219 rfl rfl (by decide) rfl dX11_clearsAll_203 hs_1ne ?_
                        refine wa_iload X 4 rfl dX11_clearsAll_206 ?_
                        refine wa_iald X hk_75 dX11_clearsAll_208 hs_1ne o61 ?_
                        refine wa_icmp_eq X (tgt := 216) dX11_clearsAll_209 (by decide) (fun c65 => ?_) (fun c65 => ?_)
                        · replace hv := hv.1 c65
                          refine wa_iconst X dX11_clearsAll_216 kc0 ?_
                          refine wa_istore_n X (lv' := [(3, .inl (0 : Int32)), (0, .inr (.inr (11, 1))), (1, .inl x23), (2, .inl x24), (4, .inl x43)]) dX11_clearsAll_217 rfl (by decide) rfl ?_
                          refine wa_iinc X (v := (x43 + 1)) (lv' := [(4, .inl (x43 + 1)), (3, .inl (0 : Int32)), (0, .inr (.inr (11, 1))), (1, .inl x23), (2, .inl x24)]) 4 rfl dX11_clearsAll_218 rfl (by decide) rfl ?_
                          refine wa_goto X (tgt := 171) dX11_clearsAll_221 (by decide) ?_
                          obtain ⟨q66, p67, hv⟩ := hv
                          refine wa_lv (lv' := [(0, .inr (.inr (11, 1))), (1, .inl x23), (2, .inl x24), (3, .inl (0 : Int32)), (4, .inl (x43 + 1))]) [2, 3, 4, 1, 0] rfl ?_
                          exact h50 q66 p67 _ _ hv
                        · replace hv := hv.2 c65
                          refine wa_iconst X dX11_clearsAll_212 kc1 ?_
                          refine wa_goto X (tgt := 217) dX11_clearsAll_213 (by decide) ?_
                          refine wa_istore_n X (lv' := [(3, .inl (1 : Int32)), (0, .inr (.inr (11, 1))), (1, .inl x23), (2, .inl x24), (4, .inl x43)]) dX11_clearsAll_217 rfl (by decide) rfl ?_
                          refine wa_iinc X (v := (x43 + 1)) (lv' := [(4, .inl (x43 + 1)), (3, .inl (1 : Int32)), (0, .inr (.inr (11, 1))), (1, .inl x23), (2, .inl x24)]) 4 rfl dX11_clearsAll_218 rfl (by decide) rfl ?_
                          refine wa_goto X (tgt := 171) dX11_clearsAll_221 (by decide) ?_
                          obtain ⟨q68, p69, hv⟩ := hv
                          refine wa_lv (lv' := [(0, .inr (.inr (11, 1))), (1, .inl x23), (2, .inl x24), (3, .inl (1 : Int32)), (4, .inl (x43 + 1))]) [2, 3, 4, 1, 0] rfl ?_
                          exact h50 q68 p69 _ _ hv
              replace hv := o71
              refine wa_icmp_ne X (tgt := 162) dX11_clearsAll_121 (by decide) (fun c73 => ?_) (fun c73 => ?_)
              · replace hv := hv.1 c73
                refine wa_iconst X dX11_clearsAll_162 kc1 ?_
                refine wa_goto X (tgt := 167) dX11_clearsAll_163 (by decide) ?_
                refine wa_lv (lv' := [(0, .inr (.inr (11, 1))), (1, .inl x23), (2, .inl x24)]) [0, 1, 2] rfl ?_
                exact wa_wid (Nat.le_of_ble_eq_true rfl) (Nat.le_of_ble_eq_true rfl) (k70 _  (by rw [if_neg c73]))
              · replace hv := hv.2 c73
                refine wa_aload_n X 0 rfl dX11_clearsAll_124 rfl ?_
                refine wa_getfw X hw (j := 45) (r := 1) hk_11 hc_11 i_11 (by decide) kw_1229 rfl rfl (by decide) rfl dX11_clearsAll_125 hs_1ne ?_
                refine wa_iconst X dX11_clearsAll_128 kc3 ?_
                refine wa_iload_n X 2 rfl dX11_clearsAll_129 rfl ?_
                refine wa_imul X dX11_clearsAll_130 ?_
                refine wa_iconst X dX11_clearsAll_131 kc1 ?_
                refine wa_iadd X dX11_clearsAll_132 ?_
                obtain ⟨o74, hv⟩ := hv
                refine wa_iald X hk_85 dX11_clearsAll_133 hs_1ne o74 ?_
                refine wa_aload_n X 0 rfl dX11_clearsAll_134 rfl ?_
                refine wa_getfw X hw (j := 42) (r := 1) hk_11 hc_11 i_11 (by decide) kw_1226 rfl rfl (by decide) rfl dX11_clearsAll_135 hs_1ne ?_
                refine wa_iload_n X 2 rfl dX11_clearsAll_138 rfl ?_
                refine wa_iald X hk_82 dX11_clearsAll_139 hs_1ne o40 ?_
                refine wa_icmp_ne X (tgt := 162) dX11_clearsAll_140 (by decide) (fun c75 => ?_) (fun c75 => ?_)
                · replace hv := hv.1 c75
                  refine wa_iconst X dX11_clearsAll_162 kc1 ?_
                  refine wa_goto X (tgt := 167) dX11_clearsAll_163 (by decide) ?_
                  refine wa_lv (lv' := [(0, .inr (.inr (11, 1))), (1, .inl x23), (2, .inl x24)]) [0, 1, 2] rfl ?_
                  exact wa_wid (Nat.le_of_ble_eq_true rfl) (Nat.le_of_ble_eq_true rfl) (k70 _  (by rw [if_pos c73, if_neg c75]))
                · replace hv := hv.2 c75
                  refine wa_aload_n X 0 rfl dX11_clearsAll_143 rfl ?_
                  refine wa_getfw X hw (j := 45) (r := 1) hk_11 hc_11 i_11 (by decide) kw_1229 rfl rfl (by decide) rfl dX11_clearsAll_144 hs_1ne ?_
                  refine wa_iconst X dX11_clearsAll_147 kc3 ?_
                  refine wa_iload_n X 2 rfl dX11_clearsAll_148 rfl ?_
                  refine wa_imul X dX11_clearsAll_149 ?_
                  refine wa_iconst X dX11_clearsAll_150 kc2 ?_
                  refine wa_iadd X dX11_clearsAll_151 ?_
                  obtain ⟨o76, hv⟩ := hv
                  refine wa_iald X hk_85 dX11_clearsAll_152 hs_1ne o76 ?_
                  refine wa_aload_n X 0 rfl dX11_clearsAll_153 rfl ?_
                  refine wa_getfw X hw (j := 43) (r := 1) hk_11 hc_11 i_11 (by decide) kw_1227 rfl rfl (by decide) rfl dX11_clearsAll_154 hs_1ne ?_
                  refine wa_iload_n X 2 rfl dX11_clearsAll_157 rfl ?_
                  refine wa_iald X hk_83 dX11_clearsAll_158 hs_1ne o40 ?_
                  refine wa_icmp_eq X (tgt := 166) dX11_clearsAll_159 (by decide) (fun c77 => ?_) (fun c77 => ?_)
                  · replace hv := hv.1 c77
                    refine wa_iconst X dX11_clearsAll_166 kc0 ?_
                    refine wa_lv (lv' := [(0, .inr (.inr (11, 1))), (1, .inl x23), (2, .inl x24)]) [0, 1, 2] rfl ?_
                    exact wa_wid (Nat.le_of_ble_eq_true rfl) (Nat.le_of_ble_eq_true rfl) (k70 _  (by rw [if_pos c73, if_pos c75, if_pos c77]))
                  · replace hv := hv.2 c77
                    refine wa_iconst X dX11_clearsAll_162 kc1 ?_
                    refine wa_goto X (tgt := 167) dX11_clearsAll_163 (by decide) ?_
                    refine wa_lv (lv' := [(0, .inr (.inr (11, 1))), (1, .inl x23), (2, .inl x24)]) [0, 1, 2] rfl ?_
                    exact wa_wid (Nat.le_of_ble_eq_true rfl) (Nat.le_of_ble_eq_true rfl) (k70 _  (by rw [if_pos c73, if_pos c75, if_neg c77]))
        · replace hv := hv.2 c22
          refine wa_aload_n X 0 rfl dX11_clearsAll_72 rfl ?_
          refine wa_getfw X hw (j := 35) (r := 1) hk_11 hc_11 i_11 (by decide) kw_1219 rfl rfl (by decide) rfl dX11_clearsAll_73 hs_1ne ?_
          refine wa_iload_n X 1 rfl dX11_clearsAll_76 rfl ?_
          refine wa_aload_n X 0 rfl dX11_clearsAll_77 rfl ?_
          refine wa_getfw X hw (j := 34) (r := 1) hk_11 hc_11 i_11 (by decide) kw_1218 rfl rfl (by decide) rfl dX11_clearsAll_78 hs_1ne ?_
          refine wa_iload_n X 1 rfl dX11_clearsAll_81 rfl ?_
          obtain ⟨o78, hv⟩ := hv
          refine wa_iald X hk_74 dX11_clearsAll_82 hs_1ne o78 ?_
          refine wa_iast X hk_75 dX11_clearsAll_83 hs_1ne o78 (hs_eqS fun S79 hS79 => ?_)
          replace hv := hv S79 hS79
          replace hw : hs_Wi S79 := hS79 ▸ hs_Wi_I hw
          refine wa_iinc X (v := (x12 + 1)) (lv' := [(1, .inl (x12 + 1)), (0, .inr (.inr (11, 1)))]) 1 rfl dX11_clearsAll_84 rfl (by decide) rfl ?_
          refine wa_goto X (tgt := 64) dX11_clearsAll_87 (by decide) ?_
          obtain ⟨q80, p81, hv⟩ := hv
          refine wa_lv (lv' := [(0, .inr (.inr (11, 1))), (1, .inl (x12 + 1))]) [1, 0] rfl ?_
          exact h20 q80 p81 _ _ hw hv
    · replace hv := hv.2 c11
      refine wa_aload_n X 0 rfl dX11_clearsAll_10 rfl ?_
      refine wa_getfw X hw (j := 45) (r := 1) hk_11 hc_11 i_11 (by decide) kw_1229 rfl rfl (by decide) rfl dX11_clearsAll_11 hs_1ne ?_
      refine wa_iconst X dX11_clearsAll_14 kc3 ?_
      refine wa_iload_n X 1 rfl dX11_clearsAll_15 rfl ?_
      refine wa_imul X dX11_clearsAll_16 ?_
      refine wa_aload_n X 0 rfl dX11_clearsAll_17 rfl ?_
      refine wa_getfw X hw (j := 41) (r := 1) hk_11 hc_11 i_11 (by decide) kw_1225 rfl rfl (by decide) rfl dX11_clearsAll_18 hs_1ne ?_
      refine wa_iload_n X 1 rfl dX11_clearsAll_21 rfl ?_
      obtain ⟨o82, hv⟩ := hv
      refine wa_iald X hk_81 dX11_clearsAll_22 hs_1ne o82 ?_
      obtain ⟨o83, hv⟩ := hv
      refine wa_iast X hk_85 dX11_clearsAll_23 hs_1ne o83 (hs_eqS fun S84 hS84 => ?_)
      replace hv := hv S84 hS84
      replace hw : hs_Wi S84 := hS84 ▸ hs_Wi_I hw
      refine wa_aload_n X 0 rfl dX11_clearsAll_24 rfl ?_
      refine wa_getfw X hw (j := 45) (r := 1) hk_11 hc_11 i_11 (by decide) kw_1229 rfl rfl (by decide) rfl dX11_clearsAll_25 hs_1ne ?_
      refine wa_iconst X dX11_clearsAll_28 kc3 ?_
      refine wa_iload_n X 1 rfl dX11_clearsAll_29 rfl ?_
      refine wa_imul X dX11_clearsAll_30 ?_
      refine wa_iconst X dX11_clearsAll_31 kc1 ?_
      refine wa_iadd X dX11_clearsAll_32 ?_
      refine wa_aload_n X 0 rfl dX11_clearsAll_33 rfl ?_
      refine wa_getfw X hw (j := 42) (r := 1) hk_11 hc_11 i_11 (by decide) kw_1226 rfl rfl (by decide) rfl dX11_clearsAll_34 hs_1ne ?_
      refine wa_iload_n X 1 rfl dX11_clearsAll_37 rfl ?_
      refine wa_iald X hk_82 dX11_clearsAll_38 hs_1ne o82 ?_
      obtain ⟨o85, hv⟩ := hv
      refine wa_iast X hk_85 dX11_clearsAll_39 hs_1ne o85 (hs_eqS fun S86 hS86 => ?_)
      replace hv := hv S86 hS86
      replace hw : hs_Wi S86 := hS86 ▸ hs_Wi_I hw
      refine wa_aload_n X 0 rfl dX11_clearsAll_40 rfl ?_
      refine wa_getfw X hw (j := 45) (r := 1) hk_11 hc_11 i_11 (by decide) kw_1229 rfl rfl (by decide) rfl dX11_clearsAll_41 hs_1ne ?_
      refine wa_iconst X dX11_clearsAll_44 kc3 ?_
      refine wa_iload_n X 1 rfl dX11_clearsAll_45 rfl ?_
      refine wa_imul X dX11_clearsAll_46 ?_
      refine wa_iconst X dX11_clearsAll_47 kc2 ?_
      refine wa_iadd X dX11_clearsAll_48 ?_
      refine wa_aload_n X 0 rfl dX11_clearsAll_49 rfl ?_
      refine wa_getfw X hw (j := 43) (r := 1) hk_11 hc_11 i_11 (by decide) kw_1227 rfl rfl (by decide) rfl dX11_clearsAll_50 hs_1ne ?_
      refine wa_iload_n X 1 rfl dX11_clearsAll_53 rfl ?_
      refine wa_iald X hk_83 dX11_clearsAll_54 hs_1ne o82 ?_
      obtain ⟨o87, hv⟩ := hv
      refine wa_iast X hk_85 dX11_clearsAll_55 hs_1ne o87 (hs_eqS fun S88 hS88 => ?_)
      replace hv := hv S88 hS88
      replace hw : hs_Wi S88 := hS88 ▸ hs_Wi_I hw
      refine wa_iinc X (v := (x1 + 1)) (lv' := [(1, .inl (x1 + 1)), (0, .inr (.inr (11, 1)))]) 1 rfl dX11_clearsAll_56 rfl (by decide) rfl ?_
      refine wa_goto X (tgt := 2) dX11_clearsAll_59 (by decide) ?_
      obtain ⟨q89, p90, hv⟩ := hv
      refine wa_lv (lv' := [(0, .inr (.inr (11, 1))), (1, .inl (x1 + 1))]) [1, 0] rfl ?_
      exact h9 q89 p90 _ _ hw hv
theorem hs_rw_w {S : hs_S} {u : Nat} {q : Nat → Int32} {b : Nat} {x : Int32} : hs_wI (hs_rw S u q) u 1 b x = hs_rw S u (fun k => if k = b then x else q k) := by
  have : (hs_wI (hs_rw S u q) u 1 b x).1 = (hs_rw S u (fun k => if k = b then x else q k)).1 := by
    funext t i p
    show (if t = u ∧ i = 1 ∧ p = b then x else if t = u ∧ i = 1 then q p else S.1 t i p) = if t = u ∧ i = 1 then (if p = b then x else q p) else S.1 t i p
    by_cases h : t = u ∧ i = 1
    · rw [if_pos h, if_pos h]
      by_cases w : p = b
      · rw [if_pos ⟨h.1, h.2, w⟩, if_pos w]
      · rw [if_neg fun z => w z.2.2, if_neg w]
    · rw [if_neg h, if_neg h, if_neg fun z => h ⟨z.1, z.2.1⟩]
  exact Prod.ext this rfl
theorem hs_rw_0 {S : hs_S} {u : Nat} : hs_rw S u (S.1 u 1) = S := by
  have : (hs_rw S u (S.1 u 1)).1 = S.1 := by
    funext t i p
    show (if t = u ∧ i = 1 then S.1 u 1 p else S.1 t i p) = S.1 t i p
    by_cases h : t = u ∧ i = 1
    · rw [if_pos h, h.1, h.2]
    · rw [if_neg h]
  exact Prod.ext this rfl
theorem R_c2 {r : Int32} {S T : hs_S} (h : R_clears r S T) : hs_c2 T = hs_c2 S := by
  obtain ⟨f, v, f2, v2, q, _, h2, _⟩ := h
  rw [c2_of h2, c2_got, c2_I rfl, c2_I rfl, c2_I rfl, c2_I rfl]
theorem P_c2 {r : Int32} {S T : hs_S} (h : hs_c2 T = hs_c2 S) (p : P_clears r S) : P_clears r T := by
  obtain ⟨p1, p2, p3, g, hg, eg, hm⟩ := p
  refine ⟨p1, ?_, ?_, g, hg, (c2_clI h rfl).trans eg, fun b hb => ?_⟩
  · rw [c2_clI h rfl]; exact p2
  · unfold clE
    rw [c2_clI h rfl]; exact c2_mOk h p3
  · rw [c2_clI h rfl]; exact hm b hb
theorem P_rw {r : Int32} {S : hs_S} {u : Nat} {q : Nat → Int32} (hu : u = 85 ∨ u = 75) (p : P_clears r S) : P_clears r (hs_rw S u q) := by
  have hc : ∀ t, t ≠ 85 → t ≠ 75 → (hs_rw S u q).1 t 1 = S.1 t 1 := fun t h1 h2 => by
    funext k
    exact if_neg fun z => by rcases hu with w | w <;> omega
  have hE : ∀ c e, F_editAt c e (hs_rw S u q) = F_editAt c e S := fun c e => by
    have hk : ∀ k, mEd (hs_rw S u q) c e k = mEd S c e k := fun k => by
      induction k with
      | zero => rfl
      | succ k ih =>
        unfold mEd
        rw [ih, hc 53 (by decide) (by decide), hc 56 (by decide) (by decide), hc 58 (by decide) (by decide)]
    unfold F_editAt
    rw [hc 11 (by decide) (by decide), hk]
  have hS : ∀ c e, mSz (hs_rw S u q) c e = mSz S c e := fun c e => by unfold mSz; rw [hE, hc 57 (by decide) (by decide)]
  have hW : ∀ c e i, mWi (hs_rw S u q) c e i = mWi S c e i := fun c e i => by unfold mWi; rw [hE]
  have hH : ∀ c e i, mWh (hs_rw S u q) c e i = mWh S c e i := fun c e i => by unfold mWh; rw [hW, hc 59 (by decide) (by decide)]
  have hG : ∀ c e i, mGc (mWi (hs_rw S u q) c e i) (hs_rw S u q) = mGc (mWi S c e i) S := fun c e i => by unfold mGc; rw [hW, hc 59 (by decide) (by decide)]
  have hT : ∀ c e i, ht (hs_rw S u q) c e i = ht S c e i := fun c e i => by
    induction i with
    | zero => rfl
    | succ i ih => unfold ht; rw [ih, hH]
  obtain ⟨p1, p2, ⟨q1, q2, q3, q4, q5, q6, ⟨g', hg', eg', hb'⟩⟩, g, hg, eg, hm⟩ := p
  refine ⟨p1, ?_, ⟨?_, ?_, ?_, ?_, ?_, ?_, ⟨g', hg', ?_, fun b hb => ?_⟩⟩, g, hg, ?_, fun b hb => ?_⟩
  · rw [hc 77 (by decide) (by decide)]; exact p2
  · unfold clE mWF
    rw [hc 78 (by decide) (by decide)]
    simp only [hS, hE, hT, hH, hG]
    exact q1
  · unfold clE mWE
    rw [hc 78 (by decide) (by decide), hc 57 (by decide) (by decide)]
    simp only [hE]
    exact q2
  · rw [hc 11 (by decide) (by decide)]; exact q3
  · rw [hc 11 (by decide) (by decide)]; exact q4
  · rw [hc 11 (by decide) (by decide)]; exact q5
  · unfold P_lastAt
    rw [hc 11 (by decide) (by decide)]; exact q6
  · rw [hc 11 (by decide) (by decide)]; exact eg'
  · have := hb' b hb
    unfold P_isThere at this ⊢
    rw [hc 72 (by decide) (by decide)]; exact this
  · rw [hc 11 (by decide) (by decide)]; exact eg
  · rw [hc 68 (by decide) (by decide)]; exact hm b hb
theorem dC_c {S : hs_S} {U V : Nat → hs_S} {g : Nat} : ∀ k, (∀ i, i ≤ k → U i = V i) → dC S U g k = dC S V g k := by
  intro k
  induction k with
  | zero => intro _; rfl
  | succ k ih =>
    intro h
    unfold dC
    rw [ih fun i hi => h i (by omega), h (k + 1) (Nat.le_refl _)]
theorem nI_3 {k j : Nat} (h : 3 * k + j < 2147483648) : (3 : Int32) * nI k + nI j = nI (3 * k + j) := by
  rw [show (3 : Int32) * nI k = nI (3 * k) from pk_mul 3 k]; exact nI_addI h
set_option maxHeartbeats 4000000 in
theorem v_M_clearsAll {S : hs_S} (hP : P_clearsAll S) : vc_M_clearsAll S (fun r T => R_clearsAll S r T) := by
  obtain ⟨⟨n, hn, en, hcl⟩, g, hg, eg⟩ := hP
  unfold vc_M_clearsAll
  refine ⟨fun N x T => ∃ k, k ≤ n ∧ x = nI k ∧ (∃ q : Nat → Int32, T = hs_rw S 85 q ∧ ∀ i, i < k → q (3 * i) = S.1 81 1 i ∧ q (3 * i + 1) = S.1 82 1 i ∧ q (3 * i + 2) = S.1 83 1 i) ∧ N = n - k, ⟨n, 0, Nat.zero_le _, rfl, ⟨S.1 85 1, hs_rw_0.symm, fun i hi => absurd hi (by omega)⟩, rfl⟩, ?_⟩
  rintro N x T ⟨k, hk, rfl, ⟨q1, rfl, hq1⟩, rfl⟩
  refine ⟨fun h => ?_, fun h => ?_⟩
  · have hkn : k = n := hl_end (by omega) hk (by have : (hs_rw S 85 q1).1 11 1 36 = nI n := en; rw [← this]; exact h)
    subst hkn
    refine ⟨fun N x T => ∃ j, j ≤ g ∧ x = nI j ∧ (∃ q : Nat → Int32, T = hs_rw (hs_rw S 85 q1) 75 q ∧ ∀ i, i < j → q i = S.1 74 1 i) ∧ N = g - j, ⟨g, 0, Nat.zero_le _, rfl, ⟨(hs_rw S 85 q1).1 75 1, hs_rw_0.symm, fun i hi => absurd hi (by omega)⟩, rfl⟩, ?_⟩
    rintro N x T ⟨j, hj, rfl, ⟨q2, rfl, hq2⟩, rfl⟩
    refine ⟨fun h2 => ?_, fun h2 => ?_⟩
    · have hjg : j = g := hl_end (by omega) hj (by have : (hs_rw (hs_rw S 85 q1) 75 q2).1 11 1 24 = nI g := eg; rw [← this]; exact h2)
      subst hjg
      refine ⟨fun N x y T => ∃ i, i ≤ k ∧ y = nI i ∧ (∃ U : Nat → hs_S, (U 0 = hs_rw (hs_rw S 85 q1) 75 q2 ∧ ∀ a, a < i → R_clears (nI a) (U a) (U (a + 1))) ∧ T = U i ∧ x = dC S U j i ∧ hs_c2 T = hs_c2 (hs_rw (hs_rw S 85 q1) 75 q2)) ∧ N = k - i, ⟨k, 0, Nat.zero_le _, rfl, ⟨fun _ => hs_rw (hs_rw S 85 q1) 75 q2, ⟨rfl, fun a ha => absurd ha (by omega)⟩, rfl, rfl, rfl⟩, rfl⟩, ?_⟩
      rintro N x y T ⟨i, hi, rfl, ⟨U, ⟨hU0, hU⟩, hT, hx, hc2⟩, rfl⟩
      refine ⟨fun h3 => ?_, fun h3 => ?_⟩
      · have hik : i = k := hl_end (by omega) hi (by have : T.1 11 1 36 = nI k := (c2_clI hc2 rfl).trans en; rw [← this]; exact h3)
        subst hik
        refine ⟨q1, q2, U, hU0, fun n' g' hn' en' hg' eg' => ?_⟩
        have a1 : i = n' := (hl_inj (by omega) (by omega)).mp (en.symm.trans en')
        have a2 : j = g' := (hl_inj (by omega) (by omega)).mp (eg.symm.trans eg')
        subst a1; subst a2
        exact ⟨hU, hT, hx⟩
      · have hi1 : i < k := hl_go (by omega) hi (by have : T.1 11 1 36 = nI k := (c2_clI hc2 rfl).trans en; rw [← this]; exact h3)
        have hpc : P_clears (nI i) T := P_c2 hc2 (P_rw (Or.inr rfl) (P_rw (Or.inl rfl) (hcl i hi1)))
        refine ⟨hpc, fun S6 h6 => ?_⟩
        have h62 : hs_c2 S6 = hs_c2 (hs_rw (hs_rw S 85 q1) 75 q2) := (R_c2 h6).trans hc2
        have hic : (nI i).toNatClampNeg = i := hl_cl (by omega)
        have e3 : (3 : Int32) * nI i = nI (3 * i) := pk_mul 3 i
        have e31 : (3 : Int32) * nI i + 1 = nI (3 * i + 1) := nI_3 (j := 1) (by omega)
        have e32 : (3 : Int32) * nI i + 2 = nI (3 * i + 2) := nI_3 (j := 2) (by omega)
        have r85 : ∀ p, S6.1 85 1 p = q1 p := fun p => c2_clI h62 rfl
        have r75 : ∀ p, S6.1 75 1 p = q2 p := fun p => c2_clI h62 rfl
        have r72 : ∀ p, S6.1 72 1 p = S.1 72 1 p := fun p => c2_clI h62 rfl
        have r24 : S6.1 11 1 24 = nI j := (c2_clI h62 rfl).trans eg
        rw [e31, e32, e3, hic, hl_cl (by omega), hl_cl (by omega), hl_cl (by omega), r85, r85, r85, (hq1 i hi1).1, (hq1 i hi1).2.1, (hq1 i hi1).2.2, r24]
        refine ⟨hl_ix (by omega) (by omega), hl_ix (by omega) (by omega), ⟨fun _ => True.intro, fun _ => ⟨hl_ix (by omega) (by omega), fun _ => True.intro, fun _ => ⟨hl_ix (by omega) (by omega), fun _ => True.intro, fun _ => True.intro⟩⟩⟩, fun z hz => ?_⟩
        refine ⟨fun N a b => ∃ m, m ≤ j ∧ b = nI m ∧ a = dI S S6 i m ∧ N = j - m, ⟨j, 0, Nat.zero_le _, rfl, hz, rfl⟩, ?_⟩
        rintro N a b ⟨m, hm, rfl, rfl, rfl⟩
        refine ⟨fun h4 => ?_, fun h4 => ?_⟩
        · have hmj : m = j := hl_end (by omega) hm h4
          subst hmj
          have hbk : ∀ w, w = dC S (fun a => if a ≤ i then U a else S6) m (i + 1) → ∃ q, q < k - i ∧ ∃ i', i' ≤ k ∧ nI i + 1 = nI i' ∧ (∃ U : Nat → hs_S, (U 0 = hs_rw (hs_rw S 85 q1) 75 q2 ∧ ∀ a, a < i' → R_clears (nI a) (U a) (U (a + 1))) ∧ S6 = U i' ∧ w = dC S U m i' ∧ hs_c2 S6 = hs_c2 (hs_rw (hs_rw S 85 q1) 75 q2)) ∧ q = k - i' := fun w hw => by
            refine hl_nx hi1 ⟨fun a => if a ≤ i then U a else S6, ⟨?_, fun a ha => ?_⟩, ?_, hw, h62⟩
            · show (if 0 ≤ i then U 0 else S6) = _
              rw [if_pos (Nat.zero_le _)]; exact hU0
            · show R_clears (nI a) (if a ≤ i then U a else S6) (if a + 1 ≤ i then U (a + 1) else S6)
              rw [if_pos (by omega)]
              by_cases w : a = i
              · subst w
                rw [if_neg (by omega), ← hT]; exact h6
              · rw [if_pos (by omega)]; exact hU a (by omega)
            · show S6 = if i + 1 ≤ i then U (i + 1) else S6
              rw [if_neg (by omega)]
          have hdc : dC S (fun a => if a ≤ i then U a else S6) m i = x := by
            rw [hx]
            exact dC_c i fun a ha => if_pos ha
          have hd1 : (if i + 1 ≤ i then U (i + 1) else S6) = S6 := if_neg (by omega)
          refine ⟨fun h5 => hbk _ ?_, fun h5 => hbk _ ?_⟩
          · show _ = if dI S (if i + 1 ≤ i then U (i + 1) else S6) i m = 0 then dC S (fun a => if a ≤ i then U a else S6) m i + 0 else dC S (fun a => if a ≤ i then U a else S6) m i + 1
            rw [hd1, if_pos h5, hdc]
          · show _ = if dI S (if i + 1 ≤ i then U (i + 1) else S6) i m = 0 then dC S (fun a => if a ≤ i then U a else S6) m i + 0 else dC S (fun a => if a ≤ i then U a else S6) m i + 1
            rw [hd1, if_neg h5, hdc]
        · have hm1 : m < j := hl_go (by omega) hm h4
          have hmc : (nI m).toNatClampNeg = m := hl_cl (by omega)
          rw [hmc, r72, r75, hq2 m hm1]
          refine ⟨fun h5 => hl_nx hm1 (if_neg h5).symm, fun h5 => ⟨hl_ix (by omega) (by omega), fun h6 => hl_nx hm1 ((if_pos h5).trans (if_neg h6)).symm, fun h6 => ⟨fun h7 => hl_nx hm1 ((if_pos h5).trans ((if_pos h6).trans (if_pos h7))).symm, fun h7 => hl_nx hm1 ((if_pos h5).trans ((if_pos h6).trans (if_neg h7))).symm⟩⟩⟩
    · have hj1 : j < g := hl_go (by omega) hj (by have : (hs_rw (hs_rw S 85 q1) 75 q2).1 11 1 24 = nI g := eg; rw [← this]; exact h2)
      have hjc : (nI j).toNatClampNeg = j := hl_cl (by omega)
      rw [hjc]
      refine ⟨hl_ix (by omega) (by omega), fun S5 h5 => hl_nx hj1 ⟨fun k => if k = j then S.1 74 1 j else q2 k, h5.trans hs_rw_w, fun i hi => ?_⟩⟩
      show (if i = j then _ else q2 i) = _
      by_cases w : i = j
      · rw [if_pos w, w]
      · rw [if_neg w]; exact hq2 i (by omega)
  · have hk1 : k < n := hl_go (by omega) hk (by have : (hs_rw S 85 q1).1 11 1 36 = nI n := en; rw [← this]; exact h)
    have hkc : (nI k).toNatClampNeg = k := hl_cl (by omega)
    have e3 : (3 : Int32) * nI k = nI (3 * k) := pk_mul 3 k
    have e31 : (3 : Int32) * nI k + 1 = nI (3 * k + 1) := nI_3 (j := 1) (by omega)
    have e32 : (3 : Int32) * nI k + 2 = nI (3 * k + 2) := nI_3 (j := 2) (by omega)
    rw [e31, e32, e3, hkc, hl_cl (by omega), hl_cl (by omega), hl_cl (by omega)]
    refine ⟨hl_ix (by omega) (by omega), hl_ix (by omega) (by omega), fun S4 h4 => ⟨hl_ix (by omega) (by omega), fun S5 h5 => ⟨hl_ix (by omega) (by omega), fun S6 h6 => ?_⟩⟩⟩
    have f4 : S4 = hs_rw S 85 (fun i => if i = 3 * k then S.1 81 1 k else q1 i) := h4.trans hs_rw_w
    subst f4
    have f5 : S5 = hs_rw S 85 (fun i => if i = 3 * k + 1 then S.1 82 1 k else if i = 3 * k then S.1 81 1 k else q1 i) := h5.trans hs_rw_w
    subst f5
    have f6 : S6 = hs_rw S 85 (fun i => if i = 3 * k + 2 then S.1 83 1 k else if i = 3 * k + 1 then S.1 82 1 k else if i = 3 * k then S.1 81 1 k else q1 i) := h6.trans hs_rw_w
    refine hl_nx hk1 ⟨_, f6, fun i hi => ?_⟩
    by_cases w : i = k
    · subst w
      refine ⟨?_, ?_, ?_⟩
      · show (if 3 * i = 3 * i + 2 then _ else if 3 * i = 3 * i + 1 then _ else if 3 * i = 3 * i then _ else _ : Int32) = _
        rw [if_neg (by omega), if_neg (by omega), if_pos rfl]
      · show (if 3 * i + 1 = 3 * i + 2 then _ else if 3 * i + 1 = 3 * i + 1 then _ else _ : Int32) = _
        rw [if_neg (by omega), if_pos rfl]
      · show (if 3 * i + 2 = 3 * i + 2 then _ else _ : Int32) = _
        rw [if_pos rfl]
    · have hi' : i < k := by omega
      obtain ⟨a, b, c⟩ := hq1 i hi'
      refine ⟨?_, ?_, ?_⟩
      · show (if 3 * i = 3 * k + 2 then _ else if 3 * i = 3 * k + 1 then _ else if 3 * i = 3 * k then _ else q1 (3 * i) : Int32) = _
        rw [if_neg (by omega), if_neg (by omega), if_neg (by omega)]; exact a
      · show (if 3 * i + 1 = 3 * k + 2 then _ else if 3 * i + 1 = 3 * k + 1 then _ else if 3 * i + 1 = 3 * k then _ else q1 (3 * i + 1) : Int32) = _
        rw [if_neg (by omega), if_neg (by omega), if_neg (by omega)]; exact b
      · show (if 3 * i + 2 = 3 * k + 2 then _ else if 3 * i + 2 = 3 * k + 1 then _ else if 3 * i + 2 = 3 * k then _ else q1 (3 * i + 2) : Int32) = _
        rw [if_neg (by omega), if_neg (by omega), if_neg (by omega)]; exact c

