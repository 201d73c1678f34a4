def stD (S : hs_S) (col : Int32) (o : Nat) : Int := (F_dueOf (nI o) col S).toInt
/-- c pays what lacks ahead of o -/
def stB (S : hs_S) (col : Int32) (c o : Nat) : Bool := decide (stD S col o % 10 < stD S col c % 10 ∨ (stD S col c % 10 = stD S col o % 10 ∧ c < o))
def stL (S : hs_S) (col : Int32) : Int := -(sI (fun o => stD S col o / 10) 6)
def stH (S : hs_S) (col : Int32) (o : Nat) : Bool := decide (sI (fun c => if stB S col c o then 1 else 0) 6 < stL S col)
def stPay (S : hs_S) (col : Int32) (o : Nat) : Int := stD S col o / 10 + (if stH S col o then 1 else 0)
def hs_st (S : hs_S) (qc : Nat → Int32) (ql : Nat → Int64) : hs_S := (fun t i p => if t = 87 ∧ i = 1 then qc p else S.1 t i p, (S.2.1, ((fun t i p => if t = 86 ∧ i = 1 then ql p else S.2.2.1 t i p), S.2.2.2)))
def P_settle (a1 : Int32) (S : hs_S) : Prop := okCol a1 → (∀ o, o < 6 → P_dueOf (nI o) a1 (E_asks 1 S) ∧ -1000000000 ≤ stD (E_asks 1 S) a1 o ∧ stD (E_asks 1 S) a1 o ≤ 1000000000) ∧ sI (stD (E_asks 1 S) a1) 6 = 0
def R_settle (a1 : Int32) (S : hs_S) (r : Int32) (T : hs_S) : Prop := (¬ okCol a1 → T = E_asks 0 S ∧ r = 0) ∧ (okCol a1 → ∃ (qc : Nat → Int32) (ql : Nat → Int64) (pays : Nat → Int32), T = E_act 0 (hs_st (E_asks 1 S) qc ql) ∧ (∀ o, o < 6 → (pays o).toInt = stPay (E_asks 1 S) a1 o ∧ qc o = S.1 87 1 o - pays o) ∧ (∀ c o : Nat, c < 4 → a1 = nI c → o < 6 → ql (4 * o + c) = S.2.2.1 86 1 (4 * o + c) + F_dueOf (nI o) a1 (E_asks 1 S)) ∧ (∀ c p : Nat, c < 4 → a1 = nI c → (∀ o, o < 6 → p ≠ 4 * o + c) → ql p = S.2.2.1 86 1 p) ∧ r.toInt = sI (fun o => max 0 (stPay (E_asks 1 S) a1 o)) 6)
def m_M_settle (a1 : Int32) (S : hs_S) (Q : Int32 → hs_S → Prop) : Prop := hs_M 6 yX11_settle (.code yX11_settle cX11_settle 10 (some FieldType.int)) [.inr (.inr (11, 1)), .inl a1] S 0 0 (hs_qI Q) hs_nX
def vc_M_settle (a1 : Int32) (S : hs_S) (Q : Int32 → hs_S → Prop) : Prop := (∀ x1 : Int32, x1 = (if a1 < 0 then (0 : Int32) else (if (4 : Int32) ≤ a1 then (0 : Int32) else (1 : Int32))) → ((P_asks x1 S) ∧ (∀ S3 : hs_S, S3 = (E_asks x1 S) → ((¬ x1 = 0 → (∃ I7 : Nat → Int64 → Int32 → Prop, (∃ n11, I7 n11 (0 : Int64) (0 : Int32)) ∧ (∀ N8 : Nat, ∀ x5 : Int64, ∀ x6 : Int32, I7 N8 x5 x6 → (((6 : Int32) ≤ x6 → (∃ I18 : Nat → Int64 → Int32 → Prop, (∃ n22, I18 n22 x5 (0 : Int32)) ∧ (∀ N19 : Nat, ∀ x16 : Int64, ∀ x17 : Int32, I18 N19 x16 x17 → (((lg_cmp x16 (0 : Int64)) ≤ 0 → (∃ I29 : Nat → Int32 → Int32 → hs_S → Prop, (∃ n34, I29 n34 (0 : Int32) (0 : Int32) S3) ∧ (∀ N30 : Nat, ∀ x27 : Int32, ∀ x28 : Int32, ∀ S31 : hs_S, I29 N30 x27 x28 S31 → (((6 : Int32) ≤ x28 → (∀ S39 : hs_S, S39 = (E_act x27 S31) → (Q x27 S39))) ∧ (¬ (6 : Int32) ≤ x28 → ((P_dueOf x28 a1 S31) ∧ ((0 ≤ x28.toInt ∧ x28.toInt < 6) ∧ (∀ S42 : hs_S, S42 = (hs_wI S31 87 1 x28.toNatClampNeg ((S31.1 87 1 x28.toNatClampNeg) - ((F_down (F_dueOf x28 a1 S31)).toInt32 + ((x17 >>> (x28 &&& 31)) &&& (1 : Int32))))) → ((0 ≤ (((4 : Int32) * x28) + a1).toInt ∧ (((4 : Int32) * x28) + a1).toInt < 24) ∧ (∀ S44 : hs_S, S44 = (hs_wL S42 86 1 (((4 : Int32) * x28) + a1).toNatClampNeg ((S42.2.2.1 86 1 (((4 : Int32) * x28) + a1).toNatClampNeg) + (F_dueOf x28 a1 S31))) → ((((F_down (F_dueOf x28 a1 S31)).toInt32 + ((x17 >>> (x28 &&& 31)) &&& (1 : Int32))) ≤ 0 → (∃ q46, q46 < N30 ∧ I29 q46 (x27 + (0 : Int32)) (x28 + 1) S44)) ∧ (¬ ((F_down (F_dueOf x28 a1 S31)).toInt32 + ((x17 >>> (x28 &&& 31)) &&& (1 : Int32))) ≤ 0 → (∃ q48, q48 < N30 ∧ I29 q48 (x27 + ((F_down (F_dueOf x28 a1 S31)).toInt32 + ((x17 >>> (x28 &&& 31)) &&& (1 : Int32)))) (x28 + 1) S44))))))))))))) ∧ (¬ (lg_cmp x16 (0 : Int64)) ≤ 0 → (∃ I52 : Nat → Int32 → Int32 → Prop, (∃ n56, I52 n56 (-1 : Int32) (0 : Int32)) ∧ (∀ N53 : Nat, ∀ x50 : Int32, ∀ x51 : Int32, I52 N53 x50 x51 → (((6 : Int32) ≤ x51 → (∃ q61, q61 < N19 ∧ I18 q61 (x16 - (1 : Int64)) (x17 ||| ((1 : Int32) <<< (x50 &&& 31))))) ∧ (¬ (6 : Int32) ≤ x51 → (∀ x63 : Int32, x63 = (if ((x17 >>> (x51 &&& 31)) &&& (1 : Int32)) = 0 then (1 : Int32) else (0 : Int32)) → ((x63 = 0 → (∃ q65, q65 < N53 ∧ I52 q65 x50 (x51 + 1))) ∧ (¬ x63 = 0 → ((x50 = (-1 : Int32) → (∃ q68, q68 < N53 ∧ I52 q68 x51 (x51 + 1))) ∧ (¬ x50 = (-1 : Int32) → ((P_restOf x51 a1 S3) ∧ ((P_restOf x50 a1 S3) ∧ (((lg_cmp (F_restOf x51 a1 S3) (F_restOf x50 a1 S3)) ≤ 0 → (∃ q73, q73 < N53 ∧ I52 q73 x50 (x51 + 1))) ∧ (¬ (lg_cmp (F_restOf x51 a1 S3) (F_restOf x50 a1 S3)) ≤ 0 → (∃ q75, q75 < N53 ∧ I52 q75 x51 (x51 + 1)))))))))))))))))))) ∧ (¬ (6 : Int32) ≤ x6 → ((P_dueOf x6 a1 S3) ∧ (∃ q81, q81 < N8 ∧ I7 q81 (x5 - (F_down (F_dueOf x6 a1 S3))) (x6 + 1)))))))) ∧ (x1 = 0 → (Q (0 : Int32) S3))))))
set_option maxRecDepth 100000 in
set_option maxHeartbeats 4000000 in
theorem ok_M_settle {a1 : Int32} {S : hs_S} {Q : Int32 → hs_S → Prop} (hw : hs_Wi S) (hv : vc_M_settle a1 S Q) : m_M_settle a1 S Q := by
  unfold vc_M_settle at hv
  refine hs_body (own := RX11) rfl rfl (Nat.le_of_ble_eq_true rfl) (fun Z X E N J0 => ?_)
  show wa Z 0 0 S 0 [(0, .inr (.inr (11, 1))), (1, .inl a1)] []
  refine wa_aload_n X 0 rfl dX11_settle_0 rfl ?_
  refine wa_iload_n X 1 rfl dX11_settle_1 rfl ?_
  have k83 : ∀ (x1 : Int32), x1 = (if a1 < 0 then (0 : Int32) else (if (4 : Int32) ≤ a1 then (0 : Int32) else (1 : Int32))) → wa Z 0 0 S 15 [(0, .inr (.inr (11, 1))), (1, .inl a1)] [.inl x1, .inr (.inr (11, 1))] := by
    intro x1 hE
    replace hv := hv _ hE
    obtain ⟨o2, hv⟩ := hv
    refine wa_callV X (As := [.inl x1]) (f_M_asks hw o2) hk_11 hc_11 rfl kw_1383 kw_66 kw_1380 kw_1382 kw_20 nd_X11_asks rfl rfl (Nat.le_of_ble_eq_true rfl) dX11_settle_15 hs_1ne ⟨⟨Nat.le_of_ble_eq_true rfl, Nat.le_of_ble_eq_true rfl⟩, Nat.le_of_ble_eq_true rfl, Nat.le_of_ble_eq_true rfl⟩ (hs_pdk fun S3 hS3 hw => ?_) (fun _ _ h => h.elim)
    replace hv := hv S3 hS3
    refine wa_if_ne X (tgt := 23) dX11_settle_18 (by decide) (fun c4 => ?_) (fun c4 => ?_)
    · replace hv := hv.1 c4
      refine wa_lconst X dX11_settle_23 kl0 ?_
      refine wa_lstore_n X (lv' := [(2, .inr (.inl (0 : Int64))), (0, .inr (.inr (11, 1))), (1, .inl a1)]) dX11_settle_24 rfl (by decide) rfl ?_
      refine wa_iconst X dX11_settle_25 kc0 ?_
      refine wa_istore X (lv' := [(4, .inl (0 : Int32)), (2, .inr (.inl (0 : Int64))), (0, .inr (.inr (11, 1))), (1, .inl a1)]) dX11_settle_26 (by decide) rfl ?_
      obtain ⟨I7, ⟨n11, i9⟩, b10⟩ := hv
      refine wa_lv (lv' := [(0, .inr (.inr (11, 1))), (1, .inl a1), (2, .inr (.inl (0 : Int64))), (4, .inl (0 : Int32))]) [2, 3, 1, 0] rfl ?_
      suffices L12 : ∀ N8 : Nat, ∀ x5 : Int64, ∀ x6 : Int32, I7 N8 x5 x6 → wa Z 0 0 S3 28 [(0, .inr (.inr (11, 1))), (1, .inl a1), (2, .inr (.inl x5)), (4, .inl x6)] [] from L12 _ _ _ i9
      clear i9
      intro N8
      induction N8 using Nat.strongRecOn with
      | _ N8 h13 =>
        intro x5 x6 j14
        have hv := b10 N8 x5 x6 j14
        refine wa_iload X 3 rfl dX11_settle_28 ?_
        refine wa_bipush X dX11_settle_30 kb6 ?_
        refine wa_icmp_ge X (tgt := 54) dX11_settle_32 (by decide) (fun c15 => ?_) (fun c15 => ?_)
        · replace hv := hv.1 c15
          refine wa_iconst X dX11_settle_54 kc0 ?_
          refine wa_istore X (lv' := [(4, .inl (0 : Int32)), (0, .inr (.inr (11, 1))), (1, .inl a1), (2, .inr (.inl x5))]) dX11_settle_55 (by decide) rfl ?_
          obtain ⟨I18, ⟨n22, i20⟩, b21⟩ := hv
          refine wa_lv (lv' := [(0, .inr (.inr (11, 1))), (1, .inl a1), (2, .inr (.inl x5)), (4, .inl (0 : Int32))]) [1, 2, 3, 0] rfl ?_
          suffices L23 : ∀ N19 : Nat, ∀ x16 : Int64, ∀ x17 : Int32, I18 N19 x16 x17 → wa Z 0 0 S3 57 [(0, .inr (.inr (11, 1))), (1, .inl a1), (2, .inr (.inl x16)), (4, .inl x17)] [] from L23 _ _ _ i20
          clear i20
          intro N19
          induction N19 using Nat.strongRecOn with
          | _ N19 h24 =>
            intro x16 x17 j25
            have hv := b21 N19 x16 x17 j25
            refine wa_lload_n X 2 rfl dX11_settle_57 rfl ?_
            refine wa_lconst X dX11_settle_58 kl0 ?_
            refine wa_lcmp X dX11_settle_59 ?_
            refine wa_if_le X (tgt := 153) dX11_settle_60 (by decide) (fun c26 => ?_) (fun c26 => ?_)
            · replace hv := hv.1 c26
              refine wa_iconst X dX11_settle_153 kc0 ?_
              refine wa_istore X (lv' := [(5, .inl (0 : Int32)), (0, .inr (.inr (11, 1))), (1, .inl a1), (2, .inr (.inl x16)), (4, .inl x17)]) dX11_settle_154 (by decide) rfl ?_
              refine wa_iconst X dX11_settle_156 kc0 ?_
              refine wa_istore X (lv' := [(6, .inl (0 : Int32)), (5, .inl (0 : Int32)), (0, .inr (.inr (11, 1))), (1, .inl a1), (2, .inr (.inl x16)), (4, .inl x17)]) dX11_settle_157 (by decide) rfl ?_
              obtain ⟨I29, ⟨n34, i32⟩, b33⟩ := hv
              refine wa_lv (lv' := [(0, .inr (.inr (11, 1))), (1, .inl a1), (4, .inl x17), (5, .inl (0 : Int32)), (6, .inl (0 : Int32))]) [2, 3, 5, 1, 0] rfl ?_
              suffices L35 : ∀ N30 : Nat, ∀ x27 : Int32, ∀ x28 : Int32, ∀ S31 : hs_S, hs_Wi S31 → I29 N30 x27 x28 S31 → wa Z 0 0 S31 159 [(0, .inr (.inr (11, 1))), (1, .inl a1), (4, .inl x17), (5, .inl x27), (6, .inl x28)] [] from L35 _ _ _ _ hw i32
              clear hw
              clear i32
              intro N30
              induction N30 using Nat.strongRecOn with
              | _ N30 h36 =>
                intro x27 x28 S31 hw j37
                have hv := b33 N30 x27 x28 S31 j37
                refine wa_iload X 4 rfl dX11_settle_159 ?_
                refine wa_bipush X dX11_settle_161 kb6 ?_
                refine wa_icmp_ge X (tgt := 241) dX11_settle_163 (by decide) (fun c38 => ?_) (fun c38 => ?_)
                · replace hv := hv.1 c38
                  refine wa_aload_n X 0 rfl dX11_settle_241 rfl ?_
                  refine wa_iload X 3 rfl dX11_settle_242 ?_
                  refine wa_callV X (As := [.inl x27]) (f_M_act hw) hk_11 hc_11 rfl kw_1399 kw_66 kw_1396 kw_1398 kw_23 nd_X11_act rfl rfl (Nat.le_of_ble_eq_true rfl) dX11_settle_244 hs_1ne ⟨⟨Nat.le_of_ble_eq_true rfl, Nat.le_of_ble_eq_true rfl⟩, Nat.le_of_ble_eq_true rfl, Nat.le_of_ble_eq_true rfl⟩ (hs_pdk fun S39 hS39 hw => ?_) (fun _ _ h => h.elim)
                  replace hv := hv S39 hS39
                  exact wa_ireturn X E dX11_settle_247 (Nat.le_of_ble_eq_true rfl) (Nat.le_of_ble_eq_true rfl) (Or.inl rfl) ⟨hw, _, rfl, hv⟩
                · replace hv := hv.2 c38
                  refine wa_aload_n X 0 rfl dX11_settle_166 rfl ?_
                  refine wa_iload X 4 rfl dX11_settle_167 ?_
                  refine wa_iload_n X 1 rfl dX11_settle_169 rfl ?_
                  obtain ⟨o40, hv⟩ := hv
                  refine wa_callV X (As := [.inl x28, .inl a1]) (f_M_dueOf hw o40) hk_11 hc_11 rfl kw_1529 kw_66 kw_1526 kw_1528 kw_41 nd_X11_dueOf rfl rfl (Nat.le_of_ble_eq_true rfl) dX11_settle_170 hs_1ne ⟨⟨Nat.le_of_ble_eq_true rfl, Nat.le_of_ble_eq_true rfl⟩, Nat.le_of_ble_eq_true rfl, Nat.le_of_ble_eq_true rfl⟩ (hs_pdk0 ?_) (fun _ _ h => h.elim)
                  refine wa_lstore X (lv' := [(7, .inr (.inl (F_dueOf x28 a1 S31))), (0, .inr (.inr (11, 1))), (1, .inl a1), (4, .inl x17), (5, .inl x27), (6, .inl x28)]) dX11_settle_173 (by decide) rfl ?_
                  refine wa_lload X 0 rfl dX11_settle_175 ?_
                  refine wa_callS X (As := [.inr (.inl (F_dueOf x28 a1 S31))]) (f_M_down hw) kw_1605 kw_66 kw_1603 kw_1604 nd_X11_down rfl rfl (Nat.le_of_ble_eq_true rfl) dX11_settle_177 ⟨⟨Nat.le_of_ble_eq_true rfl, Nat.le_of_ble_eq_true rfl⟩, Nat.le_of_ble_eq_true rfl, Nat.le_of_ble_eq_true rfl⟩ (hs_pdk0 ?_) (fun _ _ h => h.elim)
                  refine wa_l2i X dX11_settle_180 ?_
                  refine wa_iload X 3 rfl dX11_settle_181 ?_
                  refine wa_iload X 5 rfl dX11_settle_183 ?_
                  refine wa_ishr X dX11_settle_185 ?_
                  refine wa_iconst X dX11_settle_186 kc1 ?_
                  refine wa_iand X dX11_settle_187 ?_
                  refine wa_iadd X dX11_settle_188 ?_
                  refine wa_istore X (lv' := [(9, .inl ((F_down (F_dueOf x28 a1 S31)).toInt32 + ((x17 >>> (x28 &&& 31)) &&& (1 : Int32)))), (7, .inr (.inl (F_dueOf x28 a1 S31))), (0, .inr (.inr (11, 1))), (1, .inl a1), (4, .inl x17), (5, .inl x27), (6, .inl x28)]) dX11_settle_189 (by decide) rfl ?_
                  refine wa_aload_n X 2 rfl dX11_settle_191 rfl ?_
                  refine wa_getfw X hw (j := 47) (r := 1) hk_11 hc_11 i_11 (by decide) kw_1231 rfl rfl (by decide) rfl dX11_settle_192 hs_1ne ?_
                  refine wa_iload X 6 rfl dX11_settle_195 ?_
                  refine wa_dup2 X dX11_settle_197 rfl rfl ?_
                  obtain ⟨o41, hv⟩ := hv
                  refine wa_iald X hk_87 dX11_settle_198 hs_1ne o41 ?_
                  refine wa_iload X 0 rfl dX11_settle_199 ?_
                  refine wa_isub X dX11_settle_201 ?_
                  refine wa_iast X hk_87 dX11_settle_202 hs_1ne o41 (hs_eqS fun S42 hS42 => ?_)
                  replace hv := hv S42 hS42
                  replace hw : hs_Wi S42 := hS42 ▸ hs_Wi_I hw
                  refine wa_aload_n X 2 rfl dX11_settle_203 rfl ?_
                  refine wa_getfw X hw (j := 46) (r := 1) hk_11 hc_11 i_11 (by decide) kw_1230 rfl rfl (by decide) rfl dX11_settle_204 hs_1ne ?_
                  refine wa_iconst X dX11_settle_207 kc4 ?_
                  refine wa_iload X 6 rfl dX11_settle_208 ?_
                  refine wa_imul X dX11_settle_210 ?_
                  refine wa_iload_n X 3 rfl dX11_settle_211 rfl ?_
                  refine wa_iadd X dX11_settle_212 ?_
                  refine wa_dup2 X dX11_settle_213 rfl rfl ?_
                  obtain ⟨o43, hv⟩ := hv
                  refine wa_lald X hk_86 dX11_settle_214 hs_1ne o43 ?_
                  refine wa_lload X 1 rfl dX11_settle_215 ?_
                  refine wa_ladd X dX11_settle_217 ?_
                  refine wa_last X hk_86 dX11_settle_218 hs_1ne o43 (hs_eqS fun S44 hS44 => ?_)
                  replace hv := hv S44 hS44
                  replace hw : hs_Wi S44 := hS44 ▸ hs_Wi_L hw
                  refine wa_iload X 5 rfl dX11_settle_219 ?_
                  refine wa_iload X 0 rfl dX11_settle_221 ?_
                  refine wa_if_le X (tgt := 231) dX11_settle_223 (by decide) (fun c45 => ?_) (fun c45 => ?_)
                  · replace hv := hv.1 c45
                    refine wa_iconst X dX11_settle_231 kc0 ?_
                    refine wa_iadd X dX11_settle_232 ?_
                    refine wa_istore X (lv' := [(5, .inl (x27 + (0 : Int32))), (9, .inl ((F_down (F_dueOf x28 a1 S31)).toInt32 + ((x17 >>> (x28 &&& 31)) &&& (1 : Int32)))), (7, .inr (.inl (F_dueOf x28 a1 S31))), (0, .inr (.inr (11, 1))), (1, .inl a1), (4, .inl x17), (6, .inl x28)]) dX11_settle_233 (by decide) rfl ?_
                    refine wa_iinc X (v := (x28 + 1)) (lv' := [(6, .inl (x28 + 1)), (5, .inl (x27 + (0 : Int32))), (9, .inl ((F_down (F_dueOf x28 a1 S31)).toInt32 + ((x17 >>> (x28 &&& 31)) &&& (1 : Int32)))), (7, .inr (.inl (F_dueOf x28 a1 S31))), (0, .inr (.inr (11, 1))), (1, .inl a1), (4, .inl x17)]) 6 rfl dX11_settle_235 rfl (by decide) rfl ?_
                    refine wa_goto X (tgt := 159) dX11_settle_238 (by decide) ?_
                    obtain ⟨q46, p47, hv⟩ := hv
                    refine wa_lv (lv' := [(0, .inr (.inr (11, 1))), (1, .inl a1), (4, .inl x17), (5, .inl (x27 + (0 : Int32))), (6, .inl (x28 + 1))]) [4, 5, 6, 1, 0] rfl ?_
                    exact h36 q46 p47 _ _ _ hw hv
                  · replace hv := hv.2 c45
                    refine wa_iload X 0 rfl dX11_settle_226 ?_
                    refine wa_goto X (tgt := 232) dX11_settle_228 (by decide) ?_
                    refine wa_iadd X dX11_settle_232 ?_
                    refine wa_istore X (lv' := [(5, .inl (x27 + ((F_down (F_dueOf x28 a1 S31)).toInt32 + ((x17 >>> (x28 &&& 31)) &&& (1 : Int32))))), (9, .inl ((F_down (F_dueOf x28 a1 S31)).toInt32 + ((x17 >>> (x28 &&& 31)) &&& (1 : Int32)))), (7, .inr (.inl (F_dueOf x28 a1 S31))), (0, .inr (.inr (11, 1))), (1, .inl a1), (4, .inl x17), (6, .inl x28)]) dX11_settle_233 (by decide) rfl ?_
                    refine wa_iinc X (v := (x28 + 1)) (lv' := [(6, .inl (x28 + 1)), (5, .inl (x27 + ((F_down (F_dueOf x28 a1 S31)).toInt32 + ((x17 >>> (x28 &&& 31)) &&& (1 : Int32))))), (9, .inl ((F_down (F_dueOf x28 a1 S31)).toInt32 + ((x17 >>> (x28 &&& 31)) &&& (1 : Int32)))), (7, .inr (.inl (F_dueOf x28 a1 S31))), (0, .inr (.inr (11, 1))), (1, .inl a1), (4, .inl x17)]) 6 rfl dX11_settle_235 rfl (by decide) rfl ?_
                    refine wa_goto X (tgt := 159) dX11_settle_238 (by decide) ?_
                    obtain ⟨q48, p49, hv⟩ := hv
                    refine wa_lv (lv' := [(0, .inr (.inr (11, 1))), (1, .inl a1), (4, .inl x17), (5, .inl (x27 + ((F_down (F_dueOf x28 a1 S31)).toInt32 + ((x17 >>> (x28 &&& 31)) &&& (1 : Int32))))), (6, .inl (x28 + 1))]) [4, 5, 6, 1, 0] rfl ?_
                    exact h36 q48 p49 _ _ _ hw hv
            · replace hv := hv.2 c26
              refine wa_iconst X dX11_settle_63 kcm1 ?_
              refine wa_istore X (lv' := [(5, .inl (-1 : Int32)), (0, .inr (.inr (11, 1))), (1, .inl a1), (2, .inr (.inl x16)), (4, .inl x17)]) dX11_settle_64 (by decide) rfl ?_
              refine wa_iconst X dX11_settle_66 kc0 ?_
              refine wa_istore X (lv' := [(6, .inl (0 : Int32)), (5, .inl (-1 : Int32)), (0, .inr (.inr (11, 1))), (1, .inl a1), (2, .inr (.inl x16)), (4, .inl x17)]) dX11_settle_67 (by decide) rfl ?_
              obtain ⟨I52, ⟨n56, i54⟩, b55⟩ := hv
              refine wa_lv (lv' := [(0, .inr (.inr (11, 1))), (1, .inl a1), (2, .inr (.inl x16)), (4, .inl x17), (5, .inl (-1 : Int32)), (6, .inl (0 : Int32))]) [2, 3, 4, 5, 1, 0] rfl ?_
              suffices L57 : ∀ N53 : Nat, ∀ x50 : Int32, ∀ x51 : Int32, I52 N53 x50 x51 → wa Z 0 0 S3 69 [(0, .inr (.inr (11, 1))), (1, .inl a1), (2, .inr (.inl x16)), (4, .inl x17), (5, .inl x50), (6, .inl x51)] [] from L57 _ _ _ i54
              clear i54
              intro N53
              induction N53 using Nat.strongRecOn with
              | _ N53 h58 =>
                intro x50 x51 j59
                have hv := b55 N53 x50 x51 j59
                refine wa_iload X 5 rfl dX11_settle_69 ?_
                refine wa_bipush X dX11_settle_71 kb6 ?_
                refine wa_icmp_ge X (tgt := 137) dX11_settle_73 (by decide) (fun c60 => ?_) (fun c60 => ?_)
                · replace hv := hv.1 c60
                  refine wa_iload X 3 rfl dX11_settle_137 ?_
                  refine wa_iconst X dX11_settle_139 kc1 ?_
                  refine wa_iload X 4 rfl dX11_settle_140 ?_
                  refine wa_ishl X dX11_settle_142 ?_
                  refine wa_ior X dX11_settle_143 ?_
                  refine wa_istore X (lv' := [(4, .inl (x17 ||| ((1 : Int32) <<< (x50 &&& 31)))), (0, .inr (.inr (11, 1))), (1, .inl a1), (2, .inr (.inl x16)), (5, .inl x50), (6, .inl x51)]) dX11_settle_144 (by decide) rfl ?_
                  refine wa_lload_n X 3 rfl dX11_settle_146 rfl ?_
                  refine wa_lconst X dX11_settle_147 kl1 ?_
                  refine wa_lsub X dX11_settle_148 ?_
                  refine wa_lstore_n X (lv' := [(2, .inr (.inl (x16 - (1 : Int64)))), (4, .inl (x17 ||| ((1 : Int32) <<< (x50 &&& 31)))), (0, .inr (.inr (11, 1))), (1, .inl a1), (5, .inl x50), (6, .inl x51)]) dX11_settle_149 rfl (by decide) rfl ?_
                  refine wa_goto X (tgt := 57) dX11_settle_150 (by decide) ?_
                  obtain ⟨q61, p62, hv⟩ := hv
                  refine wa_lv (lv' := [(0, .inr (.inr (11, 1))), (1, .inl a1), (2, .inr (.inl (x16 - (1 : Int64)))), (4, .inl (x17 ||| ((1 : Int32) <<< (x50 &&& 31))))]) [2, 3, 0, 1] rfl ?_
                  exact h24 q61 p62 _ _ hv
                · replace hv := hv.2 c60
                  refine wa_iload X 3 rfl dX11_settle_76 ?_
                  refine wa_iload X 5 rfl dX11_settle_78 ?_
                  refine wa_ishr X dX11_settle_80 ?_
                  refine wa_iconst X dX11_settle_81 kc1 ?_
                  refine wa_iand X dX11_settle_82 ?_
                  have k77 : ∀ (x63 : Int32), x63 = (if ((x17 >>> (x51 &&& 31)) &&& (1 : Int32)) = 0 then (1 : Int32) else (0 : Int32)) → wa Z 0 0 S3 91 [(0, .inr (.inr (11, 1))), (1, .inl a1), (2, .inr (.inl x16)), (4, .inl x17), (5, .inl x50), (6, .inl x51)] [.inl x63] := by
                    intro x63 hE
                    replace hv := hv _ hE
                    refine wa_istore X (lv' := [(7, .inl x63), (0, .inr (.inr (11, 1))), (1, .inl a1), (2, .inr (.inl x16)), (4, .inl x17), (5, .inl x50), (6, .inl x51)]) dX11_settle_91 (by decide) rfl ?_
                    refine wa_iload X 0 rfl dX11_settle_93 ?_
                    refine wa_if_eq X (tgt := 127) dX11_settle_95 (by decide) (fun c64 => ?_) (fun c64 => ?_)
                    · replace hv := hv.1 c64
                      refine wa_iload X 5 rfl dX11_settle_127 ?_
                      refine wa_istore X (lv' := [(5, .inl x50), (7, .inl x63), (0, .inr (.inr (11, 1))), (1, .inl a1), (2, .inr (.inl x16)), (4, .inl x17), (6, .inl x51)]) dX11_settle_129 (by decide) rfl ?_
                      refine wa_iinc X (v := (x51 + 1)) (lv' := [(6, .inl (x51 + 1)), (5, .inl x50), (7, .inl x63), (0, .inr (.inr (11, 1))), (1, .inl a1), (2, .inr (.inl x16)), (4, .inl x17)]) 6 rfl dX11_settle_131 rfl (by decide) rfl ?_
                      refine wa_goto X (tgt := 69) dX11_settle_134 (by decide) ?_
                      obtain ⟨q65, p66, hv⟩ := hv
                      refine wa_lv (lv' := [(0, .inr (.inr (11, 1))), (1, .inl a1), (2, .inr (.inl x16)), (4, .inl x17), (5, .inl x50), (6, .inl (x51 + 1))]) [3, 4, 5, 6, 1, 0] rfl ?_
                      exact h58 q65 p66 _ _ hv
                    · replace hv := hv.2 c64
                      refine wa_iload X 5 rfl dX11_settle_98 ?_
                      refine wa_iconst X dX11_settle_100 kcm1 ?_
                      refine wa_icmp_eq X (tgt := 122) dX11_settle_101 (by decide) (fun c67 => ?_) (fun c67 => ?_)
                      · replace hv := hv.1 c67
                        refine wa_iload X 6 rfl dX11_settle_122 ?_
                        refine wa_goto X (tgt := 129) dX11_settle_124 (by decide) ?_
                        refine wa_istore X (lv' := [(5, .inl x51), (7, .inl x63), (0, .inr (.inr (11, 1))), (1, .inl a1), (2, .inr (.inl x16)), (4, .inl x17), (6, .inl x51)]) dX11_settle_129 (by decide) rfl ?_
                        refine wa_iinc X (v := (x51 + 1)) (lv' := [(6, .inl (x51 + 1)), (5, .inl x51), (7, .inl x63), (0, .inr (.inr (11, 1))), (1, .inl a1), (2, .inr (.inl x16)), (4, .inl x17)]) 6 rfl dX11_settle_131 rfl (by decide) rfl ?_
                        refine wa_goto X (tgt := 69) dX11_settle_134 (by decide) ?_
                        obtain ⟨q68, p69, hv⟩ := hv
                        refine wa_lv (lv' := [(0, .inr (.inr (11, 1))), (1, .inl a1), (2, .inr (.inl x16)), (4, .inl x17), (5, .inl x51), (6, .inl (x51 + 1))]) [3, 4, 5, 6, 1, 0] rfl ?_
                        exact h58 q68 p69 _ _ hv
                      · replace hv := hv.2 c67
                        refine wa_aload_n X 1 rfl dX11_settle_104 rfl ?_
                        refine wa_iload X 6 rfl dX11_settle_105 ?_
                        refine wa_iload_n X 2 rfl dX11_settle_107 rfl ?_
                        obtain ⟨o70, hv⟩ := hv
                        refine wa_callV X (As := [.inl x51, .inl a1]) (f_M_restOf hw o70) hk_11 hc_11 rfl kw_1611 kw_66 kw_1608 kw_1610 kw_51 nd_X11_restOf rfl rfl (Nat.le_of_ble_eq_true rfl) dX11_settle_108 hs_1ne ⟨⟨Nat.le_of_ble_eq_true rfl, Nat.le_of_ble_eq_true rfl⟩, Nat.le_of_ble_eq_true rfl, Nat.le_of_ble_eq_true rfl⟩ (hs_pdk0 ?_) (fun _ _ h => h.elim)
                        refine wa_aload_n X 1 rfl dX11_settle_111 rfl ?_
                        refine wa_iload X 5 rfl dX11_settle_112 ?_
                        refine wa_iload_n X 2 rfl dX11_settle_114 rfl ?_
                        obtain ⟨o71, hv⟩ := hv
                        refine wa_callV X (As := [.inl x50, .inl a1]) (f_M_restOf hw o71) hk_11 hc_11 rfl kw_1611 kw_66 kw_1608 kw_1610 kw_51 nd_X11_restOf rfl rfl (Nat.le_of_ble_eq_true rfl) dX11_settle_115 hs_1ne ⟨⟨Nat.le_of_ble_eq_true rfl, Nat.le_of_ble_eq_true rfl⟩, Nat.le_of_ble_eq_true rfl, Nat.le_of_ble_eq_true rfl⟩ (hs_pdk0 ?_) (fun _ _ h => h.elim)
                        refine wa_lcmp X dX11_settle_118 ?_
                        refine wa_if_le X (tgt := 127) dX11_settle_119 (by decide) (fun c72 => ?_) (fun c72 => ?_)
                        · replace hv := hv.1 c72
                          refine wa_iload X 5 rfl dX11_settle_127 ?_
                          refine wa_istore X (lv' := [(5, .inl x50), (7, .inl x63), (0, .inr (.inr (11, 1))), (1, .inl a1), (2, .inr (.inl x16)), (4, .inl x17), (6, .inl x51)]) dX11_settle_129 (by decide) rfl ?_
                          refine wa_iinc X (v := (x51 + 1)) (lv' := [(6, .inl (x51 + 1)), (5, .inl x50), (7, .inl x63), (0, .inr (.inr (11, 1))), (1, .inl a1), (2, .inr (.inl x16)), (4, .inl x17)]) 6 rfl dX11_settle_131 rfl (by decide) rfl ?_
                          refine wa_goto X (tgt := 69) dX11_settle_134 (by decide) ?_
                          obtain ⟨q73, p74, hv⟩ := hv
                          refine wa_lv (lv' := [(0, .inr (.inr (11, 1))), (1, .inl a1), (2, .inr (.inl x16)), (4, .inl x17), (5, .inl x50), (6, .inl (x51 + 1))]) [3, 4, 5, 6, 1, 0] rfl ?_
                          exact h58 q73 p74 _ _ hv
                        · replace hv := hv.2 c72
                          refine wa_iload X 6 rfl dX11_settle_122 ?_
                          refine wa_goto X (tgt := 129) dX11_settle_124 (by decide) ?_
                          refine wa_istore X (lv' := [(5, .inl x51), (7, .inl x63), (0, .inr (.inr (11, 1))), (1, .inl a1), (2, .inr (.inl x16)), (4, .inl x17), (6, .inl x51)]) dX11_settle_129 (by decide) rfl ?_
                          refine wa_iinc X (v := (x51 + 1)) (lv' := [(6, .inl (x51 + 1)), (5, .inl x51), (7, .inl x63), (0, .inr (.inr (11, 1))), (1, .inl a1), (2, .inr (.inl x16)), (4, .inl x17)]) 6 rfl dX11_settle_131 rfl (by decide) rfl ?_
                          refine wa_goto X (tgt := 69) dX11_settle_134 (by decide) ?_
                          obtain ⟨q75, p76, hv⟩ := hv
                          refine wa_lv (lv' := [(0, .inr (.inr (11, 1))), (1, .inl a1), (2, .inr (.inl x16)), (4, .inl x17), (5, .inl x51), (6, .inl (x51 + 1))]) [3, 4, 5, 6, 1, 0] rfl ?_
                          exact h58 q75 p76 _ _ hv
                  clear hv
                  refine wa_if_ne X (tgt := 90) dX11_settle_83 (by decide) (fun c79 => ?_) (fun c79 => ?_)
                  · refine wa_iconst X dX11_settle_90 kc0 ?_
                    refine wa_lv (lv' := [(0, .inr (.inr (11, 1))), (1, .inl a1), (2, .inr (.inl x16)), (4, .inl x17), (5, .inl x50), (6, .inl x51)]) [0, 1, 2, 3, 4, 5] rfl ?_
                    exact wa_wid (Nat.le_of_ble_eq_true rfl) (Nat.le_of_ble_eq_true rfl) (k77 _  (by rw [if_neg c79]))
                  · refine wa_iconst X dX11_settle_86 kc1 ?_
                    refine wa_goto X (tgt := 91) dX11_settle_87 (by decide) ?_
                    refine wa_lv (lv' := [(0, .inr (.inr (11, 1))), (1, .inl a1), (2, .inr (.inl x16)), (4, .inl x17), (5, .inl x50), (6, .inl x51)]) [0, 1, 2, 3, 4, 5] rfl ?_
                    exact wa_wid (Nat.le_of_ble_eq_true rfl) (Nat.le_of_ble_eq_true rfl) (k77 _  (by rw [if_pos c79]))
        · replace hv := hv.2 c15
          refine wa_lload_n X 2 rfl dX11_settle_35 rfl ?_
          refine wa_aload_n X 0 rfl dX11_settle_36 rfl ?_
          refine wa_iload X 3 rfl dX11_settle_37 ?_
          refine wa_iload_n X 1 rfl dX11_settle_39 rfl ?_
          obtain ⟨o80, hv⟩ := hv
          refine wa_callV X (As := [.inl x6, .inl a1]) (f_M_dueOf hw o80) hk_11 hc_11 rfl kw_1529 kw_66 kw_1526 kw_1528 kw_41 nd_X11_dueOf rfl rfl (Nat.le_of_ble_eq_true rfl) dX11_settle_40 hs_1ne ⟨⟨Nat.le_of_ble_eq_true rfl, Nat.le_of_ble_eq_true rfl⟩, Nat.le_of_ble_eq_true rfl, Nat.le_of_ble_eq_true rfl⟩ (hs_pdk0 ?_) (fun _ _ h => h.elim)
          refine wa_callS X (As := [.inr (.inl (F_dueOf x6 a1 S3))]) (f_M_down hw) kw_1605 kw_66 kw_1603 kw_1604 nd_X11_down rfl rfl (Nat.le_of_ble_eq_true rfl) dX11_settle_43 ⟨⟨Nat.le_of_ble_eq_true rfl, Nat.le_of_ble_eq_true rfl⟩, Nat.le_of_ble_eq_true rfl, Nat.le_of_ble_eq_true rfl⟩ (hs_pdk0 ?_) (fun _ _ h => h.elim)
          refine wa_lsub X dX11_settle_46 ?_
          refine wa_lstore_n X (lv' := [(2, .inr (.inl (x5 - (F_down (F_dueOf x6 a1 S3))))), (0, .inr (.inr (11, 1))), (1, .inl a1), (4, .inl x6)]) dX11_settle_47 rfl (by decide) rfl ?_
          refine wa_iinc X (v := (x6 + 1)) (lv' := [(4, .inl (x6 + 1)), (2, .inr (.inl (x5 - (F_down (F_dueOf x6 a1 S3))))), (0, .inr (.inr (11, 1))), (1, .inl a1)]) 3 rfl dX11_settle_48 rfl (by decide) rfl ?_
          refine wa_goto X (tgt := 28) dX11_settle_51 (by decide) ?_
          obtain ⟨q81, p82, hv⟩ := hv
          refine wa_lv (lv' := [(0, .inr (.inr (11, 1))), (1, .inl a1), (2, .inr (.inl (x5 - (F_down (F_dueOf x6 a1 S3))))), (4, .inl (x6 + 1))]) [2, 3, 1, 0] rfl ?_
          exact h13 q81 p82 _ _ hv
    · replace hv := hv.2 c4
      refine wa_iconst X dX11_settle_21 kc0 ?_
      exact wa_ireturn X E dX11_settle_22 (Nat.le_of_ble_eq_true rfl) (Nat.le_of_ble_eq_true rfl) (Or.inl rfl) ⟨hw, _, rfl, hv⟩
  clear hv
  refine wa_if_lt X (tgt := 14) dX11_settle_2 (by decide) (fun c85 => ?_) (fun c85 => ?_)
  · refine wa_iconst X dX11_settle_14 kc0 ?_
    refine wa_lv (lv' := [(0, .inr (.inr (11, 1))), (1, .inl a1)]) [0, 1] rfl ?_
    exact wa_wid (Nat.le_of_ble_eq_true rfl) (Nat.le_of_ble_eq_true rfl) (k83 _  (by rw [if_pos c85]))
  · refine wa_iload_n X 1 rfl dX11_settle_5 rfl ?_
    refine wa_iconst X dX11_settle_6 kc4 ?_
    refine wa_icmp_ge X (tgt := 14) dX11_settle_7 (by decide) (fun c86 => ?_) (fun c86 => ?_)
    · refine wa_iconst X dX11_settle_14 kc0 ?_
      refine wa_lv (lv' := [(0, .inr (.inr (11, 1))), (1, .inl a1)]) [0, 1] rfl ?_
      exact wa_wid (Nat.le_of_ble_eq_true rfl) (Nat.le_of_ble_eq_true rfl) (k83 _  (by rw [if_neg c85, if_pos c86]))
    · refine wa_iconst X dX11_settle_10 kc1 ?_
      refine wa_goto X (tgt := 15) dX11_settle_11 (by decide) ?_
      refine wa_lv (lv' := [(0, .inr (.inr (11, 1))), (1, .inl a1)]) [0, 1] rfl ?_
      exact wa_wid (Nat.le_of_ble_eq_true rfl) (Nat.le_of_ble_eq_true rfl) (k83 _  (by rw [if_neg c85, if_neg c86]))
theorem i64_div {a b : Int64} (ha : 0 ≤ a.toInt) (hb : 0 < b.toInt) : (a / b).toInt = a.toInt / b.toInt := by
  rw [Int64.toInt_div, Int.tdiv_eq_ediv_of_nonneg ha]
  have h1 := i64_b a
  have h2 : a.toInt / b.toInt ≤ a.toInt := Int.ediv_le_self _ ha
  have h3 : 0 ≤ a.toInt / b.toInt := Int.ediv_nonneg ha (by omega)
  exact bm64 (by omega)
theorem down_is {a : Int64} (h : -1000000000 ≤ a.toInt ∧ a.toInt ≤ 1000000000) : (F_down a).toInt = a.toInt / 10 := by
  have z0 : (0 : Int64).toInt = 0 := rfl
  have z9 : (9 : Int64).toInt = 9 := rfl
  have z10 : (10 : Int64).toInt = 10 := rfl
  unfold F_down
  by_cases q : a < 0
  · rw [if_pos q]
    rw [i64_lt, z0] at q
    have h1 : (9 - a).toInt = 9 - a.toInt := by rw [i64_sub (by omega), z9]
    have h2 : ((9 - a) / 10).toInt = (9 - a.toInt) / 10 := by rw [i64_div (by omega) (by omega), h1, z10]
    have h3 : (-((9 - a) / 10)).toInt = -((9 - a.toInt) / 10) := by
      rw [Int64.toInt_neg, h2]; exact bm64 (by omega)
    rw [h3]; omega
  · rw [if_neg q]
    rw [i64_lt, z0] at q
    rw [i64_div (by omega) (by omega), z10]
theorem rest_is {S : hs_S} {o col : Int32} (h : -1000000000 ≤ (F_dueOf o col S).toInt ∧ (F_dueOf o col S).toInt ≤ 1000000000) : (F_restOf o col S).toInt = (F_dueOf o col S).toInt % 10 := by
  have z10 : (10 : Int64).toInt = 10 := rfl
  have hd := down_is h
  unfold F_restOf
  have h1 : (10 * F_down (F_dueOf o col S)).toInt = 10 * ((F_dueOf o col S).toInt / 10) := by
    rw [i64_mul (by rw [z10, hd]; omega), z10, hd]
  rw [i64_sub (by rw [h1]; omega), h1]; omega
theorem w_test : ∀ w : Fin 64, ∀ o : Fin 6, (nI w.val >>> (nI o.val &&& 31)) &&& 1 = if w.val.testBit o.val then 1 else 0 := by decide +kernel
theorem w_set : ∀ w : Fin 64, ∀ m : Fin 6, (nI w.val ||| ((1 : Int32) <<< (nI m.val &&& 31)) = nI (w.val ||| 2 ^ m.val) ∧ (w.val ||| 2 ^ m.val) < 64) ∧ ∀ o : Fin 6, (w.val ||| 2 ^ m.val).testBit o.val = (w.val.testBit o.val || decide (m.val = o.val)) := by decide +kernel
theorem st_mOwn {S : hs_S} {qc : Nat → Int32} {ql : Nat → Int64} {c e : Int32} (k : Nat) : mOwn (hs_st S qc ql) c e k = mOwn S c e k := by
  induction k with
  | zero => rfl
  | succ k ih =>
    show (if S.1 43 1 k = c ∧ S.1 42 1 k < e then S.1 44 1 k else mOwn (hs_st S qc ql) c e k) = mOwn S c e (k + 1)
    rw [ih]; rfl
theorem st_mFs {S : hs_S} {qc : Nat → Int32} {ql : Nat → Int64} {r : Int32} (k : Nat) : mFs (hs_st S qc ql) r k = mFs S r k := by
  induction k with
  | zero => rfl
  | succ k ih =>
    show (if S.1 72 1 k = r then mFs (hs_st S qc ql) r k + F_feeOf (nI k) S else mFs (hs_st S qc ql) r k + 0) = mFs S r (k + 1)
    rw [ih]; rfl
theorem st_mDueI {S : hs_S} {qc : Nat → Int32} {ql : Nat → Int64} {o r : Int32} {acc : Int64} (b : Nat) : mDueI (hs_st S qc ql) o r acc b = mDueI S o r acc b := by
  induction b with
  | zero => rfl
  | succ b ih =>
    show mDueI (hs_st S qc ql) o r acc b + mDueT S o r b = _
    rw [ih]; rfl
theorem st_dueOf {S : hs_S} {qc : Nat → Int32} {ql : Nat → Int64} {o col : Int32} (h : ql (4 * o + col).toNatClampNeg = S.2.2.1 86 1 (4 * o + col).toNatClampNeg) : F_dueOf o col (hs_st S qc ql) = F_dueOf o col S := by
  have hk : ∀ r, mDue (hs_st S qc ql) o col r = mDue S o col r := by
    intro r
    induction r with
    | zero =>
      show -(ql (4 * o + col).toNatClampNeg) = _
      rw [h]; rfl
    | succ r ih =>
      have e1 : F_ownerAt (6 * col + 1) (S.1 78 1 r) (hs_st S qc ql) = F_ownerAt (6 * col + 1) (S.1 78 1 r) S := st_mOwn _
      have e2 : F_feesOf (nI r) (hs_st S qc ql) = F_feesOf (nI r) S := st_mFs _
      show (if S.1 77 1 r = col ∧ ¬ S.1 81 1 r = -1 then mDueI (hs_st S qc ql) o (nI r) (mDue (hs_st S qc ql) o col r - (if F_ownerAt (6 * col + 1) (S.1 78 1 r) (hs_st S qc ql) = o then F_feesOf (nI r) (hs_st S qc ql) else 0)) (S.1 11 1 24).toNatClampNeg else mDue (hs_st S qc ql) o col r) = _
      rw [e1, e2, ih, st_mDueI]; rfl
  exact hk _
theorem stB_as {S : hs_S} {col : Int32} {b c : Nat} (h : stB S col b c = true) : stB S col c b = false := by
  have h' := of_decide_eq_true h
  exact decide_eq_false fun w => by omega
theorem stB_ir {S : hs_S} {col : Int32} {b : Nat} : stB S col b b = false := decide_eq_false fun w => by omega
theorem st_w {S : hs_S} {qc : Nat → Int32} {ql : Nat → Int64} {a b : Nat} {x : Int32} {z : Int64} : hs_wL (hs_wI (hs_st S qc ql) 87 1 a x) 86 1 b z = hs_st S (fun k => if k = a then x else qc k) (fun k => if k = b then z else ql k) := by
  have e1 : (hs_wL (hs_wI (hs_st S qc ql) 87 1 a x) 86 1 b z).1 = (hs_st S (fun k => if k = a then x else qc k) (fun k => if k = b then z else ql k)).1 := by
    funext t i p
    show (if t = 87 ∧ i = 1 ∧ p = a then x else if t = 87 ∧ i = 1 then qc p else S.1 t i p) = if t = 87 ∧ i = 1 then (if p = a then x else qc p) else S.1 t i p
    by_cases h : t = 87 ∧ i = 1
    · rw [if_pos h, if_pos h]
      by_cases w : p = a
      · rw [if_pos ⟨h.1, h.2, w⟩, if_pos w]
      · rw [if_neg fun z => w z.2.2, if_neg w]
    · rw [if_neg h, if_neg h, if_neg fun z => h ⟨z.1, z.2.1⟩]
  have e2 : (hs_wL (hs_wI (hs_st S qc ql) 87 1 a x) 86 1 b z).2.2.1 = (hs_st S (fun k => if k = a then x else qc k) (fun k => if k = b then z else ql k)).2.2.1 := by
    funext t i p
    show (if t = 86 ∧ i = 1 ∧ p = b then z else if t = 86 ∧ i = 1 then ql p else S.2.2.1 t i p) = if t = 86 ∧ i = 1 then (if p = b then z else ql p) else S.2.2.1 t i p
    by_cases h : t = 86 ∧ i = 1
    · rw [if_pos h, if_pos h]
      by_cases w : p = b
      · rw [if_pos ⟨h.1, h.2, w⟩, if_pos w]
      · rw [if_neg fun z => w z.2.2, if_neg w]
    · rw [if_neg h, if_neg h, if_neg fun z => h ⟨z.1, z.2.1⟩]
  exact Prod.ext e1 (Prod.ext rfl (Prod.ext e2 rfl))
theorem st_0 {S : hs_S} : hs_st S (S.1 87 1) (S.2.2.1 86 1) = S := by
  have e1 : (hs_st S (S.1 87 1) (S.2.2.1 86 1)).1 = S.1 := by
    funext t i p
    show (if t = 87 ∧ i = 1 then S.1 87 1 p else S.1 t i p) = S.1 t i p
    by_cases h : t = 87 ∧ i = 1
    · rw [if_pos h, h.1, h.2]
    · rw [if_neg h]
  have e2 : (hs_st S (S.1 87 1) (S.2.2.1 86 1)).2.2.1 = S.2.2.1 := by
    funext t i p
    show (if t = 86 ∧ i = 1 then S.2.2.1 86 1 p else S.2.2.1 t i p) = S.2.2.1 t i p
    by_cases h : t = 86 ∧ i = 1
    · rw [if_pos h, h.1, h.2]
    · rw [if_neg h]
  exact Prod.ext e1 (Prod.ext rfl (Prod.ext e2 rfl))
set_option maxHeartbeats 4000000 in
theorem v_M_settle {a1 : Int32} {S : hs_S} (hP : P_settle a1 S) : vc_M_settle a1 S (fun r T => R_settle a1 S r T) := by
  have z0 : (0 : Int64).toInt = 0 := rfl
  have z1 : (1 : Int64).toInt = 1 := rfl
  have y0 : (0 : Int32).toInt = 0 := rfl
  have y1 : (1 : Int32).toInt = 1 := rfl
  unfold vc_M_settle
  intro x hx
  have hx' : x = bI (okCol a1) := by
    rw [hx]; unfold bI
    by_cases p1 : a1 < 0 <;> by_cases p2 : 4 ≤ a1 <;> simp [p1, p2]
  refine ⟨by rw [hx']; exact bI_01 _, fun S3 h3 => ⟨fun q => ?_, fun q => ?_⟩⟩
  · have ok : okCol a1 := Classical.not_not.mp fun w => q (by rw [hx']; exact bI_f w)
    have h3' : S3 = E_asks 1 S := by rw [h3, hx', bI_t ok]
    obtain ⟨hD, hsum⟩ := hP ok
    obtain ⟨c, hc, ec⟩ := okCol_of ok
    unfold R_settle
    rw [← h3'] at hD hsum ⊢
    have hb : ∀ o, o < 6 → -1000000000 ≤ (F_dueOf (nI o) a1 S3).toInt ∧ (F_dueOf (nI o) a1 S3).toInt ≤ 1000000000 := fun o ho => (hD o ho).2
    have hL : 0 ≤ stL S3 a1 ∧ stL S3 a1 ≤ 5 := by
      have e1 : sI (stD S3 a1) 6 = 0 + stD S3 a1 0 + stD S3 a1 1 + stD S3 a1 2 + stD S3 a1 3 + stD S3 a1 4 + stD S3 a1 5 := rfl
      have e2 : stL S3 a1 = -(0 + stD S3 a1 0 / 10 + stD S3 a1 1 / 10 + stD S3 a1 2 / 10 + stD S3 a1 3 / 10 + stD S3 a1 4 / 10 + stD S3 a1 5 / 10) := rfl
      omega
    have hp10 : ∀ k, k ≤ 6 → -(600000000 : Int) ≤ sI (fun o => stD S3 a1 o / 10) k ∧ sI (fun o => stD S3 a1 o / 10) k ≤ 600000000 := fun k hk => by
      have hn : ∀ n : Nat, n ≤ k → -(100000000 * (n : Int)) ≤ sI (fun o => stD S3 a1 o / 10) n ∧ sI (fun o => stD S3 a1 o / 10) n ≤ 100000000 * n := by
        intro n
        induction n with
        | zero => intro _; exact ⟨by show _ ≤ (0 : Int); omega, by show (0 : Int) ≤ _; omega⟩
        | succ n ih =>
          intro h
          have a := ih (by omega)
          have b := (hD n (by omega)).2
          show _ ≤ sI (fun o => stD S3 a1 o / 10) n + stD S3 a1 n / 10 ∧ sI (fun o => stD S3 a1 o / 10) n + stD S3 a1 n / 10 ≤ _
          omega
      have := hn k (Nat.le_refl _)
      omega
    refine ⟨fun N x y => ∃ k, k ≤ 6 ∧ y = nI k ∧ x.toInt = -(sI (fun o => stD S3 a1 o / 10) k) ∧ N = 6 - k, ⟨6, 0, Nat.zero_le _, rfl, rfl, rfl⟩, ?_⟩
    rintro N x y ⟨k, hk, rfl, hx, rfl⟩
    refine ⟨fun h => ?_, fun h => ?_⟩
    · have := hl_end (g := 6) (by omega) hk h
      subst this
      have hx6 : x.toInt = stL S3 a1 := hx
      refine ⟨fun N y v => ∃ w : Nat, w < 64 ∧ v = nI w ∧ ((∀ h c : Nat, h < 6 → c < 6 → w.testBit h = true → w.testBit c = false → stB S3 a1 h c = true) ∧ 0 ≤ y.toInt ∧ y.toInt + sI (fun o => if w.testBit o then 1 else 0) 6 = stL S3 a1) ∧ N = y.toInt.toNat, ⟨x.toInt.toNat, 0, by omega, rfl, ⟨fun h c _ _ z => absurd z (by simp), by omega, ?_⟩, rfl⟩, ?_⟩
      · rw [sI_0 6 fun k _ => by simp]; omega
      rintro N y v ⟨w, hw, rfl, ⟨i1, i2, i3⟩, rfl⟩
      refine ⟨fun h => ?_, fun h => ?_⟩
      · have hy : y.toInt = 0 := by
          have := (lg_cmp_le _ _).mp h
          rw [i64_le, z0] at this; omega
        have hH : ∀ o, o < 6 → stH S3 a1 o = w.testBit o := fun o ho => by
          cases hbo : w.testBit o
          · refine decide_eq_false fun z => ?_
            have hle : sI (fun o => if w.testBit o then 1 else 0) 6 ≤ sI (fun c => if stB S3 a1 c o then 1 else 0) 6 := sI_le 6 fun c hc => by
              by_cases hbc : w.testBit c = true
              · rw [if_pos hbc, if_pos (i1 c o hc ho hbc hbo)]; exact Int.le_refl _
              · rw [if_neg hbc]; split <;> omega
            omega
          · refine decide_eq_true ?_
            have hu := sI_u (f := fun c => if c = o then 0 else if w.testBit c then (1 : Int) else 0) (g := fun c => if w.testBit c then (1 : Int) else 0) (b := o) 6 ho (fun k _ hk => (if_neg hk).symm)
            have hle : sI (fun c => if stB S3 a1 c o then 1 else 0) 6 ≤ sI (fun c => if c = o then 0 else if w.testBit c then (1 : Int) else 0) 6 := sI_le 6 fun c hc => by
              by_cases hco : c = o
              · rw [if_pos hco, hco, stB_ir]; exact Int.le_refl _
              · rw [if_neg hco]
                by_cases hs : stB S3 a1 c o = true
                · have : w.testBit c = true := by
                    cases hbc : w.testBit c
                    · have := stB_as (i1 o c ho hc hbo hbc)
                      rw [this] at hs; exact absurd hs (by decide)
                    · rfl
                  rw [if_pos hs, if_pos this]; exact Int.le_refl _
                · rw [if_neg hs]; split <;> omega
            simp only [hbo, if_true] at hu
            omega
        refine ⟨fun N r y T => ∃ k, k ≤ 6 ∧ y = nI k ∧ (∃ (qc : Nat → Int32) (ql : Nat → Int64) (pays : Nat → Int32), T = hs_st S3 qc ql ∧ ((∀ o, o < k → (pays o).toInt = stPay S3 a1 o ∧ qc o = S3.1 87 1 o - pays o) ∧ ∀ o, k ≤ o → qc o = S3.1 87 1 o) ∧ ((∀ o, o < k → ql (4 * o + c) = S3.2.2.1 86 1 (4 * o + c) + F_dueOf (nI o) a1 S3) ∧ ∀ p, (∀ o, o < k → p ≠ 4 * o + c) → ql p = S3.2.2.1 86 1 p) ∧ r.toInt = sI (fun o => max 0 (stPay S3 a1 o)) k) ∧ N = 6 - k, ⟨6, 0, Nat.zero_le _, rfl, ⟨S3.1 87 1, S3.2.2.1 86 1, fun _ => 0, st_0.symm, ⟨fun o ho => absurd ho (by omega), fun _ _ => rfl⟩, ⟨fun o ho => absurd ho (by omega), fun _ _ => rfl⟩, rfl⟩, rfl⟩, ?_⟩
        rintro N r y T ⟨k, hk, rfl, ⟨qc, ql, pays, rfl, ⟨j1, j2⟩, ⟨j3, j4⟩, j5⟩, rfl⟩
        refine ⟨fun h S39 h39 => ?_, fun h => ?_⟩
        · have := hl_end (g := 6) (by omega) hk h
          subst this
          have e87 : ∀ o, S3.1 87 1 o = S.1 87 1 o := fun o => by rw [h3]; rfl
          have e86 : ∀ o, S3.2.2.1 86 1 o = S.2.2.1 86 1 o := fun o => by rw [h3]; rfl
          refine ⟨fun z => absurd ok z, fun _ => ⟨qc, ql, pays, h39, fun o ho => by rw [← e87]; exact j1 o ho, fun c' o hc' ec' ho => ?_, fun c' p hc' ec' hp => ?_, j5⟩⟩
          · have : c = c' := (hl_inj (by omega) (by omega)).mp (ec.symm.trans ec')
            subst this
            rw [← e86]; exact j3 o ho
          · have : c = c' := (hl_inj (by omega) (by omega)).mp (ec.symm.trans ec')
            subst this
            rw [← e86]; exact j4 p hp
        · have hk1 := hl_go (g := 6) (by omega) hk h
          have hkc : (nI k).toNatClampNeg = k := hl_cl (by omega)
          have e4 : (4 : Int32) * nI k + a1 = nI (4 * k + c) := by
            rw [ec, show (4 : Int32) * nI k = nI (4 * k) from pk_mul 4 k]; exact nI_addI (by omega)
          have e4c : ((4 : Int32) * nI k + a1).toNatClampNeg = 4 * k + c := by rw [e4]; exact hl_cl (by omega)
          have eql : ql (4 * k + c) = S3.2.2.1 86 1 (4 * k + c) := j4 _ fun o ho => by omega
          have hdu : F_dueOf (nI k) a1 (hs_st S3 qc ql) = F_dueOf (nI k) a1 S3 := st_dueOf (by rw [e4c]; exact eql)
          have hbk := hb k hk1
          have hdn := down_is hbk
          have h32 : (F_down (F_dueOf (nI k) a1 S3)).toInt32.toInt = (F_dueOf (nI k) a1 S3).toInt / 10 := by
            rw [Int64.toInt_toInt32, hdn]; exact bm32 (by omega)
          have hpay : ((F_down (F_dueOf (nI k) a1 S3)).toInt32 + ((nI w >>> (nI k &&& 31)) &&& 1)).toInt = stPay S3 a1 k := by
            rw [w_test ⟨w, hw⟩ ⟨k, hk1⟩]
            unfold stPay
            rw [hH k hk1]
            show (_ + (if w.testBit k = true then (1 : Int32) else 0)).toInt = stD S3 a1 k / 10 + (if w.testBit k = true then (1 : Int) else 0)
            have hst : stD S3 a1 k = (F_dueOf (nI k) a1 S3).toInt := rfl
            rw [hst]
            by_cases hbt : w.testBit k = true
            · rw [if_pos hbt, if_pos hbt, i32_add (by rw [h32, y1]; omega), h32, y1]
            · rw [if_neg hbt, if_neg hbt, i32_add (by rw [h32, y0]; omega), h32, y0]
          rw [hdu]
          refine ⟨(hD k hk1).1, hl_ix (by omega) (by omega), fun S42 h42 => ⟨by rw [e4]; exact hl_ix (by omega) (by omega), fun S44 h44 => ?_⟩⟩
          rw [e4c] at h44
          rw [hkc] at h42
          generalize hpv : (F_down (F_dueOf (nI k) a1 S3)).toInt32 + ((nI w >>> (nI k &&& 31)) &&& 1) = pv at *
          have e44 : S44 = hs_st S3 (fun o => if o = k then S3.1 87 1 k - pv else qc o) (fun p => if p = 4 * k + c then S3.2.2.1 86 1 (4 * k + c) + F_dueOf (nI k) a1 S3 else ql p) := by
            have e1 : (hs_st S3 qc ql).1 87 1 k = S3.1 87 1 k := j2 k (Nat.le_refl _)
            have e2 : S42.2.2.1 86 1 (4 * k + c) = S3.2.2.1 86 1 (4 * k + c) := by rw [h42]; exact eql
            rw [h44, e2, h42, e1]; exact st_w
          have hsb : ∀ n : Nat, n ≤ 6 → 0 ≤ sI (fun o => max 0 (stPay S3 a1 o)) n ∧ sI (fun o => max 0 (stPay S3 a1 o)) n ≤ 100000001 * n := by
            intro n
            induction n with
            | zero => intro _; exact ⟨Int.le_refl _, Int.le_refl _⟩
            | succ n ih =>
              intro hn
              have a := ih (by omega)
              have b := (hD n (by omega)).2
              have b2 : stPay S3 a1 n ≤ 100000001 := by unfold stPay; split <;> omega
              show 0 ≤ sI (fun o => max 0 (stPay S3 a1 o)) n + max 0 (stPay S3 a1 n) ∧ sI (fun o => max 0 (stPay S3 a1 o)) n + max 0 (stPay S3 a1 n) ≤ _
              omega
          have hs1 := hsb k (by omega)
          have hs2 := hsb (k + 1) (by omega)
          have hs3 : sI (fun o => max 0 (stPay S3 a1 o)) (k + 1) = sI (fun o => max 0 (stPay S3 a1 o)) k + max 0 (stPay S3 a1 k) := rfl
          have hback : ∀ z : Int32, (r + z).toInt = sI (fun o => max 0 (stPay S3 a1 o)) (k + 1) → ∃ q, q < 6 - k ∧ ∃ k', k' ≤ 6 ∧ nI k + 1 = nI k' ∧ (∃ (qc : Nat → Int32) (ql : Nat → Int64) (pays : Nat → Int32), S44 = hs_st S3 qc ql ∧ ((∀ o, o < k' → (pays o).toInt = stPay S3 a1 o ∧ qc o = S3.1 87 1 o - pays o) ∧ ∀ o, k' ≤ o → qc o = S3.1 87 1 o) ∧ ((∀ o, o < k' → ql (4 * o + c) = S3.2.2.1 86 1 (4 * o + c) + F_dueOf (nI o) a1 S3) ∧ ∀ p, (∀ o, o < k' → p ≠ 4 * o + c) → ql p = S3.2.2.1 86 1 p) ∧ (r + z).toInt = sI (fun o => max 0 (stPay S3 a1 o)) k') ∧ q = 6 - k' := fun z hz => by
            refine hl_nx hk1 ⟨_, _, fun o => if o = k then pv else pays o, e44, ⟨fun o ho => ?_, fun o ho => ?_⟩, ⟨fun o ho => ?_, fun p hp => ?_⟩, hz⟩
            · by_cases hok : o = k
              · subst hok
                simp only [if_true]
                exact ⟨hpay, trivial⟩
              · simp only [if_neg hok]
                exact j1 o (by omega)
            · simp only [if_neg (show ¬ o = k by omega)]
              exact j2 o (by omega)
            · by_cases hok : o = k
              · subst hok
                simp only [if_true]
              · simp only [if_neg (show ¬ 4 * o + c = 4 * k + c by omega)]
                exact j3 o (by omega)
            · simp only [if_neg (hp k (by omega))]
              exact j4 p fun o ho => hp o (by omega)
          refine ⟨fun hz => hback 0 ?_, fun hz => hback pv ?_⟩
          · rw [i32_le, y0] at hz
            rw [i32_add (by omega), y0, j5, hs3]; omega
          · rw [i32_le, y0] at hz
            rw [i32_add (by omega), j5, hs3]; omega
      · have hy : 0 < y.toInt := by
          have : ¬ y ≤ 0 := fun z => h ((lg_cmp_le _ _).mpr z)
          rw [i64_le, z0] at this; omega
        refine ⟨fun N a b => ∃ j, j ≤ 6 ∧ b = nI j ∧ ((a = -1 ∧ ∀ c : Nat, c < j → w.testBit c = true) ∨ ∃ m : Nat, m < j ∧ a = nI m ∧ w.testBit m = false ∧ ∀ c : Nat, c < j → w.testBit c = false → c ≠ m → stB S3 a1 m c = true) ∧ N = 6 - j, ⟨6, 0, Nat.zero_le _, rfl, Or.inl ⟨rfl, fun c hc => absurd hc (by omega)⟩, rfl⟩, ?_⟩
        rintro N a b ⟨j, hj, rfl, hnx, rfl⟩
        refine ⟨fun hend => ?_, fun hgo => ?_⟩
        · have := hl_end (g := 6) (by omega) hj hend
          subst this
          rcases hnx with ⟨_, hall⟩ | ⟨m, hm, rfl, hm2, hmin⟩
          · exfalso
            have e6 : sI (fun o => if w.testBit o then (1 : Int) else 0) 6 = sI (fun _ => 1) 6 := sI_c 6 fun k hk => if_pos (hall k hk)
            have e7 : sI (fun _ => (1 : Int)) 6 = 6 := rfl
            omega
          · obtain ⟨⟨s1, s2⟩, s3⟩ := w_set ⟨w, hw⟩ ⟨m, hm⟩
            have hyb := i64_b y
            have hyz : (y - 1).toInt = y.toInt - 1 := by rw [i64_sub (by rw [z1]; omega), z1]
            have s3' : ∀ o, o < 6 → (w ||| 2 ^ m).testBit o = (w.testBit o || decide (m = o)) := fun o ho => s3 ⟨o, ho⟩
            refine ⟨(y - 1).toInt.toNat, by omega, w ||| 2 ^ m, s2, s1, ⟨fun h c hh hc hh2 hc2 => ?_, by omega, ?_⟩, rfl⟩
            · rw [s3' h hh] at hh2
              rw [s3' c hc] at hc2
              have hc3 : w.testBit c = false := by
                cases z : w.testBit c
                · rfl
                · rw [z] at hc2; exact absurd hc2 (by simp)
              have hcm : ¬ m = c := fun z => by rw [hc3, decide_eq_true z] at hc2; exact absurd hc2 (by decide)
              by_cases hhm : m = h
              · rw [← hhm]; exact hmin c hc hc3 fun z => hcm z.symm
              · rw [decide_eq_false hhm, Bool.or_false] at hh2
                exact i1 h c hh hc hh2 hc3
            · have hu := sI_u (f := fun o => if w.testBit o then (1 : Int) else 0) (g := fun o => if (w ||| 2 ^ m).testBit o then (1 : Int) else 0) (b := m) 6 hm (fun k hk hkm => by
                show (if (w ||| 2 ^ m).testBit k then (1 : Int) else 0) = _
                rw [s3' k hk, decide_eq_false (fun z => hkm z.symm), Bool.or_false])
              have e1 : (w ||| 2 ^ m).testBit m = true := by rw [s3' m hm, decide_eq_true rfl, Bool.or_true]
              rw [hu]
              simp only [e1, hm2, if_true]
              rw [hyz]
              have e2 : (if false = true then (1 : Int) else 0) = 0 := rfl
              rw [e2]; omega
        · have hj1 := hl_go (g := 6) (by omega) hj hgo
          intro z hz
          have hz' : z = if w.testBit j = true then 0 else 1 := by
            rw [hz, w_test ⟨w, hw⟩ ⟨j, hj1⟩]
            show (if (if w.testBit j = true then (1 : Int32) else 0) = 0 then (1 : Int32) else 0) = _
            cases w.testBit j <;> rfl
          refine ⟨fun h0 => ?_, fun h0 => ⟨fun ha => ?_, fun ha => ?_⟩⟩
          · have hbj : w.testBit j = true := by
              cases y : w.testBit j
              · rw [hz', y] at h0; exact absurd h0 (by decide)
              · rfl
            refine hl_nx hj1 ?_
            rcases hnx with ⟨rfl, hall⟩ | ⟨m, hm, rfl, hm2, hmin⟩
            · refine Or.inl ⟨rfl, fun c hc => ?_⟩
              by_cases hcj : c = j
              · rw [hcj]; exact hbj
              · exact hall c (by omega)
            · refine Or.inr ⟨m, by omega, rfl, hm2, fun c hc hc2 hcm => ?_⟩
              by_cases hcj : c = j
              · rw [hcj, hbj] at hc2; exact absurd hc2 (by decide)
              · exact hmin c (by omega) hc2 hcm
          · have hbj : w.testBit j = false := by
              cases y : w.testBit j
              · rfl
              · rw [hz', y] at h0; exact absurd rfl h0
            refine hl_nx hj1 (Or.inr ⟨j, by omega, rfl, hbj, fun c hc hc2 hcj => ?_⟩)
            rcases hnx with ⟨_, hall⟩ | ⟨m, hm, rfl, _⟩
            · rw [hall c (by omega)] at hc2; exact absurd hc2 (by decide)
            · exfalso
              have e1 := congrArg Int32.toInt ha
              rw [nI_toInt (by omega)] at e1
              have e2 : (-1 : Int32).toInt = -1 := rfl
              omega
          · have hbj : w.testBit j = false := by
              cases y : w.testBit j
              · rfl
              · rw [hz', y] at h0; exact absurd rfl h0
            rcases hnx with ⟨rfl, _⟩ | ⟨m, hm, rfl, hm2, hmin⟩
            · exact absurd rfl ha
            · have rj := rest_is (hb j hj1)
              have rm := rest_is (hb m (by omega))
              refine ⟨(hD j hj1).1, (hD m (by omega)).1, fun hle => ?_, fun hle => ?_⟩
              · have := (lg_cmp_le _ _).mp hle
                rw [i64_le, rj, rm] at this
                refine hl_nx hj1 (Or.inr ⟨m, by omega, rfl, hm2, fun c hc hc2 hcm => ?_⟩)
                by_cases hcj : c = j
                · subst hcj
                  refine decide_eq_true ?_
                  unfold stD; omega
                · exact hmin c (by omega) hc2 hcm
              · have : ¬ F_restOf (nI j) a1 S3 ≤ F_restOf (nI m) a1 S3 := fun z => hle ((lg_cmp_le _ _).mpr z)
                rw [i64_le, rj, rm] at this
                refine hl_nx hj1 (Or.inr ⟨j, by omega, rfl, hbj, fun c hc hc2 hcj => ?_⟩)
                by_cases hcm : c = m
                · subst hcm
                  refine decide_eq_true ?_
                  unfold stD; omega
                · have h5 := of_decide_eq_true (hmin c (by omega) hc2 hcm)
                  refine decide_eq_true ?_
                  unfold stD at h5 ⊢; omega
    · have hk1 := hl_go (g := 6) (by omega) hk h
      have hdn := down_is (hb k hk1)
      have hp := hp10 k (by omega)
      refine ⟨(hD k hk1).1, hl_nx hk1 ?_⟩
      show (x - F_down (F_dueOf (nI k) a1 S3)).toInt = -(sI (fun o => stD S3 a1 o / 10) k + (F_dueOf (nI k) a1 S3).toInt / 10)
      have := hb k hk1
      rw [i64_sub (by rw [hdn]; omega), hdn, hx]; omega
  · have nok : ¬ okCol a1 := fun w => by rw [hx', bI_t w] at q; exact absurd q (by decide)
    exact ⟨fun _ => ⟨by rw [h3, hx', bI_f nok], rfl⟩, fun w => absurd w nok⟩

