def clY (S : hs_S) (c e f v : Int32) : Int32 := if F_isEmptyAt c e S = 0 then (if f = 0 then (if 0 ≤ v then 0 else 6) else f) else 5
def clF (p v : Int32) : Int32 := if p = -1 then 0 else if 0 ≤ v then (if v ≤ 1000 then v else 1000) else 0
/-- a round with what it comes to -/
abbrev clU1 (S : hs_S) (r : Int32) (why price : Int32) : hs_S := hs_wI (hs_wI S 84 1 r.toNatClampNeg why) 81 1 r.toNatClampNeg price
abbrev clU2 (S : hs_S) (r : Int32) (why price fee : Int32) : hs_S := hs_wI (clU1 S r why price) 83 1 r.toNatClampNeg fee
abbrev clVol (S : hs_S) (r : Int32) : Int32 := if F_sumOf r 0 S ≤ F_sumOf r 1 S then F_sumOf r 0 S else F_sumOf r 1 S
abbrev clU (S : hs_S) (r : Int32) (why price fee : Int32) : hs_S := hs_wI (clU2 S r why price fee) 82 1 r.toNatClampNeg (clVol (clU2 S r why price fee) r)
/-- what the bids of a round get -/
def clG (U : hs_S) (r : Int32) (g b : Nat) : Int := if shT U r 1 b then shG U r 1 (F_sumOf r 1 U) g b else if shT U r 0 b then shG U r 0 (F_sumOf r 0 U) g b else 0
abbrev clC (S : hs_S) (r : Int32) : Int32 := 6 * S.1 77 1 r.toNatClampNeg
abbrev clE (S : hs_S) (r : Int32) : Int32 := S.1 78 1 r.toNatClampNeg
def P_clears (r : Int32) (S : hs_S) : Prop := (∃ k : Nat, k < 30 ∧ r = nI k) ∧ (∃ c : Nat, c < 4 ∧ S.1 77 1 r.toNatClampNeg = nI c) ∧ mOk (clE S r) S ∧ ∃ g : Nat, g ≤ 80 ∧ S.1 11 1 24 = nI g ∧ ∀ b, b < g → 1 ≤ (S.1 68 1 b).toInt ∧ (S.1 68 1 b).toInt ≤ 100
def R_clears (r : Int32) (S T : hs_S) : Prop := ∃ f v f2 v2 : Int32, ∃ q : Nat → Int32,
  (mVal S (clE S r) (clC S r) f v ∧ mVal (clU1 S r (clY S (clC S r) (clE S r) f v) (if clY S (clC S r) (clE S r) f v = 0 then v else -1)) (clE S r) (clC S r + 1) f2 v2) ∧
  hs_cl T = hs_cl (hs_got (clU S r (clY S (clC S r) (clE S r) f v) (if clY S (clC S r) (clE S r) f v = 0 then v else -1) (clF (if clY S (clC S r) (clE S r) f v = 0 then v else -1) v2)) q) ∧
  ∀ g : Nat, g ≤ 80 → S.1 11 1 24 = nI g → (∀ b, b < g → S.1 72 1 b = r → (q b).toInt = clG (clU S r (clY S (clC S r) (clE S r) f v) (if clY S (clC S r) (clE S r) f v = 0 then v else -1) (clF (if clY S (clC S r) (clE S r) f v = 0 then v else -1) v2)) r g b) ∧ (∀ b, ¬ (b < g ∧ S.1 72 1 b = r) → q b = S.1 74 1 b) ∧ ∀ u : Int32, u = 0 ∨ u = 1 → sI (fun b => if shT (clU S r (clY S (clC S r) (clE S r) f v) (if clY S (clC S r) (clE S r) f v = 0 then v else -1) (clF (if clY S (clC S r) (clE S r) f v = 0 then v else -1) v2)) r u b then (q b).toInt else 0) g = (shV0 (clU S r (clY S (clC S r) (clE S r) f v) (if clY S (clC S r) (clE S r) f v = 0 then v else -1) (clF (if clY S (clC S r) (clE S r) f v = 0 then v else -1) v2)) r).toInt
def m_M_clears (a1 : Int32) (S : hs_S) (Q : hs_S → Prop) : Prop := hs_M 6 yX11_clears (.code yX11_clears cX11_clears 8 none) [.inr (.inr (11, 1)), .inl a1] S 0 0 (hs_qV Q) hs_nX
def vc_M_clears (a1 : Int32) (S : hs_S) (Q : hs_S → Prop) : Prop := ((0 ≤ a1.toInt ∧ a1.toInt < 30) ∧ ((P_valueAt ((6 : Int32) * (S.1 77 1 a1.toNatClampNeg)) (S.1 78 1 a1.toNatClampNeg) S) ∧ (∀ r4 : Int32, ∀ S3 : hs_S, R_valueAt ((6 : Int32) * (S.1 77 1 a1.toNatClampNeg)) (S.1 78 1 a1.toNatClampNeg) S r4 S3 → ((P_isEmptyAt ((6 : Int32) * (S.1 77 1 a1.toNatClampNeg)) (S.1 78 1 a1.toNatClampNeg) S3) ∧ (∀ x7 : Int32, x7 = (if (F_isEmptyAt ((6 : Int32) * (S.1 77 1 a1.toNatClampNeg)) (S.1 78 1 a1.toNatClampNeg) S3) = 0 then (if (S3.1 11 1 58) = 0 then (if 0 ≤ r4 then (0 : Int32) else (6 : Int32)) else (S3.1 11 1 58)) else (5 : Int32)) → (∀ S8 : hs_S, S8 = (hs_wI S3 84 1 a1.toNatClampNeg x7) → (∀ x9 : Int32, x9 = (if (S8.1 84 1 a1.toNatClampNeg) = 0 then r4 else (-1 : Int32)) → (∀ S10 : hs_S, S10 = (hs_wI S8 81 1 a1.toNatClampNeg x9) → ((P_valueAt (((6 : Int32) * (S.1 77 1 a1.toNatClampNeg)) + (1 : Int32)) (S.1 78 1 a1.toNatClampNeg) S10) ∧ (∀ r13 : Int32, ∀ S12 : hs_S, R_valueAt (((6 : Int32) * (S.1 77 1 a1.toNatClampNeg)) + (1 : Int32)) (S.1 78 1 a1.toNatClampNeg) S10 r13 S12 → (∀ x15 : Int32, x15 = (if (S12.1 81 1 a1.toNatClampNeg) = (-1 : Int32) then (0 : Int32) else (if 0 ≤ r13 then (if r13 ≤ (1000 : Int32) then r13 else (1000 : Int32)) else (0 : Int32))) → (∀ S16 : hs_S, S16 = (hs_wI S12 83 1 a1.toNatClampNeg x15) → (∃ I18 : Nat → Int32 → hs_S → Prop, (∃ n23, I18 n23 (0 : Int32) S16) ∧ (∀ N19 : Nat, ∀ x17 : Int32, ∀ S20 : hs_S, I18 N19 x17 S20 → (((S20.1 11 1 24) ≤ x17 → ((P_sumOf a1 (1 : Int32) S20) ∧ ((P_sumOf a1 (0 : Int32) S20) ∧ (∀ x30 : Int32, x30 = (if (F_sumOf a1 (0 : Int32) S20) ≤ (F_sumOf a1 (1 : Int32) S20) then (F_sumOf a1 (0 : Int32) S20) else (F_sumOf a1 (1 : Int32) S20)) → (∀ S31 : hs_S, S31 = (hs_wI S20 82 1 a1.toNatClampNeg x30) → ((P_shares a1 (1 : Int32) (F_sumOf a1 (1 : Int32) S20) S31) ∧ (∀ S33 : hs_S, R_shares a1 (1 : Int32) (F_sumOf a1 (1 : Int32) S20) S31 S33 → ((P_shares a1 (0 : Int32) (F_sumOf a1 (0 : Int32) S20) S33) ∧ (∀ S37 : hs_S, R_shares a1 (0 : Int32) (F_sumOf a1 (0 : Int32) S20) S33 S37 → (Q S37)))))))))) ∧ (¬ (S20.1 11 1 24) ≤ x17 → ((0 ≤ x17.toInt ∧ x17.toInt < 80) ∧ ((¬ (S20.1 72 1 x17.toNatClampNeg) = a1 → (∀ S45 : hs_S, S45 = (hs_wI S20 74 1 x17.toNatClampNeg (S20.1 74 1 x17.toNatClampNeg)) → (∃ q46, q46 < N19 ∧ I18 q46 (x17 + 1) S45))) ∧ ((S20.1 72 1 x17.toNatClampNeg) = a1 → (∀ S48 : hs_S, S48 = (hs_wI S20 74 1 x17.toNatClampNeg (0 : Int32)) → (∃ q49, q49 < N19 ∧ I18 q49 (x17 + 1) S48)))))))))))))))))))))
set_option maxRecDepth 100000 in
set_option maxHeartbeats 4000000 in
theorem ok_M_clears {a1 : Int32} {S : hs_S} {Q : hs_S → Prop} (hw : hs_Wi S) (hv : vc_M_clears a1 S Q) : m_M_clears a1 S Q := by
  unfold vc_M_clears at hv
  refine hs_body (own := RX11) rfl rfl (Nat.le_of_ble_eq_true rfl) (fun Z X E N J0 => ?_)
  show wa Z 0 0 S 0 [(0, .inr (.inr (11, 1))), (1, .inl a1)] []
  refine wa_aload_n X 0 rfl dX11_clears_0 rfl ?_
  refine wa_getfw X hw (j := 38) (r := 1) hk_11 hc_11 i_11 (by decide) kw_1222 rfl rfl (by decide) rfl dX11_clears_1 hs_1ne ?_
  refine wa_iload_n X 1 rfl dX11_clears_4 rfl ?_
  obtain ⟨o1, hv⟩ := hv
  refine wa_iald X hk_78 dX11_clears_5 hs_1ne o1 ?_
  refine wa_istore_n X (lv' := [(2, .inl (S.1 78 1 a1.toNatClampNeg)), (0, .inr (.inr (11, 1))), (1, .inl a1)]) dX11_clears_6 rfl (by decide) rfl ?_
  refine wa_bipush X dX11_clears_7 kb6 ?_
  refine wa_aload_n X 1 rfl dX11_clears_9 rfl ?_
  refine wa_getfw X hw (j := 37) (r := 1) hk_11 hc_11 i_11 (by decide) kw_1221 rfl rfl (by decide) rfl dX11_clears_10 hs_1ne ?_
  refine wa_iload_n X 2 rfl dX11_clears_13 rfl ?_
  refine wa_iald X hk_77 dX11_clears_14 hs_1ne o1 ?_
  refine wa_imul X dX11_clears_15 ?_
  refine wa_istore_n X (lv' := [(3, .inl ((6 : Int32) * (S.1 77 1 a1.toNatClampNeg))), (2, .inl (S.1 78 1 a1.toNatClampNeg)), (0, .inr (.inr (11, 1))), (1, .inl a1)]) dX11_clears_16 rfl (by decide) rfl ?_
  refine wa_aload_n X 2 rfl dX11_clears_17 rfl ?_
  refine wa_iload_n X 0 rfl dX11_clears_18 rfl ?_
  refine wa_iload_n X 1 rfl dX11_clears_19 rfl ?_
  obtain ⟨o2, hv⟩ := hv
  refine wa_callV X (As := [.inl ((6 : Int32) * (S.1 77 1 a1.toNatClampNeg)), .inl (S.1 78 1 a1.toNatClampNeg)]) (ok_M_valueAt hw (v_M_valueAt o2)) hk_11 hc_11 rfl kw_1459 kw_66 kw_1456 kw_1458 kw_28 nd_X11_valueAt rfl rfl (Nat.le_of_ble_eq_true rfl) dX11_clears_20 hs_1ne ⟨⟨Nat.le_of_ble_eq_true rfl, Nat.le_of_ble_eq_true rfl⟩, Nat.le_of_ble_eq_true rfl, Nat.le_of_ble_eq_true rfl⟩ (fun _ S3 h => ?_) (fun _ _ h => h.elim)
  obtain ⟨hw, r4, rfl, g5⟩ := h
  replace hv := hv r4 S3 g5
  refine wa_istore X (lv' := [(4, .inl r4), (3, .inl ((6 : Int32) * (S.1 77 1 a1.toNatClampNeg))), (2, .inl (S.1 78 1 a1.toNatClampNeg)), (0, .inr (.inr (11, 1))), (1, .inl a1)]) dX11_clears_23 (by decide) rfl ?_
  refine wa_aload_n X 3 rfl dX11_clears_25 rfl ?_
  refine wa_getfw X hw (j := 44) (r := 1) hk_11 hc_11 i_11 (by decide) kw_1228 rfl rfl (by decide) rfl dX11_clears_26 hs_1ne ?_
  refine wa_iload_n X 4 rfl dX11_clears_29 rfl ?_
  refine wa_aload_n X 3 rfl dX11_clears_30 rfl ?_
  refine wa_iload_n X 1 rfl dX11_clears_31 rfl ?_
  refine wa_iload_n X 2 rfl dX11_clears_32 rfl ?_
  obtain ⟨o6, hv⟩ := hv
  refine wa_callV X (As := [.inl ((6 : Int32) * (S.1 77 1 a1.toNatClampNeg)), .inl (S.1 78 1 a1.toNatClampNeg)]) (f_M_isEmptyAt hw o6) hk_11 hc_11 rfl kw_1467 kw_66 kw_1464 kw_1466 kw_30 nd_X11_isEmptyAt rfl rfl (Nat.le_of_ble_eq_true rfl) dX11_clears_33 hs_1ne ⟨⟨Nat.le_of_ble_eq_true rfl, Nat.le_of_ble_eq_true rfl⟩, Nat.le_of_ble_eq_true rfl, Nat.le_of_ble_eq_true rfl⟩ (hs_pdk0 ?_) (fun _ _ h => h.elim)
  have k59 : ∀ (x7 : Int32), x7 = (if (F_isEmptyAt ((6 : Int32) * (S.1 77 1 a1.toNatClampNeg)) (S.1 78 1 a1.toNatClampNeg) S3) = 0 then (if (S3.1 11 1 58) = 0 then (if 0 ≤ r4 then (0 : Int32) else (6 : Int32)) else (S3.1 11 1 58)) else (5 : Int32)) → wa Z 0 0 S3 68 [(0, .inr (.inr (11, 1))), (1, .inl a1), (2, .inl (S.1 78 1 a1.toNatClampNeg)), (3, .inl ((6 : Int32) * (S.1 77 1 a1.toNatClampNeg))), (4, .inl r4)] [.inl x7, .inl a1, .inr (.inr (84, 1))] := by
    intro x7 hE
    replace hv := hv _ hE
    refine wa_iast X hk_84 dX11_clears_68 hs_1ne o1 (hs_eqS fun S8 hS8 => ?_)
    replace hv := hv S8 hS8
    replace hw : hs_Wi S8 := hS8 ▸ hs_Wi_I hw
    refine wa_aload_n X 0 rfl dX11_clears_69 rfl ?_
    refine wa_getfw X hw (j := 41) (r := 1) hk_11 hc_11 i_11 (by decide) kw_1225 rfl rfl (by decide) rfl dX11_clears_70 hs_1ne ?_
    refine wa_iload_n X 1 rfl dX11_clears_73 rfl ?_
    refine wa_aload_n X 0 rfl dX11_clears_74 rfl ?_
    refine wa_getfw X hw (j := 44) (r := 1) hk_11 hc_11 i_11 (by decide) kw_1228 rfl rfl (by decide) rfl dX11_clears_75 hs_1ne ?_
    refine wa_iload_n X 1 rfl dX11_clears_78 rfl ?_
    refine wa_iald X hk_84 dX11_clears_79 hs_1ne o1 ?_
    have k56 : ∀ (x9 : Int32), x9 = (if (S8.1 84 1 a1.toNatClampNeg) = 0 then r4 else (-1 : Int32)) → wa Z 0 0 S8 89 [(0, .inr (.inr (11, 1))), (1, .inl a1), (2, .inl (S.1 78 1 a1.toNatClampNeg)), (3, .inl ((6 : Int32) * (S.1 77 1 a1.toNatClampNeg)))] [.inl x9, .inl a1, .inr (.inr (81, 1))] := by
      intro x9 hE
      replace hv := hv _ hE
      refine wa_iast X hk_81 dX11_clears_89 hs_1ne o1 (hs_eqS fun S10 hS10 => ?_)
      replace hv := hv S10 hS10
      replace hw : hs_Wi S10 := hS10 ▸ hs_Wi_I hw
      refine wa_aload_n X 0 rfl dX11_clears_90 rfl ?_
      refine wa_iload_n X 3 rfl dX11_clears_91 rfl ?_
      refine wa_iconst X dX11_clears_92 kc1 ?_
      refine wa_iadd X dX11_clears_93 ?_
      refine wa_iload_n X 2 rfl dX11_clears_94 rfl ?_
      obtain ⟨o11, hv⟩ := hv
      refine wa_callV X (As := [.inl (((6 : Int32) * (S.1 77 1 a1.toNatClampNeg)) + (1 : Int32)), .inl (S.1 78 1 a1.toNatClampNeg)]) (ok_M_valueAt hw (v_M_valueAt o11)) hk_11 hc_11 rfl kw_1459 kw_66 kw_1456 kw_1458 kw_28 nd_X11_valueAt rfl rfl (Nat.le_of_ble_eq_true rfl) dX11_clears_95 hs_1ne ⟨⟨Nat.le_of_ble_eq_true rfl, Nat.le_of_ble_eq_true rfl⟩, Nat.le_of_ble_eq_true rfl, Nat.le_of_ble_eq_true rfl⟩ (fun _ S12 h => ?_) (fun _ _ h => h.elim)
      obtain ⟨hw, r13, rfl, g14⟩ := h
      replace hv := hv r13 S12 g14
      refine wa_istore X (lv' := [(5, .inl r13), (0, .inr (.inr (11, 1))), (1, .inl a1), (2, .inl (S.1 78 1 a1.toNatClampNeg)), (3, .inl ((6 : Int32) * (S.1 77 1 a1.toNatClampNeg)))]) dX11_clears_98 (by decide) rfl ?_
      refine wa_aload_n X 1 rfl dX11_clears_100 rfl ?_
      refine wa_getfw X hw (j := 43) (r := 1) hk_11 hc_11 i_11 (by decide) kw_1227 rfl rfl (by decide) rfl dX11_clears_101 hs_1ne ?_
      refine wa_iload_n X 2 rfl dX11_clears_104 rfl ?_
      refine wa_aload_n X 1 rfl dX11_clears_105 rfl ?_
      refine wa_getfw X hw (j := 41) (r := 1) hk_11 hc_11 i_11 (by decide) kw_1225 rfl rfl (by decide) rfl dX11_clears_106 hs_1ne ?_
      refine wa_iload_n X 2 rfl dX11_clears_109 rfl ?_
      refine wa_iald X hk_81 dX11_clears_110 hs_1ne o1 ?_
      refine wa_iconst X dX11_clears_111 kcm1 ?_
      have k51 : ∀ (x15 : Int32), x15 = (if (S12.1 81 1 a1.toNatClampNeg) = (-1 : Int32) then (0 : Int32) else (if 0 ≤ r13 then (if r13 ≤ (1000 : Int32) then r13 else (1000 : Int32)) else (0 : Int32))) → wa Z 0 0 S12 140 [(0, .inr (.inr (11, 1))), (1, .inl a1)] [.inl x15, .inl a1, .inr (.inr (83, 1))] := by
        intro x15 hE
        replace hv := hv _ hE
        refine wa_iast X hk_83 dX11_clears_140 hs_1ne o1 (hs_eqS fun S16 hS16 => ?_)
        replace hv := hv S16 hS16
        replace hw : hs_Wi S16 := hS16 ▸ hs_Wi_I hw
        refine wa_iconst X dX11_clears_141 kc0 ?_
        refine wa_istore X (lv' := [(6, .inl (0 : Int32)), (0, .inr (.inr (11, 1))), (1, .inl a1)]) dX11_clears_142 (by decide) rfl ?_
        obtain ⟨I18, ⟨n23, i21⟩, b22⟩ := hv
        refine wa_lv (lv' := [(0, .inr (.inr (11, 1))), (1, .inl a1), (6, .inl (0 : Int32))]) [1, 2, 0] rfl ?_
        suffices L24 : ∀ N19 : Nat, ∀ x17 : Int32, ∀ S20 : hs_S, hs_Wi S20 → I18 N19 x17 S20 → wa Z 0 0 S20 144 [(0, .inr (.inr (11, 1))), (1, .inl a1), (6, .inl x17)] [] from L24 _ _ _ hw i21
        clear hw
        clear i21
        intro N19
        induction N19 using Nat.strongRecOn with
        | _ N19 h25 =>
          intro x17 S20 hw j26
          have hv := b22 N19 x17 S20 j26
          refine wa_iload X 2 rfl dX11_clears_144 ?_
          refine wa_aload_n X 0 rfl dX11_clears_146 rfl ?_
          refine wa_getI X (j := 24) hk_11 hc_11 i_11 (by decide) kw_1208 rfl dX11_clears_147 hs_1ne ?_
          refine wa_icmp_ge X (tgt := 188) dX11_clears_150 (by decide) (fun c27 => ?_) (fun c27 => ?_)
          · replace hv := hv.1 c27
            refine wa_aload_n X 0 rfl dX11_clears_188 rfl ?_
            refine wa_iload_n X 1 rfl dX11_clears_189 rfl ?_
            refine wa_iconst X dX11_clears_190 kc1 ?_
            obtain ⟨o28, hv⟩ := hv
            refine wa_callV X (As := [.inl a1, .inl (1 : Int32)]) (f_M_sumOf hw o28) hk_11 hc_11 rfl kw_1566 kw_66 kw_1563 kw_1565 kw_47 nd_X11_sumOf rfl rfl (Nat.le_of_ble_eq_true rfl) dX11_clears_191 hs_1ne ⟨⟨Nat.le_of_ble_eq_true rfl, Nat.le_of_ble_eq_true rfl⟩, Nat.le_of_ble_eq_true rfl, Nat.le_of_ble_eq_true rfl⟩ (hs_pdk0 ?_) (fun _ _ h => h.elim)
            refine wa_istore X (lv' := [(6, .inl (F_sumOf a1 (1 : Int32) S20)), (0, .inr (.inr (11, 1))), (1, .inl a1)]) dX11_clears_194 (by decide) rfl ?_
            refine wa_aload_n X 1 rfl dX11_clears_196 rfl ?_
            refine wa_iload_n X 2 rfl dX11_clears_197 rfl ?_
            refine wa_iconst X dX11_clears_198 kc0 ?_
            obtain ⟨o29, hv⟩ := hv
            refine wa_callV X (As := [.inl a1, .inl (0 : Int32)]) (f_M_sumOf hw o29) hk_11 hc_11 rfl kw_1566 kw_66 kw_1563 kw_1565 kw_47 nd_X11_sumOf rfl rfl (Nat.le_of_ble_eq_true rfl) dX11_clears_199 hs_1ne ⟨⟨Nat.le_of_ble_eq_true rfl, Nat.le_of_ble_eq_true rfl⟩, Nat.le_of_ble_eq_true rfl, Nat.le_of_ble_eq_true rfl⟩ (hs_pdk0 ?_) (fun _ _ h => h.elim)
            refine wa_istore X (lv' := [(7, .inl (F_sumOf a1 (0 : Int32) S20)), (6, .inl (F_sumOf a1 (1 : Int32) S20)), (0, .inr (.inr (11, 1))), (1, .inl a1)]) dX11_clears_202 (by decide) rfl ?_
            refine wa_aload_n X 2 rfl dX11_clears_204 rfl ?_
            refine wa_getfw X hw (j := 42) (r := 1) hk_11 hc_11 i_11 (by decide) kw_1226 rfl rfl (by decide) rfl dX11_clears_205 hs_1ne ?_
            refine wa_iload_n X 3 rfl dX11_clears_208 rfl ?_
            refine wa_iload X 1 rfl dX11_clears_209 ?_
            refine wa_iload X 0 rfl dX11_clears_211 ?_
            have k40 : ∀ (x30 : Int32), x30 = (if (F_sumOf a1 (0 : Int32) S20) ≤ (F_sumOf a1 (1 : Int32) S20) then (F_sumOf a1 (0 : Int32) S20) else (F_sumOf a1 (1 : Int32) S20)) → wa Z 0 0 S20 223 [(0, .inr (.inr (11, 1))), (1, .inl a1), (6, .inl (F_sumOf a1 (1 : Int32) S20)), (7, .inl (F_sumOf a1 (0 : Int32) S20))] [.inl x30, .inl a1, .inr (.inr (82, 1))] := by
              intro x30 hE
              replace hv := hv _ hE
              refine wa_iast X hk_82 dX11_clears_223 hs_1ne o1 (hs_eqS fun S31 hS31 => ?_)
              replace hv := hv S31 hS31
              replace hw : hs_Wi S31 := hS31 ▸ hs_Wi_I hw
              refine wa_aload_n X 0 rfl dX11_clears_224 rfl ?_
              refine wa_iload_n X 1 rfl dX11_clears_225 rfl ?_
              refine wa_iconst X dX11_clears_226 kc1 ?_
              refine wa_iload X 2 rfl dX11_clears_227 ?_
              obtain ⟨o32, hv⟩ := hv
              refine wa_callV X (As := [.inl a1, .inl (1 : Int32), .inl (F_sumOf a1 (1 : Int32) S20)]) (ok_M_shares hw (v_M_shares o32)) hk_11 hc_11 rfl kw_1574 kw_66 kw_1571 kw_1573 kw_49 nd_X11_shares rfl rfl (Nat.le_of_ble_eq_true rfl) dX11_clears_229 hs_1ne ⟨⟨Nat.le_of_ble_eq_true rfl, Nat.le_of_ble_eq_true rfl⟩, Nat.le_of_ble_eq_true rfl, Nat.le_of_ble_eq_true rfl⟩ (fun _ S33 h => ?_) (fun _ _ h => h.elim)
              obtain ⟨hw, rfl, g35⟩ := h
              replace hv := hv S33 g35
              refine wa_aload_n X 0 rfl dX11_clears_232 rfl ?_
              refine wa_iload_n X 1 rfl dX11_clears_233 rfl ?_
              refine wa_iconst X dX11_clears_234 kc0 ?_
              refine wa_iload X 3 rfl dX11_clears_235 ?_
              obtain ⟨o36, hv⟩ := hv
              refine wa_callV X (As := [.inl a1, .inl (0 : Int32), .inl (F_sumOf a1 (0 : Int32) S20)]) (ok_M_shares hw (v_M_shares o36)) hk_11 hc_11 rfl kw_1574 kw_66 kw_1571 kw_1573 kw_49 nd_X11_shares rfl rfl (Nat.le_of_ble_eq_true rfl) dX11_clears_237 hs_1ne ⟨⟨Nat.le_of_ble_eq_true rfl, Nat.le_of_ble_eq_true rfl⟩, Nat.le_of_ble_eq_true rfl, Nat.le_of_ble_eq_true rfl⟩ (fun _ S37 h => ?_) (fun _ _ h => h.elim)
              obtain ⟨hw, rfl, g39⟩ := h
              replace hv := hv S37 g39
              exact wa_return X E dX11_clears_240 (Nat.le_of_ble_eq_true rfl) (Nat.le_of_ble_eq_true rfl) ⟨hw, rfl, hv⟩
            clear hv
            refine wa_icmp_ge X (tgt := 221) dX11_clears_213 (by decide) (fun c42 => ?_) (fun c42 => ?_)
            · refine wa_iload X 0 rfl dX11_clears_221 ?_
              refine wa_lv (lv' := [(0, .inr (.inr (11, 1))), (1, .inl a1), (6, .inl (F_sumOf a1 (1 : Int32) S20)), (7, .inl (F_sumOf a1 (0 : Int32) S20))]) [2, 3, 1, 0] rfl ?_
              exact wa_wid (Nat.le_of_ble_eq_true rfl) (Nat.le_of_ble_eq_true rfl) (k40 _  (by rw [if_pos c42]))
            · refine wa_iload X 1 rfl dX11_clears_216 ?_
              refine wa_goto X (tgt := 223) dX11_clears_218 (by decide) ?_
              refine wa_lv (lv' := [(0, .inr (.inr (11, 1))), (1, .inl a1), (6, .inl (F_sumOf a1 (1 : Int32) S20)), (7, .inl (F_sumOf a1 (0 : Int32) S20))]) [2, 3, 1, 0] rfl ?_
              exact wa_wid (Nat.le_of_ble_eq_true rfl) (Nat.le_of_ble_eq_true rfl) (k40 _  (by rw [if_neg c42]))
          · replace hv := hv.2 c27
            refine wa_aload_n X 0 rfl dX11_clears_153 rfl ?_
            refine wa_getfw X hw (j := 34) (r := 1) hk_11 hc_11 i_11 (by decide) kw_1218 rfl rfl (by decide) rfl dX11_clears_154 hs_1ne ?_
            refine wa_iload X 2 rfl dX11_clears_157 ?_
            refine wa_aload_n X 0 rfl dX11_clears_159 rfl ?_
            refine wa_getfw X hw (j := 32) (r := 1) hk_11 hc_11 i_11 (by decide) kw_1216 rfl rfl (by decide) rfl dX11_clears_160 hs_1ne ?_
            refine wa_iload X 2 rfl dX11_clears_163 ?_
            obtain ⟨o43, hv⟩ := hv
            refine wa_iald X hk_72 dX11_clears_165 hs_1ne o43 ?_
            refine wa_iload_n X 1 rfl dX11_clears_166 rfl ?_
            refine wa_icmp_ne X (tgt := 174) dX11_clears_167 (by decide) (fun c44 => ?_) (fun c44 => ?_)
            · replace hv := hv.1 c44
              refine wa_aload_n X 0 rfl dX11_clears_174 rfl ?_
              refine wa_getfw X hw (j := 34) (r := 1) hk_11 hc_11 i_11 (by decide) kw_1218 rfl rfl (by decide) rfl dX11_clears_175 hs_1ne ?_
              refine wa_iload X 2 rfl dX11_clears_178 ?_
              refine wa_iald X hk_74 dX11_clears_180 hs_1ne o43 ?_
              refine wa_iast X hk_74 dX11_clears_181 hs_1ne o43 (hs_eqS fun S45 hS45 => ?_)
              replace hv := hv S45 hS45
              replace hw : hs_Wi S45 := hS45 ▸ hs_Wi_I hw
              refine wa_iinc X (v := (x17 + 1)) (lv' := [(6, .inl (x17 + 1)), (0, .inr (.inr (11, 1))), (1, .inl a1)]) 2 rfl dX11_clears_182 rfl (by decide) rfl ?_
              refine wa_goto X (tgt := 144) dX11_clears_185 (by decide) ?_
              obtain ⟨q46, p47, hv⟩ := hv
              refine wa_lv (lv' := [(0, .inr (.inr (11, 1))), (1, .inl a1), (6, .inl (x17 + 1))]) [1, 2, 0] rfl ?_
              exact h25 q46 p47 _ _ hw hv
            · replace hv := hv.2 c44
              refine wa_iconst X dX11_clears_170 kc0 ?_
              refine wa_goto X (tgt := 181) dX11_clears_171 (by decide) ?_
              refine wa_iast X hk_74 dX11_clears_181 hs_1ne o43 (hs_eqS fun S48 hS48 => ?_)
              replace hv := hv S48 hS48
              replace hw : hs_Wi S48 := hS48 ▸ hs_Wi_I hw
              refine wa_iinc X (v := (x17 + 1)) (lv' := [(6, .inl (x17 + 1)), (0, .inr (.inr (11, 1))), (1, .inl a1)]) 2 rfl dX11_clears_182 rfl (by decide) rfl ?_
              refine wa_goto X (tgt := 144) dX11_clears_185 (by decide) ?_
              obtain ⟨q49, p50, hv⟩ := hv
              refine wa_lv (lv' := [(0, .inr (.inr (11, 1))), (1, .inl a1), (6, .inl (x17 + 1))]) [1, 2, 0] rfl ?_
              exact h25 q49 p50 _ _ hw hv
      clear hv
      refine wa_icmp_eq X (tgt := 120) dX11_clears_112 (by decide) (fun c53 => ?_) (fun c53 => ?_)
      · refine wa_iconst X dX11_clears_120 kc0 ?_
        refine wa_goto X (tgt := 140) dX11_clears_121 (by decide) ?_
        refine wa_lv (lv' := [(0, .inr (.inr (11, 1))), (1, .inl a1)]) [1, 2] rfl ?_
        exact wa_wid (Nat.le_of_ble_eq_true rfl) (Nat.le_of_ble_eq_true rfl) (k51 _  (by rw [if_pos c53]))
      · refine wa_iload X 0 rfl dX11_clears_115 ?_
        refine wa_if_ge X (tgt := 124) dX11_clears_117 (by decide) (fun c54 => ?_) (fun c54 => ?_)
        · refine wa_iload X 0 rfl dX11_clears_124 ?_
          refine wa_sipush X dX11_clears_126 ks1000 ?_
          refine wa_icmp_le X (tgt := 138) dX11_clears_129 (by decide) (fun c55 => ?_) (fun c55 => ?_)
          · refine wa_iload X 0 rfl dX11_clears_138 ?_
            refine wa_lv (lv' := [(0, .inr (.inr (11, 1))), (1, .inl a1)]) [1, 2] rfl ?_
            exact wa_wid (Nat.le_of_ble_eq_true rfl) (Nat.le_of_ble_eq_true rfl) (k51 _  (by rw [if_neg c53, if_pos c54, if_pos c55]))
          · refine wa_sipush X dX11_clears_132 ks1000 ?_
            refine wa_goto X (tgt := 140) dX11_clears_135 (by decide) ?_
            refine wa_lv (lv' := [(0, .inr (.inr (11, 1))), (1, .inl a1)]) [1, 2] rfl ?_
            exact wa_wid (Nat.le_of_ble_eq_true rfl) (Nat.le_of_ble_eq_true rfl) (k51 _  (by rw [if_neg c53, if_pos c54, if_neg c55]))
        · refine wa_iconst X dX11_clears_120 kc0 ?_
          refine wa_goto X (tgt := 140) dX11_clears_121 (by decide) ?_
          refine wa_lv (lv' := [(0, .inr (.inr (11, 1))), (1, .inl a1)]) [1, 2] rfl ?_
          exact wa_wid (Nat.le_of_ble_eq_true rfl) (Nat.le_of_ble_eq_true rfl) (k51 _  (by rw [if_neg c53, if_neg c54]))
    clear hv
    refine wa_if_ne X (tgt := 88) dX11_clears_80 (by decide) (fun c58 => ?_) (fun c58 => ?_)
    · refine wa_iconst X dX11_clears_88 kcm1 ?_
      refine wa_lv (lv' := [(0, .inr (.inr (11, 1))), (1, .inl a1), (2, .inl (S.1 78 1 a1.toNatClampNeg)), (3, .inl ((6 : Int32) * (S.1 77 1 a1.toNatClampNeg)))]) [0, 1, 2, 3] rfl ?_
      exact wa_wid (Nat.le_of_ble_eq_true rfl) (Nat.le_of_ble_eq_true rfl) (k56 _  (by rw [if_neg c58]))
    · refine wa_iload X 4 rfl dX11_clears_83 ?_
      refine wa_goto X (tgt := 89) dX11_clears_85 (by decide) ?_
      refine wa_lv (lv' := [(0, .inr (.inr (11, 1))), (1, .inl a1), (2, .inl (S.1 78 1 a1.toNatClampNeg)), (3, .inl ((6 : Int32) * (S.1 77 1 a1.toNatClampNeg)))]) [0, 1, 2, 3] rfl ?_
      exact wa_wid (Nat.le_of_ble_eq_true rfl) (Nat.le_of_ble_eq_true rfl) (k56 _  (by rw [if_pos c58]))
  clear hv
  refine wa_if_eq X (tgt := 43) dX11_clears_36 (by decide) (fun c61 => ?_) (fun c61 => ?_)
  · refine wa_aload_n X 3 rfl dX11_clears_43 rfl ?_
    refine wa_getI X (j := 58) hk_11 hc_11 i_11 (by decide) kw_1242 rfl dX11_clears_44 hs_1ne ?_
    refine wa_if_eq X (tgt := 57) dX11_clears_47 (by decide) (fun c62 => ?_) (fun c62 => ?_)
    · refine wa_iload X 0 rfl dX11_clears_57 ?_
      refine wa_if_ge X (tgt := 67) dX11_clears_59 (by decide) (fun c63 => ?_) (fun c63 => ?_)
      · refine wa_iconst X dX11_clears_67 kc0 ?_
        refine wa_lv (lv' := [(0, .inr (.inr (11, 1))), (1, .inl a1), (2, .inl (S.1 78 1 a1.toNatClampNeg)), (3, .inl ((6 : Int32) * (S.1 77 1 a1.toNatClampNeg))), (4, .inl r4)]) [3, 4, 2, 1, 0] rfl ?_
        exact wa_wid (Nat.le_of_ble_eq_true rfl) (Nat.le_of_ble_eq_true rfl) (k59 _  (by rw [if_pos c61, if_pos c62, if_pos c63]))
      · refine wa_bipush X dX11_clears_62 kb6 ?_
        refine wa_goto X (tgt := 68) dX11_clears_64 (by decide) ?_
        refine wa_lv (lv' := [(0, .inr (.inr (11, 1))), (1, .inl a1), (2, .inl (S.1 78 1 a1.toNatClampNeg)), (3, .inl ((6 : Int32) * (S.1 77 1 a1.toNatClampNeg))), (4, .inl r4)]) [3, 4, 2, 1, 0] rfl ?_
        exact wa_wid (Nat.le_of_ble_eq_true rfl) (Nat.le_of_ble_eq_true rfl) (k59 _  (by rw [if_pos c61, if_pos c62, if_neg c63]))
    · refine wa_aload_n X 3 rfl dX11_clears_50 rfl ?_
      refine wa_getI X (j := 58) hk_11 hc_11 i_11 (by decide) kw_1242 rfl dX11_clears_51 hs_1ne ?_
      refine wa_goto X (tgt := 68) dX11_clears_54 (by decide) ?_
      refine wa_lv (lv' := [(0, .inr (.inr (11, 1))), (1, .inl a1), (2, .inl (S.1 78 1 a1.toNatClampNeg)), (3, .inl ((6 : Int32) * (S.1 77 1 a1.toNatClampNeg))), (4, .inl r4)]) [3, 4, 2, 1, 0] rfl ?_
      exact wa_wid (Nat.le_of_ble_eq_true rfl) (Nat.le_of_ble_eq_true rfl) (k59 _  (by rw [if_pos c61, if_neg c62]))
  · refine wa_iconst X dX11_clears_39 kc5 ?_
    refine wa_goto X (tgt := 68) dX11_clears_40 (by decide) ?_
    refine wa_lv (lv' := [(0, .inr (.inr (11, 1))), (1, .inl a1), (2, .inl (S.1 78 1 a1.toNatClampNeg)), (3, .inl ((6 : Int32) * (S.1 77 1 a1.toNatClampNeg))), (4, .inl r4)]) [3, 4, 2, 1, 0] rfl ?_
    exact wa_wid (Nat.le_of_ble_eq_true rfl) (Nat.le_of_ble_eq_true rfl) (k59 _  (by rw [if_neg c61]))
theorem shT_72 {S : hs_S} {r u : Int32} {b : Nat} (hb : b < 80) (h : shT S r u b = true) : S.1 72 1 b = r := by
  have h1 := (of_decide_eq_true h).2
  have h2 : F_takesPart (nI b) r S = bI (mTP S b r) := by
    unfold F_takesPart
    rw [hl_cl (by omega)]
  rw [h2, bI_eq0] at h1
  exact (Classical.not_not.mp h1).1
theorem shT_u {S : hs_S} {r u u' : Int32} {b : Nat} (h : shT S r u b = true) (hn : u ≠ u') : shT S r u' b = false := decide_eq_false fun w => hn ((of_decide_eq_true h).1.symm.trans w.1)
set_option maxHeartbeats 4000000 in
theorem v_M_clears {a1 : Int32} {S : hs_S} (hP : P_clears a1 S) : vc_M_clears a1 S (fun T => R_clears a1 S T) := by
  obtain ⟨⟨k, hk, ek⟩, ⟨c, hc, ec⟩, hOk, g, hg, eg, hm⟩ := hP
  have hr : 0 ≤ a1.toInt ∧ a1.toInt < 30 := by rw [ek]; exact hl_ix (by omega) (by omega)
  have hrk : a1.toNatClampNeg = k := by rw [ek]; exact hl_cl (by omega)
  have hcc : (6 : Int32) * S.1 77 1 a1.toNatClampNeg = nI (6 * c) := by rw [ec]; exact pk_mul 6 c
  have hcc1 : (6 : Int32) * S.1 77 1 a1.toNatClampNeg + 1 = nI (6 * c + 1) := by rw [hcc]; exact nI_addI (b := 1) (by omega)
  unfold vc_M_clears
  refine ⟨hr, ⟨⟨6 * c, by omega, hcc⟩, hOk⟩, fun v S3 h3 => ?_⟩
  obtain ⟨h31, h32⟩ := h3
  refine ⟨?_, fun why hwhy S8 h8 price hprice S10 h10 => ?_⟩
  · show cN (S3.1 11 1 12) 60
    rw [hs_clI h31 rfl]; exact hOk.2.2.2.2.1
  have hwhy' : why = clY S (clC S a1) (clE S a1) (S3.1 11 1 58) v := by
    rw [hwhy, fr_isEmptyAt h31]; rfl
  have h84 : S8.1 84 1 a1.toNatClampNeg = why := by rw [h8]; exact (hs_u3I (S := S3)).trans (if_pos rfl)
  rw [h84] at hprice
  have hcl10 : hs_cl S10 = hs_cl (clU1 S a1 why price) := by rw [h10, h8]; exact cl_wI (cl_wI h31)
  have hc210 : hs_c2 S10 = hs_c2 S := by rw [h10, c2_I rfl, h8, c2_I rfl]; exact c2_of h31
  refine ⟨⟨⟨6 * c + 1, by omega, hcc1⟩, c2_mOk hc210 hOk⟩, fun v2 S12 h12 fee hfee S16 h16 => ?_⟩
  obtain ⟨h121, h122⟩ := h12
  have h81 : S12.1 81 1 a1.toNatClampNeg = price := by
    rw [hs_clI h121 rfl, h10]; exact (hs_u3I (S := S8)).trans (if_pos rfl)
  rw [h81] at hfee
  have hcl16 : hs_cl S16 = hs_cl (clU2 S a1 why price fee) := by rw [h16]; exact cl_wI (h121.trans hcl10)
  have e24 : S16.1 11 1 24 = nI g := (hs_clI hcl16 rfl).trans eg
  have e68 : ∀ b, S16.1 68 1 b = S.1 68 1 b := fun b => (hs_clI hcl16 rfl).trans rfl
  have e72 : ∀ b, S16.1 72 1 b = S.1 72 1 b := fun b => (hs_clI hcl16 rfl).trans rfl
  have e74 : ∀ b, S16.1 74 1 b = S.1 74 1 b := fun b => (hs_clI hcl16 rfl).trans rfl
  have hm16 : ∀ b, b < g → 1 ≤ (S16.1 68 1 b).toInt ∧ (S16.1 68 1 b).toInt ≤ 100 := fun b hb => by rw [e68]; exact hm b hb
  refine ⟨fun N x T => ∃ j, j ≤ g ∧ x = nI j ∧ (∃ q : Nat → Int32, T = hs_got S16 q ∧ ∀ b, q b = if b < j ∧ S.1 72 1 b = a1 then 0 else S.1 74 1 b) ∧ N = g - j, ⟨g, 0, Nat.zero_le _, rfl, ⟨S16.1 74 1, hs_got_0.symm, fun b => by rw [if_neg (fun z => absurd z.1 (by omega))]; exact e74 b⟩, rfl⟩, ?_⟩
  rintro N x T ⟨j, hj, rfl, ⟨q, rfl, hq⟩, rfl⟩
  refine ⟨fun h => ?_, fun h => ?_⟩
  · have hjg : j = g := hl_end (by omega) hj (by have : (hs_got S16 q).1 11 1 24 = nI g := e24; rw [← this]; exact h)
    subst hjg
    refine ⟨⟨⟨j, hg, e24⟩, hr⟩, ⟨⟨j, hg, e24⟩, hr⟩, fun vol hvol S31 h31' => ?_⟩
    rw [got_sumOf, got_sumOf] at hvol
    rw [got_sumOf, got_sumOf]
    have hs1 := sum_is (r := a1) (w := 1) hg hm16 j (Nat.le_refl _)
    have hs0 := sum_is (r := a1) (w := 0) hg hm16 j (Nat.le_refl _)
    have f1 : F_sumOf a1 1 S16 = mSum S16 a1 1 j := by unfold F_sumOf; rw [e24, hl_cl (by omega)]
    have f0 : F_sumOf a1 0 S16 = mSum S16 a1 0 j := by unfold F_sumOf; rw [e24, hl_cl (by omega)]
    rw [← f1] at hs1
    rw [← f0] at hs0
    have hv31 : shV0 S31 a1 = vol := by rw [h31']; exact (hs_u3I (S := hs_got S16 q)).trans (if_pos rfl)
    have hvm : vol.toInt ≤ (F_sumOf a1 1 S16).toInt ∧ vol.toInt ≤ (F_sumOf a1 0 S16).toInt ∧ 0 ≤ vol.toInt := by
      by_cases w : F_sumOf a1 0 S16 ≤ F_sumOf a1 1 S16
      · rw [if_pos w] at hvol
        have := i32_le.mp w
        rw [hvol]; omega
      · rw [if_neg w] at hvol
        have := mt i32_le.mpr w
        rw [hvol]; omega
    have t31 : ∀ u b, shT S31 a1 u b = shT S16 a1 u b := fun u b => by rw [h31']; rfl
    refine ⟨⟨hr, j, hg, by rw [h31']; exact e24, fun b hb => by rw [h31']; exact hm16 b hb, ?_, by rw [hv31]; exact hvm.2.2, by rw [hv31]; exact hvm.1, fun _ b hb ht => ?_, Or.inr rfl⟩, fun S32 h32' => ?_⟩
    · simp only [t31]
      rw [h31']; exact hs1.1
    · rw [t31] at ht
      have h72 := shT_72 (by omega) ht
      rw [e72] at h72
      rw [h31']
      show q b = 0
      rw [hq, if_pos ⟨hb, h72⟩]
    · obtain ⟨q1, e32, hq1⟩ := h32'
      have t32 : ∀ u b, shT S32 a1 u b = shT S16 a1 u b := fun u b => by rw [e32, ← t31]; rfl
      have e24' : S31.1 11 1 24 = nI j := by rw [h31']; exact e24
      obtain ⟨hq11, hq12, hq13⟩ := hq1 j hg e24'
      refine ⟨⟨hr, j, hg, by rw [e32]; exact e24', fun b hb => by rw [e32, h31']; exact hm16 b hb, ?_, by rw [e32]; show 0 ≤ (shV0 S31 a1).toInt; rw [hv31]; exact hvm.2.2, by rw [e32]; show (shV0 S31 a1).toInt ≤ _; rw [hv31]; exact hvm.2.1, fun _ b hb ht => ?_, Or.inl rfl⟩, fun S34 h34 => ?_⟩
      · simp only [t32]
        rw [e32, h31']; exact hs0.1
      · rw [t32] at ht
        have h72 := shT_72 (by omega) ht
        rw [e72] at h72
        rw [e32]
        show q1 b = 0
        rw [hq12 b (fun z => by rw [t31, shT_u ht (by decide)] at z; exact absurd z.2 (by decide)), h31']
        show q b = 0
        rw [hq, if_pos ⟨hb, h72⟩]
      · obtain ⟨q2, e34, hq2⟩ := h34
        have e24'' : S32.1 11 1 24 = nI j := by rw [e32]; exact e24'
        obtain ⟨hq21, hq22, hq23⟩ := hq2 j hg e24''
        have hvol2 : vol = clVol (clU2 S a1 why price fee) a1 := by
          rw [hvol, fr_sumOf hcl16, fr_sumOf hcl16]
        have hfin : hs_cl S34 = hs_cl (hs_got (clU S a1 why price fee) q2) := by
          rw [e34, e32, got_got, h31', got_w (by decide)]
          refine cl_got ?_
          rw [hvol2]
          exact cl_wI hcl16
        have hU : hs_cl (hs_wI S16 82 1 a1.toNatClampNeg vol) = hs_cl (clU S a1 why price fee) := by
          rw [hvol2]; exact cl_wI hcl16
        have hsU : ∀ u, F_sumOf a1 u S16 = F_sumOf a1 u (clU S a1 why price fee) := fun u => by
          rw [fr_sumOf hcl16]; exact w82_sumOf.symm
        have tU : ∀ u b, shT S16 a1 u b = shT (clU S a1 why price fee) a1 u b := fun u b => (shT_cl hcl16).trans rfl
        have g31 : ∀ u all b, shG S31 a1 u all j b = shG (clU S a1 why price fee) a1 u all j b := fun u all b => by
          rw [h31', ← shG_cl hU]; rfl
        have g32 : ∀ u all b, shG S32 a1 u all j b = shG (clU S a1 why price fee) a1 u all j b := fun u all b => by
          rw [e32, ← g31]; rfl
        have hpr : (if clY S (clC S a1) (clE S a1) (S3.1 11 1 58) v = 0 then v else -1) = price := by rw [hprice, hwhy']
        have hfe : clF price v2 = fee := hfee.symm
        have hmv := fr_mVal (e := clE S a1) (S := S10) (T := clU1 S a1 why price) hcl10.symm h122
        refine ⟨S3.1 11 1 58, v, S12.1 11 1 58, v2, q2, ⟨h32, ?_⟩, ?_, fun g' hg' eg' => ?_⟩
        · rw [hpr, ← hwhy']; exact hmv
        · rw [hpr, ← hwhy', hfe]; exact hfin
        · have : j = g' := (hl_inj (by omega) (by omega)).mp (eg.symm.trans eg')
          subst this
          rw [hpr, ← hwhy', hfe]
          have hshV : shV0 (clU S a1 why price fee) a1 = vol := by
            rw [hvol2]; exact (hs_u3I (S := clU2 S a1 why price fee)).trans (if_pos rfl)
          refine ⟨fun b hb h72 => ?_, fun b hb => ?_, fun u hu => ?_⟩
          rotate_left 2
          · rw [hshV]
            rcases hu with rfl | rfl
            · have h23 : shV0 S32 a1 = vol := by rw [e32]; exact hv31
              rw [← h23, ← hq23]
              exact sI_c j fun b _ => by rw [t32, tU]
            · rw [← hv31, ← hq13]
              refine sI_c j fun b hb => ?_
              rw [t31, ← tU]
              by_cases p1 : shT S16 a1 1 b = true
              · rw [if_pos p1, if_pos p1]
                rw [hq22 b fun z => by rw [t32, shT_u p1 (by decide)] at z; exact absurd z.2 (by decide), e32]; rfl
              · rw [if_neg p1, if_neg p1]
          · unfold clG
            rw [← tU, ← tU, ← hsU, ← hsU]
            by_cases p0 : shT S16 a1 0 b = true
            · rw [shT_u p0 (by decide), if_neg (by decide), if_pos p0, hq21 b hb (by rw [t32]; exact p0), g32]
            · have p0' : shT S16 a1 0 b = false := by simpa using p0
              have e2 : q2 b = q1 b := by
                rw [hq22 b fun z => by rw [t32, p0'] at z; exact absurd z.2 (by decide), e32]; rfl
              rw [e2]
              by_cases p1 : shT S16 a1 1 b = true
              · rw [if_pos p1, hq11 b hb (by rw [t31]; exact p1), g31]
              · have p1' : shT S16 a1 1 b = false := by simpa using p1
                rw [if_neg p1, if_neg p0]
                rw [hq12 b fun z => by rw [t31, p1'] at z; exact absurd z.2 (by decide), h31']
                show (q b).toInt = 0
                rw [hq, if_pos ⟨hb, h72⟩]; rfl
          · have hnt : ∀ u, b < j → shT S16 a1 u b = false := fun u hb2 => by
              cases w : shT S16 a1 u b
              · rfl
              · have := shT_72 (by omega) w
                rw [e72] at this
                exact absurd ⟨hb2, this⟩ hb
            rw [hq22 b fun z => by rw [t32, hnt 0 z.1] at z; exact absurd z.2 (by decide), e32]
            show q1 b = _
            rw [hq12 b fun z => by rw [t31, hnt 1 z.1] at z; exact absurd z.2 (by decide), h31']
            show q b = _
            rw [hq, if_neg hb]
  · have hj1 : j < g := hl_go (by omega) hj (by have : (hs_got S16 q).1 11 1 24 = nI g := e24; rw [← this]; exact h)
    have hjc : (nI j).toNatClampNeg = j := hl_cl (by omega)
    rw [hjc]
    have e72' : (hs_got S16 q).1 72 1 j = S.1 72 1 j := e72 j
    rw [e72']
    refine ⟨hl_ix (by omega) (by omega), fun w S5 h5 => hl_nx hj1 ?_, fun w S5 h5 => hl_nx hj1 ?_⟩
    · refine ⟨fun k => if k = j then q j else q k, h5.trans hs_got_w, fun b => ?_⟩
      have e1 : (if b = j then q j else q b) = q b := by
        by_cases z : b = j
        · rw [if_pos z, z]
        · rw [if_neg z]
      show (if b = j then q j else q b) = _
      rw [e1, hq]
      by_cases z : b = j
      · subst z
        rw [if_neg (fun y => w y.2), if_neg (fun y => w y.2)]
      · by_cases y : b < j ∧ S.1 72 1 b = a1
        · rw [if_pos y, if_pos ⟨by omega, y.2⟩]
        · rw [if_neg y, if_neg fun y' => y ⟨by omega, y'.2⟩]
    · refine ⟨fun k => if k = j then 0 else q k, h5.trans hs_got_w, fun b => ?_⟩
      show (if b = j then 0 else q b) = _
      by_cases z : b = j
      · subst z
        rw [if_pos rfl, if_pos ⟨by omega, w⟩]
      · rw [if_neg z, hq]
        by_cases y : b < j ∧ S.1 72 1 b = a1
        · rw [if_pos y, if_pos ⟨by omega, y.2⟩]
        · rw [if_neg y, if_neg fun y' => y ⟨by omega, y'.2⟩]

