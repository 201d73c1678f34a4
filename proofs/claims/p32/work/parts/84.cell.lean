/-! ===== a number of the script ===== -/
def m_L_cell (a2 : Int32) (S : hs_S) (Q : Int32 → hs_S → Prop) : Prop := hs_M 1 yL_cell (.code yL_cell cL_cell 3 (some FieldType.int)) [.inr (.inr (101, 1)), .inl a2] S 0 0 (hs_qI Q) hs_nX
def P_L_cell (a2 : Int32) (_ : hs_S) : Prop := 0 ≤ a2.toInt
def R_L_cell (_ : Int32) (S : hs_S) (_ : Int32) (T : hs_S) : Prop := T = S
def vc_L_cell (a2 : Int32) (S : hs_S) (Q : Int32 → hs_S → Prop) : Prop := 0 ≤ a2.toInt ∧ ∀ r, Q r S
theorem wa_sald1 {Z : hs_Z} {own : String} {cc : ByteArray} {nL : Nat} {R0 : Room} {k n : Nat} {S : hs_S} {pc : Nat} {lv : List (Nat × hs_V)} {st : List hs_V} (X : hs_C Z own cc nL R0) {L : Nat} {xs : Nat → Int32} {x : Int32} (hL : ∀ p l e R s m args below meth c D DA n0 G0 S0 Qw, Z = (p, l, e, R, s, m, args, below, meth, c, D, DA, n0, G0, S0, Qw) → DA.2.2.2 = (L, xs)) (hd : decode cc pc = .ok (.iaload, 1)) (hr : 0 ≤ x.toInt ∧ x.toInt < L) (kk : wa Z k n S (pc + 1) lv (.inl (xs x.toNatClampNeg) :: st)) : wa Z k n S pc lv (.inl x :: .inr (.inr (101, 1)) :: st) := by
  obtain ⟨p, l, e, R, s, m, args, below, meth, c, D, DA, n0, G0, S0, Qw⟩ := Z
  have hL := hL _ _ _ _ _ _ _ _ _ _ _ _ _ _ _ _ rfl
  obtain ⟨hx, hb, hml, hown, hts, hlk, hst, hW, hR⟩ := X
  intro G H locs la a1 a2 a3 a4 a5 a6
  obtain ⟨keys, b1, b2, b3, b4, b5, b6⟩ := id a2
  obtain ⟨⟨c1, c2, c3, c5, c6⟩, c4⟩ := hW.2.2.2.2.2.2.2.2
  rw [hL] at c1
  rw [List.map_cons, List.map_cons, hs_c_ref hs_1ne, b6]
  exact va_sld hx hb c1 c5 c2 a5 (hs_ix hr) hd (kk G H locs la a1 a2 a3 (hs_pu trivial (hs_n2 a4)) a5 a6)
theorem wa_slen1 {Z : hs_Z} {own : String} {cc : ByteArray} {nL : Nat} {R0 : Room} {k n : Nat} {S : hs_S} {pc : Nat} {lv : List (Nat × hs_V)} {st : List hs_V} (X : hs_C Z own cc nL R0) {L : Nat} {xs : Nat → Int32} (hL : ∀ p l e R s m args below meth c D DA n0 G0 S0 Qw, Z = (p, l, e, R, s, m, args, below, meth, c, D, DA, n0, G0, S0, Qw) → DA.2.2.2 = (L, xs)) (hd : decode cc pc = .ok (.arraylength, 1)) (kk : wa Z k n S (pc + 1) lv (.inl (Int32.ofNat L) :: st)) : wa Z k n S pc lv (.inr (.inr (101, 1)) :: st) := by
  obtain ⟨p, l, e, R, s, m, args, below, meth, c, D, DA, n0, G0, S0, Qw⟩ := Z
  have hL := hL _ _ _ _ _ _ _ _ _ _ _ _ _ _ _ _ rfl
  obtain ⟨hx, hb, hml, hown, hts, hlk, hst, hW, hR⟩ := X
  intro G H locs la a1 a2 a3 a4 a5 a6
  obtain ⟨keys, b1, b2, b3, b4, b5, b6⟩ := id a2
  obtain ⟨⟨c1, c2, c3, c5, c6⟩, c4⟩ := hW.2.2.2.2.2.2.2.2
  rw [hL] at c1
  rw [List.map_cons, hs_c_ref hs_1ne, b6]
  exact va_slen hx hb c1 c5 c2 a5 hd (kk G H locs la a1 a2 a3 (hs_pu trivial (hs_n1 a4)) a5 a6)
theorem ofNat_le (L : Nat) : (Int32.ofNat L).toInt ≤ L := by
  rw [Int32.toInt_ofNat', Int.bmod]
  have e : (Int32.size : Nat) = 4294967296 := rfl
  rw [e]
  split <;> omega
theorem ok_L_cell {a2 : Int32} {S : hs_S} {Q : Int32 → hs_S → Prop} (hw : hs_Wi S) (hv : vc_L_cell a2 S Q) : m_L_cell a2 S Q := by
  obtain ⟨h0, hv⟩ := hv
  refine hs_body (own := RL) rfl rfl (Nat.le_of_ble_eq_true rfl) (fun Z X E N J0 => ?_)
  show wa Z 0 0 S 0 [(0, .inr (.inr (101, 1))), (1, .inl a2)] []
  obtain ⟨L, xs, hL⟩ : ∃ (L : Nat) (xs : Nat → Int32), ∀ p l e R s m args below meth c D DA n0 G0 S0 Qw, Z = (p, l, e, R, s, m, args, below, meth, c, D, DA, n0, G0, S0, Qw) → DA.2.2.2 = (L, xs) := by
    obtain ⟨p, l, e, R, s, m, args, below, meth, c, D, DA, n0, G0, S0, Qw⟩ := Z
    exact ⟨DA.2.2.2.1, DA.2.2.2.2, fun _ _ _ _ _ _ _ _ _ _ _ _ _ _ _ _ e => by cases e; rfl⟩
  have k10 : ∀ r, wa Z 0 0 S 19 [(0, .inr (.inr (101, 1))), (1, .inl a2)] [.inl r] := fun r => by
    refine wa_istore_n X (lv' := [(2, .inl r), (0, .inr (.inr (101, 1))), (1, .inl a2)]) dL_cell_19 rfl (by decide) rfl ?_
    refine wa_iload_n X 0 rfl dL_cell_20 rfl ?_
    refine wa_iload_n X 0 rfl dL_cell_21 rfl ?_
    refine wa_bipush X dL_cell_22 kb16 ?_
    refine wa_iushr X dL_cell_24 ?_
    refine wa_ixor X dL_cell_25 ?_
    refine wa_ldc X kw_501 dL_cell_26 ?_
    refine wa_imul X dL_cell_28 ?_
    refine wa_sipush X dL_cell_29 ks185 ?_
    refine wa_iload_n X 2 rfl dL_cell_32 rfl ?_
    refine wa_imul X dL_cell_33 ?_
    refine wa_iadd X dL_cell_34 ?_
    exact wa_ireturn X E dL_cell_35 (Nat.le_of_ble_eq_true rfl) (Nat.le_of_ble_eq_true rfl) (Or.inl rfl) ⟨hw, _, rfl, hv _⟩
  refine wa_iload_n X 1 rfl dL_cell_0 rfl ?_
  refine wa_aload_n X 0 rfl dL_cell_1 rfl ?_
  refine wa_slen1 X hL dL_cell_2 ?_
  refine wa_icmp_ge X (tgt := 12) dL_cell_3 (by decide) (fun _ => ?_) (fun c => ?_)
  · refine wa_ldc X kw_500 dL_cell_12 ?_
    refine wa_iload_n X 1 rfl dL_cell_14 rfl ?_
    refine wa_bipush X dL_cell_15 kb61 ?_
    refine wa_iadd X dL_cell_17 ?_
    refine wa_imul X dL_cell_18 ?_
    exact k10 _
  · refine wa_aload_n X 0 rfl dL_cell_6 rfl ?_
    refine wa_iload_n X 1 rfl dL_cell_7 rfl ?_
    have hlt : a2.toInt < L := by
      rw [i32_le] at c
      have := ofNat_le L
      omega
    refine wa_sald1 X hL dL_cell_8 ⟨h0, hlt⟩ ?_
    refine wa_goto X (tgt := 19) dL_cell_9 (by decide) ?_
    exact k10 _
theorem v_L_cell {a2 : Int32} {S : hs_S} (hP : P_L_cell a2 S) : vc_L_cell a2 S (R_L_cell a2 S) := ⟨hP, fun _ => rfl⟩
