/-- what settling writes is forgotten -/
def hs_cL (S : hs_S) : hs_S := (fun t i p => if t = 35 ∨ t = 36 ∨ t = 38 ∨ t = 39 then 0 else S.1 t i p, S.2)
theorem cL_cOw {S : hs_S} {o c : Int32} (k : Nat) : cOw (hs_cL S) o c k = cOw S o c k := by
  induction k with
  | zero => rfl
  | succ k ih => unfold cOw; rw [ih]; rfl
theorem cL_owed {S : hs_S} {o c : Int32} : F_Book_owedBy o c (hs_cL S) = F_Book_owedBy o c S := cL_cOw _
theorem cL_fr {S T : hs_S} (h2 : T.2 = S.2) (h : ∀ t i p, ¬ (t = 35 ∨ t = 36 ∨ t = 38 ∨ t = 39) → T.1 t i p = S.1 t i p) : hs_cL T = hs_cL S := by
  refine Prod.ext ?_ h2
  funext t i p
  show (if t = 35 ∨ t = 36 ∨ t = 38 ∨ t = 39 then (0 : Int32) else T.1 t i p) = if t = 35 ∨ t = 36 ∨ t = 38 ∨ t = 39 then 0 else S.1 t i p
  by_cases q : t = 35 ∨ t = 36 ∨ t = 38 ∨ t = 39
  · rw [if_pos q, if_pos q]
  · rw [if_neg q, if_neg q, h t i p q]
abbrev pyD (S : hs_S) (a : Int32) (o : Nat) : Int32 := F_Ldg_dueOf (nI o) a S
abbrev pyQ (S : hs_S) (a : Int32) (o : Nat) : Int32 := F_J_floorDiv (pyD S a o) 10
abbrev pyC (S : hs_S) (a : Int32) (o : Nat) : Int32 := F_J_floorMod (pyD S a o) 10
def pyL (S : hs_S) (a : Int32) : Nat → Int32
  | 0 => 0
  | o + 1 => pyL S a o - pyQ S a o
def pyA (S : hs_S) (a : Int32) (o : Nat) : Nat → Int32
  | 0 => 0
  | c + 1 => if pyC S a o < pyC S a c ∨ (pyC S a c = pyC S a o ∧ c < o) then pyA S a o c + 1 else pyA S a o c
def pyP (S : hs_S) (a : Int32) (o : Nat) : Int32 := pyQ S a o + (if pyL S a 6 ≤ pyA S a o 6 then 0 else 1)
def pyT (S : hs_S) (a : Int32) : Nat → Int32
  | 0 => 0
  | o + 1 => pyT S a o + (if 0 < pyP S a o then pyP S a o else 0)
def P_Ldg_payDues (a1 : Int32) (S : hs_S) : Prop := (∃ c : Nat, c < 4 ∧ a1 = nI c) ∧ cBd S ∧ ∀ k, k < hs_sz S 13 → P_Rnd_feeOwner (br S k) S
def R_Ldg_payDues (a1 : Int32) (S : hs_S) (r : Int32) (T : hs_S) : Prop := T.2 = S.2 ∧ (∀ t i p, ¬ (t = 35 ∨ t = 36 ∨ t = 38 ∨ t = 39) → T.1 t i p = S.1 t i p) ∧ r = pyT S a1 6 ∧ (∀ o, o < 6 → T.1 36 1 o = S.1 36 1 o - pyP S a1 o) ∧ ((∀ i p, i ≠ 1 → T.1 35 i p = S.1 35 i p) ∧ ∀ i p, ¬ (i = 1 ∧ p < 6) → T.1 36 i p = S.1 36 i p) ∧ ∀ c : Nat, c < 4 → a1 = nI c → (∀ o, o < 6 → T.1 35 1 (4 * o + c) = S.1 35 1 (4 * o + c) + pyD S a1 o) ∧ ∀ p, (∀ o, o < 6 → p ≠ 4 * o + c) → T.1 35 1 p = S.1 35 1 p
theorem wr1 {S : hs_S} {t n k : Nat} {x : Int32} : (hs_wI S t 1 n x).1 t 1 k = if k = n then x else S.1 t 1 k := by
  show (if t = t ∧ 1 = 1 ∧ k = n then x else S.1 t 1 k) = _
  by_cases w : k = n
  · rw [if_pos ⟨rfl, rfl, w⟩, if_pos w]
  · rw [if_neg fun z => w z.2.2, if_neg w]
theorem wr0 {S : hs_S} {t n a i k : Nat} {x : Int32} (h : a ≠ t) : (hs_wI S t 1 n x).1 a i k = S.1 a i k := if_neg fun z => h z.1
theorem nI_41 {o c : Nat} : nI o * 4 + nI c = nI (4 * o + c) := by
  rw [Int32.mul_comm, show (4 : Int32) * nI o = nI (4 * o) from pk_mul 4 o, nI_add]
theorem cCa_row {S : hs_S} {U : hs_S} {a : Int32} {o : Nat} : ∀ k, k ≤ 6 → o < 6 → (∀ c, c < 6 → U.1 39 1 c = pyC S a c) → cCa U o k = pyA S a o k := by
  intro k
  induction k with
  | zero => intro _ _ _; rfl
  | succ k ih =>
    intro hk ho h
    unfold cCa pyA
    rw [ih (by omega) ho h]
    unfold cCaC
    rw [h k (by omega), h o ho]
def m_Ldg_payDues (a1 : Int32) (S : hs_S) (Q : Int32 → hs_S → Prop) : Prop := hs_M 7 yX6_payDues (.code yX6_payDues cX6_payDues 6 (some FieldType.int)) [.inr (.inr (6, 1)), .inl a1] S 0 0 (hs_qI Q) hs_nX
def vc_Ldg_payDues (a1 : Int32) (S : hs_S) (Q : Int32 → hs_S → Prop) : Prop := (∃ I3 : Nat → Int32 → Int32 → hs_S → Prop, (∃ n8, I3 n8 (0 : Int32) (0 : Int32) S) ∧ (∀ N4 : Nat, ∀ x1 : Int32, ∀ x2 : Int32, ∀ S5 : hs_S, I3 N4 x1 x2 S5 → (((6 : Int32) ≤ x2 → (∃ I15 : Nat → Int32 → Int32 → hs_S → Prop, (∃ n20, I15 n20 (0 : Int32) (0 : Int32) S5) ∧ (∀ N16 : Nat, ∀ x13 : Int32, ∀ x14 : Int32, ∀ S17 : hs_S, I15 N16 x13 x14 S17 → (((6 : Int32) ≤ x14 → (Q x13 S17)) ∧ (¬ (6 : Int32) ≤ x14 → ((0 ≤ x14.toInt ∧ x14.toInt < 6) ∧ ((P_Ldg_cutAhead x14 S17) ∧ (∀ x27 : Int32, x27 = (if x1 ≤ (F_Ldg_cutAhead x14 S17) then (0 : Int32) else (1 : Int32)) → (∀ S28 : hs_S, S28 = (hs_wI S17 36 1 x14.toNatClampNeg ((S17.1 36 1 x14.toNatClampNeg) - ((S17.1 38 1 x14.toNatClampNeg) + x27))) → (∃ q29, q29 < N16 ∧ I15 q29 (x13 + (if (0 : Int32) < ((S17.1 38 1 x14.toNatClampNeg) + x27) then ((S17.1 38 1 x14.toNatClampNeg) + x27) else (0 : Int32))) (x14 + 1) S28)))))))))) ∧ (¬ (6 : Int32) ≤ x2 → ((P_Ldg_dueOf x2 a1 S5) ∧ ((P_J_floorDiv (F_Ldg_dueOf x2 a1 S5) (10 : Int32) S5) ∧ ((0 ≤ x2.toInt ∧ x2.toInt < 6) ∧ (∀ S37 : hs_S, S37 = (hs_wI S5 38 1 x2.toNatClampNeg (F_J_floorDiv (F_Ldg_dueOf x2 a1 S5) (10 : Int32))) → ((P_J_floorMod (F_Ldg_dueOf x2 a1 S5) (10 : Int32) S37) ∧ (∀ S39 : hs_S, S39 = (hs_wI S37 39 1 x2.toNatClampNeg (F_J_floorMod (F_Ldg_dueOf x2 a1 S5) (10 : Int32))) → ((0 ≤ ((x2 * (4 : Int32)) + a1).toInt ∧ ((x2 * (4 : Int32)) + a1).toInt < 24) ∧ (∀ S41 : hs_S, S41 = (hs_wI S39 35 1 ((x2 * (4 : Int32)) + a1).toNatClampNeg ((S39.1 35 1 ((x2 * (4 : Int32)) + a1).toNatClampNeg) + (F_Ldg_dueOf x2 a1 S5))) → (∃ q42, q42 < N4 ∧ I3 q42 (x1 - (S39.1 38 1 x2.toNatClampNeg)) (x2 + 1) S41)))))))))))))
set_option maxRecDepth 100000 in
set_option maxHeartbeats 4000000 in
theorem ok_Ldg_payDues {a1 : Int32} {S : hs_S} {Q : Int32 → hs_S → Prop} (hw : hs_Wi S) (hv : vc_Ldg_payDues a1 S Q) : m_Ldg_payDues a1 S Q := by
  unfold vc_Ldg_payDues at hv
  refine hs_body (own := RX6) rfl rfl (Nat.le_of_ble_eq_true rfl) (fun Z X E N J0 => ?_)
  show wa Z 0 0 S 0 [(0, .inr (.inr (6, 1))), (1, .inl a1)] []
  refine wa_iconst X dX6_payDues_0 kc0 ?_
  refine wa_istore_n X (lv' := [(2, .inl (0 : Int32)), (0, .inr (.inr (6, 1))), (1, .inl a1)]) dX6_payDues_1 rfl (by decide) rfl ?_
  refine wa_iconst X dX6_payDues_2 kc0 ?_
  refine wa_istore_n X (lv' := [(3, .inl (0 : Int32)), (2, .inl (0 : Int32)), (0, .inr (.inr (6, 1))), (1, .inl a1)]) dX6_payDues_3 rfl (by decide) rfl ?_
  obtain ⟨I3, ⟨n8, i6⟩, b7⟩ := hv
  refine wa_lv (lv' := [(0, .inr (.inr (6, 1))), (1, .inl a1), (2, .inl (0 : Int32)), (3, .inl (0 : Int32))]) [2, 3, 1, 0] rfl ?_
  suffices L9 : ∀ N4 : Nat, ∀ x1 : Int32, ∀ x2 : Int32, ∀ S5 : hs_S, hs_Wi S5 → I3 N4 x1 x2 S5 → wa Z 0 0 S5 4 [(0, .inr (.inr (6, 1))), (1, .inl a1), (2, .inl x1), (3, .inl x2)] [] from L9 _ _ _ _ hw i6
  clear hw
  clear i6
  intro N4
  induction N4 using Nat.strongRecOn with
  | _ N4 h10 =>
    intro x1 x2 S5 hw j11
    have hv := b7 N4 x1 x2 S5 j11
    refine wa_iload_n X 3 rfl dX6_payDues_4 rfl ?_
    refine wa_bipush X dX6_payDues_5 kb6 ?_
    refine wa_icmp_ge X (tgt := 74) dX6_payDues_7 (by decide) (fun c12 => ?_) (fun c12 => ?_)
    · replace hv := hv.1 c12
      refine wa_iconst X dX6_payDues_74 kc0 ?_
      refine wa_istore_n X (lv' := [(3, .inl (0 : Int32)), (0, .inr (.inr (6, 1))), (1, .inl a1), (2, .inl x1)]) dX6_payDues_75 rfl (by decide) rfl ?_
      refine wa_iconst X dX6_payDues_76 kc0 ?_
      refine wa_istore X (lv' := [(4, .inl (0 : Int32)), (3, .inl (0 : Int32)), (0, .inr (.inr (6, 1))), (1, .inl a1), (2, .inl x1)]) dX6_payDues_77 (by decide) rfl ?_
      obtain ⟨I15, ⟨n20, i18⟩, b19⟩ := hv
      refine wa_lv (lv' := [(0, .inr (.inr (6, 1))), (2, .inl x1), (3, .inl (0 : Int32)), (4, .inl (0 : Int32))]) [2, 4, 1, 0] rfl ?_
      suffices L21 : ∀ N16 : Nat, ∀ x13 : Int32, ∀ x14 : Int32, ∀ S17 : hs_S, hs_Wi S17 → I15 N16 x13 x14 S17 → wa Z 0 0 S17 79 [(0, .inr (.inr (6, 1))), (2, .inl x1), (3, .inl x13), (4, .inl x14)] [] from L21 _ _ _ _ hw i18
      clear hw
      clear i18
      intro N16
      induction N16 using Nat.strongRecOn with
      | _ N16 h22 =>
        intro x13 x14 S17 hw j23
        have hv := b19 N16 x13 x14 S17 j23
        refine wa_iload X 3 rfl dX6_payDues_79 ?_
        refine wa_bipush X dX6_payDues_81 kb6 ?_
        refine wa_icmp_ge X (tgt := 138) dX6_payDues_83 (by decide) (fun c24 => ?_) (fun c24 => ?_)
        · replace hv := hv.1 c24
          refine wa_iload_n X 2 rfl dX6_payDues_138 rfl ?_
          exact wa_ireturn X E dX6_payDues_139 (Nat.le_of_ble_eq_true rfl) (Nat.le_of_ble_eq_true rfl) (Or.inl rfl) ⟨hw, _, rfl, hv⟩
        · replace hv := hv.2 c24
          refine wa_aload_n X 0 rfl dX6_payDues_86 rfl ?_
          refine wa_getfw X hw (j := 4) (r := 1) hk_6 hc_6 i_6 (by decide) kw_312 rfl rfl (by decide) rfl dX6_payDues_87 hs_1ne ?_
          refine wa_iload X 3 rfl dX6_payDues_90 ?_
          obtain ⟨o25, hv⟩ := hv
          refine wa_iald X hk_38 dX6_payDues_92 hs_1ne o25 ?_
          refine wa_aload_n X 0 rfl dX6_payDues_93 rfl ?_
          refine wa_iload X 3 rfl dX6_payDues_94 ?_
          obtain ⟨o26, hv⟩ := hv
          refine wa_callV X (As := [.inl x14]) (f_Ldg_cutAhead hw o26) hk_6 hc_6 rfl kw_1023 kw_32 kw_1020 kw_1022 kw_19 nd_X6_cutAhead rfl rfl (Nat.le_of_ble_eq_true rfl) dX6_payDues_96 hs_1ne ⟨⟨Nat.le_of_ble_eq_true rfl, Nat.le_of_ble_eq_true rfl⟩, Nat.le_of_ble_eq_true rfl, Nat.le_of_ble_eq_true rfl⟩ (hs_pdk0 ?_) (fun _ _ h => h.elim)
          refine wa_iload_n X 1 rfl dX6_payDues_99 rfl ?_
          have k31 : ∀ (x27 : Int32), x27 = (if x1 ≤ (F_Ldg_cutAhead x14 S17) then (0 : Int32) else (1 : Int32)) → wa Z 0 0 S17 108 [(0, .inr (.inr (6, 1))), (2, .inl x1), (3, .inl x13), (4, .inl x14)] [.inl x27, .inl (S17.1 38 1 x14.toNatClampNeg)] := by
            intro x27 hE
            replace hv := hv _ hE
            refine wa_iadd X dX6_payDues_108 ?_
            refine wa_istore X (lv' := [(5, .inl ((S17.1 38 1 x14.toNatClampNeg) + x27)), (0, .inr (.inr (6, 1))), (2, .inl x1), (3, .inl x13), (4, .inl x14)]) dX6_payDues_109 (by decide) rfl ?_
            refine wa_aload_n X 1 rfl dX6_payDues_111 rfl ?_
            refine wa_getfw X hw (j := 2) (r := 1) hk_6 hc_6 i_6 (by decide) kw_308 rfl rfl (by decide) rfl dX6_payDues_112 hs_1ne ?_
            refine wa_iload X 4 rfl dX6_payDues_115 ?_
            refine wa_dup2 X dX6_payDues_117 rfl rfl ?_
            refine wa_iald X hk_36 dX6_payDues_118 hs_1ne o25 ?_
            refine wa_iload X 0 rfl dX6_payDues_119 ?_
            refine wa_isub X dX6_payDues_121 ?_
            refine wa_iast X hk_36 dX6_payDues_122 hs_1ne o25 (hs_eqS fun S28 hS28 => ?_)
            replace hv := hv S28 hS28
            replace hw : hs_Wi S28 := hS28 ▸ hs_Wi_I hw
            refine wa_iload_n X 3 rfl dX6_payDues_123 rfl ?_
            refine wa_iconst X dX6_payDues_124 kc0 ?_
            refine wa_iload X 0 rfl dX6_payDues_125 ?_
            refine wa_mmax X kw_827 kw_607 kw_39 kw_608 (Nat.le_of_ble_eq_true rfl) dX6_payDues_127 ⟨⟨Nat.le_of_ble_eq_true rfl, Nat.le_of_ble_eq_true rfl⟩, Nat.le_of_ble_eq_true rfl, Nat.le_of_ble_eq_true rfl⟩ ?_
            refine wa_iadd X dX6_payDues_130 ?_
            refine wa_istore_n X (lv' := [(3, .inl (x13 + (if (0 : Int32) < ((S17.1 38 1 x14.toNatClampNeg) + x27) then ((S17.1 38 1 x14.toNatClampNeg) + x27) else (0 : Int32)))), (5, .inl ((S17.1 38 1 x14.toNatClampNeg) + x27)), (0, .inr (.inr (6, 1))), (2, .inl x1), (4, .inl x14)]) dX6_payDues_131 rfl (by decide) rfl ?_
            refine wa_iinc X (v := (x14 + 1)) (lv' := [(4, .inl (x14 + 1)), (3, .inl (x13 + (if (0 : Int32) < ((S17.1 38 1 x14.toNatClampNeg) + x27) then ((S17.1 38 1 x14.toNatClampNeg) + x27) else (0 : Int32)))), (5, .inl ((S17.1 38 1 x14.toNatClampNeg) + x27)), (0, .inr (.inr (6, 1))), (2, .inl x1)]) 4 rfl dX6_payDues_132 rfl (by decide) rfl ?_
            refine wa_goto X (tgt := 79) dX6_payDues_135 (by decide) ?_
            obtain ⟨q29, p30, hv⟩ := hv
            refine wa_lv (lv' := [(0, .inr (.inr (6, 1))), (2, .inl x1), (3, .inl (x13 + (if (0 : Int32) < ((S17.1 38 1 x14.toNatClampNeg) + x27) then ((S17.1 38 1 x14.toNatClampNeg) + x27) else (0 : Int32)))), (4, .inl (x14 + 1))]) [3, 4, 1, 0] rfl ?_
            exact h22 q29 p30 _ _ _ hw hv
          clear hv
          refine wa_icmp_ge X (tgt := 107) dX6_payDues_100 (by decide) (fun c33 => ?_) (fun c33 => ?_)
          · refine wa_iconst X dX6_payDues_107 kc0 ?_
            refine wa_lv (lv' := [(0, .inr (.inr (6, 1))), (2, .inl x1), (3, .inl x13), (4, .inl x14)]) [0, 1, 2, 3] rfl ?_
            exact wa_wid (Nat.le_of_ble_eq_true rfl) (Nat.le_of_ble_eq_true rfl) (k31 _  (by rw [if_pos c33]))
          · refine wa_iconst X dX6_payDues_103 kc1 ?_
            refine wa_goto X (tgt := 108) dX6_payDues_104 (by decide) ?_
            refine wa_lv (lv' := [(0, .inr (.inr (6, 1))), (2, .inl x1), (3, .inl x13), (4, .inl x14)]) [0, 1, 2, 3] rfl ?_
            exact wa_wid (Nat.le_of_ble_eq_true rfl) (Nat.le_of_ble_eq_true rfl) (k31 _  (by rw [if_neg c33]))
    · replace hv := hv.2 c12
      refine wa_aload_n X 0 rfl dX6_payDues_10 rfl ?_
      refine wa_iload_n X 3 rfl dX6_payDues_11 rfl ?_
      refine wa_iload_n X 1 rfl dX6_payDues_12 rfl ?_
      obtain ⟨o34, hv⟩ := hv
      refine wa_callV X (As := [.inl x2, .inl a1]) (f_Ldg_dueOf hw o34) hk_6 hc_6 rfl kw_470 kw_32 kw_826 kw_468 kw_469 nd_X6_dueOf rfl rfl (Nat.le_of_ble_eq_true rfl) dX6_payDues_13 hs_1ne ⟨⟨Nat.le_of_ble_eq_true rfl, Nat.le_of_ble_eq_true rfl⟩, Nat.le_of_ble_eq_true rfl, Nat.le_of_ble_eq_true rfl⟩ (hs_pdk0 ?_) (fun _ _ h => h.elim)
      refine wa_istore X (lv' := [(4, .inl (F_Ldg_dueOf x2 a1 S5)), (0, .inr (.inr (6, 1))), (1, .inl a1), (2, .inl x1), (3, .inl x2)]) dX6_payDues_16 (by decide) rfl ?_
      refine wa_aload_n X 1 rfl dX6_payDues_18 rfl ?_
      refine wa_getfw X hw (j := 4) (r := 1) hk_6 hc_6 i_6 (by decide) kw_312 rfl rfl (by decide) rfl dX6_payDues_19 hs_1ne ?_
      refine wa_iload_n X 4 rfl dX6_payDues_22 rfl ?_
      refine wa_iload X 0 rfl dX6_payDues_23 ?_
      refine wa_bipush X dX6_payDues_25 kb10 ?_
      obtain ⟨o35, hv⟩ := hv
      refine wa_callS X (As := [.inl (F_Ldg_dueOf x2 a1 S5), .inl (10 : Int32)]) (f_J_floorDiv hw o35) kw_1016 kw_39 kw_1014 kw_1015 nd_J9_floorDiv_7cf53 rfl rfl (Nat.le_of_ble_eq_true rfl) dX6_payDues_27 ⟨⟨Nat.le_of_ble_eq_true rfl, Nat.le_of_ble_eq_true rfl⟩, Nat.le_of_ble_eq_true rfl, Nat.le_of_ble_eq_true rfl⟩ (hs_pdk0 ?_) (fun _ _ h => h.elim)
      obtain ⟨o36, hv⟩ := hv
      refine wa_iast X hk_38 dX6_payDues_30 hs_1ne o36 (hs_eqS fun S37 hS37 => ?_)
      replace hv := hv S37 hS37
      replace hw : hs_Wi S37 := hS37 ▸ hs_Wi_I hw
      refine wa_aload_n X 1 rfl dX6_payDues_31 rfl ?_
      refine wa_getfw X hw (j := 5) (r := 1) hk_6 hc_6 i_6 (by decide) kw_313 rfl rfl (by decide) rfl dX6_payDues_32 hs_1ne ?_
      refine wa_iload_n X 4 rfl dX6_payDues_35 rfl ?_
      refine wa_iload X 0 rfl dX6_payDues_36 ?_
      refine wa_bipush X dX6_payDues_38 kb10 ?_
      obtain ⟨o38, hv⟩ := hv
      refine wa_callS X (As := [.inl (F_Ldg_dueOf x2 a1 S5), .inl (10 : Int32)]) (f_J_floorMod hw o38) kw_1019 kw_39 kw_1017 kw_1018 nd_J9_floorMod_7cf53 rfl rfl (Nat.le_of_ble_eq_true rfl) dX6_payDues_40 ⟨⟨Nat.le_of_ble_eq_true rfl, Nat.le_of_ble_eq_true rfl⟩, Nat.le_of_ble_eq_true rfl, Nat.le_of_ble_eq_true rfl⟩ (hs_pdk0 ?_) (fun _ _ h => h.elim)
      refine wa_iast X hk_39 dX6_payDues_43 hs_1ne o36 (hs_eqS fun S39 hS39 => ?_)
      replace hv := hv S39 hS39
      replace hw : hs_Wi S39 := hS39 ▸ hs_Wi_I hw
      refine wa_iload_n X 3 rfl dX6_payDues_44 rfl ?_
      refine wa_aload_n X 1 rfl dX6_payDues_45 rfl ?_
      refine wa_getfw X hw (j := 4) (r := 1) hk_6 hc_6 i_6 (by decide) kw_312 rfl rfl (by decide) rfl dX6_payDues_46 hs_1ne ?_
      refine wa_iload_n X 4 rfl dX6_payDues_49 rfl ?_
      refine wa_iald X hk_38 dX6_payDues_50 hs_1ne o36 ?_
      refine wa_isub X dX6_payDues_51 ?_
      refine wa_istore_n X (lv' := [(2, .inl (x1 - (S39.1 38 1 x2.toNatClampNeg))), (4, .inl (F_Ldg_dueOf x2 a1 S5)), (0, .inr (.inr (6, 1))), (1, .inl a1), (3, .inl x2)]) dX6_payDues_52 rfl (by decide) rfl ?_
      refine wa_aload_n X 2 rfl dX6_payDues_53 rfl ?_
      refine wa_getfw X hw (j := 1) (r := 1) hk_6 hc_6 i_6 (by decide) kw_307 rfl rfl (by decide) rfl dX6_payDues_54 hs_1ne ?_
      refine wa_iload_n X 4 rfl dX6_payDues_57 rfl ?_
      refine wa_iconst X dX6_payDues_58 kc4 ?_
      refine wa_imul X dX6_payDues_59 ?_
      refine wa_iload_n X 3 rfl dX6_payDues_60 rfl ?_
      refine wa_iadd X dX6_payDues_61 ?_
      refine wa_dup2 X dX6_payDues_62 rfl rfl ?_
      obtain ⟨o40, hv⟩ := hv
      refine wa_iald X hk_35 dX6_payDues_63 hs_1ne o40 ?_
      refine wa_iload X 1 rfl dX6_payDues_64 ?_
      refine wa_iadd X dX6_payDues_66 ?_
      refine wa_iast X hk_35 dX6_payDues_67 hs_1ne o40 (hs_eqS fun S41 hS41 => ?_)
      replace hv := hv S41 hS41
      replace hw : hs_Wi S41 := hS41 ▸ hs_Wi_I hw
      refine wa_iinc X (v := (x2 + 1)) (lv' := [(3, .inl (x2 + 1)), (2, .inl (x1 - (S39.1 38 1 x2.toNatClampNeg))), (4, .inl (F_Ldg_dueOf x2 a1 S5)), (0, .inr (.inr (6, 1))), (1, .inl a1)]) 4 rfl dX6_payDues_68 rfl (by decide) rfl ?_
      refine wa_goto X (tgt := 4) dX6_payDues_71 (by decide) ?_
      obtain ⟨q42, p43, hv⟩ := hv
      refine wa_lv (lv' := [(0, .inr (.inr (6, 1))), (1, .inl a1), (2, .inl (x1 - (S39.1 38 1 x2.toNatClampNeg))), (3, .inl (x2 + 1))]) [3, 4, 1, 0] rfl ?_
      exact h10 q42 p43 _ _ _ hw hv
theorem v_Ldg_payDues {a1 : Int32} {S : hs_S} (hP : P_Ldg_payDues a1 S) : vc_Ldg_payDues a1 S (fun r T => R_Ldg_payDues a1 S r T) := by
  obtain ⟨⟨c, hc, rfl⟩, hB, hF⟩ := hP
  have due : ∀ U : hs_S, hs_cL U = hs_cL S → ∀ o, F_Ldg_dueOf (nI o) (nI c) U = F_Book_owedBy (nI o) (nI c) S - U.1 35 1 (nI o * 4 + nI c).toNatClampNeg := fun U h o => by
    unfold F_Ldg_dueOf
    rw [← cL_owed, h, cL_owed]
  have PD : ∀ U : hs_S, hs_cL U = hs_cL S → ∀ o, o < 6 → P_Ldg_dueOf (nI o) (nI c) U := fun U h o ho => by
    have h0 : P_Ldg_dueOf (nI o) (nI c) (hs_cL S) := ⟨⟨hB, hF⟩, by rw [nI_41]; exact hl_ix (by omega) (by omega)⟩
    rw [← h] at h0
    exact h0
  unfold vc_Ldg_payDues
  refine ⟨fun N x y U => ∃ k, k ≤ 6 ∧ y = nI k ∧ N = 6 - k ∧ x = pyL S (nI c) k ∧ U.2 = S.2 ∧ (∀ t i p, ¬ (t = 35 ∨ t = 36 ∨ t = 38 ∨ t = 39) → U.1 t i p = S.1 t i p) ∧ (U.1 36 = S.1 36 ∧ ∀ i p, i ≠ 1 → U.1 35 i p = S.1 35 i p) ∧ (∀ o, o < k → U.1 38 1 o = pyQ S (nI c) o ∧ U.1 39 1 o = pyC S (nI c) o) ∧ (∀ o, o < 6 → U.1 35 1 (4 * o + c) = if o < k then S.1 35 1 (4 * o + c) + pyD S (nI c) o else S.1 35 1 (4 * o + c)) ∧ ∀ p, (∀ o, o < 6 → p ≠ 4 * o + c) → U.1 35 1 p = S.1 35 1 p, ⟨6, 0, by omega, rfl, rfl, rfl, rfl, fun _ _ _ _ => rfl, ⟨rfl, fun _ _ _ => rfl⟩, fun o ho => absurd ho (by omega), fun o _ => (if_neg (by omega)).symm, fun _ _ => rfl⟩, ?_⟩
  rintro N x y U ⟨k, hk, rfl, rfl, rfl, hU2, hU, ⟨h36, h35⟩, hq, hs, hs'⟩
  refine ⟨fun h => ?_, fun h => ?_⟩
  · have : k = 6 := hl_end (g := 6) (by omega) hk h
    subst this
    refine ⟨fun N x y W => ∃ k, k ≤ 6 ∧ y = nI k ∧ N = 6 - k ∧ x = pyT S (nI c) k ∧ W.2 = S.2 ∧ (∀ t i p, ¬ (t = 36) → W.1 t i p = U.1 t i p) ∧ (∀ i p, ¬ (i = 1 ∧ p < 6) → W.1 36 i p = S.1 36 i p) ∧ ∀ o, o < 6 → W.1 36 1 o = if o < k then S.1 36 1 o - pyP S (nI c) o else S.1 36 1 o, ⟨6, 0, by omega, rfl, rfl, rfl, hU2, fun _ _ _ _ => rfl, fun i p _ => by rw [h36], fun o _ => by rw [if_neg (by omega), h36]⟩, ?_⟩
    rintro N x y W ⟨k, hk, rfl, rfl, rfl, hW2, hW, hW6, hc6⟩
    refine ⟨fun h => ?_, fun h => ?_⟩
    · have : k = 6 := hl_end (g := 6) (by omega) hk h
      subst this
      refine ⟨hW2, fun t i p q => (hW t i p (by omega)).trans (hU t i p q), rfl, fun o ho => (hc6 o ho).trans (if_pos ho), ⟨fun i p q => (hW 35 i p (by decide)).trans (h35 i p q), hW6⟩, fun c' hc' e => ?_⟩
      have ec : c' = c := (hl_inj (by omega) (by omega)).mp e.symm
      subst ec
      exact ⟨fun o ho => (hW 35 1 _ (by decide)).trans ((hs o ho).trans (if_pos ho)), fun p hp => (hW 35 1 p (by decide)).trans (hs' p hp)⟩
    · have hk1 : k < 6 := hl_go (g := 6) (by omega) hk h
      rw [hl_cl (by omega)]
      have e39 : ∀ o, o < 6 → W.1 39 1 o = pyC S (nI c) o := fun o ho => (hW 39 1 o (by decide)).trans (hq o ho).2
      have e38 : W.1 38 1 k = pyQ S (nI c) k := (hW 38 1 k (by decide)).trans (hq k hk1).1
      have eA : F_Ldg_cutAhead (nI k) W = pyA S (nI c) k 6 := by
        unfold F_Ldg_cutAhead
        rw [hl_cl (by omega)]
        exact cCa_row 6 (by omega) hk1 e39
      refine ⟨hl_ix (by omega) (by omega), ⟨k, hk1, rfl⟩, fun z hz => ?_⟩
      rw [eA] at hz
      have eP : W.1 38 1 k + z = pyP S (nI c) k := by rw [e38, hz]; rfl
      rw [eP]
      rintro _ rfl
      refine ⟨6 - (k + 1), by omega, k + 1, hk1, nI_1 k, rfl, rfl, hW2, fun t i p q => ?_, fun i p q => ?_, fun o ho => ?_⟩
      · rw [wr0 q]; exact hW t i p q
      · exact (if_neg fun z => q ⟨z.2.1, by omega⟩).trans (hW6 i p q)
      · rw [wr1]
        by_cases q : o = k
        · rw [if_pos q, if_pos (by omega), q, hc6 k hk1, if_neg (by omega)]
        · rw [if_neg q, hc6 o ho]
          by_cases q2 : o < k
          · rw [if_pos q2, if_pos (by omega)]
          · rw [if_neg q2, if_neg (by omega)]
  · have hk1 : k < 6 := hl_go (g := 6) (by omega) hk h
    have hcL : hs_cL U = hs_cL S := cL_fr hU2 hU
    have eD : F_Ldg_dueOf (nI k) (nI c) U = pyD S (nI c) k := by
      rw [due U hcL k, pyD, due S rfl k, nI_41, hl_cl (by omega), hs k hk1, if_neg (by omega)]
    rw [eD, hl_cl (by omega), nI_41]
    refine ⟨PD U hcL k hk1, (by decide : ¬ (10 : Int32) = 0), hl_ix (by omega) (by omega), ?_⟩
    rintro _ rfl
    refine ⟨(by decide : ¬ (10 : Int32) = 0), ?_⟩
    rintro _ rfl
    refine ⟨hl_ix (by omega) (by omega), ?_⟩
    rintro _ rfl
    rw [hl_cl (by omega)]
    refine ⟨6 - (k + 1), by omega, k + 1, hk1, nI_1 k, rfl, ?_, hU2, fun t i p q => ?_, ?_, fun o ho => ⟨?_, ?_⟩, fun o ho => ?_, fun p hp => ?_⟩
    · have e : (hs_wI (hs_wI U 38 1 k (F_J_floorDiv (pyD S (nI c) k) 10)) 39 1 k (F_J_floorMod (pyD S (nI c) k) 10)).1 38 1 k = pyQ S (nI c) k := by
        rw [wr0 (by decide), wr1, if_pos rfl]
      rw [e]; rfl
    · rw [wr0 (by omega), wr0 (by omega), wr0 (by omega)]; exact hU t i p q
    · exact ⟨h36, fun i p q => (if_neg fun z => q z.2.1).trans (h35 i p q)⟩
    · rw [wr0 (by decide), wr0 (by decide), wr1]
      by_cases q : o = k
      · rw [if_pos q, q]
      · rw [if_neg q]; exact (hq o (by omega)).1
    · rw [wr0 (by decide), wr1]
      by_cases q : o = k
      · rw [if_pos q, q]
      · rw [if_neg q, wr0 (by decide)]; exact (hq o (by omega)).2
    · rw [wr1]
      by_cases q : o = k
      · rw [q, if_pos rfl, if_pos (by omega), wr0 (by decide), wr0 (by decide), hs k hk1, if_neg (by omega)]
      · rw [if_neg (by omega), wr0 (by decide), wr0 (by decide), hs o ho]
        by_cases q2 : o < k
        · rw [if_pos q2, if_pos (by omega)]
        · rw [if_neg q2, if_neg (by omega)]
    · rw [wr1, if_neg (hp k hk1), wr0 (by decide), wr0 (by decide)]; exact hs' p hp

