/-- what reckoning a round writes -/
def hs_fr (t p : Nat) : Bool := hs_fs t p || (t == 33 || ((t == 8 && (p == 5 || (p == 6 || (p == 7 || p == 8)))) || (t == 0 && p == 9)))
def KF (S T : hs_S) : Prop := T.2.2 = S.2.2 ∧ (∀ t i p, t ≠ 28 → ¬ (t = 4 ∧ p = 2) → T.2.1 t i p = S.2.1 t i p) ∧ ∀ t i p, hs_fr t p = false → T.1 t i p = S.1 t i p
theorem KF.rf {S : hs_S} : KF S S := ⟨rfl, fun _ _ _ _ _ => rfl, fun _ _ _ _ => rfl⟩
theorem KF.tr {S T U : hs_S} (h : KF S T) (k : KF T U) : KF S U := ⟨k.1.trans h.1, fun t i p a b => (k.2.1 t i p a b).trans (h.2.1 t i p a b), fun t i p a => (k.2.2 t i p a).trans (h.2.2 t i p a)⟩
theorem fr_fs {t p : Nat} (h : hs_fr t p = false) : hs_fs t p = false ∧ t ≠ 33 ∧ ¬ (t = 8 ∧ (p = 5 ∨ p = 6 ∨ p = 7 ∨ p = 8)) ∧ ¬ (t = 0 ∧ p = 9) := by
  unfold hs_fr at h
  simp only [Bool.or_eq_false_iff, Bool.and_eq_false_iff, beq_eq_false_iff_ne] at h
  obtain ⟨a, b, c, d⟩ := h
  exact ⟨a, b, fun z => by omega, fun z => by omega⟩
theorem fs_29 {t p : Nat} (h : hs_fs t p = false) : t ≠ 29 := by
  unfold hs_fs at h
  simp only [Bool.or_eq_false_iff, beq_eq_false_iff_ne] at h
  exact h.1
def R_Clr_reckon (r : Nat) (S : hs_S) (x : Int32) (T : hs_S) : Prop := ∃ (S2 S6 : hs_S) (y : Int32), R_Fnd_goTo (S.1 8 r 1) (r + 1) S S2 ∧ R_Clr_findPrice r S2 S6 ∧ R_Clr_shareOut r S6 y T ∧ (x = 0 ∨ x = 1) ∧ (x = 0 ↔ y = 0 ∧ S.1 8 r 5 = T.1 8 r 5 ∧ S.1 8 r 6 = T.1 8 r 6 ∧ S.1 8 r 7 = T.1 8 r 7)
theorem GF.kf {S T : hs_S} (h : GF S T) : KF S T := ⟨h.1, h.2.1, fun t i p q => h.2.2 t i p (fs_29 (fr_fs q).1) (fr_fs q).2.1⟩
theorem RF.kf {r : Nat} {S T : hs_S} (h : RF r S T) : KF S T := ⟨by rw [h.1], fun t i p _ _ => by rw [h.1], fun t i p q => h.2.2 t i p (fr_fs q).1 fun z => (fr_fs q).2.2.1 ⟨z.1, by omega⟩⟩
theorem share_kf {r : Nat} {S T : hs_S} {y : Int32} (h : R_Clr_shareOut r S y T) : KF S T := ⟨by rw [h.1], fun t i p _ _ => by rw [h.1], fun t i p q => (h.2.1 t i p fun z => (fr_fs q).2.2.2 ⟨z.1, z.2.1⟩).trans (if_neg fun z => (fr_fs q).2.2.1 ⟨z.1, by omega⟩)⟩
theorem reckon_kf {r : Nat} {S T : hs_S} {x : Int32} (h : R_Clr_reckon r S x T) : KF S T := by
  obtain ⟨S2, S6, y, h1, h2, h3, _⟩ := h
  exact (h1.1.kf.tr h2.1.kf).tr (share_kf h3)
def P_Clr_reckon (r : Nat) (S : hs_S) : Prop := P_Fnd_goTo 0 0 S ∧ (fOk S 1 ∧ ∀ k, k < hs_sz S 12 → fOk S (S.2.1 3 (ed S k) 5)) ∧ (∃ c : Nat, c < 4 ∧ S.1 8 r 0 = nI c) ∧ ∀ k, k < hs_sz S 13 → bd S k = k + 1
theorem P_reckon_kf {r : Nat} {S T : hs_S} (h : KF S T) (k : P_Clr_reckon r S) : P_Clr_reckon r T := by
  have rr : ∀ t, t ≠ 28 → t ≠ 4 → T.2.1 t = S.2.1 t := fun t a b => funext fun i => funext fun p => h.2.1 t i p a fun z => b z.1
  have ri : ∀ t, (∀ p, hs_fr t p = false) → T.1 t = S.1 t := fun t a => funext fun i => funext fun p => h.2.2 t i p (a p)
  have r0 := rr 0 (by decide) (by decide)
  have r3 := rr 3 (by decide) (by decide)
  have r12 := rr 12 (by decide) (by decide)
  have r13 := rr 13 (by decide) (by decide)
  have r14 := rr 14 (by decide) (by decide)
  have i3 := ri 3 (fun _ => rfl)
  have i5 := ri 5 (fun _ => rfl)
  have i22 := ri 22 (fun _ => rfl)
  have i23 := ri 23 (fun _ => rfl)
  have i24 := ri 24 (fun _ => rfl)
  have i8 : ∀ i, T.1 8 i 0 = S.1 8 i 0 := fun i => h.2.2 8 i 0 rfl
  obtain ⟨a, ⟨b1, b2⟩, c, d⟩ := k
  refine ⟨?_, ⟨fOk_eq i5 i22 i23 i24 b1, fun j hj => ?_⟩, ?_, ?_⟩
  · unfold P_Fnd_goTo cRd at a ⊢
    simp only [ed, bd, br, rd, hs_sz, r0, r3, r12, r13, r14, i3, i8] at a ⊢
    exact a
  · unfold ed at b2 ⊢
    unfold hs_sz at b2 hj
    rw [r12] at hj ⊢
    rw [r3]
    exact fOk_eq i5 i22 i23 i24 (b2 j hj)
  · rw [i8]; exact c
  · unfold bd hs_sz
    rw [r13]; exact d
theorem cForm_ok {S : hs_S} {e c : Int32} (h1 : fOk S 1) : ∀ k, (∀ j, j < k → S.2.1 3 (ed S j) 5 ≠ 0 ∧ fOk S (S.2.1 3 (ed S j) 5)) → cForm S e c k ≠ 0 ∧ fOk S (cForm S e c k) := by
  intro k
  induction k with
  | zero => exact fun _ => ⟨Nat.one_ne_zero, h1⟩
  | succ k ih =>
    intro h
    unfold cForm
    by_cases q : S.1 3 (ed S k) 1 = c ∧ ¬ F_Edit_countsAt (ed S k) e S = 0
    · rw [if_pos q]; exact h k (by omega)
    · rw [if_neg q]; exact ih fun j hj => h j (by omega)
/-- behind going to an event nothing is known, and nothing waits -/
theorem FI_goTo {S T : hs_S} {e : Int32} {r : Nat} (hr : r ≠ 0) (h : R_Fnd_goTo e r S T) (hP : P_Fnd_goTo 0 0 S) (h1 : fOk S 1 ∧ ∀ k, k < hs_sz S 12 → fOk S (S.2.1 3 (ed S k) 5)) : FI T [] := by
  obtain ⟨g, g2, g3, _⟩ := h
  obtain ⟨⟨n, hn, en, hed⟩, _⟩ := hP
  have row : ∀ t, t ≠ 29 → t ≠ 33 → T.1 t = S.1 t := fun t a b => funext fun i => funext fun p => g.2.2 t i p a b
  refine ⟨⟨by rw [g2]; exact hr, fun c hc => ?_⟩, ⟨fun f hf => (nomatch hf), True.intro, List.nodup_nil, fun f hf => (nomatch hf)⟩, fun c hc => ?_, fun c hc h2 => ?_⟩
  · have := cForm_ok (e := e) (c := nI c) h1.1 (hs_sz S 12) fun j hj => ⟨(hed j (by omega)).2.2, h1.2 j hj⟩
    rw [(g3 c hc).2]
    exact ⟨this.1, fOk_eq (row 5 (by decide) (by decide)) (row 22 (by decide) (by decide)) (row 23 (by decide) (by decide)) (row 24 (by decide) (by decide)) this.2⟩
  · rw [(g3 c hc).1]
    exact ⟨fun z => absurd z (by decide), fun ⟨f, hf, _⟩ => nomatch hf⟩
  · rw [(g3 c hc).1] at h2; exact absurd h2 (by decide)
def m_Clr_reckon (r1 : Nat) (S : hs_S) (Q : Int32 → hs_S → Prop) : Prop := hs_M 53 yX2_reckon (.code yX2_reckon cX2_reckon 6 (some FieldType.boolean)) [.inr (.inr (2, 1)), .inr (.inr (8, r1))] S 0 0 (hs_qI Q) hs_nX
def vc_Clr_reckon (r1 : Nat) (S : hs_S) (Q : Int32 → hs_S → Prop) : Prop := ((P_Fnd_goTo (S.1 8 r1 1) (r1 + 1) S) ∧ (∀ S2 : hs_S, R_Fnd_goTo (S.1 8 r1 1) (r1 + 1) S S2 → ((P_Clr_findPrice r1 S2) ∧ (∀ S6 : hs_S, R_Clr_findPrice r1 S2 S6 → ((P_Clr_shareOut r1 S6) ∧ (∀ r11 : Int32, ∀ S10 : hs_S, R_Clr_shareOut r1 S6 r11 S10 → ((¬ r11 = 0 → (Q (1 : Int32) S10)) ∧ (r11 = 0 → ((¬ (S.1 8 r1 5) = (S10.1 8 r1 5) → (Q (1 : Int32) S10)) ∧ ((S.1 8 r1 5) = (S10.1 8 r1 5) → ((¬ (S.1 8 r1 6) = (S10.1 8 r1 6) → (Q (1 : Int32) S10)) ∧ ((S.1 8 r1 6) = (S10.1 8 r1 6) → (((S.1 8 r1 7) = (S10.1 8 r1 7) → (Q (0 : Int32) S10)) ∧ (¬ (S.1 8 r1 7) = (S10.1 8 r1 7) → (Q (1 : Int32) S10)))))))))))))))
set_option maxRecDepth 100000 in
set_option maxHeartbeats 4000000 in
theorem ok_Clr_reckon {r1 : Nat} {S : hs_S} {Q : Int32 → hs_S → Prop} (hr1 : r1 ≠ 0) (hw : hs_Wi S) (hv : vc_Clr_reckon r1 S Q) : m_Clr_reckon r1 S Q := by
  unfold vc_Clr_reckon at hv
  refine hs_body (own := RX2) rfl rfl (Nat.le_of_ble_eq_true rfl) (fun Z X E N J0 => ?_)
  show wa Z 0 0 S 0 [(0, .inr (.inr (2, 1))), (1, .inr (.inr (8, r1)))] []
  refine wa_aload_n X 1 rfl dX2_reckon_0 rfl ?_
  refine wa_getI X (j := 5) hk_8 hc_8 i_8 (by decide) kw_191 rfl dX2_reckon_1 hr1 ?_
  refine wa_istore_n X (lv' := [(2, .inl (S.1 8 r1 5)), (0, .inr (.inr (2, 1))), (1, .inr (.inr (8, r1)))]) dX2_reckon_4 rfl (by decide) rfl ?_
  refine wa_aload_n X 2 rfl dX2_reckon_5 rfl ?_
  refine wa_getI X (j := 6) hk_8 hc_8 i_8 (by decide) kw_195 rfl dX2_reckon_6 hr1 ?_
  refine wa_istore_n X (lv' := [(3, .inl (S.1 8 r1 6)), (2, .inl (S.1 8 r1 5)), (0, .inr (.inr (2, 1))), (1, .inr (.inr (8, r1)))]) dX2_reckon_9 rfl (by decide) rfl ?_
  refine wa_aload_n X 3 rfl dX2_reckon_10 rfl ?_
  refine wa_getI X (j := 7) hk_8 hc_8 i_8 (by decide) kw_198 rfl dX2_reckon_11 hr1 ?_
  refine wa_istore X (lv' := [(4, .inl (S.1 8 r1 7)), (3, .inl (S.1 8 r1 6)), (2, .inl (S.1 8 r1 5)), (0, .inr (.inr (2, 1))), (1, .inr (.inr (8, r1)))]) dX2_reckon_14 (by decide) rfl ?_
  refine wa_aload_n X 3 rfl dX2_reckon_16 rfl ?_
  refine wa_getfw X hw (j := 1) (r := 1) hk_2 hc_2 i_2 (by decide) kw_293 rfl rfl (by decide) rfl dX2_reckon_17 hs_1ne ?_
  refine wa_aload_n X 4 rfl dX2_reckon_20 rfl ?_
  refine wa_getI X (j := 1) hk_8 hc_8 i_8 (by decide) kw_180 rfl dX2_reckon_21 hr1 ?_
  refine wa_aload_n X 4 rfl dX2_reckon_24 rfl ?_
  refine wa_getfw X hw (j := 4) (r := (r1 + 1)) hk_8 hc_8 i_8 (by decide) kw_188 rfl rfl (by decide) rfl dX2_reckon_25 hr1 ?_
  obtain ⟨o1, hv⟩ := hv
  refine wa_callV X (As := [.inl (S.1 8 r1 1), .inr (.inr (7, (r1 + 1)))]) (ok_Fnd_goTo (hs_sne _) hw (v_Fnd_goTo o1)) hk_4 hc_4 rfl kw_737 kw_30 kw_935 kw_735 kw_736 nd_X4_goTo rfl rfl (Nat.le_of_ble_eq_true rfl) dX2_reckon_28 hs_1ne ⟨⟨Nat.le_of_ble_eq_true rfl, Nat.le_of_ble_eq_true rfl⟩, Nat.le_of_ble_eq_true rfl, Nat.le_of_ble_eq_true rfl⟩ (fun _ S2 h => ?_) (fun _ _ h => h.elim)
  obtain ⟨hw, rfl, g4⟩ := h
  replace hv := hv S2 g4
  refine wa_aload_n X 3 rfl dX2_reckon_31 rfl ?_
  refine wa_aload_n X 4 rfl dX2_reckon_32 rfl ?_
  obtain ⟨o5, hv⟩ := hv
  refine wa_callV X (As := [.inr (.inr (8, r1))]) (ok_Clr_findPrice hr1 hw (v_Clr_findPrice o5)) hk_2 hc_2 rfl kw_939 kw_31 kw_936 kw_938 kw_13 nd_X2_findPrice rfl rfl (Nat.le_of_ble_eq_true rfl) dX2_reckon_33 hs_1ne ⟨⟨Nat.le_of_ble_eq_true rfl, Nat.le_of_ble_eq_true rfl⟩, Nat.le_of_ble_eq_true rfl, Nat.le_of_ble_eq_true rfl⟩ (fun _ S6 h => ?_) (fun _ _ h => h.elim)
  obtain ⟨hw, rfl, g8⟩ := h
  replace hv := hv S6 g8
  refine wa_aload_n X 3 rfl dX2_reckon_36 rfl ?_
  refine wa_aload_n X 4 rfl dX2_reckon_37 rfl ?_
  obtain ⟨o9, hv⟩ := hv
  refine wa_callV X (As := [.inr (.inr (8, r1))]) (ok_Clr_shareOut hr1 hw (v_Clr_shareOut o9)) hk_2 hc_2 rfl kw_951 kw_31 kw_948 kw_950 kw_14 nd_X2_shareOut rfl rfl (Nat.le_of_ble_eq_true rfl) dX2_reckon_38 hs_1ne ⟨⟨Nat.le_of_ble_eq_true rfl, Nat.le_of_ble_eq_true rfl⟩, Nat.le_of_ble_eq_true rfl, Nat.le_of_ble_eq_true rfl⟩ (fun _ S10 h => ?_) (fun _ _ h => h.elim)
  obtain ⟨hw, r11, rfl, g12⟩ := h
  replace hv := hv r11 S10 g12
  refine wa_istore X (lv' := [(5, .inl r11), (4, .inl (S.1 8 r1 7)), (3, .inl (S.1 8 r1 6)), (2, .inl (S.1 8 r1 5)), (0, .inr (.inr (2, 1))), (1, .inr (.inr (8, r1)))]) dX2_reckon_41 (by decide) rfl ?_
  refine wa_iload X 0 rfl dX2_reckon_43 ?_
  refine wa_if_ne X (tgt := 73) dX2_reckon_45 (by decide) (fun c13 => ?_) (fun c13 => ?_)
  · replace hv := hv.1 c13
    refine wa_iconst X dX2_reckon_73 kc1 ?_
    refine wa_goto X (tgt := 78) dX2_reckon_74 (by decide) ?_
    exact wa_ireturn X E dX2_reckon_78 (Nat.le_of_ble_eq_true rfl) (Nat.le_of_ble_eq_true rfl) (Or.inr ⟨rfl, Or.inr rfl⟩) ⟨hw, _, rfl, hv⟩
  · replace hv := hv.2 c13
    refine wa_iload_n X 3 rfl dX2_reckon_48 rfl ?_
    refine wa_aload_n X 5 rfl dX2_reckon_49 rfl ?_
    refine wa_getI X (j := 5) hk_8 hc_8 i_8 (by decide) kw_191 rfl dX2_reckon_50 hr1 ?_
    refine wa_icmp_ne X (tgt := 73) dX2_reckon_53 (by decide) (fun c14 => ?_) (fun c14 => ?_)
    · replace hv := hv.1 c14
      refine wa_iconst X dX2_reckon_73 kc1 ?_
      refine wa_goto X (tgt := 78) dX2_reckon_74 (by decide) ?_
      exact wa_ireturn X E dX2_reckon_78 (Nat.le_of_ble_eq_true rfl) (Nat.le_of_ble_eq_true rfl) (Or.inr ⟨rfl, Or.inr rfl⟩) ⟨hw, _, rfl, hv⟩
    · replace hv := hv.2 c14
      refine wa_iload_n X 2 rfl dX2_reckon_56 rfl ?_
      refine wa_aload_n X 5 rfl dX2_reckon_57 rfl ?_
      refine wa_getI X (j := 6) hk_8 hc_8 i_8 (by decide) kw_195 rfl dX2_reckon_58 hr1 ?_
      refine wa_icmp_ne X (tgt := 73) dX2_reckon_61 (by decide) (fun c15 => ?_) (fun c15 => ?_)
      · replace hv := hv.1 c15
        refine wa_iconst X dX2_reckon_73 kc1 ?_
        refine wa_goto X (tgt := 78) dX2_reckon_74 (by decide) ?_
        exact wa_ireturn X E dX2_reckon_78 (Nat.le_of_ble_eq_true rfl) (Nat.le_of_ble_eq_true rfl) (Or.inr ⟨rfl, Or.inr rfl⟩) ⟨hw, _, rfl, hv⟩
      · replace hv := hv.2 c15
        refine wa_iload X 1 rfl dX2_reckon_64 ?_
        refine wa_aload_n X 5 rfl dX2_reckon_66 rfl ?_
        refine wa_getI X (j := 7) hk_8 hc_8 i_8 (by decide) kw_198 rfl dX2_reckon_67 hr1 ?_
        refine wa_icmp_eq X (tgt := 77) dX2_reckon_70 (by decide) (fun c16 => ?_) (fun c16 => ?_)
        · replace hv := hv.1 c16
          refine wa_iconst X dX2_reckon_77 kc0 ?_
          exact wa_ireturn X E dX2_reckon_78 (Nat.le_of_ble_eq_true rfl) (Nat.le_of_ble_eq_true rfl) (Or.inr ⟨rfl, Or.inl rfl⟩) ⟨hw, _, rfl, hv⟩
        · replace hv := hv.2 c16
          refine wa_iconst X dX2_reckon_73 kc1 ?_
          refine wa_goto X (tgt := 78) dX2_reckon_74 (by decide) ?_
          exact wa_ireturn X E dX2_reckon_78 (Nat.le_of_ble_eq_true rfl) (Nat.le_of_ble_eq_true rfl) (Or.inr ⟨rfl, Or.inr rfl⟩) ⟨hw, _, rfl, hv⟩
theorem v_Clr_reckon {r1 : Nat} {S : hs_S} (hP : P_Clr_reckon r1 S) : vc_Clr_reckon r1 S (fun x T => R_Clr_reckon r1 S x T) := by
  unfold vc_Clr_reckon
  refine ⟨hP.1, fun S2 h2 => ?_⟩
  have k2 := P_reckon_kf h2.1.kf hP
  refine ⟨⟨FI_goTo (by omega) h2 hP.1 hP.2.1, k2.2.2.1⟩, fun S6 h6 => ?_⟩
  have k6 := P_reckon_kf h6.1.kf k2
  refine ⟨?_, fun y T hT => ?_⟩
  · obtain ⟨_, ⟨n, hn, en, hb⟩, _⟩ := k6.1
    exact ⟨n, hn, en, fun k hk => ⟨k6.2.2.2 k (by omega), (hb k hk).2.1⟩⟩
  · have mk : ∀ x : Int32, (x = 0 ∨ x = 1) → (x = 0 ↔ y = 0 ∧ S.1 8 r1 5 = T.1 8 r1 5 ∧ S.1 8 r1 6 = T.1 8 r1 6 ∧ S.1 8 r1 7 = T.1 8 r1 7) → R_Clr_reckon r1 S x T := fun x a b => ⟨S2, S6, y, h2, h6, hT, a, b⟩
    refine ⟨fun q => mk 1 (Or.inr rfl) ⟨fun z => absurd z (by decide), fun z => absurd z.1 q⟩, fun q => ⟨fun q2 => mk 1 (Or.inr rfl) ⟨fun z => absurd z (by decide), fun z => absurd z.2.1 q2⟩, fun q2 => ⟨fun q3 => mk 1 (Or.inr rfl) ⟨fun z => absurd z (by decide), fun z => absurd z.2.2.1 q3⟩, fun q3 => ⟨fun q4 => mk 0 (Or.inl rfl) ⟨fun _ => ⟨q, q2, q3, q4⟩, fun _ => rfl⟩, fun q4 => mk 1 (Or.inr rfl) ⟨fun z => absurd z (by decide), fun z => absurd z.2.2.2 q4⟩⟩⟩⟩⟩

def cntQ (q : Nat → Int32) : Nat → Int32
  | 0 => 0
  | k + 1 => if q k = 0 then cntQ q k else cntQ q k + 1
theorem cntQ_eq {q q' : Nat → Int32} : ∀ k, (∀ i, i < k → q i = q' i) → cntQ q k = cntQ q' k := by
  intro k
  induction k with
  | zero => exact fun _ => rfl
  | succ k ih => intro h; unfold cntQ; rw [h k (by omega), ih fun i hi => h i (by omega)]
def P_Clr_reckonAll (S : hs_S) : Prop := hs_sz S 14 ≤ 30 ∧ ∀ i, i < hs_sz S 14 → rd S i ≠ 0 ∧ P_Clr_reckon (rd S i) S
def R_Clr_reckonAll (S : hs_S) (x : Int32) (T : hs_S) : Prop := ∃ (U : Nat → hs_S) (q : Nat → Int32), U 0 = S ∧ (∀ i, i < hs_sz S 14 → R_Clr_reckon (rd S i) (U i) (q i) (U (i + 1))) ∧ T = U (hs_sz S 14) ∧ x = cntQ q (hs_sz S 14)
def m_Clr_reckonAll (S : hs_S) (Q : Int32 → hs_S → Prop) : Prop := hs_M 54 yX2_reckonAll (.code yX2_reckonAll cX2_reckonAll 3 (some FieldType.int)) [.inr (.inr (2, 1))] S 0 0 (hs_qI Q) hs_nX
def vc_Clr_reckonAll (S : hs_S) (Q : Int32 → hs_S → Prop) : Prop := (∃ I3 : Nat → Int32 → Int32 → hs_S → Prop, (∃ n8, I3 n8 (0 : Int32) (0 : Int32) S) ∧ (∀ N4 : Nat, ∀ x1 : Int32, ∀ x2 : Int32, ∀ S5 : hs_S, I3 N4 x1 x2 S5 → (((nI (hs_sz S5 14)) ≤ x2 → (Q x1 S5)) ∧ (¬ (nI (hs_sz S5 14)) ≤ x2 → ((0 ≤ x2.toInt ∧ x2.toInt < (hs_sz S5 14)) ∧ (((S5.2.1 14 1 x2.toNatClampNeg) ≠ 0) ∧ ((P_Clr_reckon (S5.2.1 14 1 x2.toNatClampNeg) S5) ∧ (∀ r17 : Int32, ∀ S16 : hs_S, R_Clr_reckon (S5.2.1 14 1 x2.toNatClampNeg) S5 r17 S16 → ((r17 = 0 → (∃ q20, q20 < N4 ∧ I3 q20 x1 (x2 + 1) S16)) ∧ (¬ r17 = 0 → (∃ q22, q22 < N4 ∧ I3 q22 (x1 + 1) (x2 + 1) S16)))))))))))
set_option maxRecDepth 100000 in
set_option maxHeartbeats 4000000 in
theorem ok_Clr_reckonAll {S : hs_S} {Q : Int32 → hs_S → Prop} (hw : hs_Wi S) (hv : vc_Clr_reckonAll S Q) : m_Clr_reckonAll S Q := by
  unfold vc_Clr_reckonAll at hv
  refine hs_body (own := RX2) rfl rfl (Nat.le_of_ble_eq_true rfl) (fun Z X E N J0 => ?_)
  show wa Z 0 0 S 0 [(0, .inr (.inr (2, 1)))] []
  refine wa_iconst X dX2_reckonAll_0 kc0 ?_
  refine wa_istore_n X (lv' := [(1, .inl (0 : Int32)), (0, .inr (.inr (2, 1)))]) dX2_reckonAll_1 rfl (by decide) rfl ?_
  refine wa_iconst X dX2_reckonAll_2 kc0 ?_
  refine wa_istore_n X (lv' := [(2, .inl (0 : Int32)), (1, .inl (0 : Int32)), (0, .inr (.inr (2, 1)))]) dX2_reckonAll_3 rfl (by decide) rfl ?_
  obtain ⟨I3, ⟨n8, i6⟩, b7⟩ := hv
  refine wa_lv (lv' := [(0, .inr (.inr (2, 1))), (1, .inl (0 : Int32)), (2, .inl (0 : Int32))]) [2, 1, 0] rfl ?_
  suffices L9 : ∀ N4 : Nat, ∀ x1 : Int32, ∀ x2 : Int32, ∀ S5 : hs_S, hs_Wi S5 → I3 N4 x1 x2 S5 → wa Z 0 0 S5 4 [(0, .inr (.inr (2, 1))), (1, .inl x1), (2, .inl x2)] [] from L9 _ _ _ _ hw i6
  clear hw
  clear i6
  intro N4
  induction N4 using Nat.strongRecOn with
  | _ N4 h10 =>
    intro x1 x2 S5 hw j11
    have hv := b7 N4 x1 x2 S5 j11
    refine wa_iload_n X 2 rfl dX2_reckonAll_4 rfl ?_
    refine wa_aload_n X 0 rfl dX2_reckonAll_5 rfl ?_
    refine wa_getfw X hw (j := 0) (r := 1) hk_2 hc_2 i_2 (by decide) kw_292 rfl rfl (by decide) rfl dX2_reckonAll_6 hs_1ne ?_
    refine wa_getfw X hw (j := 2) (r := 1) hk_1 hc_1 i_1 (by decide) kw_231 rfl rfl (by decide) rfl dX2_reckonAll_9 hs_1ne ?_
    refine wa_lsize X hk_14 kw_957 dX2_reckonAll_12 hs_1ne ⟨⟨Nat.le_of_ble_eq_true rfl, Nat.le_of_ble_eq_true rfl⟩, Nat.le_of_ble_eq_true rfl, Nat.le_of_ble_eq_true rfl⟩ (Nat.le_of_ble_eq_true rfl) ?_
    refine wa_icmp_ge X (tgt := 52) dX2_reckonAll_17 (by decide) (fun c12 => ?_) (fun c12 => ?_)
    · replace hv := hv.1 c12
      refine wa_iload_n X 1 rfl dX2_reckonAll_52 rfl ?_
      exact wa_ireturn X E dX2_reckonAll_53 (Nat.le_of_ble_eq_true rfl) (Nat.le_of_ble_eq_true rfl) (Or.inl rfl) ⟨hw, _, rfl, hv⟩
    · replace hv := hv.2 c12
      refine wa_aload_n X 0 rfl dX2_reckonAll_20 rfl ?_
      refine wa_aload_n X 0 rfl dX2_reckonAll_21 rfl ?_
      refine wa_getfw X hw (j := 0) (r := 1) hk_2 hc_2 i_2 (by decide) kw_292 rfl rfl (by decide) rfl dX2_reckonAll_22 hs_1ne ?_
      refine wa_getfw X hw (j := 2) (r := 1) hk_1 hc_1 i_1 (by decide) kw_231 rfl rfl (by decide) rfl dX2_reckonAll_25 hs_1ne ?_
      refine wa_iload_n X 2 rfl dX2_reckonAll_28 rfl ?_
      obtain ⟨o13, hv⟩ := hv
      refine wa_lget X hk_14 kw_959 dX2_reckonAll_29 hs_1ne ⟨⟨Nat.le_of_ble_eq_true rfl, Nat.le_of_ble_eq_true rfl⟩, Nat.le_of_ble_eq_true rfl, Nat.le_of_ble_eq_true rfl⟩ (Nat.le_of_ble_eq_true rfl) o13 ?_
      obtain ⟨o14, hv⟩ := hv
      refine wa_cast X hk_8 hc_8 kw_1047 dX2_reckonAll_34 o14 ?_
      obtain ⟨o15, hv⟩ := hv
      refine wa_callV X (As := [.inr (.inr (8, (S5.2.1 14 1 x2.toNatClampNeg)))]) (ok_Clr_reckon o14 hw (v_Clr_reckon o15)) hk_2 hc_2 rfl kw_934 kw_31 kw_1048 kw_932 kw_933 nd_X2_reckon rfl rfl (Nat.le_of_ble_eq_true rfl) dX2_reckonAll_37 hs_1ne ⟨⟨Nat.le_of_ble_eq_true rfl, Nat.le_of_ble_eq_true rfl⟩, Nat.le_of_ble_eq_true rfl, Nat.le_of_ble_eq_true rfl⟩ (fun _ S16 h => ?_) (fun _ _ h => h.elim)
      obtain ⟨hw, r17, rfl, g18⟩ := h
      replace hv := hv r17 S16 g18
      refine wa_if_eq X (tgt := 46) dX2_reckonAll_40 (by decide) (fun c19 => ?_) (fun c19 => ?_)
      · replace hv := hv.1 c19
        refine wa_iinc X (v := (x2 + 1)) (lv' := [(2, .inl (x2 + 1)), (0, .inr (.inr (2, 1))), (1, .inl x1)]) 2 rfl dX2_reckonAll_46 rfl (by decide) rfl ?_
        refine wa_goto X (tgt := 4) dX2_reckonAll_49 (by decide) ?_
        obtain ⟨q20, p21, hv⟩ := hv
        refine wa_lv (lv' := [(0, .inr (.inr (2, 1))), (1, .inl x1), (2, .inl (x2 + 1))]) [1, 2, 0] rfl ?_
        exact h10 q20 p21 _ _ _ hw hv
      · replace hv := hv.2 c19
        refine wa_iinc X (v := (x1 + 1)) (lv' := [(1, .inl (x1 + 1)), (0, .inr (.inr (2, 1))), (2, .inl x2)]) 1 rfl dX2_reckonAll_43 rfl (by decide) rfl ?_
        refine wa_iinc X (v := (x2 + 1)) (lv' := [(2, .inl (x2 + 1)), (1, .inl (x1 + 1)), (0, .inr (.inr (2, 1)))]) 2 rfl dX2_reckonAll_46 rfl (by decide) rfl ?_
        refine wa_goto X (tgt := 4) dX2_reckonAll_49 (by decide) ?_
        obtain ⟨q22, p23, hv⟩ := hv
        refine wa_lv (lv' := [(0, .inr (.inr (2, 1))), (1, .inl (x1 + 1)), (2, .inl (x2 + 1))]) [2, 1, 0] rfl ?_
        exact h10 q22 p23 _ _ _ hw hv
theorem v_Clr_reckonAll {S : hs_S} (hP : P_Clr_reckonAll S) : vc_Clr_reckonAll S (fun x T => R_Clr_reckonAll S x T) := by
  obtain ⟨hg, hP⟩ := hP
  unfold vc_Clr_reckonAll R_Clr_reckonAll
  generalize eg : hs_sz S 14 = g at *
  refine ⟨fun N x y W => ∃ (k : Nat) (U : Nat → hs_S) (q : Nat → Int32), k ≤ g ∧ y = nI k ∧ N = g - k ∧ U 0 = S ∧ (∀ i, i < k → R_Clr_reckon (rd S i) (U i) (q i) (U (i + 1))) ∧ W = U k ∧ KF S W ∧ x = cntQ q k, ⟨g, 0, fun _ => S, fun _ => 0, by omega, rfl, rfl, rfl, fun i hi => absurd hi (by omega), rfl, KF.rf, rfl⟩, ?_⟩
  rintro N x y W ⟨k, U, q, hk, rfl, rfl, h0, hU, hW, hK, rfl⟩
  have ez : hs_sz W 14 = g := (hK.2.1 14 2 0 (by decide) (by omega)).trans eg
  rw [ez]
  refine ⟨fun h => ?_, fun h => ?_⟩
  · have := hl_end (by omega) hk h
    subst this
    exact ⟨U, q, h0, hU, hW, rfl⟩
  · have hk1 := hl_go (by omega) hk h
    rw [hl_cl (by omega)]
    have erd : W.2.1 14 1 k = rd S k := hK.2.1 14 1 k (by decide) (by omega)
    rw [erd]
    refine ⟨hl_ix (by omega) (by omega), (hP k hk1).1, P_reckon_kf hK (hP k hk1).2, fun r T hT => ?_⟩
    have mk : ∀ z : Int32, z = cntQ (fun i => if i = k then r else q i) (k + 1) → ∃ n, n < g - k ∧ ∃ (k' : Nat) (U' : Nat → hs_S) (q' : Nat → Int32), k' ≤ g ∧ nI k + 1 = nI k' ∧ n = g - k' ∧ U' 0 = S ∧ (∀ i, i < k' → R_Clr_reckon (rd S i) (U' i) (q' i) (U' (i + 1))) ∧ T = U' k' ∧ KF S T ∧ z = cntQ q' k' := fun z hz => by
      refine ⟨g - (k + 1), by omega, k + 1, fun i => if i ≤ k then U i else T, fun i => if i = k then r else q i, hk1, nI_1 k, rfl, ?_, fun i hi => ?_, ?_, hK.tr (reckon_kf hT), hz⟩
      · show (if 0 ≤ k then U 0 else T) = S
        rw [if_pos (Nat.zero_le _)]; exact h0
      · show R_Clr_reckon (rd S i) (if i ≤ k then U i else T) (if i = k then r else q i) (if i + 1 ≤ k then U (i + 1) else T)
        by_cases w : i = k
        · rw [if_pos w, if_pos (by omega), if_neg (by omega), w, ← hW]; exact hT
        · rw [if_neg w, if_pos (by omega), if_pos (by omega)]; exact hU i (by omega)
      · show T = if k + 1 ≤ k then U (k + 1) else T
        rw [if_neg (by omega)]
    have ec : cntQ (fun i => if i = k then r else q i) k = cntQ q k := cntQ_eq k fun i hi => if_neg (by omega)
    refine ⟨fun h1 => mk _ ?_, fun h1 => mk _ ?_⟩
    · show _ = if (if k = k then r else q k) = 0 then _ else _
      rw [if_pos rfl, if_pos h1, ec]
    · show _ = if (if k = k then r else q k) = 0 then _ else _
      rw [if_pos rfl, if_neg h1, ec]

def cRB (S : hs_S) (i0 : Nat) (o is : Int32) (p : Nat) : Int32 := if is = 0 then S.1 21 i0 p &&& (((1 : Int32) <<< (o &&& 31)) ^^^ (-1)) else S.1 21 i0 p ||| ((1 : Int32) <<< (o &&& 31))
def cLC (S : hs_S) (i0 : Nat) (w : Int32) (f : Nat) : Nat → Int32
  | 0 => 0
  | j + 1 => if S.1 20 i0 (f + j) = w then cLC S i0 w f j + 1 else cLC S i0 w f j
def P_Rts_letRead (i0 : Nat) (a1 a2 a3 a4 a5 : Int32) (S : hs_S) : Prop := ∃ f l : Nat, f ≤ l ∧ l < 24 ∧ a3 = nI f ∧ a4 = nI l
def R_Rts_letRead (i0 : Nat) (a1 a2 a3 a4 a5 : Int32) (S : hs_S) (r : Int32) (T : hs_S) : Prop := T.2 = S.2 ∧ (∀ t i p, ¬ (t = 21 ∧ i = i0) → T.1 t i p = S.1 t i p) ∧ ∀ f l : Nat, f ≤ l → l < 24 → a3 = nI f → a4 = nI l → r = cLC S i0 a1 f (l + 1 - f) ∧ ∀ p, T.1 21 i0 p = if f ≤ p ∧ p ≤ l ∧ S.1 20 i0 p = a1 then cRB S i0 a2 a5 p else S.1 21 i0 p
theorem w21 {S : hs_S} {i0 n k : Nat} {x : Int32} : (hs_wI S 21 i0 n x).1 21 i0 k = if k = n then x else S.1 21 i0 k := by
  show (if 21 = 21 ∧ i0 = i0 ∧ k = n then x else S.1 21 i0 k) = _
  by_cases w : k = n
  · rw [if_pos ⟨rfl, rfl, w⟩, if_pos w]
  · rw [if_neg fun z => w z.2.2, if_neg w]
def m_Rts_letRead (i0 : Nat) (a1 : Int32) (a2 : Int32) (a3 : Int32) (a4 : Int32) (a5 : Int32) (S : hs_S) (Q : Int32 → hs_S → Prop) : Prop := hs_M 1 yX7_letRead (.code yX7_letRead cX7_letRead 8 (some FieldType.int)) [.inr (.inr (7, i0)), .inl a1, .inl a2, .inl a3, .inl a4, .inl a5] S 0 0 (hs_qI Q) hs_nX
def vc_Rts_letRead (i0 : Nat) (a1 : Int32) (a2 : Int32) (a3 : Int32) (a4 : Int32) (a5 : Int32) (S : hs_S) (Q : Int32 → hs_S → Prop) : Prop := (∃ I3 : Nat → Int32 → Int32 → hs_S → Prop, (∃ n8, I3 n8 (0 : Int32) a3 S) ∧ (∀ N4 : Nat, ∀ x1 : Int32, ∀ x2 : Int32, ∀ S5 : hs_S, I3 N4 x1 x2 S5 → ((a4 < x2 → (Q x1 S5)) ∧ (¬ a4 < x2 → (((24 : Int32) ≤ x2 → (Q x1 S5)) ∧ (¬ (24 : Int32) ≤ x2 → ((0 ≤ x2.toInt ∧ x2.toInt < 24) ∧ ((¬ (S5.1 20 i0 x2.toNatClampNeg) = a1 → (∃ q16, q16 < N4 ∧ I3 q16 x1 (x2 + 1) S5)) ∧ ((S5.1 20 i0 x2.toNatClampNeg) = a1 → ((a5 = 0 → (∀ S19 : hs_S, S19 = (hs_wI S5 21 i0 x2.toNatClampNeg ((S5.1 21 i0 x2.toNatClampNeg) &&& (((1 : Int32) <<< (a2 &&& 31)) ^^^ (-1 : Int32)))) → (∃ q20, q20 < N4 ∧ I3 q20 (x1 + 1) (x2 + 1) S19))) ∧ (¬ a5 = 0 → (∀ S22 : hs_S, S22 = (hs_wI S5 21 i0 x2.toNatClampNeg ((S5.1 21 i0 x2.toNatClampNeg) ||| ((1 : Int32) <<< (a2 &&& 31)))) → (∃ q23, q23 < N4 ∧ I3 q23 (x1 + 1) (x2 + 1) S22)))))))))))))
set_option maxRecDepth 100000 in
set_option maxHeartbeats 4000000 in
theorem ok_Rts_letRead {i0 : Nat} {a1 : Int32} {a2 : Int32} {a3 : Int32} {a4 : Int32} {a5 : Int32} {S : hs_S} {Q : Int32 → hs_S → Prop} (hi0 : i0 ≠ 0) (hw : hs_Wi S) (hv : vc_Rts_letRead i0 a1 a2 a3 a4 a5 S Q) : m_Rts_letRead i0 a1 a2 a3 a4 a5 S Q := by
  unfold vc_Rts_letRead at hv
  refine hs_body (own := RX7) rfl rfl (Nat.le_of_ble_eq_true rfl) (fun Z X E N J0 => ?_)
  show wa Z 0 0 S 0 [(0, .inr (.inr (7, i0))), (1, .inl a1), (2, .inl a2), (3, .inl a3), (4, .inl a4), (5, .inl a5)] []
  refine wa_iconst X dX7_letRead_0 kc0 ?_
  refine wa_istore X (lv' := [(6, .inl (0 : Int32)), (0, .inr (.inr (7, i0))), (1, .inl a1), (2, .inl a2), (3, .inl a3), (4, .inl a4), (5, .inl a5)]) dX7_letRead_1 (by decide) rfl ?_
  refine wa_iload_n X 4 rfl dX7_letRead_3 rfl ?_
  refine wa_istore X (lv' := [(7, .inl a3), (6, .inl (0 : Int32)), (0, .inr (.inr (7, i0))), (1, .inl a1), (2, .inl a2), (3, .inl a3), (4, .inl a4), (5, .inl a5)]) dX7_letRead_4 (by decide) rfl ?_
  obtain ⟨I3, ⟨n8, i6⟩, b7⟩ := hv
  refine wa_lv (lv' := [(0, .inr (.inr (7, i0))), (1, .inl a1), (2, .inl a2), (4, .inl a4), (5, .inl a5), (6, .inl (0 : Int32)), (7, .inl a3)]) [2, 3, 4, 6, 7, 1, 0] rfl ?_
  suffices L9 : ∀ N4 : Nat, ∀ x1 : Int32, ∀ x2 : Int32, ∀ S5 : hs_S, hs_Wi S5 → I3 N4 x1 x2 S5 → wa Z 0 0 S5 6 [(0, .inr (.inr (7, i0))), (1, .inl a1), (2, .inl a2), (4, .inl a4), (5, .inl a5), (6, .inl x1), (7, .inl x2)] [] from L9 _ _ _ _ hw i6
  clear hw
  clear i6
  intro N4
  induction N4 using Nat.strongRecOn with
  | _ N4 h10 =>
    intro x1 x2 S5 hw j11
    have hv := b7 N4 x1 x2 S5 j11
    refine wa_iload X 6 rfl dX7_letRead_6 ?_
    refine wa_iload X 3 rfl dX7_letRead_8 ?_
    refine wa_icmp_gt X (tgt := 79) dX7_letRead_10 (by decide) (fun c12 => ?_) (fun c12 => ?_)
    · replace hv := hv.1 c12
      refine wa_iload X 5 rfl dX7_letRead_79 ?_
      exact wa_ireturn X E dX7_letRead_81 (Nat.le_of_ble_eq_true rfl) (Nat.le_of_ble_eq_true rfl) (Or.inl rfl) ⟨hw, _, rfl, hv⟩
    · replace hv := hv.2 c12
      refine wa_iload X 6 rfl dX7_letRead_13 ?_
      refine wa_bipush X dX7_letRead_15 kb24 ?_
      refine wa_icmp_ge X (tgt := 79) dX7_letRead_17 (by decide) (fun c13 => ?_) (fun c13 => ?_)
      · replace hv := hv.1 c13
        refine wa_iload X 5 rfl dX7_letRead_79 ?_
        exact wa_ireturn X E dX7_letRead_81 (Nat.le_of_ble_eq_true rfl) (Nat.le_of_ble_eq_true rfl) (Or.inl rfl) ⟨hw, _, rfl, hv⟩
      · replace hv := hv.2 c13
        refine wa_aload_n X 0 rfl dX7_letRead_20 rfl ?_
        refine wa_getfw X hw (j := 0) (r := i0) hk_7 hc_7 i_7 (by decide) kw_67 rfl rfl (by decide) rfl dX7_letRead_21 hi0 ?_
        refine wa_iload X 6 rfl dX7_letRead_24 ?_
        obtain ⟨o14, hv⟩ := hv
        refine wa_iald X hk_20 dX7_letRead_26 hi0 o14 ?_
        refine wa_iload_n X 1 rfl dX7_letRead_27 rfl ?_
        refine wa_icmp_ne X (tgt := 73) dX7_letRead_28 (by decide) (fun c15 => ?_) (fun c15 => ?_)
        · replace hv := hv.1 c15
          refine wa_iinc X (v := (x2 + 1)) (lv' := [(7, .inl (x2 + 1)), (0, .inr (.inr (7, i0))), (1, .inl a1), (2, .inl a2), (4, .inl a4), (5, .inl a5), (6, .inl x1)]) 6 rfl dX7_letRead_73 rfl (by decide) rfl ?_
          refine wa_goto X (tgt := 6) dX7_letRead_76 (by decide) ?_
          obtain ⟨q16, p17, hv⟩ := hv
          refine wa_lv (lv' := [(0, .inr (.inr (7, i0))), (1, .inl a1), (2, .inl a2), (4, .inl a4), (5, .inl a5), (6, .inl x1), (7, .inl (x2 + 1))]) [1, 2, 3, 4, 5, 6, 0] rfl ?_
          exact h10 q16 p17 _ _ _ hw hv
        · replace hv := hv.2 c15
          refine wa_aload_n X 0 rfl dX7_letRead_31 rfl ?_
          refine wa_getfw X hw (j := 1) (r := i0) hk_7 hc_7 i_7 (by decide) kw_71 rfl rfl (by decide) rfl dX7_letRead_32 hi0 ?_
          refine wa_iload X 6 rfl dX7_letRead_35 ?_
          refine wa_iload X 4 rfl dX7_letRead_37 ?_
          refine wa_if_eq X (tgt := 56) dX7_letRead_39 (by decide) (fun c18 => ?_) (fun c18 => ?_)
          · replace hv := hv.1 c18
            refine wa_aload_n X 0 rfl dX7_letRead_56 rfl ?_
            refine wa_getfw X hw (j := 1) (r := i0) hk_7 hc_7 i_7 (by decide) kw_71 rfl rfl (by decide) rfl dX7_letRead_57 hi0 ?_
            refine wa_iload X 6 rfl dX7_letRead_60 ?_
            refine wa_iald X hk_21 dX7_letRead_62 hi0 o14 ?_
            refine wa_iconst X dX7_letRead_63 kc1 ?_
            refine wa_iload_n X 2 rfl dX7_letRead_64 rfl ?_
            refine wa_ishl X dX7_letRead_65 ?_
            refine wa_iconst X dX7_letRead_66 kcm1 ?_
            refine wa_ixor X dX7_letRead_67 ?_
            refine wa_iand X dX7_letRead_68 ?_
            refine wa_iast X hk_21 dX7_letRead_69 hi0 o14 (hs_eqS fun S19 hS19 => ?_)
            replace hv := hv S19 hS19
            replace hw : hs_Wi S19 := hS19 ▸ hs_Wi_I hw
            refine wa_iinc X (v := (x1 + 1)) (lv' := [(6, .inl (x1 + 1)), (0, .inr (.inr (7, i0))), (1, .inl a1), (2, .inl a2), (4, .inl a4), (5, .inl a5), (7, .inl x2)]) 5 rfl dX7_letRead_70 rfl (by decide) rfl ?_
            refine wa_iinc X (v := (x2 + 1)) (lv' := [(7, .inl (x2 + 1)), (6, .inl (x1 + 1)), (0, .inr (.inr (7, i0))), (1, .inl a1), (2, .inl a2), (4, .inl a4), (5, .inl a5)]) 6 rfl dX7_letRead_73 rfl (by decide) rfl ?_
            refine wa_goto X (tgt := 6) dX7_letRead_76 (by decide) ?_
            obtain ⟨q20, p21, hv⟩ := hv
            refine wa_lv (lv' := [(0, .inr (.inr (7, i0))), (1, .inl a1), (2, .inl a2), (4, .inl a4), (5, .inl a5), (6, .inl (x1 + 1)), (7, .inl (x2 + 1))]) [2, 3, 4, 5, 6, 1, 0] rfl ?_
            exact h10 q20 p21 _ _ _ hw hv
          · replace hv := hv.2 c18
            refine wa_aload_n X 0 rfl dX7_letRead_42 rfl ?_
            refine wa_getfw X hw (j := 1) (r := i0) hk_7 hc_7 i_7 (by decide) kw_71 rfl rfl (by decide) rfl dX7_letRead_43 hi0 ?_
            refine wa_iload X 6 rfl dX7_letRead_46 ?_
            refine wa_iald X hk_21 dX7_letRead_48 hi0 o14 ?_
            refine wa_iconst X dX7_letRead_49 kc1 ?_
            refine wa_iload_n X 2 rfl dX7_letRead_50 rfl ?_
            refine wa_ishl X dX7_letRead_51 ?_
            refine wa_ior X dX7_letRead_52 ?_
            refine wa_goto X (tgt := 69) dX7_letRead_53 (by decide) ?_
            refine wa_iast X hk_21 dX7_letRead_69 hi0 o14 (hs_eqS fun S22 hS22 => ?_)
            replace hv := hv S22 hS22
            replace hw : hs_Wi S22 := hS22 ▸ hs_Wi_I hw
            refine wa_iinc X (v := (x1 + 1)) (lv' := [(6, .inl (x1 + 1)), (0, .inr (.inr (7, i0))), (1, .inl a1), (2, .inl a2), (4, .inl a4), (5, .inl a5), (7, .inl x2)]) 5 rfl dX7_letRead_70 rfl (by decide) rfl ?_
            refine wa_iinc X (v := (x2 + 1)) (lv' := [(7, .inl (x2 + 1)), (6, .inl (x1 + 1)), (0, .inr (.inr (7, i0))), (1, .inl a1), (2, .inl a2), (4, .inl a4), (5, .inl a5)]) 6 rfl dX7_letRead_73 rfl (by decide) rfl ?_
            refine wa_goto X (tgt := 6) dX7_letRead_76 (by decide) ?_
            obtain ⟨q23, p24, hv⟩ := hv
            refine wa_lv (lv' := [(0, .inr (.inr (7, i0))), (1, .inl a1), (2, .inl a2), (4, .inl a4), (5, .inl a5), (6, .inl (x1 + 1)), (7, .inl (x2 + 1))]) [2, 3, 4, 5, 6, 1, 0] rfl ?_
            exact h10 q23 p24 _ _ _ hw hv
theorem v_Rts_letRead {i0 : Nat} {a1 a2 a3 a4 a5 : Int32} {S : hs_S} (hP : P_Rts_letRead i0 a1 a2 a3 a4 a5 S) : vc_Rts_letRead i0 a1 a2 a3 a4 a5 S (fun r T => R_Rts_letRead i0 a1 a2 a3 a4 a5 S r T) := by
  obtain ⟨f, l, hfl, hl, rfl, rfl⟩ := hP
  unfold vc_Rts_letRead
  refine ⟨fun N x y U => ∃ j, f + j ≤ l + 1 ∧ y = nI (f + j) ∧ N = l + 1 - (f + j) ∧ x = cLC S i0 a1 f j ∧ U.2 = S.2 ∧ (∀ t i p, ¬ (t = 21 ∧ i = i0) → U.1 t i p = S.1 t i p) ∧ ∀ p, U.1 21 i0 p = if f ≤ p ∧ p < f + j ∧ S.1 20 i0 p = a1 then cRB S i0 a2 a5 p else S.1 21 i0 p, ⟨l + 1 - f, 0, by omega, rfl, by omega, rfl, rfl, fun _ _ _ _ => rfl, fun p => (if_neg (by omega)).symm⟩, ?_⟩
  rintro N x y U ⟨j, hj, rfl, rfl, rfl, hU2, hU, hp⟩
  refine ⟨fun h => ?_, fun h => ?_⟩
  · have hlt := (hl_lt (a := l) (b := f + j) (by omega) (by omega)).mp h
    have ej : j = l + 1 - f := by omega
    refine ⟨hU2, hU, fun f' l' hf' hl' e1 e2 => ?_⟩
    have e1' : f' = f := (hl_inj (by omega) (by omega)).mp e1.symm
    have e2' : l' = l := (hl_inj (by omega) (by omega)).mp e2.symm
    subst e1' e2'
    refine ⟨by rw [← ej], fun p => ?_⟩
    rw [hp]
    by_cases q : f' ≤ p ∧ p ≤ l' ∧ S.1 20 i0 p = a1
    · rw [if_pos q, if_pos ⟨q.1, by omega, q.2.2⟩]
    · rw [if_neg q, if_neg fun z => q ⟨z.1, by omega, z.2.2⟩]
  · have hlt : f + j ≤ l := by
      have := mt (hl_lt (a := l) (b := f + j) (by omega) (by omega)).mpr h
      omega
    rw [hl_cl (by omega)]
    have e20 : U.1 20 i0 (f + j) = S.1 20 i0 (f + j) := hU 20 i0 (f + j) (by omega)
    have e21 : U.1 21 i0 (f + j) = S.1 21 i0 (f + j) := (hp (f + j)).trans (if_neg (by omega))
    rw [e20, e21]
    refine ⟨fun z => absurd ((hl_le (a := 24) (b := f + j) (by omega) (by omega)).mp z) (by omega), fun _ => ⟨hl_ix (by omega) (by omega), fun q => ⟨l + 1 - (f + (j + 1)), by omega, j + 1, by omega, nI_1 _, rfl, (if_neg q).symm, hU2, hU, fun p => ?_⟩, fun q => ?_⟩⟩
    · rw [hp]
      by_cases z : f ≤ p ∧ p < f + j ∧ S.1 20 i0 p = a1
      · rw [if_pos z, if_pos ⟨z.1, by omega, z.2.2⟩]
      · rw [if_neg z, if_neg fun y => z ⟨y.1, by
          have : p ≠ f + j := fun w => q (by rw [← w]; exact y.2.2)
          omega, y.2.2⟩]
    · have step : ∀ v : Int32, v = cRB S i0 a2 a5 (f + j) → ∀ T : hs_S, T = hs_wI U 21 i0 (f + j) v → ∃ n, n < l + 1 - (f + j) ∧ ∃ j', f + j' ≤ l + 1 ∧ nI (f + j) + 1 = nI (f + j') ∧ n = l + 1 - (f + j') ∧ cLC S i0 a1 f j + 1 = cLC S i0 a1 f j' ∧ T.2 = S.2 ∧ (∀ t i p, ¬ (t = 21 ∧ i = i0) → T.1 t i p = S.1 t i p) ∧ ∀ p, T.1 21 i0 p = if f ≤ p ∧ p < f + j' ∧ S.1 20 i0 p = a1 then cRB S i0 a2 a5 p else S.1 21 i0 p := by
        rintro v hv _ rfl
        refine ⟨l + 1 - (f + (j + 1)), by omega, j + 1, by omega, nI_1 _, rfl, (if_pos q).symm, hU2, fun t i p z => ?_, fun p => ?_⟩
        · rw [← hU t i p z]
          exact if_neg fun w => z ⟨w.1, w.2.1⟩
        · rw [w21]
          by_cases w : p = f + j
          · rw [if_pos w, w, if_pos ⟨by omega, by omega, q⟩, hv]
          · rw [if_neg w, hp]
            by_cases z : f ≤ p ∧ p < f + j ∧ S.1 20 i0 p = a1
            · rw [if_pos z, if_pos ⟨z.1, by omega, z.2.2⟩]
            · rw [if_neg z, if_neg fun y => z ⟨y.1, by omega, y.2.2⟩]
      refine ⟨fun h5 => step _ ?_, fun h5 => step _ ?_⟩
      · unfold cRB; rw [if_pos h5]
      · unfold cRB; rw [if_neg h5]

