/-! ===== the law's loop ===== -/
def KbP (k : Nat) (y3 y4 y5 y6 y7 : Int32) (S U : hs_S) : Prop := k < 90 ∧ LI (k + 1) S U ∧ y3 = nI (hs_sz S 12) ∧ y4 = nI (hs_sz S 13) ∧ y5 = nI (hs_sz S 14) ∧ y6 = 1 ∧ y7 = nI (k + 1)
def KeP (y4 y5 y6 : Int32) (S U : hs_S) : Prop := ∃ j : Nat, j ≤ 90 ∧ LI j S U ∧ y4 = nI (hs_sz S 13) ∧ y5 = nI (hs_sz S 14) ∧ y6 = 1
theorem LI_cl {k : Nat} {S U T T' : hs_S} (h : LI k S U) (h1 : hs_cl T = hs_cl S) (h2 : hs_cl T' = hs_cl U) : LI k T T' ∧ hs_sz T 12 = hs_sz S 12 ∧ hs_sz T 13 = hs_sz S 13 ∧ hs_sz T 14 = hs_sz S 14 := by
  have z12 : hs_sz T 12 = hs_sz S 12 := tw_sz h1 12 rfl
  have z13 : hs_sz T 13 = hs_sz S 13 := tw_sz h1 13 rfl
  have z14 : hs_sz T 14 = hs_sz S 14 := tw_sz h1 14 rfl
  have hh := h.2
  exact ⟨⟨⟨KS_cl h1 h.1.1, (tw_csum h1 6).trans h.1.2.1, h1.trans (h.1.2.2.trans h2.symm)⟩, by omega⟩, z12, z13, z14⟩
theorem both_all {n : Nat} {S U : hs_S} {Q : hs_S → hs_S → Prop} (h : JJ n S U) (hQ : ∀ T T', hs_cl T = hs_cl S → hs_cl T' = hs_cl U → Q T T') : hs_Wi S → m_L_all (nI (hs_sz S 13)) (nI (hs_sz S 14)) S (fun a T => (hs_Wi U → m_L_all (nI (hs_sz S 13)) (nI (hs_sz S 14)) U (fun b T' => (lg_cmp a b = 0 ∧ Q T T')))) := fun hw =>
  lq_L (la_all h.1 hw (Nat.le_refl _) (Nat.le_refl _)) fun a T _ hP => fun hu => lq_L (la_all h.u hu (Nat.le_of_eq (tw_sz h.2.2 13 rfl)) (Nat.le_of_eq (tw_sz h.2.2 14 rfl))) fun b T' _ hP' => by
    obtain ⟨ea, ca⟩ := hP
    obtain ⟨eb, cb⟩ := hP'
    exact ⟨(lg_cmp_eq _ _).mpr (by rw [ea, eb, fAll_tw h.2.2]), hQ T T' ca cb⟩
theorem one_ref {n : Nat} {S : hs_S} {Q : hs_S → Prop} (h : KS n S) (hQ : ∀ T, hs_cl T = hs_cl S → Q T) : hs_Wi S → m_L_refused (nI (hs_sz S 12)) (nI (hs_sz S 13)) (nI (hs_sz S 14)) S (fun r T => (¬ r = 0 ∧ Q T)) := fun hw =>
  lq_mono (la_refused h hw) fun r T _ hP => by
    obtain ⟨rfl, c⟩ := hP
    exact ⟨by decide, hQ T c⟩
theorem v_LB {k : Nat} {S U : hs_S} (hk : k ≤ 90) (h : LI k S U) (hw : hs_Wi S) (hu : hs_Wi U) : vc_LB (nI (hs_sz S 12)) (nI (hs_sz S 13)) (nI (hs_sz S 14)) 1 (nI k) S U (KbP k) KeP := by
  have hh := h.2
  unfold vc_LB
  have e2 : (2 : Int32) * nI k = nI (2 * k) := nI_mulI 2 k
  have e3 : (2 : Int32) * nI k + 1 = nI (2 * k + 1) := by rw [e2, nI_1]
  rw [e3, e2]
  refine ⟨fun _ => ⟨k, hk, h, rfl, rfl, rfl⟩, fun q90 => ⟨fun z => absurd z (by decide), fun _ => ⟨?_, fun r4 S3 h3 => ?_⟩⟩⟩
  · show 0 ≤ (nI (2 * k)).toInt
    rw [nI_toInt (by omega)]; omega
  have h3' : S3 = S := h3
  subst h3'
  refine ⟨?_, fun r8 S7 h7 => ?_⟩
  · show 0 ≤ (nI (2 * k + 1)).toInt
    rw [nI_toInt (by omega)]; omega
  have h7' : S7 = S3 := h7
  subst h7'
  have hk9 : k < 90 := by
    have : ¬ 90 ≤ k := fun z => q90 ((hl_le (a := 90) (by omega) (by omega)).mpr z)
    omega
  refine ⟨so_P (by decide), fun K18 hK18 => ?_⟩
  have hK : ∀ (y : Int32) T T', LI (k + 1) T T' → ¬ y = 0 → K18 (nI (hs_sz T 12)) (nI (hs_sz T 13)) (nI (hs_sz T 14)) y T T' := fun y T T' hL hy => by
    have kb : ∀ T2 T2', hs_cl T2 = hs_cl T → hs_cl T2' = hs_cl T' → KbP k (nI (hs_sz T 12)) (nI (hs_sz T 13)) (nI (hs_sz T 14)) 1 (nI k + 1) T2 T2' := fun T2 T2' c1 c2 => by
      obtain ⟨g1, g2, g3, g4⟩ := LI_cl hL c1 c2
      exact ⟨hk9, g1, by rw [g2], by rw [g3], by rw [g4], rfl, nI_1 k⟩
    refine hK18 _ _ _ _ _ _ ⟨hy, fun _ => ⟨fun _ => kb T T' rfl rfl, fun _ => one_ref hL.1.1 fun T2 c => kb T2 T' c rfl⟩, fun _ => both_all hL.1 fun T2 T2' c1 c2 => ⟨fun _ => kb T2 T2' c1 c2, fun _ => ?_⟩⟩
    obtain ⟨g1, g2, g3, g4⟩ := LI_cl hL c1 c2
    have := one_ref (Q := fun T3 => KbP k (nI (hs_sz T2 12)) (nI (hs_sz T2 13)) (nI (hs_sz T2 14)) 1 (nI k + 1) T3 T2') g1.1.1 fun T3 c => by
      rw [g2, g3, g4]
      exact kb T3 T2' (c.trans c1) c2
    rw [g2, g3, g4] at this
    exact this
  exact ⟨fun _ => ⟨fun _ => ⟨fun _ => ⟨fun _ => ⟨fun _ => ⟨fun _ => ⟨fun _ => tn_strikes h hk9 hK, fun _ => tn_settle h hk9 hK⟩, fun _ => tn_share h hk9 hK⟩, fun _ => tn_rings h hk9 hK hw hu⟩, fun _ => ⟨fun _ => ⟨fun _ => ⟨fun _ => ⟨fun _ => tn_strikes h hk9 hK, fun _ => tn_settle h hk9 hK⟩, fun _ => tn_share h hk9 hK⟩, fun _ => tn_rings h hk9 hK hw hu⟩, fun q => tn_bids h hk9 (by have w : ¬ 75 ≤ hs_sz S7 13 := (fun z => q ((hl_le (a := 75) (by omega) (by omega)).mpr z)); omega) hK⟩⟩, fun q => tn_edits h hk9 (Or.inr (by have w : ¬ 4 ≤ k := (fun z => q ((hl_le (a := 4) (by omega) (by omega)).mpr z)); omega)) hK⟩, fun _ => ⟨fun q => tn_edits h hk9 (Or.inl ((hl_lt (b := 55) (by omega) (by omega)).mp q)) hK, fun _ => ⟨fun _ => ⟨fun _ => ⟨fun _ => ⟨fun _ => ⟨fun _ => tn_strikes h hk9 hK, fun _ => tn_settle h hk9 hK⟩, fun _ => tn_share h hk9 hK⟩, fun _ => tn_rings h hk9 hK hw hu⟩, fun _ => ⟨fun _ => ⟨fun _ => ⟨fun _ => ⟨fun _ => tn_strikes h hk9 hK, fun _ => tn_settle h hk9 hK⟩, fun _ => tn_share h hk9 hK⟩, fun _ => tn_rings h hk9 hK hw hu⟩, fun q => tn_bids h hk9 (by have w : ¬ 75 ≤ hs_sz S7 13 := (fun z => q ((hl_le (a := 75) (by omega) (by omega)).mpr z)); omega) hK⟩⟩, fun q => tn_edits h hk9 (Or.inr (by have w : ¬ 4 ≤ k := (fun z => q ((hl_le (a := 4) (by omega) (by omega)).mpr z)); omega)) hK⟩⟩⟩, fun _ => tn_gives h hk9 hK⟩
theorem v_LC {k : Nat} {S U : hs_S} (h : LI k S U) : vc_LC (nI (hs_sz S 13)) (nI (hs_sz S 14)) 1 S U := ⟨by decide, both_all h.1 fun _ _ _ _ => trivial⟩
theorem v_LA {S U : hs_S} (h : JJ 0 S U) (hz : hs_sz S 12 = 0 ∧ hs_sz S 13 = 0 ∧ hs_sz S 14 = 0) : vc_LA S U (fun y3 y4 y5 y6 y7 T T' => LI 0 T T' ∧ y3 = nI (hs_sz T 12) ∧ y4 = nI (hs_sz T 13) ∧ y5 = nI (hs_sz T 14) ∧ y6 = 1 ∧ y7 = nI 0) := by
  obtain ⟨z1, z2, z3⟩ := hz
  have h0 : LI 0 S U := ⟨h, by omega⟩
  have := one_ref (Q := fun T => hs_Wi T → m_L_all 0 0 T (fun r5 S4 => (hs_Wi U → m_L_all 0 0 U (fun r7 S6 => (lg_cmp r5 r7 = 0 ∧ (LI 0 S4 S6 ∧ (0 : Int32) = nI (hs_sz S4 12) ∧ (0 : Int32) = nI (hs_sz S4 13) ∧ (0 : Int32) = nI (hs_sz S4 14) ∧ (1 : Int32) = 1 ∧ (0 : Int32) = nI 0)))))) h.1 fun T c => by
    obtain ⟨g1, g2, g3, g4⟩ := LI_cl h0 c rfl
    have b := both_all (Q := fun T2 T2' => LI 0 T2 T2' ∧ (0 : Int32) = nI (hs_sz T2 12) ∧ (0 : Int32) = nI (hs_sz T2 13) ∧ (0 : Int32) = nI (hs_sz T2 14) ∧ (1 : Int32) = 1 ∧ (0 : Int32) = nI 0) g1.1 fun T2 T2' c1 c2 => by
      obtain ⟨f1, f2, f3, f4⟩ := LI_cl g1 c1 c2
      exact ⟨f1, by rw [f2, g2, z1]; rfl, by rw [f3, g3, z2]; rfl, by rw [f4, g4, z3]; rfl, rfl, rfl⟩
    rw [g3, g4, z2, z3] at b
    exact b
  rw [z1, z2, z3] at this
  exact this
theorem la_r1 (k d : Nat) : k + 528 ≤ k + 528 * (d + 1 + 1) := by
  have : ∀ a : Nat, a * (d + 1 + 1) = a * d + a + a := fun a => by rw [Nat.mul_add, Nat.mul_add, Nat.mul_one]
  have t : ∀ a : Nat, a * (d + 1) = a * d + a := fun a => by rw [Nat.mul_add, Nat.mul_one]
  rw [this]
  try rw [t]
  omega
theorem la_r2 (n d : Nat) : n + 11424 ≤ n + 11424 * (d + 1 + 1) := by
  have : ∀ a : Nat, a * (d + 1 + 1) = a * d + a + a := fun a => by rw [Nat.mul_add, Nat.mul_add, Nat.mul_one]
  have t : ∀ a : Nat, a * (d + 1) = a * d + a := fun a => by rw [Nat.mul_add, Nat.mul_one]
  rw [this]
  try rw [t]
  omega
theorem la_r3 (k d : Nat) : k + 528 + 528 * (d + 1) ≤ k + 528 * (d + 1 + 1) := by
  have : ∀ a : Nat, a * (d + 1 + 1) = a * d + a + a := fun a => by rw [Nat.mul_add, Nat.mul_add, Nat.mul_one]
  have t : ∀ a : Nat, a * (d + 1) = a * d + a := fun a => by rw [Nat.mul_add, Nat.mul_one]
  rw [this]
  try rw [t]
  omega
theorem la_r4 (n d : Nat) : n + 11424 + 11424 * (d + 1) ≤ n + 11424 * (d + 1 + 1) := by
  have : ∀ a : Nat, a * (d + 1 + 1) = a * d + a + a := fun a => by rw [Nat.mul_add, Nat.mul_add, Nat.mul_one]
  have t : ∀ a : Nat, a * (d + 1) = a * d + a := fun a => by rw [Nat.mul_add, Nat.mul_one]
  rw [this]
  try rw [t]
  omega
theorem law_loop {Z : b_Z} (X : b_C Z RL cL_law 14 room_1) (hE : ∀ k n S lv, k ≤ room_1.cells → n ≤ room_1.slots → wb Z k n S 604 lv [.inl 1]) : ∀ d j k n S U, j + d = 90 → LI j S U → k + 528 * (d + 1) ≤ room_1.cells → n + 11424 * (d + 1) ≤ room_1.slots → hs_Wi S → hs_Wi U →
    wb Z k n (S, U) 60 [(0, .inr (.inr (101, 1))), (1, .inr (.inr (10, 1))), (2, .inr (.inr (210, 1))), (3, .inl (nI (hs_sz S 12))), (4, .inl (nI (hs_sz S 13))), (5, .inl (nI (hs_sz S 14))), (6, .inl 1), (7, .inl (nI j))] [] := by
  intro d
  induction d with
  | zero =>
    intro j k n S U hj h hk hn hw hu
    refine ok_LB (Kb := KbP j) (Ke := KeP) X (by omega) (by omega) hw hu (fun y3 y4 y5 y6 y7 T T' hw hu q => absurd q.1 (by omega)) (fun y4 y5 y6 T T' hw hu q => ?_) (v_LB (by omega) h hw hu)
    obtain ⟨i, hi, hL, rfl, rfl, rfl⟩ := q
    exact ok_LC X (by omega) (by omega) hw hu hE (v_LC hL)
  | succ d ih =>
    intro j k n S U hj h hk hn hw hu
    have a1 : k + 528 ≤ k + 528 * (d + 1 + 1) := la_r1 _ _
    have a2 : n + 11424 ≤ n + 11424 * (d + 1 + 1) := la_r2 _ _
    have a3 : k + 528 + 528 * (d + 1) ≤ k + 528 * (d + 1 + 1) := la_r3 _ _
    have a4 : n + 11424 + 11424 * (d + 1) ≤ n + 11424 * (d + 1 + 1) := la_r4 _ _
    refine ok_LB (Kb := KbP j) (Ke := KeP) X (Nat.le_trans a1 hk) (Nat.le_trans a2 hn) hw hu (fun y3 y4 y5 y6 y7 T T' hw hu q => ?_) (fun y4 y5 y6 T T' hw hu q => ?_) (v_LB (by omega) h hw hu)
    · obtain ⟨_, hL, rfl, rfl, rfl, rfl, rfl⟩ := q
      exact ih (j + 1) (k + 528) (n + 11424) T T' (by omega) hL (Nat.le_trans a3 hk) (Nat.le_trans a4 hn) hw hu
    · obtain ⟨i, hi, hL, rfl, rfl, rfl⟩ := q
      exact ok_LC X (Nat.le_trans a1 hk) (Nat.le_trans a2 hn) hw hu hE (v_LC hL)
theorem law_24 {Z : b_Z} {k n : Nat} {S U : hs_S} (X : b_C Z RL cL_law 14 room_1) (hE : ∀ k n S lv, k ≤ room_1.cells → n ≤ room_1.slots → wb Z k n S 604 lv [.inl 1]) (h : JJ 0 S U) (hz : hs_sz S 12 = 0 ∧ hs_sz S 13 = 0 ∧ hs_sz S 14 = 0) (hk : k + 319 + 528 * 91 ≤ room_1.cells) (hn : n + 6902 + 11424 * 91 ≤ room_1.slots) (hw : hs_Wi S) (hu : hs_Wi U) :
    wb Z k n (S, U) 24 [(0, .inr (.inr (101, 1))), (1, .inr (.inr (10, 1))), (2, .inr (.inr (210, 1))), (3, .inl (0 : Int32)), (4, .inl (0 : Int32)), (5, .inl (0 : Int32))] [] := by
  refine ok_LA X (by omega) (by omega) hw hu (fun y3 y4 y5 y6 y7 T T' hw hu q => ?_) (v_LA h hz)
  obtain ⟨hL, rfl, rfl, rfl, rfl, rfl⟩ := q
  exact law_loop X hE 90 0 (k + 319) (n + 6902) T T' (by omega) hL (by omega) (by omega) hw hu
