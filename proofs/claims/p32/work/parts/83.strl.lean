/-! ===== the law's disputes ===== -/
def sE (S : hs_S) : Nat → Int32 → Int32 := fun o x => x + (F_Ldg_dueOf (nI o) (nI 0) S + F_Ldg_dueOf (nI o) (nI 1) S)
theorem sE_0 {n : Nat} {S : hs_S} (h : KS n S) : fp (sE S) 6 0 = 0 := by
  have e : ∀ k, fp (sE S) k 0 = Int32.ofInt (sI (fun o => dD S 0 o + dD S 1 o) k) := by
    intro k
    induction k with
    | zero => rfl
    | succ k ih =>
      show fp (sE S) k 0 + (F_Ldg_dueOf (nI k) (nI 0) S + F_Ldg_dueOf (nI k) (nI 1) S) = Int32.ofInt (sI (fun o => dD S 0 o + dD S 1 o) k + (dD S 0 k + dD S 1 k))
      rw [ih, Int32.ofInt_add, Int32.ofInt_add, Int32.ofInt_toInt, Int32.ofInt_toInt]
  have h0 := (KS_due h (show 0 < 4 by omega)).2
  have h1 := (KS_due h (show 1 < 4 by omega)).2
  rw [e, sI_add 6, h0, h1]; rfl
theorem st_sum {n : Nat} {T : hs_S} (h : KS n T) (h0 : csum T 6 = 0) {P : Int32 → Int32 → Prop} (hP : P 0 0) : ∃ I : Nat → Int32 → Int32 → Int32 → Prop, (∃ m, I m 0 0 0) ∧ ∀ N : Nat, ∀ x : Int32, ∀ y : Int32, ∀ k : Int32, I N x y k → (((6 : Int32) ≤ k → P x y) ∧ (¬ (6 : Int32) ≤ k → (P_Cq_due k (0 : Int32) T ∧ (P_Cq_due k (1 : Int32) T ∧ (P_Cq_cash k T ∧ ∃ q, q < N ∧ I q (x + (F_Ldg_dueOf k (0 : Int32) T + F_Ldg_dueOf k (1 : Int32) T)) (y + F_Cq_cash k T) (k + 1)))))) := by
  refine ⟨fun N x y k => ∃ j : Nat, j ≤ 6 ∧ k = nI j ∧ x = fp (sE T) j 0 ∧ y = csum T j ∧ N = 6 - j, ⟨6, 0, Nat.zero_le _, rfl, rfl, rfl, rfl⟩, fun N x y k hI => ?_⟩
  obtain ⟨j, hj, rfl, rfl, rfl, rfl⟩ := hI
  refine ⟨fun z => ?_, fun z => ?_⟩
  · have := hl_end (g := 6) (by omega) hj z
    subst this
    rw [sE_0 h, h0]
    exact hP
  · have hj6 := hl_go (g := 6) (by omega) hj z
    have ec : F_Cq_cash (nI j) T = T.1 36 1 j := by unfold F_Cq_cash; rw [hl_cl (by omega)]
    refine ⟨pq_due h hj6 (show 0 < 4 by omega), pq_due h hj6 (show 1 < 4 by omega), ⟨j, hj6, rfl⟩, 6 - (j + 1), by omega, j + 1, hj6, nI_1 j, rfl, ?_, rfl⟩
    rw [ec]; rfl
theorem bo_sb_n {n b : Nat} {S U : hs_S} {Q : Int32 → hs_S → hs_S → Prop} (h : JJ n S U) (hw : hs_Wi S) (hu : hs_Wi U) (hb : b < hs_sz S 13) (h8 : ¬ S.1 0 (b + 1) 8 = 0) (hQ : Q (-2100000003) S U) : m_L_both 23 (nI b) 0 0 S U Q :=
  bo_f hw hu (ac_sb_n h.1 hw hb (Or.inr h8)) (ac_sb_n h.u hu (by rw [← tw_sz h.2.2 13 rfl]; exact hb) (Or.inr (by rw [jj_1 h.2.2 rfl]; exact h8))) rfl hQ
theorem bo_se_n {n k : Nat} {S U : hs_S} {Q : Int32 → hs_S → hs_S → Prop} (h : JJ n S U) (hw : hs_Wi S) (hu : hs_Wi U) (hk : k < hs_sz S 12) (h6 : ¬ S.1 3 (k + 1) 6 = 0) (hQ : Q (-2100000003) S U) : m_L_both 24 (nI k) 0 0 S U Q :=
  bo_f hw hu (ac_se_n h.1 hw hk h6) (ac_se_n h.u hu (by rw [← tw_sz h.2.2 12 rfl]; exact hk) (by rw [jj_1 h.2.2 rfl]; exact h6)) rfl hQ
theorem la_strikes {n ne nb nr : Nat} {z : Int32} {S U : hs_S} (hz0 : hs_sz S 12 = ne ∧ hs_sz S 13 = nb ∧ hs_sz S 14 = nr) (h : JJ n S U) (hn : n + 1 < 512) (hw : hs_Wi S) (hu : hs_Wi U) : m_L_strikes (nI ne) (nI nb) (nI nr) z S U (fun x T T' => x = 1 ∧ JJ (n + 1) T T' ∧ hs_sz T 12 = ne ∧ hs_sz T 13 = nb ∧ hs_sz T 14 = nr) := by
  obtain ⟨⟨s12, s13, s14⟩, _⟩ := KS_sz h.1
  obtain ⟨y12, y13, y14⟩ := hz0
  rw [y12] at s12
  rw [y13] at s13
  rw [y14] at s14
  refine ok_L_strikes hw hu ⟨so_P (by decide), ?_⟩
  intro x2 hx2 x3 hx3
  have c2 : x2 = 0 ∨ x2 = 1 := by
    by_cases q : F_L_some z 2 = 0
    · rw [if_pos q] at hx2; exact Or.inr hx2
    · rw [if_neg q] at hx2; exact Or.inl hx2
  obtain ⟨M, hM, eM, eM2⟩ : ∃ M : Nat, M ≤ 80 ∧ x3 = nI M ∧ ((x2 = 0 ∧ M = nb) ∨ (x2 = 1 ∧ M = ne)) := by
    rcases c2 with q | q
    · rw [q, if_pos rfl] at hx3; exact ⟨_, s13, hx3, Or.inl ⟨q, rfl⟩⟩
    · rw [q, if_neg (by decide)] at hx3; exact ⟨_, by omega, hx3, Or.inr ⟨q, rfl⟩⟩
  obtain ⟨k, hk, ek⟩ := so_ex (N := M + 1) (z >>> ((2 : Int32) &&& 31)) (x3 + 1) (by rw [eM, nI_1]) (by omega) (by omega)
  rw [ek]
  refine ⟨so_P (by rw [eM, nI_1]; exact fun y => absurd ((hl_inj (b := 0) (by omega) (by omega)).mp y) (by omega)), fun _ => lq_L (la_all h.1 hw (Nat.le_of_eq y13.symm) (Nat.le_of_eq y14.symm)) fun r6 S5 hw5 hP => ?_⟩
  obtain ⟨e6, ecl⟩ := hP
  have j5 : JJ n S5 U := ⟨KS_cl ecl h.1, (tw_csum ecl 6).trans h.2.1, ecl.trans h.2.2⟩
  have z12 : hs_sz S5 12 = ne := (tw_sz ecl 12 rfl).trans y12
  have z13 : hs_sz S5 13 = nb := (tw_sz ecl 13 rfl).trans y13
  have z14 : hs_sz S5 14 = nr := (tw_sz ecl 14 rfl).trans y14
  rw [fAll_tw ecl.symm] at e6
  intro x7 hx7 _ hu
  -- what is refused leaves all as it is
  have ref : ∀ (y : Int32), ¬ 0 ≤ y → ((¬ k = M → y = -2100000003) ∧ (k = M → y = -2100000001)) → (¬ (0 : Int32) ≤ y → hs_Wi S5 → m_L_all (nI nb) (nI nr) S5 (fun r59 S58 => (lg_cmp r59 r6 = 0 ∧ ((¬ nI k = x3 → (y = (-2100000003 : Int32) ∧ ((1 : Int32) = 1 ∧ JJ (n + 1) S58 U ∧ hs_sz S58 12 = ne ∧ hs_sz S58 13 = nb ∧ hs_sz S58 14 = nr))) ∧ (nI k = x3 → (y = (-2100000001 : Int32) ∧ ((1 : Int32) = 1 ∧ JJ (n + 1) S58 U ∧ hs_sz S58 12 = ne ∧ hs_sz S58 13 = nb ∧ hs_sz S58 14 = nr))))))) := fun y _ hy _ hw => lq_L (la_all j5.1 hw (Nat.le_of_eq z13.symm) (Nat.le_of_eq z14.symm)) fun r T _ hP => by
    obtain ⟨er, ec⟩ := hP
    have fin : (1 : Int32) = 1 ∧ JJ (n + 1) T U ∧ hs_sz T 12 = ne ∧ hs_sz T 13 = nb ∧ hs_sz T 14 = nr := ⟨rfl, ⟨KS_le (KS_cl ec j5.1) (by omega) (by omega), (tw_csum ec 6).trans j5.2.1, ec.trans j5.2.2⟩, (tw_sz ec 12 rfl).trans z12, (tw_sz ec 13 rfl).trans z13, (tw_sz ec 14 rfl).trans z14⟩
    refine ⟨(lg_cmp_eq _ _).mpr (er.trans e6.symm), fun q => ⟨hy.1 fun w => q (by rw [eM, w]), fin⟩, fun q => ⟨hy.2 ((hl_inj (by omega) (by omega)).mp (q.trans eM)), fin⟩⟩
  have no : ¬ (0 : Int32) ≤ -2100000003 := by decide
  have no1 : ¬ (0 : Int32) ≤ -2100000001 := by decide
  rcases eM2 with ⟨q2, eMz⟩ | ⟨q2, eMz⟩
  · rw [q2, if_pos rfl] at hx7
    rw [hx7, q2]
    by_cases kM : k = M
    · have hs := ac_sb_o j5.1 hw5
      have hs' := ac_sb_o j5.u hu
      rw [← tw_sz j5.2.2 13 rfl, z13] at hs'
      rw [z13, ← eMz, ← kM] at hs
      rw [← eMz, ← kM] at hs'
      refine bo_f hw5 hu hs hs' rfl ⟨fun q => absurd q no1, ?_⟩
      exact ref _ no1 ⟨fun w => absurd kM w, fun _ => rfl⟩
    · have hk13 : k < hs_sz S5 13 := by omega
      refine bo_sb j5 (by omega) hw5 hu hk13 (fun _ => ⟨fun q => absurd q no, ref _ no ⟨fun _ => rfl, fun w => absurd w kM⟩⟩) (fun h0 m T T' hm hJ h10 h8 hz => ⟨fun _ => ?_, fun q => absurd ?_ q⟩)
      · have fin : (1 : Int32) = 1 ∧ JJ (n + 1) T T' ∧ hs_sz T 12 = ne ∧ hs_sz T 13 = nb ∧ hs_sz T 14 = nr := ⟨rfl, hJ, hz.1.trans z12, hz.2.1.trans z13, hz.2.2.trans z14⟩
        have k13 : k < hs_sz T 13 := by omega
        refine st_sum hJ.1 hJ.2.1 ⟨fun q => ?_, h10, rfl, rfl, fun q => absurd rfl q, fun _ => ⟨pq_got hJ.1 k13, (fq_got hJ.1 k13).trans (KS_got0 hJ.1 k13 h8), ?_⟩⟩
        · have := (hl_lt (by omega) (by omega)).mp q
          omega
        · intro x42 hx42 hw hu
          rw [if_pos rfl] at hx42
          rw [hx42]
          refine bo_sb_n hJ hw hu k13 (by rw [h8]; decide) ⟨rfl, fun _ => fin, fun _ => ⟨fun _ => fin, fun _ => ⟨fun q => ?_, fin⟩⟩⟩
          have := (hl_le (b := 0) (by omega) (by omega)).mp q
          omega
      · exact (hl_le (a := 0) (by omega) (by omega)).mpr (Nat.zero_le _)
  · rw [q2, if_neg (by decide)] at hx7
    rw [hx7, q2]
    by_cases kM : k = M
    · have hs := ac_se_o j5.1 hw5
      have hs' := ac_se_o j5.u hu
      rw [← tw_sz j5.2.2 12 rfl, z12] at hs'
      rw [z12, ← eMz, ← kM] at hs
      rw [← eMz, ← kM] at hs'
      refine bo_f hw5 hu hs hs' rfl ⟨fun q => absurd q no1, ?_⟩
      exact ref _ no1 ⟨fun w => absurd kM w, fun _ => rfl⟩
    · have hk12 : k < hs_sz S5 12 := by omega
      refine bo_se j5 (by omega) hw5 hu hk12 (fun _ => ⟨fun q => absurd q no, ref _ no ⟨fun _ => rfl, fun w => absurd w kM⟩⟩) (fun m T T' hm hJ h10 h6 hz => ⟨fun _ => ?_, fun q => absurd ?_ q⟩)
      · have fin : (1 : Int32) = 1 ∧ JJ (n + 1) T T' ∧ hs_sz T 12 = ne ∧ hs_sz T 13 = nb ∧ hs_sz T 14 = nr := ⟨rfl, hJ, hz.1.trans z12, hz.2.1.trans z13, hz.2.2.trans z14⟩
        have k12 : k < hs_sz T 12 := by omega
        refine st_sum hJ.1 hJ.2.1 ⟨fun q => ?_, h10, rfl, rfl, fun _ => ?_, fun q => absurd q (by decide)⟩
        · have := (hl_lt (by omega) (by omega)).mp q
          omega
        · intro x29 hx29 hw hu
          rw [if_neg (by decide)] at hx29
          rw [hx29]
          exact bo_se_n hJ hw hu k12 (by rw [h6]; decide) ⟨rfl, fun _ => fin, fun _ => ⟨fun _ => fin, fun q => absurd q (by decide)⟩⟩
      · exact (hl_le (a := 0) (by omega) (by omega)).mpr (Nat.zero_le _)
