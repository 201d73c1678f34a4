/-! ===== a price found anew ===== -/
theorem kf_co {S T : hs_S} (h : KF S T) : hs_co T = hs_co S := by
  refine co_of (fun t i p _ _ h3 _ => h.2.2 t i p h3) (fun t i p h4 => ?_) (congrArg Prod.snd h.1)
  unfold hs_scR at h4
  simp only [Bool.or_eq_false_iff, Bool.and_eq_false_iff, beq_eq_false_iff_ne] at h4
  exact h.2.1 t i p h4.1 (by omega)
theorem RS_kf {n : Nat} {S T : hs_S} {ev ng nl nE nB nR nd : Nat} (h : KF S T) (k : RS n S ev ng nl nE nB nR nd) (h1 : ∀ r, r < nR → T.1 8 (S.2.1 14 1 r) 5 = S.1 81 1 r ∧ T.1 8 (S.2.1 14 1 r) 6 = S.1 82 1 r ∧ T.1 8 (S.2.1 14 1 r) 7 = S.1 83 1 r ∧ T.1 8 (S.2.1 14 1 r) 8 = S.1 84 1 r) (h2 : ∀ b, b < nB → T.1 0 (b + 1) 9 = S.1 74 1 b) : RS n T ev ng nl nE nB nR nd := by
  obtain ⟨hX, hL, hQ, hM⟩ := k
  have e14 : ∀ r, T.2.1 14 1 r = S.2.1 14 1 r := fun r => h.2.1 14 1 r (by decide) (fun z => absurd z.1 (by decide))
  have f : ∀ t p, hs_fr t p = false → T.1 t 1 p = S.1 t 1 p := fun t p q => h.2.2 t 1 p q
  refine ⟨RX_cm (kf_co h) (kf_mo h) hX, rL_cm (kf_co h) (kf_mo h) hL, ⟨fun r hr => ?_, fun b hb => ⟨?_, fun z => ?_⟩⟩, fun r hr => mR_mo (kf_mo h) (hM r hr)⟩
  · rw [e14, f 81 r rfl, f 82 r rfl, f 83 r rfl, f 84 r rfl]
    exact h1 r hr
  · rw [f 74 b rfl]; exact h2 b hb
  · rw [f 72 b rfl] at z
    rw [f 74 b rfl]
    exact (hQ.2 b hb).2 z
theorem call_priceAnew {n : Nat} {S : hs_S} {a1 : Int32} (h : RR n S) (hn : n < 512) (hw : hs_Wi S) : m_L_priceAnew a1 S (fun k S2 => hs_Wi S2 → m_M_priceAnew a1 S2 (fun r T => OK n k r T)) := by
  obtain ⟨ev, ng, nl, nE, nB, nR, nd, hS⟩ := id h
  obtain ⟨hA, hG, hH, hE, hF, hN, hB, hC⟩ := id hS.1
  have hz : hs_sz S 14 = nR := hA.2.2.1.2.2.2.2
  have e36 : S.1 11 1 36 = nI nR := hA.2.1.2.2.2.2.2.2.1
  have hR30 := hA.1.2.2.2.1
  have hev := hA.1.1
  refine ok_L_priceAnew hw fun _ => ok_C_priceAnew hw fun _ => t_roundNumbered hw (by omega) (fun r hr => by have := (hC.1 r (by omega)).1.1; omega) (fun a ha ea => ?_) (fun e => ⟨rfl, fun hw2 => ok_M_priceAnew hw2 ?_⟩)
  · rw [hz] at ha
    subst ea
    refine ⟨fun N x T => ∃ i, i ≤ a + 1 ∧ x = nI i ∧ N = a + 1 - i ∧ KF S T ∧ (∀ r, r < nR → T.1 8 (S.2.1 14 1 r) 5 = S.1 81 1 r ∧ T.1 8 (S.2.1 14 1 r) 6 = S.1 82 1 r ∧ T.1 8 (S.2.1 14 1 r) 7 = S.1 83 1 r ∧ T.1 8 (S.2.1 14 1 r) 8 = S.1 84 1 r) ∧ ∀ b, b < nB → T.1 0 (b + 1) 9 = S.1 74 1 b, ⟨a + 1, 0, Nat.zero_le _, rfl, rfl, KF.rf, hS.2.2.1.1, fun b hb => (hS.2.2.1.2 b hb).1⟩, ?_⟩
    rintro N x S6 ⟨i, hi, rfl, rfl, kf, k1, k2⟩
    have hz6 : hs_sz S6 14 = nR := (kf.2.1 14 2 0 (by decide) (fun z => absurd z.1 (by decide))).trans hz
    have e14 : ∀ r, S6.2.1 14 1 r = S.2.1 14 1 r := fun r => kf.2.1 14 1 r (by decide) (fun z => absurd z.1 (by decide))
    refine ⟨fun q => ?_, fun q => ⟨fun q2 => ?_, fun q2 => ?_⟩⟩
    · refine ⟨by have := (hC.1 a ha).1.1; omega, ?_⟩
      rintro _ rfl hw2
      have k6 := RS_as (x := 1) (RS_out (y := (S6.1 8 (S.2.1 14 1 a) 5).toInt64) (RS_kf kf hS k1 k2)) hn
      refine ok_M_priceAnew hw2 ?_
      rintro x hx
      have d36 : S6.1 11 1 36 = nI nR := (kf.2.2 11 1 36 rfl).trans e36
      have hx1 : x = 1 := by
        rw [hx, if_neg (nI_lo (by omega))]
        have d36' : (hs_wL S6 100 1 (0 : Int32).toNatClampNeg (S6.1 8 (S.2.1 14 1 a) 5).toInt64).1 11 1 36 = nI nR := d36
        rw [d36', if_neg]
        exact fun z => absurd ((hl_le (by omega) (by omega)).mp z) (by omega)
      subst hx1
      refine ⟨Or.inr rfl, ?_⟩
      rintro _ rfl
      rw [hl_cl (by omega)]
      refine ⟨fun z => absurd z (by decide), fun _ => ⟨hl_ix (by omega) (by omega), k6.rr, rfl, fun _ => congrArg Int32.toInt64 ?_⟩⟩
      exact (k1 a ha).1.trans (kf.2.2 81 1 a rfl).symm
    · rw [hz6] at q2
      have : ¬ a < i := fun z => q (nI_lt2 (by omega) z)
      have := (hl_le (a := nR) (b := i) (by omega) (by omega)).mp q2
      omega
    · rw [hz6] at q2
      have hia : ¬ a < i := fun z => q (nI_lt2 (by omega) z)
      have hiR : i < nR := by
        have : ¬ nR ≤ i := fun z => q2 ((hl_le (by omega) (by omega)).mpr z)
        omega
      have hX6 : RX n S6 S ev ng nl nE nB nR nd := RX_kf kf hS.1
      rw [hl_cl (by omega), hz6, e14]
      refine ⟨hl_ix (by omega) (by omega), by have := (hC.1 i hiR).1.1; omega, by have := P_reckon_of hX6 hiR; rw [e14] at this; exact this, fun y S20 hR => ?_⟩
      have hR' : R_Clr_reckon (S6.2.1 14 1 i) S6 y S20 := by rw [e14]; exact hR
      have hrk := reckon_eq hX6 hiR (hS.2.2.2 i hiR) (fun r' hr' _ => by rw [e14]; exact (k1 r' hr').1) hR'
      rw [e14] at hrk
      obtain ⟨g1, g2, g3, g4, _⟩ := hrk
      refine ⟨a + 1 - (i + 1), by omega, i + 1, by omega, nI_1 i, rfl, kf.tr (reckon_kf hR), fun r hr => ?_, fun b hb => ?_⟩
      · by_cases z : r = i
        · rw [z]; exact g1
        · have hne : S.2.1 14 1 r ≠ S.2.1 14 1 i := fun w => z (hC.2.2.1 r i hr hiR w)
          rw [g3 _ 5 hne, g3 _ 6 hne, g3 _ 7 hne, g3 _ 8 hne]
          exact k1 r hr
      · by_cases z : S.1 72 1 b = nI i
        · exact g2 b hb z
        · rw [g4 b hb z]; exact k2 b hb
  · rw [hz] at e
    rintro x hx
    have hx0 : x = 0 := by
      rw [hx, e36]
      by_cases q1 : a1 < 0
      · rw [if_pos q1]
      · rw [if_neg q1, if_pos]
        refine Classical.not_not.mp fun z => e ?_
        exact lt_of (by omega) q1 (nle.mp z)
    subst hx0
    refine ⟨Or.inl rfl, ?_⟩
    rintro _ rfl
    exact ⟨fun _ => OK_f h hn rfl, fun z => absurd rfl z⟩
