/-! ===== all rounds, reckoned anew on both sides ===== -/
/-- events of bells go up -/
def ordR (V : hs_S) (nR : Nat) : Prop := ∀ r r', r < r' → r' < nR → V.1 79 1 r < V.1 79 1 r'
theorem ord_see {U V : hs_S} {ev ng nl nR i r : Nat} (hC : rC U V ev ng nl nR) (hev : ev ≤ 512) (hO : ordR V nR) (hi : i < nR) (hr : r < nR) (h : ¬ V.1 78 1 i ≤ V.1 79 1 r) : r < i := by
  obtain ⟨_, _, ⟨f, l, ⟨c4, c5⟩, c6, _, c8, _⟩, _⟩ := hC.1 i hi
  have hfl : V.1 78 1 i < V.1 79 1 i := by rw [c6, c8]; exact nI_lt2 (by omega) c4
  rcases Nat.lt_trichotomy r i with z | z | z
  · exact z
  · rw [z] at h; rw [i32_lt] at hfl; rw [i32_le] at h; omega
  · have := hO i r z hr
    rw [i32_lt] at hfl this; rw [i32_le] at h; omega
theorem ord_le {U V : hs_S} {ev ng nl nR i r : Nat} (hC : rC U V ev ng nl nR) (hev : ev ≤ 512) (hO : ordR V nR) (hi : i < nR) (h : r < i) : V.1 78 1 r ≤ V.1 79 1 i := by
  obtain ⟨_, _, ⟨f, l, ⟨c4, c5⟩, c6, _, c8, _⟩, _⟩ := hC.1 r (by omega)
  have hfl : V.1 78 1 r < V.1 79 1 r := by rw [c6, c8]; exact nI_lt2 (by omega) c4
  have := hO r i h hi
  rw [i32_lt] at hfl this; rw [i32_le]; omega
theorem reckonAll_eq {n : Nat} {C C' V : hs_S} {ev ng nl nE nB nR nd : Nat} {x : Int32} {a81 a82 a83 a84 a74 : Nat → Int32} (hX : RX n C V ev ng nl nE nB nR nd) (hM : rM V ng nl nE nB nR) (hO : ordR V nR)
    (hold : ∀ r, r < nR → C.1 8 (C.2.1 14 1 r) 5 = a81 r ∧ C.1 8 (C.2.1 14 1 r) 6 = a82 r ∧ C.1 8 (C.2.1 14 1 r) 7 = a83 r ∧ C.1 8 (C.2.1 14 1 r) 8 = a84 r) (hold2 : ∀ b, b < nB → C.1 0 (b + 1) 9 = a74 b) (h74 : ∀ b, b < nB → V.1 72 1 b = -1 → V.1 74 1 b = a74 b)
    (hR : R_Clr_reckonAll C x C') : KF C C' ∧ ((∀ r, r < nR → C'.1 8 (C.2.1 14 1 r) 5 = V.1 81 1 r ∧ C'.1 8 (C.2.1 14 1 r) 6 = V.1 82 1 r ∧ C'.1 8 (C.2.1 14 1 r) 7 = V.1 83 1 r ∧ C'.1 8 (C.2.1 14 1 r) 8 = V.1 84 1 r) ∧ ∀ b, b < nB → C'.1 0 (b + 1) 9 = V.1 74 1 b) ∧
    ∃ q : Nat → Int32, x = cntQ q nR ∧ ∀ i, i < nR → (q i = 0 ↔ (a81 i = V.1 81 1 i ∧ a82 i = V.1 82 1 i ∧ a83 i = V.1 83 1 i) ∧ ∀ b, b < nB → V.1 72 1 b = nI i → a74 b = V.1 74 1 b) := by
  obtain ⟨hA, hG, hH, hE, hF, hN, hB, hC⟩ := id hX
  have hev := hA.1.1
  have hR30 := hA.1.2.2.2.1
  have hz : hs_sz C 14 = nR := hA.2.2.1.2.2.2.2
  obtain ⟨U, q, h0, hstep, rfl, rfl⟩ := hR
  rw [hz] at hstep ⊢
  have inj := hC.2.2.1
  have chain : ∀ i, i ≤ nR → KF C (U i) ∧ (∀ r, r < i → (U i).1 8 (C.2.1 14 1 r) 5 = V.1 81 1 r ∧ (U i).1 8 (C.2.1 14 1 r) 6 = V.1 82 1 r ∧ (U i).1 8 (C.2.1 14 1 r) 7 = V.1 83 1 r ∧ (U i).1 8 (C.2.1 14 1 r) 8 = V.1 84 1 r) ∧ (∀ r, i ≤ r → r < nR → (U i).1 8 (C.2.1 14 1 r) 5 = a81 r ∧ (U i).1 8 (C.2.1 14 1 r) 6 = a82 r ∧ (U i).1 8 (C.2.1 14 1 r) 7 = a83 r ∧ (U i).1 8 (C.2.1 14 1 r) 8 = a84 r) ∧
      (∀ b, b < nB → (∃ r, r < i ∧ V.1 72 1 b = nI r) → (U i).1 0 (b + 1) 9 = V.1 74 1 b) ∧ (∀ b, b < nB → ¬ (∃ r, r < i ∧ V.1 72 1 b = nI r) → (U i).1 0 (b + 1) 9 = a74 b) ∧
      (∀ r, r < i → (q r = 0 ↔ (a81 r = V.1 81 1 r ∧ a82 r = V.1 82 1 r ∧ a83 r = V.1 83 1 r) ∧ ∀ b, b < nB → V.1 72 1 b = nI r → a74 b = V.1 74 1 b)) := by
    intro i
    induction i with
    | zero =>
      intro _
      rw [h0]
      exact ⟨KF.rf, fun r hr => absurd hr (Nat.not_lt_zero _), fun r _ hr => hold r hr, fun b _ ⟨r, hr, _⟩ => absurd hr (Nat.not_lt_zero _), fun b hb _ => hold2 b hb, fun r hr => absurd hr (Nat.not_lt_zero _)⟩
    | succ i ih =>
      intro hi
      obtain ⟨k1, k2, k3, k4, k5, k6⟩ := ih (by omega)
      have hXi := RX_kf k1 hX
      have e14 : ∀ r, (U i).2.1 14 1 r = C.2.1 14 1 r := fun r => k1.2.1 14 1 r (by decide) (fun z => absurd z.1 (by decide))
      have hs := hstep i (by omega)
      have hs' : R_Clr_reckon ((U i).2.1 14 1 i) (U i) (q i) (U (i + 1)) := by rw [e14]; exact hs
      have hrk := reckon_eq hXi (by omega) (hM i (by omega)) (fun r' hr' z => by
        have hlt := ord_see hC (by omega) hO (by omega) hr' z
        rw [e14]; exact (k2 r' hlt).1) hs'
      rw [e14] at hrk
      obtain ⟨g1, g2, g3, g4, g5, g6⟩ := hrk
      have ne14 : ∀ r, r < nR → r ≠ i → C.2.1 14 1 r ≠ C.2.1 14 1 i := fun r hr hne z => hne (inj r i hr (by omega) z)
      refine ⟨k1.tr (reckon_kf hs), fun r hr => ?_, fun r hr hr2 => ?_, fun b hb hex => ?_, fun b hb hex => ?_, fun r hr => ?_⟩
      · by_cases z : r = i
        · rw [z]; exact g1
        · have := k2 r (by omega)
          rw [g3 _ 5 (ne14 r (by omega) z), g3 _ 6 (ne14 r (by omega) z), g3 _ 7 (ne14 r (by omega) z), g3 _ 8 (ne14 r (by omega) z)]
          exact this
      · have z : r ≠ i := by omega
        have := k3 r (by omega) hr2
        rw [g3 _ 5 (ne14 r (by omega) z), g3 _ 6 (ne14 r (by omega) z), g3 _ 7 (ne14 r (by omega) z), g3 _ 8 (ne14 r (by omega) z)]
        exact this
      · by_cases z : V.1 72 1 b = nI i
        · exact g2 b hb z
        · rw [g4 b hb z]
          obtain ⟨r, hr, er⟩ := hex
          exact k4 b hb ⟨r, by
            have : r ≠ i := fun w => z (by rw [← w]; exact er)
            omega, er⟩
      · have z : ¬ V.1 72 1 b = nI i := fun w => hex ⟨i, by omega, w⟩
        rw [g4 b hb z]
        exact k5 b hb fun ⟨r, hr, er⟩ => hex ⟨r, by omega, er⟩
      · by_cases z : r = i
        · subst z
          have k3' := k3 r (Nat.le_refl _) (by omega)
          rw [g6, k3'.1, k3'.2.1, k3'.2.2.1]
          refine and_congr Iff.rfl ⟨fun w b hb h72 => ?_, fun w b hb h72 => ?_⟩
          · rw [← w b hb h72]
            exact (k5 b hb fun ⟨r', hr', er'⟩ => by
              have := (hl_inj (a := r) (b := r') (by omega) (by omega)).mp (h72.symm.trans er')
              omega).symm
          · rw [← w b hb h72]
            exact k5 b hb fun ⟨r', hr', er'⟩ => by
              have := (hl_inj (a := r) (b := r') (by omega) (by omega)).mp (h72.symm.trans er')
              omega
        · exact k6 r (by omega)
  obtain ⟨k1, k2, k3, k4, k5, k6⟩ := chain nR (Nat.le_refl _)
  refine ⟨k1, ⟨k2, fun b hb => ?_⟩, q, rfl, k6⟩
  obtain ⟨c, hc, _, h⟩ := (hB b hb).2
  rcases h with ⟨h1, _⟩ | ⟨r, hr, h1, _⟩
  · rw [k5 b hb fun ⟨r, hr, er⟩ => absurd (er.symm.trans h1) (neg1 (by omega))]
    exact (h74 b hb h1).symm
  · exact k4 b hb ⟨r, hr, h1⟩
