/-! ===== all rounds anew, the reference ===== -/
theorem cl_pt {S T : hs_S} (h : hs_cl T = hs_cl S) {t i p : Nat} (h4 : hs_scr t p = false) : T.1 t i p = S.1 t i p := by
  have := congrFun (congrFun (congrFun (congrArg Prod.fst h) t) i) p
  have e1 : (if hs_scr t p = true then 0 else T.1 t i p) = if hs_scr t p = true then 0 else S.1 t i p := this
  rw [h4] at e1
  exact e1
theorem cl_ptR {S T : hs_S} (h : hs_cl T = hs_cl S) {t i p : Nat} (h4 : hs_scR t p = false) : T.2.1 t i p = S.2.1 t i p := by
  have := congrFun (congrFun (congrFun (congrArg (fun z => z.2.1) h) t) i) p
  have e1 : (if hs_scR t p = true then 0 else T.2.1 t i p) = if hs_scR t p = true then 0 else S.2.1 t i p := this
  rw [h4] at e1
  exact e1
theorem cl_22 {S T : hs_S} (h : hs_cl T = hs_cl S) : T.2.2 = S.2.2 := congrArg (fun z => z.2.2) h
theorem clW_pt {V : hs_S} {r : Nat} {why price fee vol : Int32} {q : Nat → Int32} {t i p : Nat} (h74 : t ≠ 74) (h81 : t ≠ 81) (h82 : t ≠ 82) (h83 : t ≠ 83) (h84 : t ≠ 84) : (clW V r why price fee vol q).1 t i p = V.1 t i p :=
  (if_neg fun z => h74 z.1 : (if t = 74 ∧ i = 1 then q p else (hs_wI (hs_wI (hs_wI (hs_wI V 84 1 r why) 81 1 r price) 83 1 r fee) 82 1 r vol).1 t i p) = _).trans ((if_neg fun z => h82 z.1).trans ((if_neg fun z => h83 z.1).trans ((if_neg fun z => h81 z.1).trans (if_neg fun z => h84 z.1))))
/-- rows that all rounds anew leave -/
def hs_ska (t : Nat) : Bool := t == 74 || (t == 75 || (t == 81 || (t == 82 || (t == 83 || (t == 84 || t == 85)))))
theorem dI_0 {S X : hs_S} {i : Nat} : ∀ n, dI S X i n = 0 ↔ (S.1 81 1 i = X.1 81 1 i ∧ S.1 82 1 i = X.1 82 1 i ∧ S.1 83 1 i = X.1 83 1 i) ∧ ∀ b, b < n → S.1 72 1 b = nI i → X.1 74 1 b = S.1 74 1 b := by
  have z10 : ¬ (1 : Int32) = 0 := by decide
  intro n
  induction n with
  | zero =>
    unfold dI
    by_cases q1 : S.1 81 1 i = X.1 81 1 i
    · rw [if_pos q1]
      by_cases q2 : S.1 82 1 i = X.1 82 1 i
      · rw [if_pos q2]
        by_cases q3 : S.1 83 1 i = X.1 83 1 i
        · rw [if_pos q3]; exact ⟨fun _ => ⟨⟨q1, q2, q3⟩, fun b hb => absurd hb (Nat.not_lt_zero _)⟩, fun _ => rfl⟩
        · rw [if_neg q3]; exact ⟨fun z => absurd z z10, fun z => absurd z.1.2.2 q3⟩
      · rw [if_neg q2]; exact ⟨fun z => absurd z z10, fun z => absurd z.1.2.1 q2⟩
    · rw [if_neg q1]; exact ⟨fun z => absurd z z10, fun z => absurd z.1.1 q1⟩
  | succ n ih =>
    unfold dI
    by_cases q : dI S X i n = 0
    · rw [if_pos q]
      have h := ih.mp q
      by_cases q2 : S.1 72 1 n = nI i
      · rw [if_pos q2]
        by_cases q3 : X.1 74 1 n = S.1 74 1 n
        · rw [if_pos q3]
          refine ⟨fun _ => ⟨h.1, fun b hb h72 => ?_⟩, fun _ => rfl⟩
          by_cases w : b = n
          · rw [w]; exact q3
          · exact h.2 b (by omega) h72
        · rw [if_neg q3]; exact ⟨fun z => absurd z z10, fun z => absurd (z.2 n (by omega) q2) q3⟩
      · rw [if_neg q2]
        refine ⟨fun _ => ⟨h.1, fun b hb h72 => ?_⟩, fun _ => rfl⟩
        by_cases w : b = n
        · rw [w] at h72; exact absurd h72 q2
        · exact h.2 b (by omega) h72
    · rw [if_neg q]
      exact ⟨fun z => absurd z z10, fun z => absurd (ih.mpr ⟨z.1, fun b hb => z.2 b (by omega)⟩) q⟩
theorem dC_q {S : hs_S} {U : Nat → hs_S} {g : Nat} : ∀ m, dC S U g m = cntQ (fun i => dI S (U (i + 1)) i g) m := by
  intro m
  induction m with
  | zero => rfl
  | succ m ih =>
    unfold dC cntQ
    rw [ih]
    by_cases q : dI S (U (m + 1)) m g = 0
    · rw [if_pos q, if_pos q, Int32.add_zero]
    · rw [if_neg q, if_neg q]
theorem clearsAll_mR {n : Nat} {C S T : hs_S} {ev ng nl nE nB nR nd : Nat} {x : Int32} (hX : RX n C S ev ng nl nE nB nR nd) (hO : ordR S nR) (hR : R_clearsAll S x T) : RX n C T ev ng nl nE nB nR nd ∧ rM T ng nl nE nB nR ∧
    ((∀ t i p, hs_scr t p = false → hs_ska t = false → T.1 t i p = S.1 t i p) ∧ (∀ t i p, hs_scR t p = false → T.2.1 t i p = S.2.1 t i p) ∧ T.2.2 = S.2.2) ∧
    (∀ b, ¬ (b < nB ∧ ∃ r, r < nR ∧ S.1 72 1 b = nI r) → T.1 74 1 b = S.1 74 1 b) ∧
    ∃ q : Nat → Int32, x = cntQ q nR ∧ ∀ i, i < nR → (q i = 0 ↔ (S.1 81 1 i = T.1 81 1 i ∧ S.1 82 1 i = T.1 82 1 i ∧ S.1 83 1 i = T.1 83 1 i) ∧ ∀ b, b < nB → S.1 72 1 b = nI i → T.1 74 1 b = S.1 74 1 b) := by
  obtain ⟨hA, hG, hH, hE, hF, hN, hB, hC⟩ := id hX
  have hev := hA.1.1
  have h80 := hA.1.2.2.1.2
  have hR30 := hA.1.2.2.2.1
  obtain ⟨q1, q2, U, h0, hall⟩ := hR
  obtain ⟨hstep, rfl, rfl⟩ := hall nR nB hR30 hA.2.1.2.2.2.2.2.2.1 h80 hA.2.1.2.2.2.2.2.1
  have chain : ∀ i, i ≤ nR → RX n C (U i) ev ng nl nE nB nR nd ∧ (∀ r, r < i → mR (U i) ng nl nE nB nR r) ∧
      ((∀ t j p, hs_scr t p = false → hs_ska t = false → (U i).1 t j p = S.1 t j p) ∧ (∀ t j p, hs_scR t p = false → (U i).2.1 t j p = S.2.1 t j p) ∧ (U i).2.2 = S.2.2) ∧
      (∀ b, ¬ (b < nB ∧ ∃ r, r < i ∧ S.1 72 1 b = nI r) → (U i).1 74 1 b = S.1 74 1 b) ∧
      (∀ r, r < i → ((U i).1 81 1 r = (U (r + 1)).1 81 1 r ∧ (U i).1 82 1 r = (U (r + 1)).1 82 1 r ∧ (U i).1 83 1 r = (U (r + 1)).1 83 1 r) ∧ ∀ b, b < nB → S.1 72 1 b = nI r → (U i).1 74 1 b = (U (r + 1)).1 74 1 b) := by
    intro i
    induction i with
    | zero =>
      intro _
      have hX0 : RX n C (hs_rw (hs_rw S 85 q1) 75 q2) ev ng nl nE nB nR nd := by
        obtain ⟨a, b, c, d, e, f, g, i⟩ := hX
        exact ⟨a, b, c, d, e, f, g, i⟩
      rw [h0]
      refine ⟨hX0, fun r hr => absurd hr (Nat.not_lt_zero _), ⟨fun t j p _ h => ?_, fun _ _ _ _ => rfl, rfl⟩, fun b _ => rfl, fun r hr => absurd hr (Nat.not_lt_zero _)⟩
      refine (if_neg fun z => ?_ : (if t = 75 ∧ j = 1 then q2 p else (hs_rw S 85 q1).1 t j p) = _).trans (if_neg fun z => ?_)
      · rw [z.1] at h; exact absurd h (by decide)
      · rw [z.1] at h; exact absurd h (by decide)
    | succ i ih =>
      intro hi
      obtain ⟨k1, k2, ⟨k3, k3', k3''⟩, k4, k5⟩ := ih (by omega)
      obtain ⟨why, price, fee, vol, q, hcl, hq, hm⟩ := clears_mR k1 (show i < nR by omega) (hstep i (by omega))
      have e72 : ∀ b, (U i).1 72 1 b = S.1 72 1 b := fun b => k3 72 1 b rfl rfl
      have e79 : ∀ b, (U i).1 79 1 b = S.1 79 1 b := fun b => k3 79 1 b rfl rfl
      have hOi : ordR (U i) nR := fun r r' h1 h2 => by rw [e79, e79]; exact hO r r' h1 h2
      have hXW : RX n C (clW (U i) i why price fee vol q) ev ng nl nE nB nR nd := by
        obtain ⟨a, b, c, d, e, f, g, i⟩ := k1
        exact ⟨a, b, c, d, e, f, g, i⟩
      have p81 : ∀ p, p ≠ i → (U (i + 1)).1 81 1 p = (U i).1 81 1 p := fun p hp => (cl_pt hcl rfl).trans ((cw81 p).trans (if_neg hp))
      have p82 : ∀ p, p ≠ i → (U (i + 1)).1 82 1 p = (U i).1 82 1 p := fun p hp => (cl_pt hcl rfl).trans ((cw82 p).trans (if_neg hp))
      have p83 : ∀ p, p ≠ i → (U (i + 1)).1 83 1 p = (U i).1 83 1 p := fun p hp => (cl_pt hcl rfl).trans ((cw83 p).trans (if_neg hp))
      have p74 : ∀ b, ¬ (b < nB ∧ S.1 72 1 b = nI i) → (U (i + 1)).1 74 1 b = (U i).1 74 1 b := fun b hb => (cl_pt hcl rfl).trans (hq b (by rw [e72]; exact hb))
      refine ⟨RX_cm rfl (cl_mo hcl) hXW, fun r hr => ?_, ⟨fun t j p h1 h2 => ?_, fun t j p h => (cl_ptR hcl h).trans (k3' t j p h), (cl_22 hcl).trans k3''⟩, fun b hb => ?_, fun r hr => ?_⟩
      · refine mR_cl hcl ?_
        by_cases z : r = i
        · rw [z]; exact hm
        · exact clW_mR k1 (by omega) (by omega) z hq (ord_le k1.2.2.2.2.2.2.2 (by omega) hOi (by omega) (by omega)) (k2 r (by omega))
      · rw [cl_pt hcl h1, clW_pt (fun z => by rw [z] at h2; exact absurd h2 (by decide)) (fun z => by rw [z] at h2; exact absurd h2 (by decide)) (fun z => by rw [z] at h2; exact absurd h2 (by decide)) (fun z => by rw [z] at h2; exact absurd h2 (by decide)) (fun z => by rw [z] at h2; exact absurd h2 (by decide))]
        exact k3 t j p h1 h2
      · rw [p74 b fun z => hb ⟨z.1, i, by omega, z.2⟩]
        exact k4 b fun ⟨z, r, hr, er⟩ => hb ⟨z, r, by omega, er⟩
      · by_cases z : r = i
        · rw [z]
          exact ⟨⟨rfl, rfl, rfl⟩, fun _ _ _ => rfl⟩
        · obtain ⟨w1, w2⟩ := k5 r (by omega)
          rw [p81 r z, p82 r z, p83 r z]
          refine ⟨w1, fun b hb h72 => ?_⟩
          rw [p74 b fun y => z ((hl_inj (by omega) (by omega)).mp (h72.symm.trans y.2))]
          exact w2 b hb h72
  obtain ⟨k1, k2, k3, k4, k5⟩ := chain nR (Nat.le_refl _)
  refine ⟨k1, k2, k3, k4, fun i => dI S (U (i + 1)) i nB, dC_q nR, fun i hi => ?_⟩
  obtain ⟨⟨w1, w2, w3⟩, w4⟩ := k5 i hi
  refine (dI_0 nB).trans ?_
  rw [← w1, ← w2, ← w3]
  refine and_congr Iff.rfl ⟨fun z b hb h72 => (w4 b hb h72).trans (z b hb h72), fun z b hb h72 => (w4 b hb h72).symm.trans (z b hb h72)⟩
