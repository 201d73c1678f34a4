/-! ===== what a cleared round comes to ===== -/
theorem reckon_pin {r : Nat} {S T : hs_S} {x : Int32} (h : R_Clr_reckon r S x T) : (∀ t i p, hs_scr t p = false → ¬ (t = 8 ∧ i = r ∧ (p = 5 ∨ p = 6 ∨ p = 7 ∨ p = 8)) → ¬ (t = 0 ∧ p = 9 ∧ ∃ k, k < hs_sz S 13 ∧ i = k + 1) → T.1 t i p = S.1 t i p) ∧ (∀ k, k < hs_sz S 13 → ¬ br S k = r → T.1 0 (k + 1) 9 = S.1 0 (k + 1) 9) ∧ (∀ t i p, hs_scR t p = false → T.2.1 t i p = S.2.1 t i p) ∧ T.2.2 = S.2.2 := by
  obtain ⟨A2, A6, ya, a1, a2, a3, a4, a5⟩ := h
  obtain ⟨m1, m2⟩ := a2
  obtain ⟨s1, s2, s3, s4, s5⟩ := a3
  have eR : ∀ t i p, hs_scR t p = false → T.2.1 t i p = S.2.1 t i p := fun t i p q => by
    rw [s1, m1.1]
    unfold hs_scR at q
    simp only [Bool.or_eq_false_iff, Bool.and_eq_false_iff, beq_eq_false_iff_ne] at q
    exact a1.1.2.1 t i p (by omega) (by omega)
  have hz : hs_sz A6 13 = hs_sz S 13 := by
    have : A6.2.1 13 2 0 = S.2.1 13 2 0 := by rw [m1.1]; exact a1.1.2.1 13 2 0 (by omega) (by omega)
    exact this
  have e6 : ∀ t i p, hs_scr t p = false → ¬ (t = 8 ∧ i = r ∧ (p = 5 ∨ p = 7 ∨ p = 8)) → A6.1 t i p = S.1 t i p := fun t i p q w => by
    have qf : hs_fs t p = false := by
      unfold hs_scr at q
      unfold hs_fs
      simp only [Bool.or_eq_false_iff, Bool.and_eq_false_iff, beq_eq_false_iff_ne] at q ⊢
      omega
    rw [m1.2.2 t i p qf w]
    unfold hs_scr at q
    simp only [Bool.or_eq_false_iff, Bool.and_eq_false_iff, beq_eq_false_iff_ne] at q
    exact a1.1.2.2 t i p (by omega) (by omega)
  refine ⟨fun t i p q w1 w2 => ?_, fun k hk hb => ?_, eR, ?_⟩
  · rw [s2 t i p (by rw [hz]; exact w2)]
    refine ((if_neg fun z => w1 ⟨z.1, z.2.1, Or.inr (Or.inl z.2.2)⟩ : (cVS r A6).1 t i p = A6.1 t i p)).trans ?_
    exact e6 t i p q fun z => w1 ⟨z.1, z.2.1, by omega⟩
  · rw [s3 k (by rw [hz]; exact hk)]
    have eb : br A6 k = br S k := by
      have e1 : A6.2.1 13 1 k = S.2.1 13 1 k := by rw [m1.1]; exact a1.1.2.1 13 1 k (by omega) (by omega)
      show A6.2.1 0 (A6.2.1 13 1 k) 2 = _
      rw [e1, m1.1]
      exact a1.1.2.1 0 _ 2 (by omega) (by omega)
    rw [if_neg (by rw [eb]; exact hb)]
    exact e6 0 (k + 1) 9 rfl fun z => absurd z.1 (by decide)
  · rw [s1, m1.1]; exact a1.1.1
theorem KS_got {n b : Nat} {S : hs_S} (h : KS n S) (hb : b < hs_sz S 13) : 0 ≤ (S.1 0 (b + 1) 9).toInt ∧ (S.1 0 (b + 1) 9).toInt ≤ 101 := by
  obtain ⟨V, ev, ng, nl, nE, nB, nR, nd, hX, hL, hQ, hM⟩ := KS_U h
  have hz : hs_sz S 13 = nB := hX.1.2.2.1.2.2.1
  rw [hz] at hb
  obtain ⟨q1, q2⟩ := hQ.2 b hb
  rw [q1]
  obtain ⟨c, hc, _, h2⟩ := (hX.2.2.2.2.2.2.1 b hb).2
  rcases h2 with ⟨w1, _⟩ | ⟨r, hr, w1, _⟩
  · rw [q2 w1]; decide
  · have := got_b hX hr (hM r hr) hb w1
    exact ⟨this.1, this.2.1⟩
theorem mrg_fs {S V : hs_S} {R : Nat} : ∀ k, cFs (mrg S V) R k = cFs S R k := by
  intro k
  induction k with
  | zero => rfl
  | succ k ih => unfold cFs; rw [ih]; rfl
theorem KS_round {n r : Nat} {S : hs_S} (h : KS n S) (hr : r < hs_sz S 14) : (S.1 8 (S.2.1 14 1 r) 8 = 0 → 0 ≤ (S.1 8 (S.2.1 14 1 r) 5).toInt) ∧ (¬ S.1 8 (S.2.1 14 1 r) 8 = 0 → S.1 8 (S.2.1 14 1 r) 5 = -1 ∧ S.1 8 (S.2.1 14 1 r) 6 = 0 ∧ S.1 8 (S.2.1 14 1 r) 7 = 0 ∧ F_Book_feesOf (S.2.1 14 1 r) S = 0) := by
  obtain ⟨V, ev, ng, nl, nE, nB, nR, nd, hS⟩ := h
  obtain ⟨hX, hL, hQ, hM⟩ := id hS
  have hz : hs_sz S 14 = nR := hX.1.2.2.1.2.2.2.2
  have hz13 : hs_sz S 13 = nB := hX.1.2.2.1.2.2.1
  have h80 : nB ≤ 80 := hX.1.1.2.2.1.2
  rw [hz] at hr
  obtain ⟨r5, r6, r7, r8⟩ := hQ.1 r hr
  have x5 : S.1 8 (S.2.1 14 1 r) 5 = (mrg S V).1 81 1 r := r5
  have x6 : S.1 8 (S.2.1 14 1 r) 6 = (mrg S V).1 82 1 r := r6
  have x7 : S.1 8 (S.2.1 14 1 r) 7 = (mrg S V).1 83 1 r := r7
  have x8 : S.1 8 (S.2.1 14 1 r) 8 = (mrg S V).1 84 1 r := r8
  obtain ⟨⟨f, v, f2, v2, _, _, m84, m81, m83⟩, _, _, mS⟩ := hM r hr
  refine ⟨fun z => ?_, fun z => ?_⟩
  · rw [x8] at z
    rw [x5, m81, if_pos z]
    rw [z] at m84
    by_cases q : (mX (mrg S V) ng nl nE nB nR ((mrg S V).1 78 1 r)).1 (6 * (mrg S V).1 77 1 r) = 0
    · rw [if_pos q] at m84
      exact absurd (m84.trans (if_neg (by decide))) (by decide)
    · rw [if_neg q] at m84
      unfold cY at m84
      rw [if_pos rfl] at m84
      by_cases w : f = 0
      · rw [if_pos w] at m84
        by_cases w2 : 0 ≤ v
        · rw [i32_le] at w2; exact w2
        · rw [if_neg w2] at m84
          exact absurd m84 (by decide)
      · rw [if_neg w] at m84
        exact absurd m84.symm w
  · rw [x8] at z
    have p1 : (mrg S V).1 81 1 r = -1 := by rw [m81, if_neg z]
    have no : ∀ u b, b < 80 → shT (mrg S V) (nI r) u b = false := fun u b hb => by
      rcases hq : shT (mrg S V) (nI r) u b with _ | _
      · rfl
      · have := (shT_mTP hb hq).2.2.2.2.1
        rw [hl_cl (by have := hX.1.1.2.2.2.1; omega)] at this
        exact absurd p1 this
    refine ⟨x5.trans p1, ?_, ?_, ?_⟩
    · have := mS 0 (Or.inl rfl)
      rw [sI_0 nB (fun b hb => by rw [no 0 b (by omega)]; rfl)] at this
      rw [x6]
      apply i32_eq.mpr
      rw [← this]; rfl
    · rw [x7, m83, p1]
      unfold clF
      rw [if_pos rfl]
    · have hf := (fs_b hS hr nB (Nat.le_refl _)).1
      have e : F_Book_feesOf (S.2.1 14 1 r) S = cFs (mrg S V) ((mrg S V).2.1 14 1 r) nB := by
        rw [mrg_fs, ← hz13]; rfl
      rw [e]
      apply i32_eq.mpr
      rw [hf]
      refine (sI_0 nB fun b hb => ?_).trans rfl
      by_cases w : (mrg S V).1 72 1 b = nI r
      · rw [if_pos w]
        have g := (got_b hX hr (hM r hr) hb w).2.2
        rw [p1] at g
        have g0 : ((mrg S V).1 74 1 b).toInt = 0 := g.resolve_right fun y => absurd y.1 (by decide)
        have b0 : bw (mrg S V) b = 0 := by
          unfold bw
          rw [g0, Int.mul_zero]
          exact ite_self _
        unfold bf
        rw [b0, Int.zero_mul]
        exact ite_self _
      · rw [if_neg w]
theorem clr_f {n c : Nat} {S T : hs_S} (h : KS n S) (hT : KS (n + 1) T) (hc : c < 4) (hb : blC S c (nI (hs_sz S 14)) T) : (hs_sz T 14 = hs_sz S 14 + 1 ∧ T.2.1 14 1 (hs_sz S 14) = S.2.1 26 1 c ∧ hs_sz T 13 = hs_sz S 13 ∧ hs_sz T 12 = hs_sz S 12) ∧ F_Rnd_wasFrozen (T.2.1 26 1 c) T = 0 ∧ T.1 8 (S.2.1 26 1 c) 0 = nI c ∧
    sI (fun b => (T.1 0 (b + 1) 9).toInt) (hs_sz S 13) = sI (fun b => (S.1 0 (b + 1) 9).toInt) (hs_sz S 13) + 2 * (T.1 8 (S.2.1 26 1 c) 6).toInt := by
  obtain ⟨_, x, W, hR, hW⟩ := hb
  obtain ⟨n7, n20, n21, n8⟩ := KS_bk h
  obtain ⟨k1, k2, k3⟩ := KS_cur h hc
  obtain ⟨p1, p2, p3, p4⟩ := reckon_pin hR
  have hcl : (S.1 8 (S.2.1 26 1 c) 0).toNatClampNeg = c := by rw [k2]; exact hl_cl (by omega)
  have T2 : ∀ t i p, hs_scR t p = false → T.2.1 t i p = (E_Book_close (S.2.1 26 1 c) (S.1 10 1 5) S).2.1 t i p := fun t i p q => by rw [hW]; exact p3 t i p q
  have c26 : T.2.1 26 1 c = S.2.2.2 8 + 1 := by rw [T2 26 1 c rfl, cl26, hcl, if_pos rfl]
  have c14 : T.2.1 14 1 (hs_sz S 14) = S.2.1 26 1 c := by rw [T2 14 1 _ rfl, cl14, if_pos rfl]
  have z14 : hs_sz T 14 = hs_sz S 14 + 1 := (T2 14 2 0 rfl).trans rfl
  have z13 : hs_sz T 13 = hs_sz S 13 := (T2 13 2 0 rfl).trans rfl
  have z12 : hs_sz T 12 = hs_sz S 12 := (T2 12 2 0 rfl).trans rfl
  have zc : hs_sz (E_Book_close (S.2.1 26 1 c) (S.1 10 1 5) S) 13 = hs_sz S 13 := rfl
  have t9 : ∀ b, T.1 0 (b + 1) 9 = W.1 0 (b + 1) 9 := fun b => by rw [hW]; rfl
  refine ⟨⟨z14, c14, z13, z12⟩, ?_, ?_, ?_⟩
  · rw [fz_iff, c26, hW]
    show W.1 8 (S.2.2.2 8 + 1) 1 = _
    rw [p1 8 _ 1 rfl (by omega) (by omega), cl8n]
    rfl
  · rw [hW]
    show W.1 8 (S.2.1 26 1 c) 0 = _
    rw [p1 8 _ 0 rfl (by omega) (by omega), cl8R (n8 c hc), if_neg (by decide)]
    exact k2
  · obtain ⟨V, ev, ng, nl, nE, nB, nR, nd, hX, hL, hQ, hM⟩ := KS_U hT
    obtain ⟨V0, ev0, ng0, nl0, nE0, nB0, nR0, nd0, hX0, hL0, hQ0, hM0⟩ := KS_U h
    have hzB : hs_sz T 13 = nB := hX.1.2.2.1.2.2.1
    have hzR : hs_sz T 14 = nR := hX.1.2.2.1.2.2.2.2
    have hzB0 : hs_sz S 13 = nB0 := hX0.1.2.2.1.2.2.1
    have hzR0 : hs_sz S 14 = nR0 := hX0.1.2.2.1.2.2.2.2
    have hR30 := hX.1.1.2.2.2.1
    have h80 := hX.1.1.2.2.1.2
    have hr : hs_sz S 14 < nR := by omega
    obtain ⟨r5, r6, r7, r8⟩ := hQ.1 _ hr
    rw [c14] at r6
    have mS := (hM _ hr).2.2.2
    have mG := (hM _ hr).2.2.1
    have m0 := mS 0 (Or.inl rfl)
    have m1 := mS 1 (Or.inr rfl)
    have hC3 := hX.2.2.2.2.2.2.2.2.2
    have hC03 := hX0.2.2.2.2.2.2.2.2.2
    have key : ∀ b, b < nB → (T.1 0 (b + 1) 9).toInt = (S.1 0 (b + 1) 9).toInt + ((if shT V (nI (hs_sz S 14)) 0 b = true then (V.1 74 1 b).toInt else 0) + (if shT V (nI (hs_sz S 14)) 1 b = true then (V.1 74 1 b).toInt else 0)) := fun b hb => by
      have eT : T.1 0 (b + 1) 9 = V.1 74 1 b := (hQ.2 b hb).1
      have e2 : T.2.1 0 (b + 1) 2 = S.2.1 0 (b + 1) 2 := (T2 0 (b + 1) 2 rfl).trans rfl
      have ebr : br (E_Book_close (S.2.1 26 1 c) (S.1 10 1 5) S) b = S.2.1 0 (b + 1) 2 := by
        have : S.2.1 13 1 b = b + 1 := KS_bd h (by omega)
        show S.2.1 0 (S.2.1 13 1 b) 2 = _
        rw [this]
      obtain ⟨c', hc', _, h2⟩ := (hX.2.2.2.2.2.2.1 b hb).2
      by_cases w : V.1 72 1 b = nI (hs_sz S 14)
      · have e3 : S.2.1 0 (b + 1) 2 = S.2.1 26 1 c := by
          rcases h2 with ⟨w1, _⟩ | ⟨r', hr', w1, w2, _⟩
          · rw [w] at w1; exact absurd w1 (neg1 (by omega))
          · have : r' = hs_sz S 14 := (hl_inj (by omega) (by omega)).mp (w1.symm.trans w)
            rw [this, c14] at w2
            exact e2.symm.trans w2
        have s0 : S.1 0 (b + 1) 9 = 0 := by
          obtain ⟨q1, q2⟩ := hQ0.2 b (by omega)
          obtain ⟨c'', hc'', _, h3⟩ := (hX0.2.2.2.2.2.2.1 b (by omega)).2
          rcases h3 with ⟨w1, _⟩ | ⟨r', hr', w1, w2, _⟩
          · rw [q1, q2 w1]
          · rw [e3] at w2
            exact absurd w2.symm (hC03.2.2 r' c hr' hc)
        have b3 := (hX.2.2.2.2.2.2.1 b hb).1.2.1.2
        rw [eT, s0]
        by_cases tp : F_takesPart (nI b) (nI (hs_sz S 14)) V = 0
        · have no : ∀ u, shT V (nI (hs_sz S 14)) u b = false := fun u => by
            unfold shT
            exact decide_eq_false fun z => z.2 tp
          have := mG b hb w
          unfold gotR at this
          rw [no 1, no 0] at this
          rw [no 1, no 0, this]
          rfl
        · rcases b3 with g | g
          · have y0 : shT V (nI (hs_sz S 14)) 0 b = true := decide_eq_true ⟨g, tp⟩
            have y1 : shT V (nI (hs_sz S 14)) 1 b = false := decide_eq_false fun z => absurd (g.symm.trans z.1) (by decide)
            rw [y0, y1]
            show _ = (0 : Int) + ((V.1 74 1 b).toInt + 0)
            omega
          · have y1 : shT V (nI (hs_sz S 14)) 1 b = true := decide_eq_true ⟨g, tp⟩
            have y0 : shT V (nI (hs_sz S 14)) 0 b = false := decide_eq_false fun z => absurd (g.symm.trans z.1) (by decide)
            rw [y0, y1]
            show _ = (0 : Int) + (0 + (V.1 74 1 b).toInt)
            omega
      · have ne : ¬ S.2.1 0 (b + 1) 2 = S.2.1 26 1 c := fun z => by
          rcases h2 with ⟨w1, w2⟩ | ⟨r', hr', w1, w2, _⟩
          · have : T.2.1 14 1 (hs_sz S 14) = T.2.1 26 1 c' := c14.trans (z.symm.trans (e2.symm.trans w2))
            exact hC3.2.2 _ c' hr hc' this
          · have : T.2.1 14 1 r' = T.2.1 14 1 (hs_sz S 14) := (w2.symm.trans (e2.trans z)).trans c14.symm
            rw [hC3.1 r' _ hr' hr this] at w1
            exact w w1
        have no : ∀ u, shT V (nI (hs_sz S 14)) u b = false := fun u => by
          rcases hq : shT V (nI (hs_sz S 14)) u b with _ | _
          · rfl
          · exact absurd (shT_r (by omega) hq) w
        rw [no 0, no 1, t9, p2 b (by rw [zc]; omega) (by rw [ebr]; exact ne)]
        show _ = (S.1 0 (b + 1) 9).toInt + (0 + 0)
        have : (E_Book_close (S.2.1 26 1 c) (S.1 10 1 5) S).1 0 (b + 1) 9 = S.1 0 (b + 1) 9 := rfl
        rw [this]
        omega
    rw [← z13, hzB, sI_c nB key, sI_add nB, sI_add nB, m0, m1, r6]
    omega
/-- reckoning anew changes nothing -/
theorem reckon_cl {n r : Nat} {S T : hs_S} {x : Int32} (h : KS n S) (hr : r < hs_sz S 14) (hR : R_Clr_reckon (S.2.1 14 1 r) S x T) : hs_cl T = hs_cl S := by
  obtain ⟨p1, p2, p3, p4⟩ := reckon_pin hR
  obtain ⟨V, ev, ng, nl, nE, nB, nR, nd, hX, hL, hQ, hM⟩ := KS_U h
  have hz : hs_sz S 14 = nR := hX.1.2.2.1.2.2.2.2
  have hzB : hs_sz S 13 = nB := hX.1.2.2.1.2.2.1
  rw [hz] at hr
  obtain ⟨⟨a5, a6, a7, a8⟩, a9, _, b9, _⟩ := reckon_eq hX hr (hM r hr) (fun r' hr' _ => (hQ.1 r' hr').1) hR
  obtain ⟨q5, q6, q7, q8⟩ := hQ.1 r hr
  refine cl_of (fun t i p q => ?_) p3 p4
  by_cases w : t = 8 ∧ i = S.2.1 14 1 r ∧ (p = 5 ∨ p = 6 ∨ p = 7 ∨ p = 8)
  · obtain ⟨rfl, rfl, w⟩ := w
    rcases w with rfl | rfl | rfl | rfl
    · exact a5.trans q5.symm
    · exact a6.trans q6.symm
    · exact a7.trans q7.symm
    · exact a8.trans q8.symm
  · by_cases w2 : t = 0 ∧ p = 9 ∧ ∃ k, k < hs_sz S 13 ∧ i = k + 1
    · obtain ⟨rfl, rfl, k, hk, rfl⟩ := w2
      rw [hzB] at hk
      by_cases w3 : V.1 72 1 k = nI r
      · exact (a9 k hk w3).trans (hQ.2 k hk).1.symm
      · exact b9 k hk w3
    · exact p1 t i p q w w2
theorem anew_cl {n r : Nat} {S T : hs_S} {x : Int32} (h : KS n S) (hr : r < hs_sz S 14) (hR : R_Cq_priceAnew (nI r) S x T) : hs_cl T = hs_cl S ∧ x = T.1 8 (S.2.1 14 1 r) 5 := by
  obtain ⟨U, q, h0, hs, rfl, hx⟩ := hR
  have h30 := (KS_sz h).1.2.2
  have er : (nI r).toNatClampNeg = r := hl_cl (by omega)
  have key : ∀ i, i ≤ r + 1 → hs_cl (U i) = hs_cl S := by
    intro i
    induction i with
    | zero => intro _; rw [h0]
    | succ i ih =>
      intro hi
      have e := ih (by omega)
      have s := hs i (by rw [er]; omega)
      have e14 : rd S i = (U i).2.1 14 1 i := (cl_ptR e (t := 14) (i := 1) (p := i) rfl).symm
      rw [e14] at s
      exact (reckon_cl (KS_cl e h) (by rw [tw_sz e 14 rfl]; omega) s).trans e
  rw [er] at hx ⊢
  refine ⟨key (r + 1) (Nat.le_refl _), hx.trans ?_⟩
  unfold F_Cq_roundNumbered
  rw [er]
