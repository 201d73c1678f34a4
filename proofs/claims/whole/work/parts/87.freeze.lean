/-! ===== the bell: a column freezes ===== -/
theorem cpy_at {S : hs_S} {t i j p : Nat} (h : p < 24) : (hs_cpy S t i t j 0 0 24).1 t j p = S.1 t i p := by
  show (if t = t ∧ j = j then va_cpy (S.1 t i) (S.1 t j) (0 : Int32).toNatClampNeg (0 : Int32).toNatClampNeg (24 : Int32).toNatClampNeg p else S.1 t j p) = _
  rw [if_pos ⟨rfl, rfl⟩]
  have z0 : (0 : Int32).toNatClampNeg = 0 := rfl
  have z24 : (24 : Int32).toNatClampNeg = 24 := rfl
  unfold va_cpy
  rw [z0, z24, if_pos ⟨by omega, by omega⟩]
  show S.1 t i (0 + (p - 0)) = S.1 t i p
  rw [Nat.zero_add, Nat.sub_zero]
theorem cpy_ne {S : hs_S} {t i j i' : Nat} (h : i' ≠ j) : (hs_cpy S t i t j 0 0 24).1 t i' = S.1 t i' :=
  funext fun p => (if_neg fun z => h z.2 : (if t = t ∧ i' = j then va_cpy (S.1 t i) (S.1 t j) (0 : Int32).toNatClampNeg (0 : Int32).toNatClampNeg (24 : Int32).toNatClampNeg p else S.1 t i' p) = _)
abbrev frT (S : hs_S) (R c : Nat) (e sh e' : Int32) (y : Int64) : hs_S := hs_wI (hs_wI (hs_wI (E_asks 1 (hs_wL (hs_wI (E_Rnd_freeze R e sh 1 S) 10 1 5 e') 100 1 (0 : Int32).toNatClampNeg y)) 62 1 c e) 63 1 c sh) 11 1 0 e'
theorem freeze_RR {n : Nat} {S : hs_S} {c : Nat} {y : Int64} {ev ng nl nE nB nR nd : Nat} (hS : RS n S ev ng nl nE nB nR nd) (hc : c < 4) (hn : n < 512) : RR (n + 1) (frT S (S.2.1 26 1 c) c (nI ev) (S.1 61 1 c) (nI (ev + 1)) y) := by
  obtain ⟨⟨hA, hG, hH, hE, hF, hN, hB, hC⟩, hL, hQ, hM⟩ := hS
  have hev := hA.1.1
  obtain ⟨R, hR⟩ : ∃ R, R = S.2.1 26 1 c := ⟨_, rfl⟩
  have hR1 : 1 ≤ R := by rw [hR]; exact (hC.2.1 c hc).1.1
  rw [← hR]
  have a8 : ∀ p, (frT S R c (nI ev) (S.1 61 1 c) (nI (ev + 1)) y).1 8 R p = if p = 3 then S.1 61 1 c else if p = 1 then nI ev else S.1 8 R p := fun p => by
    show (hs_wI (hs_wI S 8 R 1 (nI ev)) 8 R 3 (S.1 61 1 c)).1 8 R p = _
    rw [wI_at, wI_at]
  have n8 : ∀ i, i ≠ R → (frT S R c (nI ev) (S.1 61 1 c) (nI (ev + 1)) y).1 8 i = S.1 8 i := fun i hi => (wI_ne (S := hs_wI S 8 R 1 (nI ev)) (t := 8) hi).trans (wI_ne hi)
  have a20 : ∀ p, p < 24 → (frT S R c (nI ev) (S.1 61 1 c) (nI (ev + 1)) y).1 20 (R + 1) p = S.1 20 1 p := fun p hp => cpy_at (S := hs_wI (hs_wI S 8 R 1 (nI ev)) 8 R 3 (S.1 61 1 c)) (t := 20) hp
  have a21 : ∀ p, p < 24 → (frT S R c (nI ev) (S.1 61 1 c) (nI (ev + 1)) y).1 21 (R + 1) p = S.1 21 1 p := fun p hp => cpy_at (S := hs_cpy (hs_wI (hs_wI S 8 R 1 (nI ev)) 8 R 3 (S.1 61 1 c)) 20 1 20 (R + 1) 0 0 24) (t := 21) hp
  have n20 : ∀ i, i ≠ R + 1 → (frT S R c (nI ev) (S.1 61 1 c) (nI (ev + 1)) y).1 20 i = S.1 20 i := fun i hi => cpy_ne (S := hs_wI (hs_wI S 8 R 1 (nI ev)) 8 R 3 (S.1 61 1 c)) (t := 20) hi
  have n21 : ∀ i, i ≠ R + 1 → (frT S R c (nI ev) (S.1 61 1 c) (nI (ev + 1)) y).1 21 i = S.1 21 i := fun i hi => cpy_ne (S := hs_cpy (hs_wI (hs_wI S 8 R 1 (nI ev)) 8 R 3 (S.1 61 1 c)) 20 1 20 (R + 1) 0 0 24) (t := 21) hi
  have a62 : ∀ j, (frT S R c (nI ev) (S.1 61 1 c) (nI (ev + 1)) y).1 62 1 j = if j = c then nI ev else S.1 62 1 j := fun j => wI_at (S := S) (t := 62) (i := 1)
  have a63 : ∀ j, (frT S R c (nI ev) (S.1 61 1 c) (nI (ev + 1)) y).1 63 1 j = if j = c then S.1 61 1 c else S.1 63 1 j := fun j => wI_at (S := S) (t := 63) (i := 1)
  have gold : ∀ i e, i ≠ R + 1 → rGs S S i ng nl e → rGs (frT S R c (nI ev) (S.1 61 1 c) (nI (ev + 1)) y) (frT S R c (nI ev) (S.1 61 1 c) (nI (ev + 1)) y) i ng nl e := fun i e hi h => rG_old (U := S) (V := S) (n20 i hi) (n21 i hi) h (fun _ => rfl) (fun _ _ => rfl)
  refine ⟨ev + 1, ng, nl, nE, nB, nR, nd, ⟨⟨⟨⟨by omega, by omega⟩, by have := hA.1.2; omega⟩, ⟨rfl, rfl, hA.2.1.2.2⟩, hA.2.2⟩, gold 1 _ (by omega) (rG_up hH (by omega) hG), rH_up hH, rE_up hE, hF, hN, rB_up hB, ⟨fun r hr => ?_, fun c' hc' => ?_, hC.2.2⟩⟩, hL, ⟨fun r hr => ?_, hQ.2⟩, hM⟩
  · obtain ⟨g1, ⟨c', hc', g2, g3⟩, ⟨f, l, g4, g5, g6, g7, g8⟩, ⟨g9, g10⟩, g11⟩ := (rC_up hC).1 r hr
    have hne : S.2.1 14 1 r ≠ R := by rw [hR]; exact hC.2.2.2.2 r c hr hc
    have q := n8 _ hne
    exact ⟨g1, ⟨c', hc', g2, (congrFun q 0).trans g3⟩, ⟨f, l, g4, g5, (congrFun q 1).trans g6, g7, (congrFun q 2).trans g8⟩, ⟨(congrFun q 3).trans g9, g10⟩, gold (S.2.1 14 1 r + 1) _ (by omega) g11⟩
  · obtain ⟨g1, ⟨g2, g3⟩, g4, g5⟩ := hC.2.1 c' hc'
    by_cases z : c' = c
    · subst z
      have e26 : (frT S R c' (nI ev) (S.1 61 1 c') (nI (ev + 1)) y).2.1 26 1 c' = R := hR.symm
      have i61 := hN c' hc'
      have b0 := (a8 0).trans ((if_neg (by decide)).trans (if_neg (by decide)))
      have b1 := (a8 1).trans ((if_neg (by decide)).trans (if_pos rfl))
      have b2 := (a8 2).trans ((if_neg (by decide)).trans (if_neg (by decide)))
      have b3 := (a8 3).trans (if_pos rfl)
      have b62 := (a62 c').trans (if_pos rfl)
      have b63 := (a63 c').trans (if_pos rfl)
      unfold rC2
      rw [e26, b0, b1, b2, b3, b62, b63, hR]
      refine ⟨g1, ⟨g2, g3⟩, Or.inr ⟨ev, by omega, rfl, rfl, rfl, ?_⟩, i61.2.2⟩
      rw [← hR]
      intro k hk
      obtain ⟨w1, w2, w3⟩ := hG k hk
      rw [a20 k hk, a21 k hk]
      exact ⟨w1, w2, w3⟩
    · have hne : S.2.1 26 1 c' ≠ R := by rw [hR]; exact fun w => z (hC.2.2.2.1 c' c hc' hc w)
      have q := n8 _ hne
      unfold rC2
      have e26 : (frT S R c (nI ev) (S.1 61 1 c) (nI (ev + 1)) y).2.1 26 1 c' = S.2.1 26 1 c' := rfl
      rw [e26, q, a62, a63, if_neg z, if_neg z]
      refine ⟨g1, ⟨g2, g3⟩, g4.imp_right ?_, g5⟩
      rintro ⟨f, hf, w1, w2, w3, w4⟩
      exact ⟨f, by omega, w1, w2, w3, gold (S.2.1 26 1 c' + 1) _ (by omega) w4⟩
  · have hne : S.2.1 14 1 r ≠ R := by rw [hR]; exact hC.2.2.2.2 r c hr hc
    have q := n8 _ hne
    obtain ⟨g1, g2, g3, g4⟩ := hQ.1 r hr
    exact ⟨(congrFun q 5).trans g1, (congrFun q 6).trans g2, (congrFun q 7).trans g3, (congrFun q 8).trans g4⟩
