/-! ===== the bell ===== -/
/-- rounds that were there stay as they were, when another is closed -/
theorem blT_mR {n : Nat} {U S : hs_S} {ev ng nl nE nB nR nd r c : Nat} {e' : Int32} {q : Nat → Int32} (hX : RX n U S ev ng nl nE nB nR nd) (hr : r < nR) (h30 : nR < 30) (hq : ∀ b, q b = if b < nB ∧ S.1 66 1 b = nI c ∧ S.1 72 1 b = -1 then nI nR else S.1 72 1 b) (h : mR S ng nl nE nB nR r) : mR (blT S nR c (nI ev) e' q) ng nl nE nB (nR + 1) r := by
  obtain ⟨hA, hG, hH, hE, hF, hN, hB, hC⟩ := hX
  have hev := hA.1.1
  have hR30 := hA.1.2.2.2.1
  obtain ⟨_, ⟨x, hx, x2, _⟩, ⟨f, l, ⟨c4, c5⟩, c6, _⟩, _⟩ := hC.1 r hr
  have b77 : (blT S nR c (nI ev) e' q).1 77 1 r = S.1 77 1 r := bl77.trans (if_neg (by omega))
  have b78 : (blT S nR c (nI ev) e' q).1 78 1 r = S.1 78 1 r := bl78.trans (if_neg (by omega))
  have b80 : (blT S nR c (nI ev) e' q).1 80 1 r = S.1 80 1 r := bl80.trans (if_neg (by omega))
  have e72 : ∀ b, (blT S nR c (nI ev) e' q).1 72 1 b = q b := fun _ => rfl
  have see : S.1 78 1 r ≤ nI ev := by rw [c6]; exact (hl_le (by omega) (by omega)).mpr (by omega)
  have hg : gEq (mX (blT S nR c (nI ev) e' q) ng nl nE nB (nR + 1) (S.1 78 1 r)) (mX S ng nl nE nB nR (S.1 78 1 r)) := by
    refine mX_eq hE hA.1.2.2.1.1 (fun _ => rfl) (fun _ _ => rfl) (fun _ => rfl) (fun _ _ => ⟨rfl, fun _ _ => rfl⟩) (fun w => ?_) (fun w => ?_)
    · refine lastR_old (fun k hk => ⟨bl77.trans (if_neg (by omega)), bl79.trans (if_neg (by omega)), fun _ => rfl⟩) (nR + 1) (by omega) fun k a b => ?_
      have : k = nR := by omega
      rw [bl79, if_pos this]
      exact see
    · refine baR_old (fun k hk => ⟨⟨rfl, rfl, rfl, rfl⟩, ?_⟩) nB (Nat.le_refl _) fun k a b => absurd a (by omega)
      unfold thR
      refine and_congr Iff.rfl (and_congr ?_ Iff.rfl)
      rw [e72, hq k]
      obtain ⟨y, hy, g2, g3⟩ := (hB k hk).2
      by_cases z : k < nB ∧ S.1 66 1 k = nI c ∧ S.1 72 1 k = -1
      · rw [if_pos z, hl_cl (by omega), bl79, if_pos rfl]
        exact ⟨fun _ => Or.inl z.2.2, fun _ => Or.inr see⟩
      · rw [if_neg z]
        rcases g3 with ⟨g4, _⟩ | ⟨r', hr', g4, _⟩
        · exact ⟨fun _ => Or.inl g4, fun _ => Or.inl g4⟩
        · rw [g4, hl_cl (by omega), bl79, if_neg (by omega)]
  have hS : mSame S (blT S nR c (nI ev) e' q) nB nB r := ⟨⟨Nat.le_refl _, hA.1.2.2.1.2, by omega⟩, fun b hb => ?_, fun b h1 h2 => absurd h1 (by omega), fun b hb h72 => ⟨⟨rfl, rfl, rfl⟩, rfl, rfl, rfl⟩, b80, rfl, rfl⟩
  · refine ⟨?_, mR_2 hS h.2.1 h.2.2.1 h.2.2.2⟩
    rw [b77, b78]
    exact mR_1 (V := S) h hx x2 hg
  · rw [e72, hq b]
    by_cases z : b < nB ∧ S.1 66 1 b = nI c ∧ S.1 72 1 b = -1
    · rw [if_pos z, z.2.2]
      exact ⟨fun w => absurd ((hl_inj (by omega) (by omega)).mp w) (by omega), fun w => absurd w.symm (neg1 (by omega))⟩
    · rw [if_neg z]
theorem bell_fin {n : Nat} {S S12 V8 T0 : hs_S} {c : Nat} {x : Int32} {ev ng nl nE nB nR nd : Nat} {q : Nat → Int32} (hS : RS n S ev ng nl nE nB nR nd) (hn : n < 512) (hc : c < 4) (h62 : ¬ S.1 62 1 c = -1) (h30 : nR < 30) (hq : ∀ b, q b = if b < nB ∧ S.1 66 1 b = nI c ∧ S.1 72 1 b = -1 then nI nR else S.1 72 1 b)
    (hRc : R_Clr_reckon (S.2.1 26 1 c) (E_Book_close (S.2.1 26 1 c) (nI ev) S) x S12)
    (hV8 : hs_mo (hs_c0 (nI (ev + 1)) V8) = hs_mo (blT S nR c (nI ev) (nI (ev + 1)) q)) (v0 : V8.1 11 1 0 = nI ev) (v1 : ∀ t i p, t < 42 → t ≠ 11 → V8.1 t i p = (hs_ck (nI (ev + 1)) S12).1 t i p) (v2 : V8.2.1 = S12.2.1) (v3 : V8.2.2.2 = S12.2.2.2)
    (h59 : V8.1 11 1 59 = 0) (hout : V8.2.2.1 100 1 0 = (nI nR).toInt64) (hRm : R_clears (nI nR) V8 T0) : OK n 0 (nI nR) (E_act 0 T0) := by
  obtain ⟨hX, hL, hQ, hM⟩ := hS
  have hA := hX.1
  have hC := hX.2.2.2.2.2.2.2
  have hev := hA.1.1
  have h80 := hA.1.2.2.1.2
  have hX8 := close_RX (q := q) hX hn hc h62 h30 hq
  obtain ⟨R, hR⟩ : ∃ R, R = S.2.1 26 1 c := ⟨_, rfl⟩
  have hcl0 : hs_cl T0 = hs_cl T0 := rfl
  have hRm' := c0_clears (v := nI (ev + 1)) hRm
  have hX8' : RX (n + 1) (hs_wI (E_Book_close (S.2.1 26 1 c) (nI ev) S) 10 1 5 (nI (ev + 1))) (hs_c0 (nI (ev + 1)) V8) (ev + 1) ng nl nE nB (nR + 1) nd := RX_cm rfl hV8 hX8
  have t0 : T0.1 11 1 0 = nI ev := by
    obtain ⟨f1, v1', f2, v2', q', _, hcl, _⟩ := hRm
    exact (cl_pt hcl rfl).trans v0
  have eT : E_act 0 T0 = hs_c0 (nI (ev + 1)) T0 := by
    unfold E_act hs_c0
    rw [t0, nI_1]
  rw [eT]
  rw [← hR] at hRc hX8 hX8'
  obtain ⟨why, price, fee, vol, q2, hcl, hq2, hmR⟩ := clears_mR hX8' (show nR < nR + 1 by omega) hRm'
  have pm : ∀ t i p, hs_km t p = false → (hs_c0 (nI (ev + 1)) V8).1 t i p = (blT S nR c (nI ev) (nI (ev + 1)) q).1 t i p := fun t i p h => by
    have := congrFun (congrFun (congrFun (congrArg Prod.fst hV8) t) i) p
    have e1 : (if hs_km t p = true then 0 else (hs_c0 (nI (ev + 1)) V8).1 t i p) = if hs_km t p = true then 0 else (blT S nR c (nI ev) (nI (ev + 1)) q).1 t i p := this
    rw [h] at e1
    exact e1
  have hXT : RX (n + 1) (hs_wI (E_Book_close R (nI ev) S) 10 1 5 (nI (ev + 1))) (hs_c0 (nI (ev + 1)) T0) (ev + 1) ng nl nE nB (nR + 1) nd := by
    refine RX_cm rfl (cl_mo hcl) ?_
    obtain ⟨a, b, c, d, e, f, g, i⟩ := hX8'
    exact ⟨a, b, c, d, e, f, g, i⟩
  have hMT : rM (hs_c0 (nI (ev + 1)) T0) ng nl nE nB (nR + 1) := fun r hr => by
    refine mR_cl hcl ?_
    by_cases z : r = nR
    · rw [z]; exact hmR
    · refine clW_mR hX8' (by omega) hr z hq2 ?_ (mR_mo hV8 (blT_mR hX (by omega) h30 hq (hM r (by omega))))
      rw [pm 78 1 r rfl, pm 79 1 nR rfl, bl78, bl79, if_neg z, if_pos rfl]
      obtain ⟨_, _, ⟨f, l, ⟨c4, c5⟩, c6, _⟩, _⟩ := hC.1 r (by omega)
      rw [c6]
      exact (hl_le (by omega) (by omega)).mpr (by omega)
  -- rows of the reference in the end
  have f1 : ∀ t p, hs_km t p = false → t ≠ 74 → t ≠ 81 → t ≠ 82 → t ≠ 83 → t ≠ 84 → hs_scr t p = false → (hs_c0 (nI (ev + 1)) T0).1 t 1 p = (blT S nR c (nI ev) (nI (ev + 1)) q).1 t 1 p := fun t p h h1 h2 h3 h4 h5 h6 => by
    rw [cl_pt hcl h6, clW_pt h1 h2 h3 h4 h5]
    exact pm t 1 p h
  have t81 : ∀ r, r ≠ nR → (hs_c0 (nI (ev + 1)) T0).1 81 1 r = S.1 81 1 r := fun r hr => (cl_pt hcl rfl).trans ((cw81 r).trans ((if_neg hr).trans (pm 81 1 r rfl)))
  have t82 : ∀ r, r ≠ nR → (hs_c0 (nI (ev + 1)) T0).1 82 1 r = S.1 82 1 r := fun r hr => (cl_pt hcl rfl).trans ((cw82 r).trans ((if_neg hr).trans (pm 82 1 r rfl)))
  have t83 : ∀ r, r ≠ nR → (hs_c0 (nI (ev + 1)) T0).1 83 1 r = S.1 83 1 r := fun r hr => (cl_pt hcl rfl).trans ((cw83 r).trans ((if_neg hr).trans (pm 83 1 r rfl)))
  have t84 : ∀ r, r ≠ nR → (hs_c0 (nI (ev + 1)) T0).1 84 1 r = S.1 84 1 r := fun r hr => (cl_pt hcl rfl).trans ((cw84 r).trans ((if_neg hr).trans (pm 84 1 r rfl)))
  have t72 : ∀ b, (hs_c0 (nI (ev + 1)) T0).1 72 1 b = q b := fun b => f1 72 b rfl (by decide) (by decide) (by decide) (by decide) (by decide) rfl
  have t79 : ∀ r, (hs_c0 (nI (ev + 1)) T0).1 79 1 r = if r = nR then nI ev else S.1 79 1 r := fun r => (f1 79 r rfl (by decide) (by decide) (by decide) (by decide) (by decide) rfl).trans bl79
  have t74 : ∀ b, ¬ (b < nB ∧ q b = nI nR) → (hs_c0 (nI (ev + 1)) T0).1 74 1 b = S.1 74 1 b := fun b hb => (cl_pt hcl rfl).trans ((hq2 b (by rw [pm 72 1 b rfl]; exact hb)).trans (pm 74 1 b rfl))
  -- the class
  obtain ⟨g14, g14'⟩ : (hs_wI (E_Book_close R (nI ev) S) 10 1 5 (nI (ev + 1))).2.1 14 1 nR = R ∧ ∀ r, r < nR → (hs_wI (E_Book_close R (nI ev) S) 10 1 5 (nI (ev + 1))).2.1 14 1 r = S.2.1 14 1 r := by
    have hz : hs_sz S 14 = nR := hA.2.2.1.2.2.2.2
    refine ⟨(cl14 (S := S) (R := R) (e := nI ev) (j := nR)).trans (by rw [hz, if_pos rfl]), fun r hr => (cl14 (S := S) (R := R) (e := nI ev) (j := r)).trans (by rw [hz, if_neg (by omega)])⟩
  have o8 : ∀ r, r < nR → (hs_wI (E_Book_close R (nI ev) S) 10 1 5 (nI (ev + 1))).1 8 (S.2.1 14 1 r) = S.1 8 (S.2.1 14 1 r) := fun r hr => cl8o (hC.1 r hr).1.2 (by rw [hR]; exact hC.2.2.2.2 r c hr hc)
  have hRc' := ck_reckon (v := nI (ev + 1)) hRc
  have hrk := reckon_eq (T := hs_ck (nI (ev + 1)) S12) (x := x) hXT (show nR < nR + 1 by omega) (hMT nR (by omega)) (fun r' hr' z => by
    by_cases w : r' = nR
    · subst w
      refine absurd ?_ z
      rw [t79, if_pos rfl, f1 78 r' rfl (by decide) (by decide) (by decide) (by decide) (by decide) rfl, bl78, if_pos rfl]
      obtain ⟨f, hf, r7, _⟩ := (hC.2.1 c hc).2.2.1.resolve_left fun z => h62 z.1
      rw [r7]
      exact (hl_le (by omega) (by omega)).mpr (by omega)
    · rw [g14' r' (by omega), o8 r' (by omega), t81 r' w]
      exact (hQ.1 r' (by omega)).1) (by rw [g14]; exact hRc')
  rw [g14] at hrk
  obtain ⟨k1, k2, k3, k4, _⟩ := hrk
  have kf := reckon_kf hRc'
  have cT : ∀ t i p, t < 42 → t ≠ 11 → hs_scr t p = false → (hs_c0 (nI (ev + 1)) T0).1 t i p = (hs_ck (nI (ev + 1)) S12).1 t i p := fun t i p h1 h2 h3 => by
    rw [cl_pt hcl h3, clW_pt (by omega) (by omega) (by omega) (by omega) (by omega)]
    exact (if_neg fun z => h2 z.1).trans (v1 t i p h1 h2)
  have cR : ∀ t i p, hs_scR t p = false → (hs_c0 (nI (ev + 1)) T0).2.1 t i p = S12.2.1 t i p := fun t i p h => by
    rw [cl_ptR hcl h, ← v2]
    rfl
  have hco : hs_co (hs_c0 (nI (ev + 1)) T0) = hs_co (hs_wI (E_Book_close R (nI ev) S) 10 1 5 (nI (ev + 1))) := by
    refine co_of (fun t i p h1 h2 h3 h4 => ?_) (fun t i p h => ?_) ?_
    · rw [cT t i p h1 h2 h4]; exact kf.2.2 t i p h3
    · rw [cR t i p h]
      unfold hs_scR at h
      simp only [Bool.or_eq_false_iff, Bool.and_eq_false_iff, beq_eq_false_iff_ne] at h
      exact kf.2.1 t i p h.1 (by omega)
    · refine (congrArg Prod.snd (cl_22 hcl)).trans ?_
      exact v3.trans (congrArg Prod.snd kf.1)
  have r14 : ∀ r, (hs_c0 (nI (ev + 1)) T0).2.1 14 1 r = (hs_wI (E_Book_close R (nI ev) S) 10 1 5 (nI (ev + 1))).2.1 14 1 r := fun r => (cR 14 1 r rfl).trans (kf.2.1 14 1 r (by decide) (fun z => absurd z.1 (by decide)))
  have e36 : (hs_c0 (nI (ev + 1)) T0).1 11 1 36 = nI (nR + 1) := f1 11 36 rfl (by decide) (by decide) (by decide) (by decide) (by decide) rfl
  refine ⟨⟨ev + 1, ng, nl, nE, nB, nR + 1, nd, RX_cm hco rfl hXT, ?_, ⟨fun r hr => ?_, fun b hb => ⟨?_, fun h72 => ?_⟩⟩, hMT⟩, ?_, fun _ => ?_⟩
  · refine rL_of (S := S) (funext fun p => ?_) (funext fun p => ?_) (funext fun p => ?_) (funext fun p => ?_) (funext fun p => ?_) (funext fun p => ?_) ⟨fun j h1 h2 => ?_, fun b h1 h2 => ?_, fun r r' h1 h2 => ?_⟩ hL
    · exact (cT 35 1 p (by decide) (by decide) rfl).trans (kf.2.2 35 1 p rfl)
    · exact (cT 36 1 p (by decide) (by decide) rfl).trans (kf.2.2 36 1 p rfl)
    · exact (cT 37 1 p (by decide) (by decide) rfl).trans (kf.2.2 37 1 p rfl)
    · have e1 : (hs_c0 (nI (ev + 1)) V8).2.2.1 86 1 p = (blT S nR c (nI ev) (nI (ev + 1)) q).2.2.1 86 1 p := congrFun (congrFun (congrFun (congrArg (fun z => z.2.2.1) hV8) 86) 1) p
      exact (congrFun (congrFun (congrFun (congrArg Prod.fst (cl_22 hcl)) 86) 1) p).trans e1
    · exact f1 87 p rfl (by decide) (by decide) (by decide) (by decide) (by decide) rfl
    · exact f1 88 p rfl (by decide) (by decide) (by decide) (by decide) (by decide) rfl
    · have e1 : (hs_c0 (nI (ev + 1)) T0).1 58 1 j = S.1 58 1 j := f1 58 j rfl (by decide) (by decide) (by decide) (by decide) (by decide) rfl
      have e2 : (hs_c0 (nI (ev + 1)) T0).1 11 1 12 = S.1 11 1 12 := f1 11 12 rfl (by decide) (by decide) (by decide) (by decide) (by decide) rfl
      rw [e1]
      rw [e2] at h1
      exact hL.2.2.2.1 j h1 h2
    · have e1 : (hs_c0 (nI (ev + 1)) T0).1 73 1 b = S.1 73 1 b := f1 73 b rfl (by decide) (by decide) (by decide) (by decide) (by decide) rfl
      have e2 : (hs_c0 (nI (ev + 1)) T0).1 11 1 24 = S.1 11 1 24 := f1 11 24 rfl (by decide) (by decide) (by decide) (by decide) (by decide) rfl
      rw [e2] at h1
      have h1' : nB ≤ b := by rw [hA.2.1.2.2.2.2.2.1, hl_cl (by omega)] at h1; exact h1
      rw [e1, t74 b fun z => by omega]
      exact hL.2.2.2.2.1 b h1 h2
    · rw [e36, hl_cl (by omega)] at h2
      rw [t79, t79, if_neg (by omega)]
      by_cases z : r' = nR
      · rw [if_pos z]
        obtain ⟨_, _, ⟨f, l, ⟨c4, c5⟩, _, _, c8, _⟩, _⟩ := hC.1 r (by omega)
        rw [c8]
        exact nI_lt2 (by omega) c5
      · rw [if_neg z]
        exact hL.2.2.2.2.2 r r' h1 (by rw [hA.2.1.2.2.2.2.2.2.1, hl_cl (by omega)]; omega)
  · rw [r14]
    by_cases z : r = nR
    · rw [z, g14, cT 8 _ 5 (by decide) (by decide) rfl, cT 8 _ 6 (by decide) (by decide) rfl, cT 8 _ 7 (by decide) (by decide) rfl, cT 8 _ 8 (by decide) (by decide) rfl]
      exact k1
    · have hne : S.2.1 14 1 r ≠ R := by rw [hR]; exact hC.2.2.2.2 r c (by omega) hc
      rw [g14' r (by omega), cT 8 _ 5 (by decide) (by decide) rfl, cT 8 _ 6 (by decide) (by decide) rfl, cT 8 _ 7 (by decide) (by decide) rfl, cT 8 _ 8 (by decide) (by decide) rfl, k3 _ 5 hne, k3 _ 6 hne, k3 _ 7 hne, k3 _ 8 hne, o8 r (by omega), t81 r z, t82 r z, t83 r z, t84 r z]
      exact hQ.1 r (by omega)
  · rw [cT 0 _ 9 (by decide) (by decide) rfl]
    by_cases z : q b = nI nR
    · exact k2 b hb ((t72 b).trans z)
    · rw [k4 b hb (by rw [t72]; exact z), t74 b fun w => z w.2]
      exact (hQ.2 b hb).1
  · rw [t72] at h72
    rw [t74 b fun w => neg1 (k := nR) (by omega) (w.2.symm.trans h72)]
    refine (hQ.2 b hb).2 ?_
    rw [hq b] at h72
    by_cases z : b < nB ∧ S.1 66 1 b = nI c ∧ S.1 72 1 b = -1
    · exact z.2.2
    · rw [if_neg z] at h72; exact h72
  · refine (cl_pt hcl rfl).trans ?_
    exact h59
  · refine Eq.trans (congrFun (congrFun (congrFun (congrArg Prod.fst (cl_22 hcl)) 100) 1) 0) ?_
    exact hout
