/-! ===== bids and edits are struck ===== -/
theorem reckonAll_kf {S T : hs_S} {x : Int32} (h : R_Clr_reckonAll S x T) : KF S T := by
  obtain ⟨U, q, h0, hs, rfl, _⟩ := h
  have : ∀ i, i ≤ hs_sz S 14 → KF S (U i) := by
    intro i
    induction i with
    | zero => intro _; rw [h0]; exact KF.rf
    | succ i ih => intro hi; exact (ih (by omega)).tr (reckon_kf (hs i (by omega)))
  exact this _ (Nat.le_refl _)
theorem RX_ev {n : Nat} {U V : hs_S} {ev ng nl nE nB nR nd : Nat} (h : RX n U V ev ng nl nE nB nR nd) (hn : n < 512) : RX (n + 1) (hs_wI U 10 1 5 (nI (ev + 1))) (hs_wI V 11 1 0 (nI (ev + 1))) (ev + 1) ng nl nE nB nR nd := by
  obtain ⟨hA, hG, hH, hE, hF, hN, hB, hC⟩ := h
  have hev := hA.1.1.1
  have hG' := rG_up hH (by omega) hG
  have hH' := rH_up hH
  have hE' := rE_up hE
  have hB' := rB_up hB
  have hC' := rC_up hC
  exact ⟨⟨⟨⟨by omega, by omega⟩, by have := hA.1.2; omega⟩, ⟨rfl, rfl, hA.2.1.2.2⟩, hA.2.2⟩, hG', hH', hE', hF, hN, hB', hC'⟩
theorem rL_of {S T : hs_S} (h35 : T.1 35 1 = S.1 35 1) (h36 : T.1 36 1 = S.1 36 1) (h37 : T.1 37 1 = S.1 37 1) (h86 : T.2.2.1 86 1 = S.2.2.1 86 1) (h87 : T.1 87 1 = S.1 87 1) (h88 : T.1 88 1 = S.1 88 1) (hZ : rZ T) (k : rL S S) : rL T T := by
  obtain ⟨k1, k2, k3, _⟩ := k
  refine ⟨?_, ?_, ?_, hZ⟩
  · rw [h36, h37, h87, h88]; exact k1
  · rw [h35, h86]; exact k2
  · rw [h86]; exact k3
theorem cntQ_iff {q q' : Nat → Int32} : ∀ k, (∀ i, i < k → (q i = 0 ↔ q' i = 0)) → cntQ q k = cntQ q' k := by
  intro k
  induction k with
  | zero => intro _; rfl
  | succ k ih =>
    intro h
    unfold cntQ
    rw [ih fun i hi => h i (by omega)]
    by_cases z : q k = 0
    · rw [if_pos z, if_pos ((h k (by omega)).mp z)]
    · rw [if_neg z, if_neg fun w => z ((h k (by omega)).mpr w)]
theorem ko_lo {t p : Nat} (h : t < 42) (h2 : t ≠ 11) (h3 : hs_fr t p = false) (h4 : hs_scr t p = false) : hs_ko t p = false := by
  unfold hs_ko
  rw [h3, h4, decide_eq_false (by omega), beq_eq_false_iff_ne.mpr h2]
  rfl
theorem ska_lo {t : Nat} (h : t < 42) : hs_ska t = false := by
  unfold hs_ska
  simp only [Bool.or_eq_false_iff, beq_eq_false_iff_ne]
  omega
theorem anew_fin {n : Nat} {S C0 M0 S10 V8 T0 : hs_S} {xc xm : Int32} {ev ng nl nE nB nR nd : Nat} (hS : RS n S ev ng nl nE nB nR nd) (hn : n < 512) (hX0 : RX n C0 M0 ev ng nl nE nB nR nd)
    (c8 : C0.1 8 = S.1 8) (c14 : C0.2.1 14 = S.2.1 14) (c9 : ∀ b, C0.1 0 (b + 1) 9 = S.1 0 (b + 1) 9) (c35 : C0.1 35 = S.1 35) (c36 : C0.1 36 = S.1 36) (c37 : C0.1 37 = S.1 37)
    (m81 : M0.1 81 1 = S.1 81 1) (m82 : M0.1 82 1 = S.1 82 1) (m83 : M0.1 83 1 = S.1 83 1) (m84 : M0.1 84 1 = S.1 84 1) (m74 : M0.1 74 1 = S.1 74 1) (m72 : M0.1 72 1 = S.1 72 1) (m86 : M0.2.2.1 86 1 = S.2.2.1 86 1) (m87 : M0.1 87 1 = S.1 87 1) (m88 : M0.1 88 1 = S.1 88 1) (mZ : rZ M0)
    (hRc : R_Clr_reckonAll (hs_wI C0 10 1 5 (nI (ev + 1))) xc S10) (hV8 : hs_mo V8 = hs_mo M0) (v1 : ∀ t i p, t < 42 → t ≠ 11 → V8.1 t i p = S10.1 t i p) (v2 : V8.2.1 = S10.2.1) (v3 : V8.2.2.2 = S10.2.2.2)
    (h59 : V8.1 11 1 59 = 0) (hout : V8.2.2.1 100 1 0 = xc.toInt64) (hRm : R_clearsAll V8 xm T0) : OK n 0 xm (E_act xm T0) := by
  have hA := hX0.1
  have hev := hA.1.1
  have hR30 := hA.1.2.2.2.1
  have h80 := hA.1.2.2.1.2
  have e36 : M0.1 11 1 36 = nI nR := hA.2.1.2.2.2.2.2.2.1
  have e24 : M0.1 11 1 24 = nI nB := hA.2.1.2.2.2.2.2.1
  -- rows of the reference before reckoning
  have pm : ∀ t i p, hs_km t p = false → V8.1 t i p = M0.1 t i p := fun t i p h => by
    have := congrFun (congrFun (congrFun (congrArg Prod.fst hV8) t) i) p
    have e1 : (if hs_km t p = true then 0 else V8.1 t i p) = if hs_km t p = true then 0 else M0.1 t i p := this
    rw [h] at e1
    exact e1
  have hX8 : RX n C0 V8 ev ng nl nE nB nR nd := RX_cm rfl hV8 hX0
  have hO : ordR V8 nR := fun r r' h1 h2 => by
    rw [pm 79 1 r rfl, pm 79 1 r' rfl]
    exact mZ.2.2 r r' h1 (by rw [e36, hl_cl (by omega)]; exact h2)
  obtain ⟨hXT, hMT, ⟨f1, f2, f3⟩, f4, qm, exm, hqm⟩ := clearsAll_mR hX8 hO hRm
  have hXE : RX (n + 1) (hs_wI C0 10 1 5 (nI (ev + 1))) (E_act xm T0) (ev + 1) ng nl nE nB nR nd := by
    have := RX_ev hXT hn
    have e0 : T0.1 11 1 0 + 1 = nI (ev + 1) := by rw [hXT.1.2.1.2.1]; exact nI_1 ev
    unfold E_act
    rw [e0]
    exact this
  have hME : rM (E_act xm T0) ng nl nE nB nR := fun r hr => by
    have := hMT r hr
    exact this
  have t72 : ∀ b, T0.1 72 1 b = S.1 72 1 b := fun b => (f1 72 1 b rfl rfl).trans ((pm 72 1 b rfl).trans (congrFun m72 b))
  have o74 : ∀ b, V8.1 74 1 b = S.1 74 1 b := fun b => (pm 74 1 b rfl).trans (congrFun m74 b)
  have o81 : ∀ b, V8.1 81 1 b = S.1 81 1 b := fun b => (pm 81 1 b rfl).trans (congrFun m81 b)
  have o82 : ∀ b, V8.1 82 1 b = S.1 82 1 b := fun b => (pm 82 1 b rfl).trans (congrFun m82 b)
  have o83 : ∀ b, V8.1 83 1 b = S.1 83 1 b := fun b => (pm 83 1 b rfl).trans (congrFun m83 b)
  have t74 : ∀ b, b < nB → S.1 72 1 b = -1 → T0.1 74 1 b = S.1 74 1 b := fun b hb h => by
    rw [f4 b fun ⟨_, r, hr, er⟩ => ?_, o74]
    rw [pm 72 1 b rfl, m72, h] at er
    exact neg1 (by omega) er.symm
  have hOE : ordR (E_act xm T0) nR := fun r r' h1 h2 => by
    have a1 : ∀ r, (E_act xm T0).1 79 1 r = V8.1 79 1 r := fun r => f1 79 1 r rfl rfl
    rw [a1, a1]
    exact hO r r' h1 h2
  obtain ⟨g1, ⟨g2, g3⟩, qc, exc, hqc⟩ := reckonAll_eq (a81 := S.1 81 1) (a82 := S.1 82 1) (a83 := S.1 83 1) (a84 := S.1 84 1) (a74 := S.1 74 1) hXE hME hOE (fun r hr => by
    show C0.1 8 (C0.2.1 14 1 r) 5 = _ ∧ C0.1 8 (C0.2.1 14 1 r) 6 = _ ∧ C0.1 8 (C0.2.1 14 1 r) 7 = _ ∧ C0.1 8 (C0.2.1 14 1 r) 8 = _
    rw [c8, c14]
    exact hS.2.2.1.1 r hr) (fun b hb => by
    show C0.1 0 (b + 1) 9 = _
    rw [c9]
    exact (hS.2.2.1.2 b hb).1) (fun b hb h => t74 b hb ((t72 b).symm.trans h)) hRc
  have ecnt : xc = xm := by
    rw [exc, exm]
    refine cntQ_iff nR fun i hi => ?_
    rw [hqc i hi, hqm i hi, o81, o82, o83]
    refine and_congr Iff.rfl ⟨fun z b hb h72 => ?_, fun z b hb h72 => ?_⟩
    · rw [o74]
      refine (z b hb ?_).symm
      rw [show (E_act xm T0).1 72 1 b = T0.1 72 1 b from rfl, f1 72 1 b rfl rfl]; exact h72
    · have h72' : V8.1 72 1 b = nI i := by rw [← f1 72 1 b rfl rfl]; exact h72
      have := z b hb h72'
      rw [o74] at this
      exact this.symm
  -- the class's rows in the end
  have cT : ∀ t i p, t < 42 → t ≠ 11 → hs_scr t p = false → (E_act xm T0).1 t i p = S10.1 t i p := fun t i p h1 h2 h3 => by
    have e1 : (E_act xm T0).1 t i p = T0.1 t i p := if_neg fun z => h2 z.1
    rw [e1, f1 t i p h3 (ska_lo h1)]
    exact v1 t i p h1 h2
  have cR : ∀ t i p, hs_scR t p = false → (E_act xm T0).2.1 t i p = S10.2.1 t i p := fun t i p h => by
    show T0.2.1 t i p = _
    rw [f2 t i p h, v2]
  have hco : hs_co (E_act xm T0) = hs_co (hs_wI C0 10 1 5 (nI (ev + 1))) := by
    refine co_of (fun t i p h1 h2 h3 h4 => ?_) (fun t i p h => ?_) ?_
    · rw [cT t i p h1 h2 h4]; exact g1.2.2 t i p h3
    · rw [cR t i p h]
      unfold hs_scR at h
      simp only [Bool.or_eq_false_iff, Bool.and_eq_false_iff, beq_eq_false_iff_ne] at h
      exact g1.2.1 t i p h.1 (by omega)
    · show T0.2.2.2 = _
      rw [f3, v3, congrArg Prod.snd g1.1]
  have r14 : ∀ r, (E_act xm T0).2.1 14 1 r = C0.2.1 14 1 r := fun r => (cR 14 1 r rfl).trans (g1.2.1 14 1 r (by decide) (fun z => absurd z.1 (by decide)))
  refine ⟨⟨ev + 1, ng, nl, nE, nB, nR, nd, RX_cm hco rfl hXE, ?_, ⟨fun r hr => ?_, fun b hb => ⟨?_, fun h72 => ?_⟩⟩, hME⟩, ?_, fun _ => ?_⟩
  · refine rL_of (S := S) (funext fun p => ?_) (funext fun p => ?_) (funext fun p => ?_) (funext fun p => ?_) (funext fun p => ?_) (funext fun p => ?_) ⟨fun j h1 h2 => ?_, fun b h1 h2 => ?_, fun r r' h1 h2 => hOE r r' h1 ?_⟩ hS.2.1
    · exact (cT 35 1 p (by decide) (by decide) rfl).trans ((g1.2.2 35 1 p rfl).trans (congrFun (congrFun c35 1) p))
    · exact (cT 36 1 p (by decide) (by decide) rfl).trans ((g1.2.2 36 1 p rfl).trans (congrFun (congrFun c36 1) p))
    · exact (cT 37 1 p (by decide) (by decide) rfl).trans ((g1.2.2 37 1 p rfl).trans (congrFun (congrFun c37 1) p))
    · have e1 : V8.2.2.1 86 1 p = M0.2.2.1 86 1 p := congrFun (congrFun (congrFun (congrArg (fun z => z.2.2.1) hV8) 86) 1) p
      show T0.2.2.1 86 1 p = _
      rw [f3, e1, m86]
    · exact (f1 87 1 p rfl rfl).trans ((pm 87 1 p rfl).trans (congrFun m87 p))
    · exact (f1 88 1 p rfl rfl).trans ((pm 88 1 p rfl).trans (congrFun m88 p))
    · have e1 : (E_act xm T0).1 58 1 j = M0.1 58 1 j := (f1 58 1 j rfl rfl).trans (pm 58 1 j rfl)
      have e2 : (E_act xm T0).1 11 1 12 = M0.1 11 1 12 := (f1 11 1 12 rfl rfl).trans (pm 11 1 12 rfl)
      rw [e1]
      rw [e2] at h1
      exact mZ.1 j h1 h2
    · have e1 : (E_act xm T0).1 73 1 b = M0.1 73 1 b := (f1 73 1 b rfl rfl).trans (pm 73 1 b rfl)
      have e2 : (E_act xm T0).1 11 1 24 = M0.1 11 1 24 := (f1 11 1 24 rfl rfl).trans (pm 11 1 24 rfl)
      rw [e2] at h1
      have e3 : (E_act xm T0).1 74 1 b = M0.1 74 1 b := (f4 b fun z => ?_).trans (pm 74 1 b rfl)
      · rw [e1, e3]
        exact mZ.2.1 b h1 h2
      · rw [e24, hl_cl (by omega)] at h1
        omega
    · have e2 : (E_act xm T0).1 11 1 36 = M0.1 11 1 36 := (f1 11 1 36 rfl rfl).trans (pm 11 1 36 rfl)
      rw [e2, e36, hl_cl (by omega)] at h2
      exact h2
  · rw [r14, cT 8 _ 5 (by decide) (by decide) rfl, cT 8 _ 6 (by decide) (by decide) rfl, cT 8 _ 7 (by decide) (by decide) rfl, cT 8 _ 8 (by decide) (by decide) rfl]
    exact g2 r hr
  · rw [cT 0 _ 9 (by decide) (by decide) rfl]
    exact g3 b hb
  · have h72' : S.1 72 1 b = -1 := (t72 b).symm.trans h72
    show T0.1 74 1 b = 0
    rw [t74 b hb h72']
    exact (hS.2.2.1.2 b hb).2 h72'
  · show T0.1 11 1 59 = 0
    rw [f1 11 1 59 rfl rfl]; exact h59
  · show T0.2.2.1 100 1 0 = _
    rw [f3, hout, ecnt]
