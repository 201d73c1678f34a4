/-! ===== the same from the same ===== -/
section
variable {S U T T' : hs_S} {e : Int32} {q : Nat}
theorem det_env (h : hs_cl S = hs_cl U) (hP : P_Fnd_goTo 0 0 S) (hf : fOk S 1 ∧ ∀ k, k < hs_sz S 12 → fOk S (S.2.1 3 (ed S k) 5)) (hT : R_Fnd_goTo e q S T) (hT' : R_Fnd_goTo e q U T') : gEq (cEnv T) (cEnv T') ∧ ∀ c, c < 24 → F_Fnd_isEmpty (nI c) T = F_Fnd_isEmpty (nI c) T' := by
  obtain ⟨g, g2, g3, g4⟩ := hT
  obtain ⟨k, k2, k3, k4⟩ := hT'
  have ht : hs_cl T = hs_cl T' := (GF_cl g).trans (h.trans (GF_cl k).symm)
  have r5 : ∀ i p, T.1 5 i p = T'.1 5 i p := fun i p => cl_pt ht rfl
  have r20 : ∀ i p, T.1 20 i p = T'.1 20 i p := fun i p => cl_pt ht rfl
  have r21 : ∀ i p, T.1 21 i p = T'.1 21 i p := fun i p => cl_pt ht rfl
  have r22 : ∀ i p, T.1 22 i p = T'.1 22 i p := fun i p => cl_pt ht rfl
  have r23 : ∀ i p, T.1 23 i p = T'.1 23 i p := fun i p => cl_pt ht rfl
  have r24 : ∀ i p, T.1 24 i p = T'.1 24 i p := fun i p => cl_pt ht rfl
  have ez : hs_sz S 12 = hs_sz U 12 := cl_ptR h rfl
  have ezB : hs_sz S 13 = hs_sz U 13 := cl_ptR h rfl
  have ezR : hs_sz S 14 = hs_sz U 14 := cl_ptR h rfl
  have e28 : ∀ c, c < 24 → T.2.1 28 1 c = T'.2.1 28 1 c := fun c hc => by
    rw [(g3 c hc).2, (k3 c hc).2, ← cl_cForm, h, cl_cForm, ez]
  have hok : ∀ c, c < 24 → fOk T (T.2.1 28 1 c) := fun c hc => by
    obtain ⟨⟨n, hn, en, hed⟩, _⟩ := hP
    have := cForm_ok (e := e) (c := nI c) hf.1 (hs_sz S 12) fun j hj => ⟨(hed j (by omega)).2.2, hf.2 j hj⟩
    rw [(g3 c hc).2]
    exact fOk_eq (funext fun i => funext fun p => g.2.2 5 i p (by decide) (by decide)) (funext fun i => funext fun p => g.2.2 22 i p (by decide) (by decide)) (funext fun i => funext fun p => g.2.2 23 i p (by decide) (by decide)) (funext fun i => funext fun p => g.2.2 24 i p (by decide) (by decide)) this.2
  have f33 : ∀ w a, 3 ≤ w → w ≤ 8 → a < 4 → T.1 33 w a = T'.1 33 w a := fun w a h3 h8 ha => by
    obtain ⟨a1, a2⟩ := g4 a ha
    obtain ⟨b1, b2⟩ := k4 a ha
    have eB : cBA S (nI a) e (hs_sz S 13) = cBA U (nI a) e (hs_sz U 13) := by rw [← cl_cBA, h, cl_cBA, ezB]
    have eL : cLs S (nI a) e (hs_sz S 14) = cLs U (nI a) e (hs_sz U 14) := by rw [← cl_cLs, h, cl_cLs, ezR]
    rw [eB] at a1
    rw [eL] at a2
    have ab := a1.trans b1.symm
    have w3 := congrArg (fun z => z.1) ab
    have w4 := congrArg (fun z => z.2.1) ab
    have w5 := congrArg (fun z => z.2.2.1) ab
    have w6 := congrArg (fun z => z.2.2.2.1) ab
    have w7 := congrArg (fun z => z.2.2.2.2) ab
    have w8 := a2.trans b2.symm
    have : w = 3 ∨ w = 4 ∨ w = 5 ∨ w = 6 ∨ w = 7 ∨ w = 8 := by omega
    rcases this with rfl | rfl | rfl | rfl | rfl | rfl
    · exact w3
    · exact w4
    · exact w5
    · exact w6
    · exact w7
    · exact w8
  refine ⟨fun n hn => ?_, fun c hc => ?_⟩
  · have hcc : (nI n).toNatClampNeg = n := hl_cl (by omega)
    obtain ⟨gg, hg, eg, hwd⟩ := hok n hn
    have s1 : (cEnv T).1 (nI n) = gg := by
      show (T.1 5 (T.2.1 28 1 (nI n).toNatClampNeg) 3).toNatClampNeg = _
      rw [hcc, eg, hl_cl (by omega)]
    refine ⟨?_, fun i hi => ?_⟩
    · show (T.1 5 (T.2.1 28 1 (nI n).toNatClampNeg) 3).toNatClampNeg = (T'.1 5 (T'.2.1 28 1 (nI n).toNatClampNeg) 3).toNatClampNeg
      rw [hcc, ← e28 n hn, r5]
    · rw [s1] at hi
      obtain ⟨⟨w, hw, ew⟩, _, hask, hone⟩ := hwd i hi
      have w0 : (cEnv T).2.1 (nI n) i = T.1 22 (T.2.1 28 1 n) i := by
        show T.1 22 (T.2.1 28 1 (nI n).toNatClampNeg) i = _
        rw [hcc]
      have w0' : (cEnv T').2.1 (nI n) i = T.1 22 (T.2.1 28 1 n) i := by
        show T'.1 22 (T'.2.1 28 1 (nI n).toNatClampNeg) i = _
        rw [hcc, ← e28 n hn, r22]
      refine ⟨w0.trans w0'.symm, fun h1 => ⟨?_, ?_, ?_⟩, fun h1 p => ?_⟩
      · show T.1 23 (T.2.1 28 1 (nI n).toNatClampNeg) i * 6 + T.1 24 (T.2.1 28 1 (nI n).toNatClampNeg) i = T'.1 23 (T'.2.1 28 1 (nI n).toNatClampNeg) i * 6 + T'.1 24 (T'.2.1 28 1 (nI n).toNatClampNeg) i
        rw [hcc, ← e28 n hn, r23, r24]
      · rw [w0] at h1
        obtain ⟨a, b, ha, hb, ea, eb⟩ := hask h1
        refine ⟨6 * a + b, by omega, ?_⟩
        show T.1 23 (T.2.1 28 1 (nI n).toNatClampNeg) i * 6 + T.1 24 (T.2.1 28 1 (nI n).toNatClampNeg) i = _
        rw [hcc, ea, eb]
        exact nI_61
      · show (!decide (bI (T.1 20 (T.2.1 4 1 2) _ = T.1 20 (T.2.1 4 1 2) _ ∨ (T.1 21 (T.2.1 4 1 2) _ >>> (T.1 20 (T.2.1 4 1 2) _ &&& 31)) &&& 1 = 1) = 0)) = (!decide (bI (T'.1 20 (T'.2.1 4 1 2) _ = T'.1 20 (T'.2.1 4 1 2) _ ∨ (T'.1 21 (T'.2.1 4 1 2) _ >>> (T'.1 20 (T'.2.1 4 1 2) _ &&& 31)) &&& 1 = 1) = 0))
        rw [g2, k2]
        simp only [r20, r21]
      · rw [w0] at h1
        show cStp (T.1 33) (T.1 22 (T.2.1 28 1 (nI n).toNatClampNeg) i) (T.1 23 (T.2.1 28 1 (nI n).toNatClampNeg) i) p = cStp (T'.1 33) (T'.1 22 (T'.2.1 28 1 (nI n).toNatClampNeg) i) (T'.1 23 (T'.2.1 28 1 (nI n).toNatClampNeg) i) p
        rw [hcc, ← e28 n hn, ← r22, ← r23]
        rw [ew] at hone h1 ⊢
        unfold cStp
        by_cases z8 : (8 : Int32) ≤ nI w
        · rw [if_pos z8, if_pos z8]
        · rw [if_neg z8, if_neg z8]
          by_cases z0 : nI w = 0
          · rw [if_pos z0, if_pos z0]
          · rw [if_neg z0, if_neg z0]
            have hw8 : ¬ 8 ≤ w := fun z => z8 ((hl_le (a := 8) (b := w) (by omega) (by omega)).mpr z)
            have hw0 : w ≠ 0 := fun z => z0 (by rw [z]; rfl)
            have hw1 : w ≠ 1 := fun z => h1 (by rw [z]; rfl)
            obtain ⟨o1, o2⟩ := hone ((hl_le (a := 1) (b := w) (by omega) (by omega)).mpr (by omega)) ((hl_le (a := w) (b := 7) (by omega) (by omega)).mpr (by omega))
            obtain ⟨a, ha, _, ea⟩ := hl_of (n := 4) ⟨o1, o2⟩
            rw [hl_cl (by omega), ea, hl_cl (by omega), f33 (w + 1) a (by omega) (by omega) ha]
  · show bI (T.1 5 (T.2.1 28 1 (nI c).toNatClampNeg) 3 = 0) = bI (T'.1 5 (T'.2.1 28 1 (nI c).toNatClampNeg) 3 = 0)
    have hcc : (nI c).toNatClampNeg = c := hl_cl (by omega)
    rw [hcc, ← e28 c hc]
    simp only [r5]
end
/-- a cell's value, a cell's fault -/
theorem det_value {S U T T' : hs_S} {o c r : Nat} {a b : Int32} (h : hs_cl S = hs_cl U) (hP : P_Fnd_goTo 0 0 S) (hf : fOk S 1 ∧ ∀ k, k < hs_sz S 12 → fOk S (S.2.1 3 (ed S k) 5)) (hc : c < 4) (hr : r < 6) (h1 : R_Cq_value (nI o) (nI c) (nI r) S a T) (h2 : R_Cq_value (nI o) (nI c) (nI r) U b T') : a = b := by
  obtain ⟨X, x1, x2, x3, ⟨f, x4⟩, x5⟩ := h1
  obtain ⟨Y, y1, y2, y3, ⟨f', y4⟩, y5⟩ := h2
  have e5 : S.1 10 1 5 = U.1 10 1 5 := cl_pt h rfl
  rw [← e5] at y1
  obtain ⟨d1, _⟩ := det_env h hP hf x1 y1
  have ec : F_Cq_cellAt (nI c) (nI r) = nI (6 * c + r) := nq_61
  rw [ec] at x4 y4
  exact (gVal_fun ((gVal_eq d1 (by omega)).mp x4) y4).2
theorem det_fault {S U T T' : hs_S} {o c r : Nat} {a b : Int32} (h : hs_cl S = hs_cl U) (hP : P_Fnd_goTo 0 0 S) (hf : fOk S 1 ∧ ∀ k, k < hs_sz S 12 → fOk S (S.2.1 3 (ed S k) 5)) (hc : c < 4) (hr : r < 6) (h1 : R_Cq_fault (nI o) (nI c) (nI r) S a T) (h2 : R_Cq_fault (nI o) (nI c) (nI r) U b T') : a = b := by
  obtain ⟨X, x1, x2, x3, f, x4⟩ := h1
  obtain ⟨Y, y1, y2, y3, f', y4⟩ := h2
  have e5 : S.1 10 1 5 = U.1 10 1 5 := cl_pt h rfl
  rw [← e5] at y1
  obtain ⟨d1, _⟩ := det_env h hP hf x1 y1
  have ec : F_Cq_cellAt (nI c) (nI r) = nI (6 * c + r) := nq_61
  rw [ec] at x4 y4
  exact (gVal_fun ((gVal_eq d1 (by omega)).mp x4) y4).1
theorem cl_value {S T : hs_S} {a b c r : Int32} (h : R_Cq_value a b c S r T) : hs_cl T = hs_cl S := by
  obtain ⟨X, x1, x2, _⟩ := h
  exact (FS_cl x2).trans (GF_cl x1.1)
theorem cl_fault {S T : hs_S} {a b c r : Int32} (h : R_Cq_fault a b c S r T) : hs_cl T = hs_cl S := by
  obtain ⟨X, x1, x2, _⟩ := h
  exact (FS_cl x2).trans (GF_cl x1.1)
/-- a round that is reckoned -/
theorem det_reckon {S U T T' : hs_S} {r : Nat} {x y : Int32} (h : hs_cl S = hs_cl U) (hP : P_Clr_reckon r S) (h1 : R_Clr_reckon r S x T) (h2 : R_Clr_reckon r U y T') : x = y ∧ hs_cl T = hs_cl T' := by
  obtain ⟨p1, p2, ⟨c, hc, pc⟩, pb⟩ := hP
  obtain ⟨A2, A6, ya, a1, a2, a3, a4, a5⟩ := h1
  obtain ⟨B2, B6, yb, b1, b2, b3, b4, b5⟩ := h2
  have e1 : S.1 8 r 1 = U.1 8 r 1 := cl_pt h rfl
  rw [← e1] at b1
  obtain ⟨d1, d2⟩ := det_env h p1 p2 a1 b1
  have c2 : hs_cl A2 = hs_cl B2 := (GF_cl a1.1).trans (h.trans (GF_cl b1.1).symm)
  obtain ⟨m1, m2⟩ := a2
  obtain ⟨n1, n2⟩ := b2
  have cA : A2.1 8 r 0 = nI c := (a1.1.2.2 8 r 0 (by decide) (by decide)).trans pc
  have cB : B2.1 8 r 0 = nI c := (cl_pt c2 rfl).symm.trans cA
  obtain ⟨f1, v1, f2, v2, g1, g2, g3, g4, g5⟩ := m2 c hc cA
  obtain ⟨f1', v1', f2', v2', k1, k2, k3, k4, k5⟩ := n2 c hc cB
  obtain ⟨ef1, ev1⟩ := gVal_fun ((gVal_eq d1 (by omega)).mp g1) k1
  obtain ⟨ef2, ev2⟩ := gVal_fun ((gVal_eq d1 (by omega)).mp g2) k2
  subst ef1 ev1 ef2 ev2
  have hem := d2 (6 * c) (by omega)
  rw [← hem] at k3 k4 k5
  have c6 : hs_cl A6 = hs_cl B6 := by
    refine cl_of (fun t i p q => ?_) (fun t i p q => ?_) ?_
    · by_cases w : t = 8 ∧ i = r ∧ (p = 5 ∨ p = 7 ∨ p = 8)
      · obtain ⟨w1, w2, w3⟩ := w
        subst w1; subst w2
        rcases w3 with rfl | rfl | rfl
        · exact g4.trans k4.symm
        · exact g5.trans k5.symm
        · exact g3.trans k3.symm
      · have qf : hs_fs t p = false := by
          unfold hs_scr at q
          unfold hs_fs
          simp only [Bool.or_eq_false_iff, Bool.and_eq_false_iff, beq_eq_false_iff_ne] at q ⊢
          omega
        rw [m1.2.2 t i p qf w, n1.2.2 t i p qf w]
        exact cl_pt c2 q
    · rw [m1.1, n1.1]; exact cl_ptR c2 q
    · rw [m1.1, n1.1]; exact cl_22 c2
  obtain ⟨s1, s2, s3, s4, s5⟩ := a3
  obtain ⟨t1, t2, t3, t4, t5⟩ := b3
  have ezB : hs_sz A6 13 = hs_sz B6 13 := cl_ptR c6 rfl
  have eV : cVol r A6 = cVol r B6 := by
    show (if F_Clr_totalOf r 0 A6 < F_Clr_totalOf r 1 A6 then F_Clr_totalOf r 0 A6 else F_Clr_totalOf r 1 A6) = (if F_Clr_totalOf r 0 B6 < F_Clr_totalOf r 1 B6 then F_Clr_totalOf r 0 B6 else F_Clr_totalOf r 1 B6)
    rw [tw_Clr_totalOf c6, tw_Clr_totalOf c6]
  have cV : hs_cl (cVS r A6) = hs_cl (cVS r B6) := cg_I c6 eV
  have ebr : ∀ k, br A6 k = br B6 k := fun k => by
    have e : A6.2.1 13 1 k = B6.2.1 13 1 k := cl_ptR c6 rfl
    show A6.2.1 0 (A6.2.1 13 1 k) 2 = B6.2.1 0 (B6.2.1 13 1 k) 2
    rw [e]; exact cl_ptR c6 rfl
  have eG : ∀ k, cGt r A6 k = cGt r B6 k := fun k => by
    have e : bd A6 k = bd B6 k := cl_ptR c6 rfl
    show cPart (cVS r A6) r (F_Clr_totalOf r 0 A6) (F_Clr_totalOf r 1 A6) (bd A6 k) = cPart (cVS r B6) r (F_Clr_totalOf r 0 B6) (F_Clr_totalOf r 1 B6) (bd B6 k)
    rw [tw_Clr_totalOf c6, tw_Clr_totalOf c6, e, ← cl_cPart, cV, cl_cPart]
  have c7 : hs_cl T = hs_cl T' := by
    refine cl_of (fun t i p q => ?_) (fun t i p q => ?_) ?_
    · by_cases w : t = 0 ∧ p = 9 ∧ ∃ k, k < hs_sz A6 13 ∧ i = k + 1
      · obtain ⟨rfl, rfl, k, hk, rfl⟩ := w
        rw [s3 k hk, t3 k (by rw [← ezB]; exact hk), ebr, eG, cl_pt c6 (t := 0) (i := k + 1) (p := 9) rfl]
      · rw [s2 t i p w, t2 t i p (by rw [← ezB]; exact w)]
        exact cl_pt cV q
    · rw [s1, t1]; exact cl_ptR c6 q
    · rw [s1, t1]; exact cl_22 c6
  refine ⟨?_, c7⟩
  have ey : ya = 0 ↔ yb = 0 := by
    rw [s5, t5, ezB]
    constructor
    · intro z k hk hb
      rw [← eG, ← cl_pt c6 (t := 0) (i := k + 1) (p := 9) rfl]
      exact z k hk (by rw [ebr]; exact hb)
    · intro z k hk hb
      rw [eG, cl_pt c6 (t := 0) (i := k + 1) (p := 9) rfl]
      exact z k hk (by rw [← ebr]; exact hb)
  have ex : x = 0 ↔ y = 0 := by
    rw [a5, b5, ey, cl_pt h (t := 8) (i := r) (p := 5) rfl, cl_pt h (t := 8) (i := r) (p := 6) rfl, cl_pt h (t := 8) (i := r) (p := 7) rfl, cl_pt c7 (t := 8) (i := r) (p := 5) rfl, cl_pt c7 (t := 8) (i := r) (p := 6) rfl, cl_pt c7 (t := 8) (i := r) (p := 7) rfl]
  rcases a4 with rfl | rfl
  · exact (ex.mp rfl).symm
  · rcases b4 with rfl | rfl
    · exact absurd (ex.mpr rfl) (by decide)
    · rfl
theorem det_reckonAll {S U T T' : hs_S} {x y : Int32} (h : hs_cl S = hs_cl U) (hP : P_Clr_reckonAll S) (h1 : R_Clr_reckonAll S x T) (h2 : R_Clr_reckonAll U y T') : x = y ∧ hs_cl T = hs_cl T' := by
  obtain ⟨A, qa, a0, a1, a2, a3⟩ := h1
  obtain ⟨B, qb, b0, b1, b2, b3⟩ := h2
  have ez : hs_sz S 14 = hs_sz U 14 := cl_ptR h rfl
  have erd : ∀ i, rd S i = rd U i := fun i => cl_ptR h rfl
  have chain : ∀ i, i ≤ hs_sz S 14 → hs_cl (A i) = hs_cl (B i) ∧ KF S (A i) ∧ ∀ j, j < i → qa j = qb j := by
    intro i
    induction i with
    | zero => intro _; rw [a0, b0]; exact ⟨h, KF.rf, fun j hj => absurd hj (Nat.not_lt_zero _)⟩
    | succ i ih =>
      intro hi
      obtain ⟨k1, k2, k3⟩ := ih (by omega)
      have s1 := a1 i (by omega)
      have s2 := b1 i (by omega)
      rw [← erd] at s2
      obtain ⟨d1, d2⟩ := det_reckon k1 (P_reckon_kf k2 (hP.2 i (by omega)).2) s1 s2
      refine ⟨d2, k2.tr (reckon_kf s1), fun j hj => ?_⟩
      by_cases w : j = i
      · rw [w]; exact d1
      · exact k3 j (by omega)
  obtain ⟨k1, _, k3⟩ := chain _ (Nat.le_refl _)
  rw [a2, b2, a3, b3, ← ez]
  exact ⟨cntQ_eq _ k3, k1⟩
