theorem mo_pt {A B : hs_S} (h : hs_mo A = hs_mo B) {t i p : Nat} (hk : hs_km t p = false) : A.1 t i p = B.1 t i p := by
  have := congrFun (congrFun (congrFun (congrArg Prod.fst h) t) i) p
  have e1 : (if hs_km t p = true then 0 else A.1 t i p) = if hs_km t p = true then 0 else B.1 t i p := this
  rw [hk] at e1
  exact e1
theorem km_of {t p : Nat} (h1 : 42 ≤ t ∨ t = 11) (h2 : hs_scr t p = false) (h3 : ¬ (t = 11 ∧ p = 59)) : hs_km t p = false := by
  unfold hs_km
  simp only [Bool.or_eq_false_iff, Bool.and_eq_false_iff, decide_eq_false_iff_not, Bool.not_eq_false', beq_iff_eq, beq_eq_false_iff_ne, h2, true_and]
  omega
theorem mo_wI {A B : hs_S} (h : hs_mo A = hs_mo B) {t i p : Nat} {x : Int32} : hs_mo (hs_wI A t i p x) = hs_mo (hs_wI B t i p x) := by
  refine mo_of (fun a b d h1 h2 h3 => ?_) (fun b d => congrFun (congrFun (congrFun (congrArg (fun z => z.2.2.1) h) 86) b) d)
  show (if a = t ∧ b = i ∧ d = p then x else A.1 a b d) = if a = t ∧ b = i ∧ d = p then x else B.1 a b d
  rw [mo_pt h (km_of h1 h2 h3)]
theorem mo_rw {A B : hs_S} (h : hs_mo A = hs_mo B) {u : Nat} {q : Nat → Int32} : hs_mo (hs_rw A u q) = hs_mo (hs_rw B u q) := by
  refine mo_of (fun a b d h1 h2 h3 => ?_) (fun b d => congrFun (congrFun (congrFun (congrArg (fun z => z.2.2.1) h) 86) b) d)
  show (if a = u ∧ b = 1 then q d else A.1 a b d) = if a = u ∧ b = 1 then q d else B.1 a b d
  rw [mo_pt h (km_of h1 h2 h3)]
theorem mo_blT {A B : hs_S} (h : hs_mo A = hs_mo B) {nR c : Nat} {e e' : Int32} {q : Nat → Int32} : hs_mo (blT A nR c e e' q) = hs_mo (blT B nR c e e' q) := by
  have h62 : A.1 62 1 c = B.1 62 1 c := mo_pt h rfl
  have h63 : A.1 63 1 c = B.1 63 1 c := mo_pt h rfl
  unfold blT
  rw [h62, h63]
  exact mo_wI (mo_wI (mo_wI (mo_rw (mo_wI (mo_wI (mo_wI (mo_wI h)))))))
theorem call_bell {n : Nat} {S : hs_S} {a1 : Int32} (h : RR n S) (hn : n < 512) (hw : hs_Wi S) : m_L_bell a1 S (fun k S2 => hs_Wi S2 → m_M_bell a1 S2 (fun r T => OK n k r T)) := by
  obtain ⟨ev, ng, nl, nE, nB, nR, nd, hS⟩ := id h
  obtain ⟨hA, hG, hH, hE, hF, hN, hB, hC⟩ := id hS.1
  have hz : hs_sz S 14 = nR := hA.2.2.1.2.2.2.2
  have e36 : S.1 11 1 36 = nI nR := hA.2.1.2.2.2.2.2.2.1
  have e24 : S.1 11 1 24 = nI nB := hA.2.1.2.2.2.2.2.1
  have hR30 := hA.1.2.2.2.1
  have h80 := hA.1.2.2.1.2
  have hev := hA.1.1
  have z63 : ∀ c, c < 4 → (S.1 61 1 c = 0 ∨ S.1 61 1 c = 1) ∧ (S.1 63 1 c = 0 ∨ S.1 63 1 c = 1) := fun c hc => ⟨(hN c hc).2.2, (hC.2.1 c hc).2.2.2⟩
  have e1 : S.1 10 1 5 + 1 = nI (ev + 1) := by rw [hA.2.1.1]; exact nI_1 ev
  refine ok_L_bell hw fun _ => ok_C_bell hw fun _ => t_needColumn hw (fun c hc ec => ?_) (fun e => Or.inl ⟨rfl, fun hw2 => ?_⟩)
  · subst ec
    rw [hl_cl (by omega)]
    obtain ⟨⟨r1, r2⟩, ⟨r3, r4⟩, r5, r6⟩ := hC.2.1 c hc
    have h62 := frz_iff (hC.2.1 c hc) (by omega)
    have hcol : okCol (nI c) := col_iff.mpr ⟨c, hc, rfl⟩
    obtain ⟨n7, n20, n21, _⟩ := hA.2.2.2
    refine ⟨hl_ix (by omega) (by omega), by omega, fun q1 => ⟨fun q2 => ?_, fun q2 => Or.inr ⟨rfl, fun hw2 => ?_⟩⟩, fun q1 => ?_⟩
    · -- a round is closed
      rw [hz] at q2
      have h30 : nR < 30 := (hl_lt (a := nR) (b := 30) (by omega) (by omega)).mp q2
      have g62 : ¬ S.1 62 1 c = -1 := fun z => q1 (bI_eq0.mpr (Classical.not_not.mpr (h62.mp z)))
      have e10 : S.1 10 1 5 = nI ev := hA.2.1.1
      rw [e10]
      refine ⟨⟨hw, by rw [hz]; omega, ⟨c, hc, r3⟩, r2, n7, by omega, by omega⟩, ?_⟩
      rintro _ S8 ⟨rfl, rfl⟩
      have hq : ∀ b, bellQ (nI c) S nB nR b = if b < nB ∧ S.1 66 1 b = nI c ∧ S.1 72 1 b = -1 then nI nR else S.1 72 1 b := fun _ => rfl
      have hX8 := close_RX (q := bellQ (nI c) S nB nR) hS.1 hn hc g62 h30 hq
      have hz14 : (hs_wI (E_Book_close (S.2.1 26 1 c) (nI ev) S) 10 1 5 (nI (ev + 1))).2.1 14 1 nR = S.2.1 26 1 c := (cl14 (S := S) (R := S.2.1 26 1 c) (e := nI ev) (j := nR)).trans (by rw [hz, if_pos rfl])
      have hPr := P_reckon_of hX8 (show nR < nR + 1 by omega)
      rw [hz14] at hPr
      refine ⟨hPr, fun x S12 hRc S15 h15 S5 h5 hw2 => ?_⟩
      have kf := reckon_kf hRc
      have e12 : S12.1 10 1 5 + 1 = nI (ev + 1) := by
        rw [kf.2.2 10 1 5 rfl]; exact e1
      rw [e12] at h15
      rw [h15, hz] at h5
      have pk : ∀ t i p, 42 ≤ t ∨ t = 11 → S12.1 t i p = S.1 t i p := fun t i p ht => by
        rw [kf.2.2 t i p (by
          unfold hs_fr hs_fs
          simp only [Bool.or_eq_false_iff, Bool.and_eq_false_iff, beq_eq_false_iff_ne]
          omega)]
        show (E_Rnd_init (S.2.2.2 8 + 1) (S.1 8 (S.2.1 26 1 c) 0) (hs_nw (Close0 (S.2.1 26 1 c) (nI ev) S) 8)).1 t i p = _
        unfold E_Rnd_init
        refine (if_neg fun z => by omega).trans ((if_neg fun z => by omega).trans ((if_neg fun z => by omega).trans ((if_neg fun z => by omega).trans ((if_neg fun z => by omega).trans ?_))))
        show (if t = 20 ∧ i = S.2.2.2 20 + 1 then _ else if t = 21 ∧ i = S.2.2.2 21 + 1 then (0 : Int32) else if t = 20 ∧ i = S.2.2.2 20 + 1 then 0 else if t = 7 ∧ i = S.2.2.2 7 + 1 then 0 else (Rnd0 (S.2.2.2 8 + 1) (hs_nw (Close0 (S.2.1 26 1 c) (nI ev) S) 8)).1 t i p) = _
        rw [if_neg (by omega), if_neg (by omega), if_neg (by omega), if_neg (by omega)]
        refine (if_neg fun z => by omega).trans ((if_neg fun z => by omega).trans ((if_neg fun z => by omega).trans ?_))
        show (if t = 8 ∧ i = S.2.2.2 8 + 1 then (0 : Int32) else if t = 8 ∧ i = S.2.1 26 1 c ∧ p = 2 then nI ev else S.1 t i p) = _
        rw [if_neg (by omega), if_neg (by omega)]
      have p86 : ∀ i p, S12.2.2.1 86 i p = S.2.2.1 86 i p := fun i p => by rw [kf.1]; rfl
      have hmo3 : hs_mo (E_asks 1 S5) = hs_mo S := by
        rw [h5]
        refine mo_of (fun t i p h1 h2 h3 => ?_) (fun i p => p86 i p)
        exact ((if_neg fun z => h3 ⟨z.1, z.2.2⟩).trans (if_neg fun z => by omega)).trans (pk t i p h1)
      have d36 : S5.1 11 1 36 = nI nR := by rw [h5]; exact (pk 11 1 36 (Or.inr rfl)).trans e36
      have d24 : S5.1 11 1 24 = nI nB := by rw [h5]; exact (pk 11 1 24 (Or.inr rfl)).trans e24
      have d0 : S5.1 11 1 0 = nI ev := by rw [h5]; exact (pk 11 1 0 (Or.inr rfl)).trans hA.2.1.2.1
      have d62 : S5.1 62 1 c = S.1 62 1 c := by rw [h5]; exact pk 62 1 c (Or.inl (by decide))
      have eq5 : bellQ (nI c) S5 nB nR = bellQ (nI c) S nB nR := by
        funext b
        have a66 : S5.1 66 1 b = S.1 66 1 b := by rw [h5]; exact pk 66 1 b (Or.inl (by decide))
        have a72 : S5.1 72 1 b = S.1 72 1 b := by rw [h5]; exact pk 72 1 b (Or.inl (by decide))
        unfold bellQ
        rw [a66, a72]
      have eB : hs_c0 (nI (ev + 1)) (E_bell (nI c) (bellQ (nI c) S5 nB nR) (E_asks 1 S5)) = blT (E_asks 1 S5) nR c (nI ev) (nI (ev + 1)) (bellQ (nI c) S nB nR) := by
        have x36 : (E_asks 1 S5).1 11 1 36 = nI nR := d36
        have x0 : (E_asks 1 S5).1 11 1 0 = nI ev := d0
        unfold E_bell hs_c0 blT
        rw [x36, x0, hl_cl (by omega), hl_cl (by omega), nI_1, eq5]
      have hmoB : hs_mo (hs_c0 (nI (ev + 1)) (E_bell (nI c) (bellQ (nI c) S5 nB nR) (E_asks 1 S5))) = hs_mo (blT S nR c (nI ev) (nI (ev + 1)) (bellQ (nI c) S nB nR)) := by
        rw [eB]; exact mo_blT hmo3
      have hXc := RX_cm rfl hmoB hX8
      have hP : P_bell (nI c) S5 := by
        refine ⟨fun c' hc' => ?_, nR, nB, hR30, d36, h80, d24, fun _ _ _ => c0_P (P_clears_of hXc (show nR < nR + 1 by omega))⟩
        have a61 : S5.1 61 1 c' = S.1 61 1 c' := by rw [h5]; exact pk 61 1 c' (Or.inl (by decide))
        have a63 : S5.1 63 1 c' = S.1 63 1 c' := by rw [h5]; exact pk 63 1 c' (Or.inl (by decide))
        rw [a61, a63]
        exact z63 c' hc'
      refine qI_mono (ok_M_bell hw2 (v_M_bell hP)) fun r T hR => ?_
      obtain ⟨n', g', T0, hn', en', hg', eg', hRm, rfl, rfl⟩ := (hR.2 hcol).2.2 (by rw [hl_cl (by omega), d62]; exact g62) (by rw [d36]; exact fun z => absurd ((hl_inj (b := 30) (by omega) (by omega)).mp z) (by omega))
      have en : n' = nR := (hl_inj (by omega) (by omega)).mp (en'.symm.trans d36)
      have eg : g' = nB := (hl_inj (by omega) (by omega)).mp (eg'.symm.trans d24)
      subst en eg
      refine bell_fin (S12 := S12) (q := bellQ (nI c) S g' n') hS hn hc g62 h30 hq hRc hmoB ?_ (fun t i p h1 h2 => ?_) ?_ ?_ ?_ ?_ hRm
      · exact d0
      · rw [h5]
        show (if t = 11 ∧ i = 1 ∧ p = 36 then _ else if t = 62 ∧ i = 1 ∧ p = _ then _ else if t = 72 ∧ i = 1 then _ else if t = 79 ∧ i = 1 ∧ p = _ then _ else if t = 80 ∧ i = 1 ∧ p = _ then _ else if t = 78 ∧ i = 1 ∧ p = _ then _ else if t = 77 ∧ i = 1 ∧ p = _ then _ else if t = 11 ∧ i = 1 ∧ p = 59 then _ else (hs_ck (nI (ev + 1)) S12).1 t i p) = _
        rw [if_neg (by omega), if_neg (by omega), if_neg (by omega), if_neg (by omega), if_neg (by omega), if_neg (by omega), if_neg (by omega), if_neg (by omega)]
      · rw [h5]; rfl
      · rw [h5]; rfl
      · rfl
      · rw [h5]; rfl
    · -- no more rounds
      rw [hz] at q2
      have hnR : nR = 30 := by
        have : ¬ nR < 30 := fun z => q2 (nI_lt2 (N := 30) (by omega) z)
        omega
      have g62 : ¬ S.1 62 1 c = -1 := fun z => q1 (bI_eq0.mpr (Classical.not_not.mpr (h62.mp z)))
      refine qI_mono (ok_M_bell hw2 (v_M_bell ⟨z63, nR, nB, hR30, e36, h80, e24, fun z => absurd z (by omega)⟩)) fun r T hR => ?_
      obtain ⟨rfl, rfl⟩ := (hR.2 hcol).2.1 (by rw [hl_cl (by omega)]; exact g62) (by rw [e36, hnR]; rfl)
      exact OK_g h hn (by decide)
    · -- the column freezes
      have g62 : S.1 62 1 c = -1 := h62.mpr (Classical.not_not.mp (bI_eq0.mp q1))
      have i27 := (hN c hc).2
      have e10 : S.1 10 1 5 = nI ev := hA.2.1.1
      rw [i27.1, e10]
      refine ⟨i27.2, fun S17 h17 S18 h18 S5 h5 hw2 => ?_⟩
      have e18 : S18 = hs_wI (E_Rnd_freeze (S.2.1 26 1 c) (nI ev) (S.1 61 1 c) 1 S) 10 1 5 (nI (ev + 1)) := by
        rw [h18, h17]
        exact congrArg (hs_wI (E_Rnd_freeze (S.2.1 26 1 c) (nI ev) (S.1 61 1 c) 1 S) 10 1 5) e1
      rw [e18] at h5
      refine qI_mono (ok_M_bell hw2 (v_M_bell ⟨fun c' hc' => ?_, nR, nB, hR30, ?_, h80, ?_, fun _ _ z => absurd ?_ z⟩)) fun r T hR => ?_
      · rw [h5]; exact z63 c' hc'
      · rw [h5]; exact e36
      · rw [h5]; exact e24
      · rw [hl_cl (by omega), h5]; exact g62
      · obtain ⟨rfl, rfl⟩ := (hR.2 hcol).1 (by rw [hl_cl (by omega), h5]; exact g62)
        have eT : E_act 0 (hs_wI (hs_wI (E_asks 1 S5) 62 1 (nI c).toNatClampNeg (S5.1 11 1 0)) 63 1 (nI c).toNatClampNeg (S5.1 61 1 (nI c).toNatClampNeg)) = frT S (S.2.1 26 1 c) c (nI ev) (S.1 61 1 c) (nI (ev + 1)) (-1 : Int32).toInt64 := by
          have d0 : S5.1 11 1 0 = nI ev := by rw [h5]; exact hA.2.1.2.1
          have d61 : S5.1 61 1 c = S.1 61 1 c := by rw [h5]; rfl
          unfold E_act
          have d0' : (hs_wI (hs_wI (E_asks 1 S5) 62 1 (nI c).toNatClampNeg (S5.1 11 1 0)) 63 1 (nI c).toNatClampNeg (S5.1 61 1 (nI c).toNatClampNeg)).1 11 1 0 = nI ev := d0
          rw [d0', hl_cl (by omega), d0, d61, nI_1, h5]
        rw [eT]
        exact ⟨freeze_RR hS hc hn, rfl, fun _ => rfl⟩
  · refine qI_mono (ok_M_bell hw2 (v_M_bell ⟨z63, nR, nB, hR30, e36, h80, e24, fun _ z => absurd (col_iff.mp z) e⟩)) fun r T hR => ?_
    obtain ⟨rfl, rfl⟩ := hR.1 fun z => e (col_iff.mp z)
    exact OK_f h hn rfl
