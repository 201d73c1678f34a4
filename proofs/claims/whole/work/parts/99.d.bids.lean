/-! ===== bidding: both sides ===== -/
theorem M_bid_go {S3 X : hs_S} {nB o c m l ev : Nat} {a3 : Int32} {Q : Int32 → hs_S → Prop} (hw : hs_Wi X) (hS3 : S3 = E_asks 1 X) (ho : o < 6) (hc : c < 4) (hm : 1 ≤ m ∧ m ≤ 100) (hl : l ≤ 9999) (h3 : a3 = 0 ∨ a3 = 1) (hB : nB < 80) (d24 : S3.1 11 1 24 = nI nB) (d0 : S3.1 11 1 0 = nI ev) (d62 : S3.1 62 1 c = -1) (hP : P_exposureOf (nI o) S3) (he : 0 ≤ (F_exposureOf (nI o) S3).toInt ∧ (F_exposureOf (nI o) S3).toInt ≤ 2049495040) (hlim : a3 = 0 ∨ limK S3 o m l) (hQ : Q (nI nB) (nbM S3 nB (nI o) (nI c) a3 (nI m) (nI l) (nI ev) (nI (ev + 1)))) : m_M_bid (nI o) (nI c) a3 (nI m) (nI l) X Q := by
  have ix : 0 ≤ (nI nB).toInt ∧ (nI nB).toInt < 80 := hl_ix (by omega) (by omega)
  have hcl : (nI nB).toNatClampNeg = nB := hl_cl (by omega)
  refine ok_M_bid hw ?_
  intro x hx
  have hx' := ((dc_if hx).resolve_right fun z => z.2 ⟨⟨o, ho, rfl⟩, c, hc, rfl⟩).1
  subst hx'
  refine ⟨Or.inr rfl, ?_⟩
  intro S3' h3'
  have e3 : S3' = S3 := h3'.trans hS3.symm
  subst e3
  rw [hl_cl (by omega), hl_cl (by omega)]
  refine ⟨fun _ => ⟨fun z => absurd z (in100.mpr ⟨m, hm, rfl⟩), fun _ => ⟨fun _ => ⟨hl_ix (by omega) (by omega), fun z => absurd d62 z, fun _ => ⟨fun w => ?_, fun _ => ⟨fun a0 => ?_, fun a1 => ⟨hP, hl_ix (by omega) (by omega), fun le => ?_, fun nle => absurd ((lim_m hm.2 hl he).mpr (hlim.resolve_left a1)) nle⟩⟩⟩⟩, fun z => absurd ⟨l, hl, rfl⟩ ((in_iff (N := 9999) (by omega)).mp z)⟩⟩, fun z => absurd z (by decide)⟩
  · rw [d24] at w
    have := (hl_inj (a := nB) (b := 80) (by omega) (by omega)).mp w
    omega
  · skip
    refine ⟨by rw [d24]; exact ix, fun T1 t1 => ?_⟩
    rw [d24, hcl] at t1
    have e1 : T1.1 11 1 24 = nI nB := by rw [t1]; exact d24
    have z1 : T1.1 11 1 0 = nI ev := by rw [t1]; exact d0
    refine ⟨by rw [e1]; exact ix, fun T2 t2 => ?_⟩
    rw [e1, hcl] at t2
    have e2 : T2.1 11 1 24 = nI nB := by rw [t2]; exact e1
    have z2 : T2.1 11 1 0 = nI ev := by rw [t2]; exact z1
    refine ⟨by rw [e2]; exact ix, h3, fun T3 t3 => ?_⟩
    rw [e2, hcl] at t3
    have e3 : T3.1 11 1 24 = nI nB := by rw [t3]; exact e2
    have z3 : T3.1 11 1 0 = nI ev := by rw [t3]; exact z2
    refine ⟨by rw [e3]; exact ix, fun T4 t4 => ?_⟩
    rw [e3, hcl] at t4
    have e4 : T4.1 11 1 24 = nI nB := by rw [t4]; exact e3
    have z4 : T4.1 11 1 0 = nI ev := by rw [t4]; exact z3
    refine ⟨by rw [e4]; exact ix, fun T5 t5 => ?_⟩
    rw [e4, hcl] at t5
    have e5 : T5.1 11 1 24 = nI nB := by rw [t5]; exact e4
    have z5 : T5.1 11 1 0 = nI ev := by rw [t5]; exact z4
    refine ⟨by rw [e5]; exact ix, fun T6 t6 => ?_⟩
    rw [e5, hcl] at t6
    rw [z5] at t6
    have e6 : T6.1 11 1 24 = nI nB := by rw [t6]; exact e5
    have z6 : T6.1 11 1 0 = nI ev := by rw [t6]; exact z5
    refine ⟨by rw [e6]; exact ix, fun T7 t7 => ?_⟩
    rw [e6, hcl] at t7
    have e7 : T7.1 11 1 24 = nI nB := by rw [t7]; exact e6
    have z7 : T7.1 11 1 0 = nI ev := by rw [t7]; exact z6
    refine ⟨by rw [e7]; exact ix, fun T8 t8 => ?_⟩
    rw [e7, hcl] at t8
    have e8 : T8.1 11 1 24 = nI nB := by rw [t8]; exact e7
    have z8 : T8.1 11 1 0 = nI ev := by rw [t8]; exact z7
    intro T9 t9 T10 t10
    rw [e8, nI_1] at t9
    have e9 : T9.1 11 1 24 - 1 = nI nB := by rw [t9]; exact (nI_subI (a := nB + 1) (b := 1) (by omega) (by omega))
    have z9 : T9.1 11 1 0 = nI ev := by rw [t9]; exact z8
    have e10 : T10 = nbM S3' nB (nI o) (nI c) a3 (nI m) (nI l) (nI ev) (nI (ev + 1)) := by
      rw [t10]
      unfold E_act
      rw [z9, nI_1, t9, t8, t7, t6, t5, t4, t3, t2, t1]
    rw [e9, e10]
    exact hQ
  · skip
    refine ⟨by rw [d24]; exact ix, fun T1 t1 => ?_⟩
    rw [d24, hcl] at t1
    have e1 : T1.1 11 1 24 = nI nB := by rw [t1]; exact d24
    have z1 : T1.1 11 1 0 = nI ev := by rw [t1]; exact d0
    refine ⟨by rw [e1]; exact ix, fun T2 t2 => ?_⟩
    rw [e1, hcl] at t2
    have e2 : T2.1 11 1 24 = nI nB := by rw [t2]; exact e1
    have z2 : T2.1 11 1 0 = nI ev := by rw [t2]; exact z1
    refine ⟨by rw [e2]; exact ix, h3, fun T3 t3 => ?_⟩
    rw [e2, hcl] at t3
    have e3 : T3.1 11 1 24 = nI nB := by rw [t3]; exact e2
    have z3 : T3.1 11 1 0 = nI ev := by rw [t3]; exact z2
    refine ⟨by rw [e3]; exact ix, fun T4 t4 => ?_⟩
    rw [e3, hcl] at t4
    have e4 : T4.1 11 1 24 = nI nB := by rw [t4]; exact e3
    have z4 : T4.1 11 1 0 = nI ev := by rw [t4]; exact z3
    refine ⟨by rw [e4]; exact ix, fun T5 t5 => ?_⟩
    rw [e4, hcl] at t5
    have e5 : T5.1 11 1 24 = nI nB := by rw [t5]; exact e4
    have z5 : T5.1 11 1 0 = nI ev := by rw [t5]; exact z4
    refine ⟨by rw [e5]; exact ix, fun T6 t6 => ?_⟩
    rw [e5, hcl] at t6
    rw [z5] at t6
    have e6 : T6.1 11 1 24 = nI nB := by rw [t6]; exact e5
    have z6 : T6.1 11 1 0 = nI ev := by rw [t6]; exact z5
    refine ⟨by rw [e6]; exact ix, fun T7 t7 => ?_⟩
    rw [e6, hcl] at t7
    have e7 : T7.1 11 1 24 = nI nB := by rw [t7]; exact e6
    have z7 : T7.1 11 1 0 = nI ev := by rw [t7]; exact z6
    refine ⟨by rw [e7]; exact ix, fun T8 t8 => ?_⟩
    rw [e7, hcl] at t8
    have e8 : T8.1 11 1 24 = nI nB := by rw [t8]; exact e7
    have z8 : T8.1 11 1 0 = nI ev := by rw [t8]; exact z7
    intro T9 t9 T10 t10
    rw [e8, nI_1] at t9
    have e9 : T9.1 11 1 24 - 1 = nI nB := by rw [t9]; exact (nI_subI (a := nB + 1) (b := 1) (by omega) (by omega))
    have z9 : T9.1 11 1 0 = nI ev := by rw [t9]; exact z8
    have e10 : T10 = nbM S3' nB (nI o) (nI c) a3 (nI m) (nI l) (nI ev) (nI (ev + 1)) := by
      rw [t10]
      unfold E_act
      rw [z9, nI_1, t9, t8, t7, t6, t5, t4, t3, t2, t1]
    rw [e9, e10]
    exact hQ
theorem call_bid {n : Nat} {S : hs_S} {a1 a2 a3 a4 a5 : Int32} (h3 : a3 = 0 ∨ a3 = 1) (h : RR n S) (hn : n < 512) (hw : hs_Wi S) : m_L_bid a1 a2 a3 a4 a5 S (fun k S2 => hs_Wi S2 → m_M_bid a1 a2 a3 a4 a5 S2 (fun r T => OK n k r T)) := by
  obtain ⟨ev, ng, nl, nE, nB, nR, nd, k⟩ := id h
  have hA := k.1.1
  have hev := hA.1.1
  have h80 := hA.1.2.2.1.2
  have hC := k.1.2.2.2.2.2.2.2
  have hz : hs_sz S 13 = nB := hA.2.2.1.2.2.1
  have h0 : S.2.2.2 0 = nB := hA.2.2.1.2.2.2.1
  have bad1 : ¬ ((∃ o : Nat, o < 6 ∧ a1 = nI o) ∧ ∃ c : Nat, c < 4 ∧ a2 = nI c) → hs_Wi S → m_M_bid a1 a2 a3 a4 a5 S (fun r T => OK n 1 r T) := fun e hw2 => by
    refine ok_M_bid hw2 ?_
    intro x hx
    have hx' := ((dc_if hx).resolve_left fun z => e z.2).1
    subst hx'
    refine ⟨Or.inl rfl, ?_⟩
    rintro _ rfl
    exact ⟨fun z => absurd rfl z, fun _ => OK_f h hn rfl⟩
  refine ok_L_bid hw fun _ => ok_C_bid hw fun _ => t_needOwner hw (fun o ho eo => fun _ => t_needColumn hw (fun c hc ec => ?_) (fun e => Or.inl ⟨rfl, bad1 fun z => e z.2⟩)) (fun e => Or.inl ⟨rfl, bad1 fun z => own_iff.mp e z.1⟩)
  subst eo ec
  have bad2 : ¬ ((∃ m : Nat, (1 ≤ m ∧ m ≤ 100) ∧ a4 = nI m) ∧ ∃ l : Nat, l ≤ 9999 ∧ a5 = nI l) → hs_Wi S → m_M_bid (nI o) (nI c) a3 a4 a5 S (fun r T => OK n 2 r T) := fun q hw2 => M_bid_2 h hn hw2 ho hc q
  have z1 : (1 : Int32).toInt = 1 := rfl
  have z0 : (0 : Int32).toInt = 0 := rfl
  have z100 : (100 : Int32).toInt = 100 := rfl
  refine ⟨fun q => Or.inr (Or.inl ⟨rfl, bad2 fun ⟨⟨m, hm, e⟩, _⟩ => ?_⟩), fun q => ⟨fun q2 => ⟨fun q3 => Or.inr (Or.inl ⟨rfl, bad2 fun ⟨_, l, _, e⟩ => nI_lo (by omega) (e ▸ q3)⟩), fun q3 => ⟨fun q4 => ?_, fun q4 => Or.inr (Or.inl ⟨rfl, bad2 fun ⟨_, l, hl, e⟩ => q4 (by rw [e]; exact (hl_le (b := 9999) (by omega) (by omega)).mpr hl)⟩)⟩⟩, fun q2 => Or.inr (Or.inl ⟨rfl, bad2 fun ⟨⟨m, hm, e⟩, _⟩ => q2 (by rw [e]; exact (hl_le (b := 100) (by omega) (by omega)).mpr hm.2)⟩)⟩⟩
  · rw [e, i32_lt, nI_toInt (by omega), z1] at q
    omega
  obtain ⟨m, hm, em⟩ : ∃ m : Nat, (1 ≤ m ∧ m ≤ 100) ∧ a4 = nI m := by
    rw [i32_lt, z1] at q
    rw [i32_le, z100] at q2
    obtain ⟨j, hj, _, e⟩ := hl_of (x := a4) (n := 101) ⟨by omega, by omega⟩
    refine ⟨j, ⟨?_, by omega⟩, e⟩
    rw [e, nI_toInt (by omega)] at q
    omega
  obtain ⟨l, hl, el⟩ := le_of (N := 9999) (by omega) q3 q4
  subst em el
  have h62 := frz_iff (hC.2.1 c hc) (by omega)
  have bad3 : ¬ (S.1 62 1 c = -1 ∧ nB < 80 ∧ (a3 = 0 ∨ limK S o m l)) → hs_Wi S → m_M_bid (nI o) (nI c) a3 (nI m) (nI l) S (fun r T => OK n 3 r T) := fun q hw2 => M_bid_3 k hn hw2 ho hc hm hl q
  have ex := ex_c k ho
  have hcl : (nI c).toNatClampNeg = c := hl_cl (by omega)
  have emi : (nI m).toInt = m := nI_toInt (by omega)
  have eli : (nI l).toInt = l := nI_toInt (by omega)
  have p1 : 0 ≤ (m : Int) * l := Int.mul_nonneg (by omega) (by omega)
  have p2 : (m : Int) * l ≤ 100 * 9999 := Int.mul_le_mul (by omega) (by omega) (by omega) (by omega)
  have eml : (nI m * nI l).toInt = (m : Int) * l := by rw [i32_mul (by rw [emi, eli]; omega), emi, eli]
  have hlim : F_Ldg_exposureOf (nI o) S + nI m * nI l ≤ S.1 37 1 o ↔ limK S o m l := by
    rw [i32_le, i32_add (by rw [eml]; omega), eml, (k.2.1.1 o ho).2.1]
    unfold limK
    rw [ex.1]
  rw [hcl]
  refine ⟨hl_ix (by omega) (by omega), by have := (hC.2.1 c hc).1.1; omega, fun q5 => ⟨fun q6 => ?_, fun q6 => Or.inr (Or.inr ⟨rfl, bad3 fun z => q6 (by rw [hz]; exact nI_lt2 (N := 80) (by omega) z.2.1)⟩)⟩, fun q5 => Or.inr (Or.inr ⟨rfl, bad3 fun z => q5 (bI_eq0.mpr (Classical.not_not.mpr (h62.mp z.1)))⟩)⟩
  have g62 : S.1 62 1 c = -1 := h62.mpr (Classical.not_not.mp (bI_eq0.mp q5))
  have hB80 : nB < 80 := by
    rw [hz] at q6
    exact (hl_lt (a := nB) (b := 80) (by omega) (by omega)).mp q6
  have e1 : S.1 10 1 5 + 1 = nI (ev + 1) := by rw [hA.2.1.1]; exact nI_1 ev
  have mk : (a3 = 0 ∨ limK S o m l) → ∀ S14 : hs_S, S14 = hs_nw S 0 → (hs_Wi S14 → m_Bid_init (S.2.2.2 0 + 1) (nI (hs_sz S 13)) (nI o) (S.2.1 26 1 c) a3 (nI m) (nI l) (S14.1 10 1 5) S14 (fun S15 => hs_Wi S15 ∧ (hs_sz S15 13 < 100 ∧ ∀ S18 : hs_S, S18 = hs_add S15 13 (S.2.2.2 0 + 1) → ∀ S19 : hs_S, S19 = hs_wI S18 10 1 5 (S18.1 10 1 5 + 1) → ∀ S5 : hs_S, S5 = hs_wL S19 100 1 (0 : Int32).toNatClampNeg (nI (hs_sz S 13)).toInt64 → (hs_Wi S5 → m_M_bid (nI o) (nI c) a3 (nI m) (nI l) S5 (fun r T => OK n 0 r T))))) := by
    rintro hk _ rfl hw14
    refine ok_Bid_init (Nat.succ_ne_zero _) (by have := (hC.2.1 c hc).1.1; omega) (v_Bid_init h3 ⟨?_, ?_, ?_⟩)
    · exact hs_Wi_I (hs_Wi_I (hs_Wi_I (hs_Wi_I (hs_Wi_R rfl (by decide) (hs_Wi_I (hs_Wi_I (hs_Wi_I (hs_Wi_I (hs_Wi_I hw14)))))))))
    · show hs_sz S 13 < 100
      omega
    · intro S18 h18 S19 h19 S5 h5 hw2
      have e19 : S19 = nbC S nB (S.2.1 26 1 c) (nI o) a3 (nI m) (nI l) (nI ev) (nI (ev + 1)) := by
        have d : S18.1 10 1 5 + 1 = nI (ev + 1) := by rw [h18]; exact e1
        rw [h19, d, h18, hz, h0]
        have d2 : (hs_nw S 0).1 10 1 5 = nI ev := hA.2.1.1
        rw [d2]
      rw [e19, hz] at h5
      have hmo : hs_mo (E_asks 1 S5) = hs_mo S := by
        rw [h5]
        refine mo_of (fun t i p h1 h2 h3 => ?_) (fun _ _ => rfl)
        refine (if_neg fun z => h3 ⟨z.1, z.2.2⟩ : (if t = 11 ∧ i = 1 ∧ p = 59 then _ else (nbC S nB (S.2.1 26 1 c) (nI o) a3 (nI m) (nI l) (nI ev) (nI (ev + 1))).1 t i p) = _).trans ?_
        refine (if_neg fun z => by omega).trans ((if_neg fun z => by omega).trans ((if_neg fun z => by omega).trans ((if_neg fun z => by omega).trans ((if_neg fun z => by omega).trans ((if_neg fun z => by omega).trans ((if_neg fun z => by omega).trans ((if_neg fun z => by omega).trans ((if_neg fun z => by omega).trans ((if_neg fun z => by omega).trans (if_neg fun z => by omega))))))))))
      have eE : F_exposureOf (nI o) (E_asks 1 S5) = F_exposureOf (nI o) S := mo_ex hmo
      refine M_bid_go (S3 := E_asks 1 S5) (nB := nB) (ev := ev) hw2 rfl ho hc hm hl h3 hB80 ?_ ?_ ?_ ⟨⟨nB, h80, ?_⟩, fun j hj => ⟨?_, ⟨nR, hA.1.2.2.2.1, ?_⟩, ⟨nB, h80, ?_⟩, ng, by have := hA.1.2.1; omega, ?_⟩⟩ (by rw [eE, ex.1]; exact ex.2) (hk.imp_right fun z => ?_) ?_
      · rw [h5]; exact hA.2.1.2.2.2.2.2.1
      · rw [h5]; exact hA.2.1.2.1
      · rw [h5]; exact g62
      · rw [h5]; exact hA.2.1.2.2.2.2.2.1
      · rw [show (4 : Int32) * nI o = nI (4 * o) from pk_mul 4 o, nI_add]; exact hl_ix (by omega) (by omega)
      · rw [h5]; exact hA.2.1.2.2.2.2.2.2.1
      · rw [h5]; exact hA.2.1.2.2.2.2.2.1
      · rw [h5]; exact hA.2.1.2.2.1
      · unfold limK
        rw [eE]
        have : (E_asks 1 S5).1 88 1 o = S.1 88 1 o := by rw [h5]; rfl
        rw [this]
        exact z
      · rw [h5]
        exact ⟨bid_RR k hn ho hc h3 hm hl hB80, rfl, fun _ => rfl⟩
  refine ⟨fun a0 => mk (Or.inl a0), fun a1 => ⟨⟨(P_due_of k ho (show 0 < 4 by omega)).2.2, fun j hj => (P_due_of k ho hj).1⟩, hl_ix (by omega) (by omega), ?_⟩⟩
  rw [hl_cl (by omega)]
  exact ⟨fun q7 => mk (Or.inr (hlim.mp q7)), fun q7 => Or.inr (Or.inr ⟨rfl, bad3 fun z => q7 (hlim.mpr (z.2.2.resolve_left a1))⟩)⟩
