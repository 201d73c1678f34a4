/-! ===== a bid is withdrawn ===== -/
theorem neg1 {k : Nat} (h : k < 2147483648) : ¬ nI k = -1 := fun z => by
  have e1 : (nI k).toInt = k := nI_toInt (by omega)
  have e2 : (nI k).toInt = -1 := by rw [z]; rfl
  omega
theorem neMax {k : Nat} (h : k < 2147483647) : ¬ nI k = 2147483647 := fun z => by
  have e1 : (nI k).toInt = k := nI_toInt (by omega)
  have e2 : (nI k).toInt = 2147483647 := by rw [z]; rfl
  omega
/-- the round that a bid is in: its column, and whether it is over -/
theorem bid_rd {U V : hs_S} {ev ng nl nB nR b : Nat} (hB : rB2 U V nR b) (hC : rC U V ev ng nl nR) (hev : ev ≤ 512) (hR : nR ≤ 30) : U.2.1 0 (b + 1) 2 ≠ 0 ∧ ∃ c : Nat, c < 4 ∧ V.1 66 1 b = nI c ∧ U.1 8 (U.2.1 0 (b + 1) 2) 0 = nI c ∧ (F_Rnd_isCleared (U.2.1 0 (b + 1) 2) U = 0 ↔ V.1 72 1 b = -1) := by
  obtain ⟨c, hc, h1, h2⟩ := hB
  rcases h2 with ⟨h3, h4⟩ | ⟨r, hr, h3, h4, h5⟩
  · obtain ⟨g1, ⟨g2, g3⟩, _⟩ := hC.2.1 c hc
    rw [h4]
    refine ⟨by have := g1.1; omega, c, hc, h1, g2, fun _ => h3, fun _ => ?_⟩
    exact bI_eq0.mpr (Classical.not_not.mpr g3)
  · obtain ⟨g1, ⟨c', hc', g2, g3⟩, ⟨f, l, ⟨g4, g5⟩, g6⟩, _⟩ := hC.1 r hr
    have ecc : c' = c := (hl_inj (by omega) (by omega)).mp (g2.symm.trans h5)
    subst ecc
    rw [h4]
    refine ⟨by have := g1.1; omega, c', hc, h1, g3, fun z => ?_, fun z => ?_⟩
    · have z' : U.1 8 (U.2.1 14 1 r) 2 = 2147483647 := Classical.not_not.mp (bI_eq0.mp z)
      rw [g6.2.2.2] at z'
      exact absurd z' (neMax (by omega))
    · rw [h3] at z
      exact absurd z (neg1 (by omega))
abbrev wdrT (S : hs_S) (b : Nat) (e e' : Int32) (y : Int64) : hs_S := hs_wI (hs_wI (E_asks 1 (hs_wL (hs_wI (hs_wI S 0 (b + 1) 7 e) 10 1 5 e') 100 1 (0 : Int32).toNatClampNeg y)) 71 1 b e) 11 1 0 e'
theorem wdr_RR {n : Nat} {S : hs_S} {b : Nat} {y : Int64} {ev ng nl nE nB nR nd : Nat} (hX : RX n S S ev ng nl nE nB nR nd) (hL : rL S S) (hQ : rQ S S nB nR) (hM : rM S ng nl nE nB nR) (hb : b < nB) (h72 : S.1 72 1 b = -1) (h71 : S.1 71 1 b = -1) (hn : n < 512) : RR (n + 1) (wdrT S b (nI ev) (nI (ev + 1)) y) := by
  obtain ⟨hA, hG, hH, hE, hF, hN, hB, hC⟩ := hX
  have hev := hA.1.1
  have hB80 := hA.1.2.2.1.2
  have hR30 := hA.1.2.2.2.1
  have a71 : ∀ j, (wdrT S b (nI ev) (nI (ev + 1)) y).1 71 1 j = if j = b then nI ev else S.1 71 1 j := fun j => wI_at (S := S) (t := 71) (i := 1) (j := b) (x := nI ev)
  have a0 : ∀ k, (wdrT S b (nI ev) (nI (ev + 1)) y).1 0 (b + 1) k = if k = 7 then nI ev else S.1 0 (b + 1) k := fun k => wI_at (S := S) (t := 0) (i := b + 1) (j := 7) (x := nI ev)
  have an : ∀ i, i ≠ b + 1 → (wdrT S b (nI ev) (nI (ev + 1)) y).1 0 i = S.1 0 i := fun i hi => wI_ne (S := S) (t := 0) (i := b + 1) hi
  have hg2 : ∀ r, r < nR → ∃ f : Nat, f < ev ∧ S.1 78 1 r = nI f := fun r hr => by
    obtain ⟨_, _, ⟨f, l, g1, g2, _⟩, _⟩ := hC.1 r hr
    exact ⟨f, by omega, g2⟩
  have eQ : ∀ j k, k ≠ 7 → (wdrT S b (nI ev) (nI (ev + 1)) y).1 0 (j + 1) k = S.1 0 (j + 1) k := fun j k hk => by
    by_cases q : j = b
    · rw [q]; exact (a0 k).trans (if_neg hk)
    · exact congrFun (an (j + 1) (by omega)) k
  refine ⟨ev + 1, ng, nl, nE, nB, nR, nd, ⟨⟨⟨⟨by omega, by omega⟩, by have := hA.1.2; omega⟩, ⟨rfl, rfl, hA.2.1.2.2⟩, hA.2.2⟩, rG_up hH (by omega) hG, rH_up hH, rE_up hE, hF, hN, fun j hj => ?_, rC_up hC⟩, hL, ⟨hQ.1, fun j hj => ⟨(eQ j 9 (by decide)).trans (hQ.2 j hj).1, (hQ.2 j hj).2⟩⟩, fun r hr => ?_⟩
  · obtain ⟨⟨⟨g1, g2, o, g3, g4, g5⟩, ⟨g6, g7⟩, ⟨m, hm, g8, g9⟩, ⟨l, hl, g10, g11⟩, g12, g13, ⟨g14, g15⟩⟩, g16⟩ := (rB_up hB) j hj
    refine ⟨⟨⟨g1, (eQ j 0 (by decide)).trans g2, o, g3, g4, (eQ j 1 (by decide)).trans g5⟩, ⟨(eQ j 3 (by decide)).trans g6, g7⟩, ⟨m, hm, g8, (eQ j 4 (by decide)).trans g9⟩, ⟨l, hl, g10, (eQ j 5 (by decide)).trans g11⟩, ?_, ?_, (eQ j 8 (by decide)).trans g14, g15⟩, g16⟩
    · obtain ⟨w, hw, w1, w2⟩ := g12
      exact ⟨w, hw, w1, (eQ j 6 (by decide)).trans w2⟩
    · by_cases q : j = b
      · right
        refine ⟨ev, by omega, (a71 j).trans (if_pos q), ?_⟩
        rw [q]
        exact (a0 7).trans (if_pos rfl)
      · have e1 := (a71 j).trans (if_neg q)
        have e2 := congrFun (an (j + 1) (by omega)) 7
        rcases g13 with ⟨w1, w2⟩ | ⟨w, hw, w1, w2⟩
        · exact Or.inl ⟨e1.trans w1, e2.trans w2⟩
        · exact Or.inr ⟨w, hw, e1.trans w1, e2.trans w2⟩
  · obtain ⟨f, hf, ef⟩ := hg2 r hr
    obtain ⟨_, ⟨c, hc, ec, _⟩, _⟩ := hC.1 r hr
    have hS : mSame S (wdrT S b (nI ev) (nI (ev + 1)) y) nB nB r := ⟨⟨Nat.le_refl _, hB80, by omega⟩, fun _ _ => Iff.rfl, fun j h1 h2 => absurd h1 (by omega), fun j hj hr' => ⟨⟨rfl, rfl, rfl⟩, (a71 j).trans (if_neg fun z => ?_), rfl, rfl⟩, rfl, rfl, rfl⟩
    · refine ⟨?_, mR_2 hS (hM r hr).2.1 (hM r hr).2.2.1 (hM r hr).2.2.2⟩
      refine mR_1 (V := S) (hM r hr) hc ec (mX_eq hE hA.1.2.2.1.1 (fun _ => rfl) (fun _ _ => rfl) (fun _ => rfl) (fun _ _ => ⟨rfl, fun _ _ => rfl⟩) (fun _ => rfl) (fun c => ?_))
      refine baR_old (fun j hj => ⟨⟨rfl, rfl, rfl, rfl⟩, ?_⟩) nB (Nat.le_refl _) fun j h1 h2 => absurd h1 (by omega)
      unfold thR
      refine and_congr Iff.rfl (and_congr Iff.rfl (and_congr ?_ Iff.rfl))
      by_cases q : j = b
      · have e1 := (a71 j).trans (if_pos q)
        have le : S.1 78 1 r ≤ nI ev := by rw [ef]; exact (hl_le (by omega) (by omega)).mpr (by omega)
        refine ⟨fun _ => Or.inl (by rw [q]; exact h71), fun _ => Or.inr ?_⟩
        exact Eq.mpr (congrArg (fun z => S.1 78 1 r ≤ z) e1) le
      · have e1 := (a71 j).trans (if_neg q)
        exact Eq.to_iff (congrArg (fun z => z = -1 ∨ S.1 78 1 r ≤ z) e1)
    · rw [z, h72] at hr'
      exact neg1 (by omega) hr'.symm
theorem M_wdr_bad {n : Nat} {S : hs_S} {o b c nB : Nat} (h : RR n S) (hn : n < 512) (hw : hs_Wi S) (ho : o < 6) (hb : b < nB) (hB80 : nB ≤ 80) (e24 : S.1 11 1 24 = nI nB) (hc : c < 4) (e66 : S.1 66 1 b = nI c) (q : ¬ (S.1 65 1 b = nI o ∧ S.1 71 1 b = -1 ∧ S.1 62 1 c = -1 ∧ S.1 72 1 b = -1)) : m_M_withdraw (nI o) (nI b) S (fun r T => OK n 2 r T) := by
  refine ok_M_withdraw hw ?_
  unfold vc_M_withdraw
  rw [own_1 ho, bid_1 hB80 e24 hb, hl_cl (by omega)]
  rintro x hx
  rw [if_neg (by decide), if_neg (by decide)] at hx
  subst hx
  refine ⟨Or.inr rfl, ?_⟩
  rintro _ rfl
  have hb' : OK n 2 0 (E_fails 2 (E_asks 1 S)) := OK_g h hn (by decide)
  have e66' : (E_asks 1 S).1 66 1 b = nI c := e66
  rw [e66', hl_cl (by omega)]
  refine ⟨fun _ => ⟨hl_ix (by omega) (by omega), ?_, fun q1 => ⟨?_, fun q2 => ⟨hl_ix (by omega) (by omega), ?_, fun q3 => ⟨fun q4 => absurd ⟨q1, q2, q3, q4⟩ q, ?_⟩⟩⟩⟩, fun z => absurd z (by decide)⟩
  · rintro _ _ rfl; exact hb'
  · rintro _ _ rfl; exact hb'
  · rintro _ _ rfl; exact hb'
  · rintro _ _ rfl; exact hb'
theorem call_withdraw {n : Nat} {S : hs_S} {a1 a2 : Int32} (h : RR n S) (hn : n < 512) (hw : hs_Wi S) : m_L_withdraw a1 a2 S (fun k S2 => hs_Wi S2 → m_M_withdraw a1 a2 S2 (fun r T => OK n k r T)) := by
  obtain ⟨ev, ng, nl, nE, nB, nR, nd, hX, hL, hQ, hM⟩ := id h
  obtain ⟨hA, hG, hH, hE, hF, hN, hB, hC⟩ := id hX
  have hz : hs_sz S 13 = nB := hA.2.2.1.2.2.1
  have e24 : S.1 11 1 24 = nI nB := hA.2.1.2.2.2.2.2.1
  have hB80 : nB ≤ 80 := hA.1.2.2.1.2
  have hev := hA.1.1
  have bad1 : (F_isOwner a1 = 0 ∨ F_isBid a2 S = 0) → hs_Wi S → m_M_withdraw a1 a2 S (fun r T => OK n 1 r T) := fun e hw2 => by
    refine ok_M_withdraw hw2 ?_
    rintro x hx
    have hx0 : x = 0 := by
      rw [hx]
      by_cases q : F_isOwner a1 = 0
      · rw [if_pos q]
      · rw [if_neg q, if_pos (e.resolve_left q)]
    subst hx0
    refine ⟨Or.inl rfl, ?_⟩
    rintro _ rfl
    exact ⟨fun z => absurd rfl z, fun _ => OK_f h hn rfl⟩
  refine ok_L_withdraw hw fun _ => ok_C_withdraw hw fun _ => t_needOwner hw (fun o ho eo => fun _ => t_bidNumbered hw (by omega) (fun b hb => (hB b (by omega)).1.1.1) (fun b hb eb => ?_) (fun e => Or.inl ⟨rfl, bad1 (Or.inr ((bid_iff hB80 e24).mpr (by rw [hz] at e; exact e)))⟩)) (fun e => Or.inl ⟨rfl, bad1 (Or.inl e)⟩)
  rw [hz] at hb
  subst eo eb
  obtain ⟨⟨⟨_, _, o', ho', i1, i2⟩, _, ⟨m, hm, i3, i4⟩, _, _, i7, _⟩, i8⟩ := hB b hb
  obtain ⟨j1, c, hc, j2, j3, j4⟩ := bid_rd (nB := nB) i8 hC (by omega) hA.1.2.2.2.1
  have h62 := frz_iff (hC.2.1 c hc) (by omega)
  have bad2 : ¬ (S.1 65 1 b = nI o ∧ S.1 71 1 b = -1 ∧ S.1 62 1 c = -1 ∧ S.1 72 1 b = -1) → hs_Wi S → m_M_withdraw (nI o) (nI b) S (fun r T => OK n 2 r T) := fun q hw2 => M_wdr_bad h hn hw2 ho hb hB80 e24 hc j2 q
  rw [j3, hl_cl (by omega)]
  refine ⟨Nat.succ_ne_zero _, fun q1 => ⟨fun q2 => ⟨j1, hl_ix (by omega) (by omega), by have := (hC.2.1 c hc).1.1; omega, fun q3 => ⟨fun q4 => ?_, fun q4 => Or.inr ⟨rfl, bad2 fun z => q4 (j4.mpr z.2.2.2)⟩⟩, fun q3 => Or.inr ⟨rfl, bad2 fun z => q3 ?_⟩⟩, fun q2 => Or.inr ⟨rfl, bad2 fun z => q2 ?_⟩⟩, fun q1 => Or.inr ⟨rfl, bad2 fun z => q1 (i2.trans (i1.symm.trans z.1))⟩⟩
  · have g62 : S.1 62 1 c = -1 := h62.mpr (Classical.not_not.mp (bI_eq0.mp q3))
    have g72 : S.1 72 1 b = -1 := j4.mp q4
    have g65 : S.1 65 1 b = nI o := i1.trans (i2.symm.trans q1)
    have g71 : S.1 71 1 b = -1 := by
      rcases i7 with ⟨w1, _⟩ | ⟨w, hw', w1, w2⟩
      · exact w1
      · rw [w2] at q2; exact absurd q2 (neMax (by omega))
    have e1 : S.1 10 1 5 + 1 = nI (ev + 1) := by rw [hA.2.1.1]; exact nI_1 ev
    intro S13 h13 S14 h14 S5 h5 hw2
    have e14 : S14 = hs_wI (hs_wI S 0 (b + 1) 7 (nI ev)) 10 1 5 (nI (ev + 1)) := by
      rw [h14, h13, hA.2.1.1]
      exact congrArg (hs_wI (hs_wI S 0 (b + 1) 7 (nI ev)) 10 1 5) e1
    rw [e14] at h5
    refine ok_M_withdraw hw2 ?_
    unfold vc_M_withdraw
    have d24 : S5.1 11 1 24 = nI nB := by rw [h5]; exact e24
    rw [own_1 ho, bid_1 hB80 d24 hb, hl_cl (by omega)]
    rintro x hx
    rw [if_neg (by decide), if_neg (by decide)] at hx
    subst hx
    refine ⟨Or.inr rfl, ?_⟩
    intro S3 h3'
    rw [h5] at h3'
    have d66 : S3.1 66 1 b = nI c := by rw [h3']; exact j2
    have d65 : S3.1 65 1 b = nI o := by rw [h3']; exact g65
    have d71 : S3.1 71 1 b = -1 := by rw [h3']; exact g71
    have d62 : S3.1 62 1 c = -1 := by rw [h3']; exact g62
    have d72 : S3.1 72 1 b = -1 := by rw [h3']; exact g72
    have d0 : S3.1 11 1 0 = nI ev := by rw [h3']; exact hA.2.1.2.1
    rw [d66, d65, d71, hl_cl (by omega), d62, d72, d0]
    refine ⟨fun _ => ⟨hl_ix (by omega) (by omega), fun z => absurd rfl z, fun _ => ⟨fun z => absurd rfl z, fun _ => ⟨hl_ix (by omega) (by omega), fun z => absurd rfl z, fun _ => ⟨fun _ S15 h15 S16 h16 => ?_, fun z => absurd rfl z⟩⟩⟩⟩, fun z => absurd z (by decide)⟩
    have eT : S16 = wdrT S b (nI ev) (nI (ev + 1)) (S14.1 0 (b + 1) 4).toInt64 := by
      rw [h16, h15]
      unfold E_act
      have d0' : (hs_wI S3 71 1 b (nI ev)).1 11 1 0 = nI ev := d0
      rw [d0', nI_1, h3', e14]
    rw [eT]
    refine ⟨wdr_RR hX hL hQ hM hb g72 g71 (by omega), rfl, fun _ => congrArg Int32.toInt64 ?_⟩
    rw [h15, e14, h3']
    exact ((wI_at (S := S) (t := 0) (i := b + 1) (j := 7) (x := nI ev)).trans (if_neg (by decide))).trans (i4.trans i3.symm)
  · exact bI_eq0.mpr (Classical.not_not.mpr (h62.mp z.2.2.1))
  · rcases i7 with ⟨_, w2⟩ | ⟨w, hw', w1, w2⟩
    · exact w2
    · have := z.2.1
      rw [w1] at this
      exact absurd this (neg1 (by omega))
