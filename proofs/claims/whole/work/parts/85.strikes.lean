/-! ===== striking, on both sides ===== -/
theorem P_reckon_of {n : Nat} {U V : hs_S} {ev ng nl nE nB nR nd r : Nat} (hX : RX n U V ev ng nl nE nB nR nd) (hr : r < nR) : P_Clr_reckon (U.2.1 14 1 r) U := by
  have hp := P_goTo_of (a := 0) (i := 0) hX
  have hz : hs_sz U 13 = nB := hX.1.2.2.1.2.2.1
  obtain ⟨_, ⟨c, hc, _, h2⟩, _⟩ := hX.2.2.2.2.2.2.2.1 r hr
  exact ⟨hp.1, hp.2, ⟨c, hc, h2⟩, fun k hk => (hX.2.2.2.2.2.2.1 k (by rw [hz] at hk; exact hk)).1.1.1⟩
theorem P_reckonAll_of {n : Nat} {U V : hs_S} {ev ng nl nE nB nR nd : Nat} (hX : RX n U V ev ng nl nE nB nR nd) : P_Clr_reckonAll U := by
  have hz : hs_sz U 14 = nR := hX.1.2.2.1.2.2.2.2
  have hR30 := hX.1.1.2.2.2.1
  refine ⟨by omega, fun i hi => ?_⟩
  rw [hz] at hi
  refine ⟨?_, P_reckon_of hX hi⟩
  have := (hX.2.2.2.2.2.2.2.1 i hi).1.1
  show U.2.1 14 1 i ≠ 0
  omega
theorem P_clears_of {n : Nat} {U V : hs_S} {ev ng nl nE nB nR nd r : Nat} (hX : RX n U V ev ng nl nE nB nR nd) (hr : r < nR) : P_clears (nI r) V := by
  have hA := hX.1
  have hR30 := hA.1.2.2.2.1
  obtain ⟨_, ⟨c, hc, c2, _⟩, _⟩ := hX.2.2.2.2.2.2.2.1 r hr
  refine ⟨⟨r, by omega, rfl⟩, ⟨c, hc, by rw [hl_cl (by omega)]; exact c2⟩, mOk_of hX, nB, hA.1.2.2.1.2, hA.2.1.2.2.2.2.2.1, fun b hb => amt hX.2.2.2.2.2.2.1 hb⟩
theorem P_clearsAll_of {n : Nat} {U V : hs_S} {ev ng nl nE nB nR nd : Nat} (hX : RX n U V ev ng nl nE nB nR nd) : P_clearsAll V :=
  ⟨⟨nR, hX.1.1.2.2.2.1, hX.1.2.1.2.2.2.2.2.2.1, fun _ hk => P_clears_of hX hk⟩, nB, hX.1.1.2.2.1.2, hX.1.2.1.2.2.2.2.2.1⟩
theorem kf_mo {S T : hs_S} (h : KF S T) : hs_mo T = hs_mo S := by
  refine mo_of (fun t i p h1 _ _ => h.2.2 t i p ?_) (fun i p => by rw [h.1])
  unfold hs_fr hs_fs
  simp only [Bool.or_eq_false_iff, Bool.and_eq_false_iff, beq_eq_false_iff_ne]
  omega
theorem call_strikeBid {n : Nat} {S : hs_S} {a1 : Int32} (h : RR n S) (hn : n < 512) (hw : hs_Wi S) : m_L_strikeBid a1 S (fun k S2 => hs_Wi S2 → m_M_strikeBid a1 S2 (fun r T => OK n k r T)) := by
  obtain ⟨ev, ng, nl, nE, nB, nR, nd, hS⟩ := id h
  obtain ⟨hA, hG, hH, hE, hF, hN, hB, hC⟩ := id hS.1
  have hz : hs_sz S 13 = nB := hA.2.2.1.2.2.1
  have e24 : S.1 11 1 24 = nI nB := hA.2.1.2.2.2.2.2.1
  have hB80 : nB ≤ 80 := hA.1.2.2.1.2
  have hR30 := hA.1.2.2.2.1
  have hev := hA.1.1
  refine ok_L_strikeBid hw fun _ => ok_C_strikeBid hw fun _ => t_bidNumbered hw (by omega) (fun b hb => (hB b (by omega)).1.1.1) (fun b hb eb => ?_) (fun e => Or.inl ⟨rfl, fun hw2 => ok_M_strikeBid hw2 ?_⟩)
  · rw [hz] at hb
    subst eb
    obtain ⟨⟨_, _, _, _, _, _, ⟨i8, i9⟩⟩, i10⟩ := hB b hb
    obtain ⟨j1, c, hc, j2, j3, j4⟩ := bid_rd (nB := nB) i10 hC (by omega) hR30
    have bad : ¬ (¬ S.1 72 1 b = -1 ∧ S.1 73 1 b = 0) → hs_Wi S → m_M_strikeBid (nI b) S (fun r T => OK n 2 r T) := fun q hw2 => by
      refine ok_M_strikeBid hw2 ?_
      unfold vc_M_strikeBid
      rw [bid_1 hB80 e24 hb, hl_cl (by omega)]
      refine ⟨Or.inr rfl, ?_⟩
      rintro _ rfl
      refine ⟨fun _ => ⟨hl_ix (by omega) (by omega), ?_, fun q1 => ⟨fun q2 => absurd ⟨q1, q2⟩ q, ?_⟩⟩, fun z => absurd z (by decide)⟩
      · rintro _ _ rfl; exact OK_g h hn (by decide)
      · rintro _ _ rfl; exact OK_g h hn (by decide)
    refine ⟨Nat.succ_ne_zero _, j1, fun q1 => ⟨fun q2 => ?_, fun q2 => Or.inr ⟨rfl, bad fun z => q2 (i8.trans z.2)⟩⟩, fun q1 => Or.inr ⟨rfl, bad fun z => z.1 (j4.mp q1)⟩⟩
    have g72 : ¬ S.1 72 1 b = -1 := fun z => q1 (j4.mpr z)
    have g73 : S.1 73 1 b = 0 := i8.symm.trans q2
    have e1 : S.1 10 1 5 + 1 = nI (ev + 1) := by rw [hA.2.1.1]; exact nI_1 ev
    have a73 : ∀ j, (hs_wI S 73 1 b 1).1 73 1 j = if j = b then 1 else S.1 73 1 j := fun j => wI_at
    have a0 : ∀ k, (hs_wI S 0 (b + 1) 8 1).1 0 (b + 1) k = if k = 8 then 1 else S.1 0 (b + 1) k := fun k => wI_at
    have eQ : ∀ j k, k ≠ 8 → (hs_wI S 0 (b + 1) 8 1).1 0 (j + 1) k = S.1 0 (j + 1) k := fun j k hk => by
      by_cases q : j = b
      · rw [q]; exact (a0 k).trans (if_neg hk)
      · exact congrFun (wI_ne (by omega)) k
    have hX0 : RX n (hs_wI S 0 (b + 1) 8 1) (hs_wI S 73 1 b 1) ev ng nl nE nB nR nd := by
      refine ⟨hA, hG, hH, hE, hF, hN, fun j hj => ?_, hC⟩
      obtain ⟨⟨⟨g1, g2, o, g3, g4, g5⟩, ⟨g6, g7⟩, ⟨m, hm, g8, g9⟩, ⟨l, hl, g10, g11⟩, g12, g13, ⟨g14, g15⟩⟩, g16⟩ := hB j hj
      refine ⟨⟨⟨g1, (eQ j 0 (by decide)).trans g2, o, g3, g4, (eQ j 1 (by decide)).trans g5⟩, ⟨(eQ j 3 (by decide)).trans g6, g7⟩, ⟨m, hm, g8, (eQ j 4 (by decide)).trans g9⟩, ⟨l, hl, g10, (eQ j 5 (by decide)).trans g11⟩, ?_, ?_, ?_⟩, g16⟩
      · obtain ⟨w, hw, w1, w2⟩ := g12
        exact ⟨w, hw, w1, (eQ j 6 (by decide)).trans w2⟩
      · rcases g13 with ⟨w1, w2⟩ | ⟨w, hw, w1, w2⟩
        · exact Or.inl ⟨w1, (eQ j 7 (by decide)).trans w2⟩
        · exact Or.inr ⟨w, hw, w1, (eQ j 7 (by decide)).trans w2⟩
      · rw [a73]
        by_cases q : j = b
        · rw [if_pos q, q]
          exact ⟨(a0 8).trans (if_pos rfl), Or.inr rfl⟩
        · rw [if_neg q]
          exact ⟨(congrFun (wI_ne (S := S) (t := 0) (i := b + 1) (by omega)) 8).trans g14, g15⟩
    intro S7 h7 S8 h8
    have e8 : S8 = hs_wI (hs_wI S 0 (b + 1) 8 1) 10 1 5 (nI (ev + 1)) := by
      rw [h8, h7]
      exact congrArg (hs_wI (hs_wI S 0 (b + 1) 8 1) 10 1 5) e1
    have hXe := RX_ev hX0 hn
    rw [e8]
    refine ⟨P_reckonAll_of hXe, fun xc S10 hRc S5 h5 hw2 => ?_⟩
    have kf := reckonAll_kf hRc
    have pk : ∀ t i p, 42 ≤ t ∨ t = 11 → S10.1 t i p = S.1 t i p := fun t i p ht => by
      rw [kf.2.2 t i p (by
        unfold hs_fr hs_fs
        simp only [Bool.or_eq_false_iff, Bool.and_eq_false_iff, beq_eq_false_iff_ne]
        omega)]
      exact (if_neg fun z => by omega).trans (if_neg fun z => by omega)
    refine ok_M_strikeBid hw2 ?_
    unfold vc_M_strikeBid
    have d24 : S5.1 11 1 24 = nI nB := by rw [h5]; exact (pk 11 1 24 (Or.inr rfl)).trans e24
    rw [bid_1 hB80 d24 hb, hl_cl (by omega)]
    refine ⟨Or.inr rfl, ?_⟩
    intro S3 h3
    have d72 : S3.1 72 1 b = S.1 72 1 b := by rw [h3, h5]; exact pk 72 1 b (Or.inl (by decide))
    have d73 : S3.1 73 1 b = 0 := by rw [h3, h5]; exact (pk 73 1 b (Or.inl (by decide))).trans g73
    rw [d72, d73]
    refine ⟨fun _ => ⟨hl_ix (by omega) (by omega), fun z => absurd z g72, fun _ => ⟨fun _ S12 h12 => ?_, fun z => absurd rfl z⟩⟩, fun z => absurd z (by decide)⟩
    have hmo : hs_mo S12 = hs_mo (hs_wI S 73 1 b 1) := by
      rw [h12, h3, h5]
      refine mo_of (fun t i p h1 h2 h3 => ?_) (fun i p => by show S10.2.2.1 86 i p = _; rw [kf.1]; rfl)
      show (if t = 73 ∧ i = 1 ∧ p = b then (1 : Int32) else if t = 11 ∧ i = 1 ∧ p = 59 then (if (1 : Int32) = 0 then (1 : Int32) else 0) else S10.1 t i p) = if t = 73 ∧ i = 1 ∧ p = b then 1 else S.1 t i p
      rw [if_neg (c := t = 11 ∧ i = 1 ∧ p = 59) fun z => h3 ⟨z.1, z.2.2⟩, pk t i p h1]
    have hX12 : RX n (hs_wI S 0 (b + 1) 8 1) S12 ev ng nl nE nB nR nd := RX_cm rfl hmo hX0
    refine ⟨P_clearsAll_of hX12, fun xm T0 hRm S13 h13 => ?_⟩
    rw [h13]
    refine anew_fin hS hn hX0 rfl rfl (fun b' => eQ b' 9 (by decide)) rfl rfl rfl rfl rfl rfl rfl rfl rfl rfl rfl rfl ⟨hS.2.1.2.2.2.1, fun b' h1 h2 => ?_, hS.2.1.2.2.2.2.2⟩ hRc hmo (fun t i p h1 h2 => ?_) ?_ ?_ ?_ ?_ hRm
    · have h1' : nB ≤ b' := by
        have : (S.1 11 1 24).toNatClampNeg ≤ b' := h1
        rw [e24, hl_cl (by omega)] at this; exact this
      rw [a73, if_neg (by omega)]
      exact hS.2.1.2.2.2.2.1 b' h1 h2
    · rw [h12, h3, h5]
      exact (if_neg fun z => by omega).trans (if_neg fun z => by omega)
    · rw [h12, h3, h5]; rfl
    · rw [h12, h3, h5]; rfl
    · rw [h12, h3, h5]; rfl
    · rw [h12, h3, h5]; rfl
  · have hb0 : F_isBid a1 S = 0 := (bid_iff hB80 e24).mpr (by rw [hz] at e; exact e)
    refine ⟨Or.inl hb0, ?_⟩
    rintro _ rfl
    exact ⟨fun z => absurd hb0 z, fun _ => OK_f h hn hb0⟩
theorem call_strikeEdit {n : Nat} {S : hs_S} {a1 : Int32} (h : RR n S) (hn : n < 512) (hw : hs_Wi S) : m_L_strikeEdit a1 S (fun k S2 => hs_Wi S2 → m_M_strikeEdit a1 S2 (fun r T => OK n k r T)) := by
  obtain ⟨ev, ng, nl, nE, nB, nR, nd, hS⟩ := id h
  obtain ⟨hA, hG, hH, hE, hF, hN, hB, hC⟩ := id hS.1
  have hz : hs_sz S 12 = nE := hA.2.2.1.1
  have e12 : S.1 11 1 12 = nI nE := hA.2.1.2.2.2.2.1
  have h60 := hA.1.2.2.1.1
  have hR30 := hA.1.2.2.2.1
  have hev := hA.1.1
  have bad1 : ¬ (∃ k : Nat, k < nE ∧ a1 = nI k) → hs_Wi S → m_M_strikeEdit a1 S (fun r T => OK n 1 r T) := fun q hw2 => by
    refine ok_M_strikeEdit hw2 ?_
    rintro x hx
    have hx0 : x = 0 := by
      rw [hx, e12]
      by_cases q1 : a1 < 0
      · rw [if_pos q1]
      · rw [if_neg q1, if_pos]
        refine Classical.not_not.mp fun z => q ?_
        exact lt_of (by omega) q1 (nle.mp z)
    subst hx0
    refine ⟨Or.inl rfl, ?_⟩
    rintro _ rfl
    exact ⟨fun z => absurd rfl z, fun _ => OK_f h hn rfl⟩
  refine ok_L_strikeEdit hw fun _ => ok_C_strikeEdit hw ⟨fun q => Or.inl ⟨rfl, bad1 fun ⟨k, hk, e⟩ => nI_lo (by omega) (e ▸ q)⟩, fun q => ⟨fun q2 => ?_, fun q2 => Or.inl ⟨rfl, bad1 fun ⟨k, hk, e⟩ => q2 ?_⟩⟩⟩
  · rw [hz] at q2
    obtain ⟨k, hk, ek⟩ := lt_of (by omega) q q2
    subst ek
    obtain ⟨⟨⟨i1, i2⟩, i3, i4, i5, i6⟩, i7⟩ := hE k hk
    rw [hl_cl (by omega), hz, i1]
    have hx1 : ∀ x : Int32, ∀ V : hs_S, V.1 11 1 12 = nI nE → x = (if nI k < 0 then (0 : Int32) else (if (V.1 11 1 12) ≤ nI k then (0 : Int32) else (1 : Int32))) → x = 1 := fun x V eV hx => by
      rw [hx, if_neg (nI_lo (by omega)), eV, if_neg]
      exact fun z => absurd ((hl_le (by omega) (by omega)).mp z) (by omega)
    refine ⟨hl_ix (by omega) (by omega), Nat.succ_ne_zero _, fun q3 => ?_, fun q3 => Or.inr ⟨rfl, fun hw2 => ok_M_strikeEdit hw2 ?_⟩⟩
    · have g58 : S.1 58 1 k = 0 := i5.symm.trans q3
      have e1 : S.1 10 1 5 + 1 = nI (ev + 1) := by rw [hA.2.1.1]; exact nI_1 ev
      have a58 : ∀ j, (hs_wI S 58 1 k 1).1 58 1 j = if j = k then 1 else S.1 58 1 j := fun j => wI_at
      have a3 : ∀ p, (hs_wI S 3 (k + 1) 6 1).1 3 (k + 1) p = if p = 6 then 1 else S.1 3 (k + 1) p := fun p => wI_at
      have eQ : ∀ j p, p ≠ 6 → (hs_wI S 3 (k + 1) 6 1).1 3 (j + 1) p = S.1 3 (j + 1) p := fun j p hp => by
        by_cases w : j = k
        · rw [w]; exact (a3 p).trans (if_neg hp)
        · exact congrFun (wI_ne (by omega)) p
      have hX0 : RX n (hs_wI S 3 (k + 1) 6 1) (hs_wI S 58 1 k 1) ev ng nl nE nB nR nd := by
        refine ⟨hA, hG, hH, fun j hj => ?_, hF, hN, hB, hC⟩
        obtain ⟨⟨⟨g1, g2⟩, ⟨c, hc, g3, g4⟩, ⟨g5, g6, g7, g8⟩, g9, g10⟩, g11⟩ := hE j hj
        refine ⟨⟨⟨g1, (eQ j 0 (by decide)).trans g2⟩, ⟨c, hc, g3, (eQ j 1 (by decide)).trans g4⟩, ⟨(eQ j 2 (by decide)).trans g5, (eQ j 3 (by decide)).trans g6, (eQ j 4 (by decide)).trans g7, g8⟩, ?_⟩, g11⟩
        rw [a58]
        by_cases w : j = k
        · rw [if_pos w, w]
          exact ⟨(a3 6).trans (if_pos rfl), Or.inr rfl⟩
        · rw [if_neg w]
          exact ⟨(congrFun (wI_ne (S := S) (t := 3) (i := k + 1) (by omega)) 6).trans g9, g10⟩
      intro S6 h6 S7 h7
      have e7 : S7 = hs_wI (hs_wI S 3 (k + 1) 6 1) 10 1 5 (nI (ev + 1)) := by
        rw [h7, h6]
        exact congrArg (hs_wI (hs_wI S 3 (k + 1) 6 1) 10 1 5) e1
      have hXe := RX_ev hX0 hn
      rw [e7]
      refine ⟨P_reckonAll_of hXe, fun xc S10 hRc S5 h5 hw2 => ?_⟩
      have kf := reckonAll_kf hRc
      have pk : ∀ t i p, 42 ≤ t ∨ t = 11 → S10.1 t i p = S.1 t i p := fun t i p ht => by
        rw [kf.2.2 t i p (by
          unfold hs_fr hs_fs
          simp only [Bool.or_eq_false_iff, Bool.and_eq_false_iff, beq_eq_false_iff_ne]
          omega)]
        exact (if_neg fun z => by omega).trans (if_neg fun z => by omega)
      refine ok_M_strikeEdit hw2 ?_
      rintro x hx
      have hx' := hx1 x S5 (by rw [h5]; exact (pk 11 1 12 (Or.inr rfl)).trans e12) hx
      subst hx'
      refine ⟨Or.inr rfl, ?_⟩
      intro S3 h3
      have d58 : S3.1 58 1 k = 0 := by rw [h3, h5]; exact (pk 58 1 k (Or.inl (by decide))).trans g58
      rw [hl_cl (by omega), d58]
      refine ⟨fun _ => ⟨hl_ix (by omega) (by omega), fun _ S12 h12 => ?_, fun z => absurd rfl z⟩, fun z => absurd z (by decide)⟩
      have hmo : hs_mo S12 = hs_mo (hs_wI S 58 1 k 1) := by
        rw [h12, h3, h5]
        refine mo_of (fun t i p h1 h2 h3 => ?_) (fun i p => by show S10.2.2.1 86 i p = _; rw [kf.1]; rfl)
        show (if t = 58 ∧ i = 1 ∧ p = k then (1 : Int32) else if t = 11 ∧ i = 1 ∧ p = 59 then (if (1 : Int32) = 0 then (1 : Int32) else 0) else S10.1 t i p) = if t = 58 ∧ i = 1 ∧ p = k then 1 else S.1 t i p
        rw [if_neg (c := t = 11 ∧ i = 1 ∧ p = 59) fun z => h3 ⟨z.1, z.2.2⟩, pk t i p h1]
      have hX12 : RX n (hs_wI S 3 (k + 1) 6 1) S12 ev ng nl nE nB nR nd := RX_cm rfl hmo hX0
      refine ⟨P_clearsAll_of hX12, fun xm T0 hRm S13 h13 => ?_⟩
      rw [h13]
      refine anew_fin hS hn hX0 rfl rfl (fun _ => rfl) rfl rfl rfl rfl rfl rfl rfl rfl rfl rfl rfl rfl ⟨fun j h1 h2 => ?_, hS.2.1.2.2.2.2⟩ hRc hmo (fun t i p h1 h2 => ?_) ?_ ?_ ?_ ?_ hRm
      · have h1' : nE ≤ j := by
          have : (S.1 11 1 12).toNatClampNeg ≤ j := h1
          rw [e12, hl_cl (by omega)] at this; exact this
        rw [a58, if_neg (by omega)]
        exact hS.2.1.2.2.2.1 j h1 h2
      · rw [h12, h3, h5]
        exact (if_neg fun z => by omega).trans (if_neg fun z => by omega)
      · rw [h12, h3, h5]; rfl
      · rw [h12, h3, h5]; rfl
      · rw [h12, h3, h5]; rfl
      · rw [h12, h3, h5]; rfl
    · rintro x hx
      have hx' := hx1 x S e12 hx
      subst hx'
      refine ⟨Or.inr rfl, ?_⟩
      rintro _ rfl
      rw [hl_cl (by omega)]
      refine ⟨fun _ => ⟨hl_ix (by omega) (by omega), fun z => absurd (i5.trans z) q3, fun _ => ?_⟩, fun z => absurd z (by decide)⟩
      rintro _ rfl
      exact OK_g h hn (by decide)
  · rw [hz, e]; exact nI_lt2 (by omega) hk
