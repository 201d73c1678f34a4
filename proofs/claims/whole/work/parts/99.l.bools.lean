/-! ===== answers that are true or false: 0 or 1 ===== -/
def OKb (n : Nat) (k : Int32) (r : Int32) (T : hs_S) : Prop := OK n k r T ∧ (k = 0 → r = 0 ∨ r = 1)
theorem callb_reads {n : Nat} {S : hs_S} {a1 a2 a3 : Int32} (h : RR n S) (hn : n < 512) (hw : hs_Wi S) : m_L_reads a1 a2 a3 S (fun k S2 => hs_Wi S2 → m_M_reads a1 a2 a3 S2 (fun r T => OKb n k r T)) := by
  have bad : (F_isOwner a1 = 0 ∨ F_isCell a2 a3 = 0) → hs_Wi S → m_M_reads a1 a2 a3 S (fun r T => OKb n 1 r T) := fun e hw2 => by
    refine ok_M_reads hw2 ?_
    rintro x hx
    rw [oc_n e] at hx
    subst hx
    refine ⟨Or.inl rfl, ?_⟩
    rintro _ rfl
    exact ⟨fun _ => ⟨OK_f h hn rfl, fun z => absurd z (by decide)⟩, fun z => absurd rfl z⟩
  refine ok_L_reads hw fun _ => ok_C_reads hw fun _ => t_needOwner hw (fun o ho eo => fun _ => t_cellAt hw (fun c r hc hr e1 e2 => ?_) (fun e => ⟨rfl, bad (Or.inr e)⟩)) (fun e => ⟨rfl, bad (Or.inl e)⟩)
  subst eo e1 e2
  have go : ∀ y : Int64, ∀ k, (F_Rts_canRead 1 (nI o) (nI (6 * c + r)) S = 0 → y = 0) → (¬ F_Rts_canRead 1 (nI o) (nI (6 * c + r)) S = 0 → y = 1) → k = (0 : Int32) → hs_Wi (hs_wL S 100 1 (0 : Int32).toNatClampNeg y) → m_M_reads (nI o) (nI c) (nI r) (hs_wL S 100 1 (0 : Int32).toNatClampNeg y) (fun r T => OKb n k r T) := by
    rintro y k hy0 hy1 rfl hw2
    refine ok_M_reads hw2 ?_
    rintro x hx
    rw [oc_y ho hc hr] at hx
    subst hx
    refine ⟨Or.inr rfl, ?_⟩
    rintro _ rfl
    rw [nI_6c]
    have hR := RR_as (x := 1) (RR_out (y := y) h) hn
    obtain ⟨ev, ng, nl, nE, nB, nR, nd, hX, _⟩ := id hR
    refine ⟨fun z => absurd z (by decide), fun _ => ⟨pRead hX, ?_⟩⟩
    rw [read_now hX (by omega) ho]
    exact ⟨fun z => ⟨⟨hR, rfl, fun _ => hy0 z⟩, fun _ => Or.inl rfl⟩, fun z => ⟨⟨hR, rfl, fun _ => hy1 z⟩, fun _ => Or.inr rfl⟩⟩
  refine ⟨hl_ix (by omega) (by omega), bI_01 _, fun q => ?_, fun q => ?_⟩
  · rintro _ rfl hw2
    exact go _ _ (fun _ => rfl) (fun z => absurd q z) rfl hw2
  · rintro _ rfl hw2
    exact go _ _ (fun z => absurd z q) (fun _ => rfl) rfl hw2
theorem callb_isFrozen {n : Nat} {S : hs_S} {a1 : Int32} (h : RR n S) (hn : n < 512) (hw : hs_Wi S) : m_L_isFrozen a1 S (fun k S2 => hs_Wi S2 → m_M_isFrozen a1 S2 (fun r T => OKb n k r T)) := by
  obtain ⟨ev, ng, nl, nE, nB, nR, nd, hX, hL, hQ, hM⟩ := id h
  refine ok_L_isFrozen hw fun _ => ok_C_isFrozen hw fun _ => t_needColumn hw (fun c hc ec => ?_) (fun e => ⟨rfl, fun hw2 => ok_M_isFrozen hw2 ?_⟩)
  · subst ec
    rw [hl_cl (by omega)]
    obtain ⟨⟨g1, g2⟩, g3, g4, g5⟩ := hX.2.2.2.2.2.2.2.2.1 c hc
    have go : ∀ y : Int64, (F_Rnd_wasFrozen (S.2.1 26 1 c) S = 0 → y = 0) → (¬ F_Rnd_wasFrozen (S.2.1 26 1 c) S = 0 → y = 1) → hs_Wi (hs_wL S 100 1 (0 : Int32).toNatClampNeg y) → m_M_isFrozen (nI c) (hs_wL S 100 1 (0 : Int32).toNatClampNeg y) (fun r T => OKb n 0 r T) := by
      intro y hy0 hy1 hw2
      refine ok_M_isFrozen hw2 ?_
      unfold vc_M_isFrozen
      rw [col_y hc, hl_cl (by omega)]
      rintro _ rfl
      refine ⟨Or.inr rfl, ?_⟩
      rintro _ rfl
      have hR := RR_as (x := 1) (RR_out (y := y) h) hn
      refine ⟨fun z => absurd z (by decide), fun _ => ⟨hl_ix (by omega) (by omega), fun z => ⟨⟨hR, rfl, fun _ => hy0 ?_⟩, fun _ => Or.inl rfl⟩, fun z => ⟨⟨hR, rfl, fun _ => hy1 ?_⟩, fun _ => Or.inr rfl⟩⟩⟩
      · have z' : S.1 62 1 c = -1 := z
        rcases g4 with ⟨w1, w2⟩ | ⟨f, w1, w2, _⟩
        · exact bI_eq0.mpr (Classical.not_not.mpr w2)
        · rw [w2] at z'
          have e1 : (nI f).toInt = f := nI_toInt (by have := hX.1.1; omega)
          have e2 : (nI f).toInt = -1 := by rw [z']; rfl
          omega
      · have z' : ¬ S.1 62 1 c = -1 := z
        rcases g4 with ⟨w1, w2⟩ | ⟨f, w1, w2, w3, _⟩
        · exact absurd w1 z'
        · intro q
          have q' : S.1 8 (S.2.1 26 1 c) 1 = 2147483647 := Classical.not_not.mp (bI_eq0.mp q)
          rw [w3] at q'
          have e1 : (nI f).toInt = f := nI_toInt (by have := hX.1.1; omega)
          have e2 : (nI f).toInt = 2147483647 := by rw [q']; rfl
          have := hX.1.1
          omega
    refine ⟨hl_ix (by omega) (by omega), by omega, bI_01 _, fun q => ?_, fun q => ?_⟩
    · rintro _ rfl hw2
      exact go _ (fun _ => rfl) (fun z => absurd q z) hw2
    · rintro _ rfl hw2
      exact go _ (fun z => absurd z q) (fun _ => rfl) hw2
  · unfold vc_M_isFrozen
    rw [col_n e]
    rintro _ rfl
    refine ⟨Or.inl rfl, ?_⟩
    rintro _ rfl
    exact ⟨fun _ => ⟨OK_f h hn rfl, fun z => absurd z (by decide)⟩, fun z => absurd rfl z⟩
theorem callb_share {n : Nat} {S : hs_S} {a1 a2 : Int32} (h2 : a2 = 0 ∨ a2 = 1) (h : RR n S) (hn : n < 512) (hw : hs_Wi S) : m_L_share a1 a2 S (fun k S2 => hs_Wi S2 → m_M_share a1 a2 S2 (fun r T => OKb n k r T)) := by
  obtain ⟨ev, ng, nl, nE, nB, nR, nd, ⟨hA, hG, hH, hE, hF, hN, hB, hC⟩, hL, hQ, hM⟩ := id h
  refine ok_L_share hw fun _ => ok_C_share hw fun _ => t_needColumn hw (fun c hc ec => ?_) (fun e => ⟨rfl, fun hw2 => ok_M_share hw2 ?_⟩)
  · subst ec
    rw [hl_cl (by omega)]
    obtain ⟨h1, h3, h4⟩ := hN c hc
    have go : ∀ y : Int64, y = (S.1 61 1 c).toInt64 → hs_Wi (hs_wL (hs_wI (hs_wI S 27 1 c a2) 10 1 5 (S.1 10 1 5 + 1)) 100 1 (0 : Int32).toNatClampNeg y) → m_M_share (nI c) a2 (hs_wL (hs_wI (hs_wI S 27 1 c a2) 10 1 5 (S.1 10 1 5 + 1)) 100 1 (0 : Int32).toNatClampNeg y) (fun r T => OKb n 0 r T) := fun y hy hw2 => by
      refine ok_M_share hw2 ?_
      unfold vc_M_share
      rw [col_y hc, hl_cl (by omega)]
      rintro _ rfl
      refine ⟨Or.inr rfl, ?_⟩
      rintro _ rfl
      refine ⟨fun _ => ⟨hl_ix (by omega) (by omega), h2, ?_⟩, fun z => absurd z (by decide)⟩
      rintro _ rfl _ rfl
      have e1 : S.1 10 1 5 + 1 = nI (ev + 1) := by rw [hA.2.1.1]; exact nI_1 ev
      have e2 : S.1 11 1 0 + 1 = nI (ev + 1) := by rw [hA.2.1.2.1]; exact nI_1 ev
      have hev := hA.1.1.1
      refine ⟨h4, ⟨⟨ev + 1, ng, nl, nE, nB, nR, nd, ⟨⟨⟨⟨by omega, by omega⟩, by have := hA.1.2; omega⟩, ⟨e1, e2, hA.2.1.2.2⟩, hA.2.2⟩, rG_up hH (by omega) hG, rH_up hH, rE_up hE, hF, fun c' hc' => ?_, rB_up hB, rC_up hC⟩, hL, hQ, hM⟩, rfl, fun _ => hy⟩, fun _ => h4⟩
      obtain ⟨w1, w2, w3⟩ := hN c' hc'
      have g1 := wI_at (S := S) (t := 27) (i := 1) (j := c) (j' := c') (x := a2)
      have g2 := wI_at (S := S) (t := 61) (i := 1) (j := c) (j' := c') (x := a2)
      refine ⟨w1, ?_⟩
      by_cases q : c' = c
      · rw [if_pos q] at g1 g2
        exact ⟨g1.trans g2.symm, h2.imp g2.trans g2.trans⟩
      · rw [if_neg q] at g1 g2
        exact ⟨g1.trans (w2.trans g2.symm), w3.imp g2.trans g2.trans⟩
    refine ⟨hl_ix (by omega) (by omega), h2, ?_⟩
    rintro _ rfl _ rfl
    refine ⟨by rw [h3]; exact h4, fun q => ?_, fun q => ?_⟩
    · rintro _ rfl hw2
      exact go _ (by rw [← h3]; show (0 : Int64) = Int32.toInt64 (S.1 27 1 c); rw [show S.1 27 1 c = 0 from q]; rfl) hw2
    · rintro _ rfl hw2
      refine go _ ?_ hw2
      rw [h4.resolve_left (by rw [← h3]; exact q)]; rfl
  · unfold vc_M_share
    rw [col_n e]
    rintro _ rfl
    refine ⟨Or.inl rfl, ?_⟩
    rintro _ rfl
    exact ⟨fun z => absurd rfl z, fun _ => ⟨OK_f h hn rfl, fun z => absurd z (by decide)⟩⟩
