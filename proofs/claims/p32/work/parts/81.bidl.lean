/-! ===== the law's bids ===== -/
theorem rf_got {n : Nat} {S : hs_S} (h : KS n S) (hw : hs_Wi S) : m_L_call 17 (nI (hs_sz S 13)) 0 0 S (lIs (-2100000001) S) := lc_17 hw fun hw => ok_C_got hw fun _ => n_b h hw (no_k (by have := (KS_sz h).1; omega) (Nat.le_refl _)) (lX_o ⟨rfl, rfl⟩)
theorem ac_got {n b : Nat} {S : hs_S} (h : KS n S) (hw : hs_Wi S) (hb : b < hs_sz S 13) : m_L_call 17 (nI b) 0 0 S (lIs (S.1 0 (b + 1) 9) S) := lc_17 hw fun hw => ok_C_got hw fun _ => y_b h hw hb ⟨Nat.succ_ne_zero _, rfl, rfl⟩
theorem la_bids {n : Nat} {z : Int32} {S U : hs_S} (h : JJ n S U) (hn : n + 4 < 512) (hw : hs_Wi S) (hu : hs_Wi U) (h75 : hs_sz S 13 < 75) : m_L_bids (nI (hs_sz S 13)) z S U (fun x T T' => x = 1 ∧ JJ (n + 4) T T' ∧ hs_sz T 12 = hs_sz S 12 ∧ hs_sz T 14 = hs_sz S 14 ∧ (hs_sz T 13 = hs_sz S 13 ∨ (hs_sz T 13 = hs_sz S 13 + 1 ∧ T.1 0 (hs_sz S 13 + 1) 9 = 0))) := by
  refine ok_L_bids hw hu ?_
  unfold vc_L_bids
  obtain ⟨o, ho, eo⟩ := so_ex (N := 6) z 6 rfl (by omega) (by omega)
  obtain ⟨c, hc, ec⟩ := so_ex (N := 2) (z >>> ((3 : Int32) &&& 31)) 2 rfl (by omega) (by omega)
  obtain ⟨b, hb, eb⟩ := so_ex (N := 2) (z >>> ((5 : Int32) &&& 31)) 2 rfl (by omega) (by omega)
  obtain ⟨j, hj, ej⟩ := so_ex (N := 25) (z >>> ((6 : Int32) &&& 31)) 25 rfl (by omega) (by omega)
  obtain ⟨l, hl, el⟩ := so_ex (N := 45) (z >>> ((8 : Int32) &&& 31)) 45 rfl (by omega) (by omega)
  have em : (1 : Int32) + nI j = nI (1 + j) := by rw [show (1 : Int32) = nI 1 from rfl, nI_add]
  obtain ⟨m, hm⟩ : ∃ m, m = 1 + j := ⟨_, rfl⟩
  rw [eo, ec, eb, ej, el, em, ← hm]
  obtain ⟨L, hL, eL⟩ := KS_lim h.1 ho
  refine ⟨so_P (by decide), so_P (by decide), so_P (by decide), so_P (by decide), so_P (by decide), ⟨⟨o, ho, rfl⟩, (KS_ex h.1 ho).1⟩, fun _ _ => ?_⟩
  refine bo_limit (m := 400) h (by omega) hw hu ho (by omega) fun U7 h7 => ?_
  rw [eL]
  refine ⟨nI_lo (by omega), fun hw hu => bo_limit h7 (by omega) hw hu ho hL fun U11 h11 => ?_⟩
  have x37 : (liT S o 400).1 37 1 o = 400 := (wI_at (S := S) (t := 37) (i := 1) (j := o) (x := nI 400)).trans (if_pos rfl)
  refine ⟨x37, fun hw hu => ?_⟩
  obtain ⟨W, hW⟩ : ∃ W, W = liT (liT S o 400) o L := ⟨_, rfl⟩
  rw [← hW] at h11 hw ⊢
  have w37 : W.1 37 1 o = nI L := by rw [hW]; exact (wI_at (S := liT S o 400) (t := 37) (i := 1) (j := o) (x := nI L)).trans (if_pos rfl)
  have wex : F_Ldg_exposureOf (nI o) W = F_Ldg_exposureOf (nI o) S := by rw [hW, ex_li, ex_li]
  have wz : hs_sz W 12 = hs_sz S 12 ∧ hs_sz W 13 = hs_sz S 13 ∧ hs_sz W 14 = hs_sz S 14 := by rw [hW]; exact ⟨rfl, rfl, rfl⟩
  have e1 : (2 : Int32) * nI c + nI b = nI (2 * c + b) := by rw [show (2 : Int32) = nI 2 from rfl, nI_mulI, nI_add]
  have e2 : ((16384 : Int32) * (nI m + 2) + nI l) + 2 = nI (16384 * (m + 2) + (l + 2)) := by
    rw [show (16384 : Int32) = nI 16384 from rfl, show (2 : Int32) = nI 2 from rfl, nI_add, nI_mulI, nI_add, nI_add]
    congr 1
  rw [e1, e2]
  refine bo_bid h11 (by omega) hw hu ho (by omega) hb (by omega) (by omega) (by omega) (fun hx => ?_) (fun hf hx T' hT => ?_)
  · refine ⟨pq_frz h11.1 (by omega), fun x19 hx19 => ⟨fun z => absurd rfl z, fun _ => ⟨?_, ⟨⟨o, ho, rfl⟩, (KS_ex h11.1 ho).1⟩, wex, fun hw => ?_⟩⟩⟩
    · rw [hx19, fq_frz (by omega)]
      by_cases q : F_Rnd_wasFrozen (W.2.1 26 1 c) W = 0
      · obtain ⟨b1, b2⟩ := hx.resolve_left fun z => z q
        rw [if_pos q, b1, if_neg (by decide), if_pos]
        rw [wex, w37] at b2
        exact nle.mp b2
      · rw [if_neg q]
    · have := rf_got h11.1 hw
      rw [wz.2.1] at this
      exact lq_is this fun _ => ⟨rfl, rfl, h11.le (by omega) (by omega), wz.1, wz.2.2, Or.inl wz.2.1⟩
  · obtain ⟨T, hTe⟩ : ∃ T, T = bidT W o c (nI b) m l := ⟨_, rfl⟩
    have t : nbd W T o c b m l := by rw [hTe]; exact nbd_i h11.1
    rw [← hTe] at hT ⊢
    have tex := nbd_ex h11.1 (by omega) hb t
    obtain ⟨⟨z1, z2, z3⟩, ⟨t1, t3, t4, t5, t7, t9, t2⟩, e8, e20, e35, e26, z12, z14⟩ := id t
    have tf : F_Rnd_wasFrozen (T.2.1 26 1 c) T = 0 := by
      rw [fz_iff, e26, e8]; exact fz_iff.mp hf
    rw [wz.2.1] at z1 z2 t1 t3 t4 t5 t7 t9 t2 ⊢
    have tN : hs_sz S 13 < hs_sz T 13 := by omega
    have no : ¬ nI (hs_sz S 13) = -2100000003 := nne (by omega) (by decide)
    refine ⟨pq_frz hT.1 (by omega), fun x19 hx19 => ⟨fun _ => ⟨?_, rfl, ⟨⟨o, ho, rfl⟩, (KS_ex hT.1 ho).1⟩, by rw [tex, wex], pq_got hT.1 tN, (fq_got hT.1 tN).trans t9, so_P (by decide), fun _ => ⟨rfl, hT.le (by omega) (by omega), z12.trans wz.1, z14.trans wz.2.2, Or.inr ⟨z1, t9⟩⟩, fun _ => fun hw hu => ?_⟩, fun z => absurd z no⟩⟩
    · rw [hx19, fq_frz (by omega), if_pos tf]
      by_cases q : nI b = 0
      · rw [if_pos q]; decide
      · rw [if_neg q]
        have := hx.resolve_left fun z => q (by rw [z]; rfl)
        rw [wex, w37] at this
        rw [if_neg (nlt.mpr this)]; decide
    · have e6 : (nI o + 1) - (nI o + 1) / 6 * 6 = nI ((o + 1) % 6) := by rw [nI_1]; exact k6_m (by omega)
      rw [e6]
      have p6 : (o + 1) % 6 < 6 := Nat.mod_lt _ (by omega)
      refine bo_wdr_n hT hw hu p6 tN (Or.inl fun z => ?_) ⟨rfl, fun hw hu => ?_⟩
      · rw [t1] at z
        have := (hl_inj (by omega) (by omega)).mp z
        omega
      refine bo_wdr hT (by omega) hw hu ho (show c < 4 by omega) tN t1 t7 (t2.trans (e26 c).symm) tf fun W' hW' => ?_
      have wz1 := wr_ex (a := nI o) h11.1 hT.1 t
      rw [wz.2.1, wex] at wz1
      have wsz : hs_sz (wrT T (hs_sz S 13)) 13 = hs_sz T 13 := rfl
      refine ⟨t4, ⟨⟨o, ho, rfl⟩, (KS_ex hW'.1 ho).1⟩, wz1, fun hw hu => ?_⟩
      have w7 : (wrT T (hs_sz S 13)).1 0 (hs_sz S 13 + 1) 7 = T.1 10 1 5 := (wI_at (S := T) (t := 0) (i := hs_sz S 13 + 1) (j := 7)).trans (if_pos rfl)
      refine bo_wdr_n hW' hw hu ho (by rw [wsz]; exact tN) (Or.inr fun z => ?_) ⟨rfl, rfl, hW', z12.trans wz.1, z14.trans wz.2.2, Or.inr ⟨wsz.trans z1, ?_⟩⟩
      · rw [w7] at z
        obtain ⟨⟨ev, hev, e⟩, h5⟩ := (KS_sz hT.1).2
        rw [e] at z
        exact neMax (by omega) z
      · exact ((wI_at (S := T) (t := 0) (i := hs_sz S 13 + 1) (j := 7) (j' := 9)).trans (if_neg (by decide))).trans t9
