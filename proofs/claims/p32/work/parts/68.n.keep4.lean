/-! ===== a state and its history, apart; disputes, settling ===== -/
def KU (n : Nat) (U V : hs_S) (ev ng nl nE nB nR nd : Nat) : Prop := RX n U V ev ng nl nE nB nR nd ∧ rL U V ∧ rQ U V nB nR ∧ rM V ng nl nE nB nR
theorem KS_U {n : Nat} {U : hs_S} (h : KS n U) : ∃ (V : hs_S) (ev ng nl nE nB nR nd : Nat), KU n U V ev ng nl nE nB nR nd := by
  obtain ⟨V, ev, ng, nl, nE, nB, nR, nd, ⟨a, b, c, d, e, f, g, i⟩, hL, hQ, hM⟩ := h
  exact ⟨mrg U V, ev, ng, nl, nE, nB, nR, nd, ⟨a, b, c, d, e, f, g, i⟩, hL, hQ, hM⟩
theorem kp_strikeBid {n b : Nat} {U : hs_S} (h : KS n U) (hn : n < 512) (hb : b < hs_sz U 13) : P_Clr_reckonAll (hs_wI (hs_wI U 0 (b + 1) 8 1) 10 1 5 (U.1 10 1 5 + 1)) ∧ ∀ x T, R_Clr_reckonAll (hs_wI (hs_wI U 0 (b + 1) 8 1) 10 1 5 (U.1 10 1 5 + 1)) x T → KS (n + 1) T := by
  obtain ⟨V, ev, ng, nl, nE, nB, nR, nd, hS⟩ := h
  obtain ⟨hA, hG, hH, hE, hF, hN, hB, hC⟩ := id hS.1
  have hev := hA.1.1
  have e5 : U.1 10 1 5 = nI ev := hA.2.1.1
  have hz : hs_sz U 13 = nB := hA.2.2.1.2.2.1
  have h80 := hA.1.2.2.1.2
  rw [hz] at hb
  rw [e5, nI_1]
  have a73 : ∀ j, (hs_wI (mrg U V) 73 1 b 1).1 73 1 j = if j = b then 1 else (mrg U V).1 73 1 j := fun j => wI_at
  have a0 : ∀ k, (hs_wI (mrg U V) 0 (b + 1) 8 1).1 0 (b + 1) k = if k = 8 then 1 else (mrg U V).1 0 (b + 1) k := fun k => wI_at
  have eQ : ∀ j k, k ≠ 8 → (hs_wI (mrg U V) 0 (b + 1) 8 1).1 0 (j + 1) k = (mrg U V).1 0 (j + 1) k := fun j k hk => by
    by_cases q : j = b
    · rw [q]; exact (a0 k).trans (if_neg hk)
    · exact congrFun (wI_ne (by omega)) k
  have hX0 : RX n (hs_wI (mrg U V) 0 (b + 1) 8 1) (hs_wI (mrg U V) 73 1 b 1) ev ng nl nE nB nR nd := by
    refine ⟨hA, hG, hH, hE, hF, hN, fun j hj => ?_, hC⟩
    obtain ⟨⟨⟨g1, g2, o, g3, g4, g5⟩, ⟨g6, g7⟩, ⟨m, hm, g8, g9⟩, ⟨l, hl, g10, g11⟩, g12, g13, ⟨g14, g15⟩⟩, g16⟩ := hB j hj
    refine ⟨⟨⟨g1, (eQ j 0 (by decide)).trans g2, o, g3, g4, (eQ j 1 (by decide)).trans g5⟩, ⟨(eQ j 3 (by decide)).trans g6, g7⟩, ⟨m, hm, g8, (eQ j 4 (by decide)).trans g9⟩, ⟨l, hl, g10, (eQ j 5 (by decide)).trans g11⟩, ?_, ?_, ?_⟩, g16⟩
    · obtain ⟨w, hw, w1, w2⟩ := g12
      exact ⟨w, hw, w1, (eQ j 6 (by decide)).trans w2⟩
    · rcases g13 with ⟨w1, w2⟩ | ⟨w, hw, w1, w2⟩
      · exact Or.inl ⟨w1, (eQ j 7 (by decide)).trans w2⟩
      · exact Or.inr ⟨w, hw, w1, (eQ j 7 (by decide)).trans w2⟩
    · rw [a73]
      by_cases q : j = b
      · rw [if_pos q, q]
        exact ⟨(a0 8).trans (if_pos rfl), Or.inr rfl⟩
      · rw [if_neg q]
        exact ⟨(congrFun (wI_ne (S := mrg U V) (t := 0) (i := b + 1) (by omega)) 8).trans g14, g15⟩
  have hXc : RX n (hs_wI U 0 (b + 1) 8 1) (hs_wI (mrg U V) 73 1 b 1) ev ng nl nE nB nR nd := RX_cm (co_cz (by rw [ci0, ci0, cz_mrg])) rfl hX0
  refine ⟨P_reckonAll_of (RX_ev hXc hn), fun x T hR => ?_⟩
  refine kp_anew hS hn hXc rfl rfl (fun j => ?_) rfl rfl rfl rfl rfl rfl rfl rfl rfl rfl rfl rfl ⟨hS.2.1.2.2.2.1, fun j h1 h2 => ?_, hS.2.1.2.2.2.2.2⟩ hR
  · show (if 0 = 0 ∧ j + 1 = b + 1 ∧ 9 = 8 then _ else U.1 0 (j + 1) 9) = _
    exact if_neg fun z => absurd z.2.2 (by decide)
  · have e24 : (mrg U V).1 11 1 24 = nI nB := hA.2.1.2.2.2.2.2.1
    have h1' : ((mrg U V).1 11 1 24).toNatClampNeg ≤ j := h1
    have := hS.2.1.2.2.2.2.1 j h1' h2
    rw [e24, hl_cl (by omega)] at h1'
    refine ⟨?_, this.2⟩
    rw [a73, if_neg (by omega)]
    exact this.1
theorem kp_strikeEdit {n k : Nat} {U : hs_S} (h : KS n U) (hn : n < 512) (hk : k < hs_sz U 12) : P_Clr_reckonAll (hs_wI (hs_wI U 3 (k + 1) 6 1) 10 1 5 (U.1 10 1 5 + 1)) ∧ ∀ x T, R_Clr_reckonAll (hs_wI (hs_wI U 3 (k + 1) 6 1) 10 1 5 (U.1 10 1 5 + 1)) x T → KS (n + 1) T := by
  obtain ⟨V, ev, ng, nl, nE, nB, nR, nd, hS⟩ := h
  obtain ⟨hA, hG, hH, hE, hF, hN, hB, hC⟩ := id hS.1
  have hev := hA.1.1
  have e5 : U.1 10 1 5 = nI ev := hA.2.1.1
  have hz : hs_sz U 12 = nE := hA.2.2.1.1
  have h60 := hA.1.2.2.1.1
  rw [hz] at hk
  rw [e5, nI_1]
  have a58 : ∀ j, (hs_wI (mrg U V) 58 1 k 1).1 58 1 j = if j = k then 1 else (mrg U V).1 58 1 j := fun j => wI_at
  have a3 : ∀ p, (hs_wI (mrg U V) 3 (k + 1) 6 1).1 3 (k + 1) p = if p = 6 then 1 else (mrg U V).1 3 (k + 1) p := fun p => wI_at
  have eQ : ∀ j p, p ≠ 6 → (hs_wI (mrg U V) 3 (k + 1) 6 1).1 3 (j + 1) p = (mrg U V).1 3 (j + 1) p := fun j p hp => by
    by_cases w : j = k
    · rw [w]; exact (a3 p).trans (if_neg hp)
    · exact congrFun (wI_ne (by omega)) p
  have hX0 : RX n (hs_wI (mrg U V) 3 (k + 1) 6 1) (hs_wI (mrg U V) 58 1 k 1) ev ng nl nE nB nR nd := by
    refine ⟨hA, hG, hH, fun j hj => ?_, hF, hN, hB, hC⟩
    obtain ⟨⟨⟨g1, g2⟩, ⟨c, hc, g3, g4⟩, ⟨g5, g6, g7, g8⟩, g9, g10⟩, g11⟩ := hE j hj
    refine ⟨⟨⟨g1, (eQ j 0 (by decide)).trans g2⟩, ⟨c, hc, g3, (eQ j 1 (by decide)).trans g4⟩, ⟨(eQ j 2 (by decide)).trans g5, (eQ j 3 (by decide)).trans g6, (eQ j 4 (by decide)).trans g7, g8⟩, ?_⟩, g11⟩
    rw [a58]
    by_cases w : j = k
    · rw [if_pos w, w]
      exact ⟨(a3 6).trans (if_pos rfl), Or.inr rfl⟩
    · rw [if_neg w]
      exact ⟨(congrFun (wI_ne (S := mrg U V) (t := 3) (i := k + 1) (by omega)) 6).trans g9, g10⟩
  have hXc : RX n (hs_wI U 3 (k + 1) 6 1) (hs_wI (mrg U V) 58 1 k 1) ev ng nl nE nB nR nd := RX_cm (co_cz (by rw [ci3, ci3, cz_mrg])) rfl hX0
  refine ⟨P_reckonAll_of (RX_ev hXc hn), fun x T hR => ?_⟩
  refine kp_anew hS hn hXc rfl rfl (fun j => rfl) rfl rfl rfl rfl rfl rfl rfl rfl rfl rfl rfl rfl ⟨fun j h1 h2 => ?_, hS.2.1.2.2.2.2.1, hS.2.1.2.2.2.2.2⟩ hR
  have e12 : (mrg U V).1 11 1 12 = nI nE := hA.2.1.2.2.2.2.1
  have h1' : ((mrg U V).1 11 1 12).toNatClampNeg ≤ j := h1
  have := hS.2.1.2.2.2.1 j h1' h2
  rw [e12, hl_cl (by omega)] at h1'
  rw [a58, if_neg (by omega)]
  exact this
section
variable {n : Nat} {U V : hs_S} {ev ng nl nE nB nR nd c : Nat}
abbrev dD (U : hs_S) (c o : Nat) : Int := (F_Ldg_dueOf (nI o) (nI c) U).toInt
theorem due_f (k : KU n U V ev ng nl nE nB nR nd) (hc : c < 4) : (∀ o, o < 6 → (dD U c o = sI (dX V ng o c) nB - (U.1 35 1 (4 * o + c)).toInt ∧ dD U c o = stD V (nI c) o) ∧ (-492375760 ≤ dD U c o ∧ dD U c o ≤ 492375760)) ∧ sI (dD U c) 6 = 0 := by
  obtain ⟨hX, hL, hQ, hM⟩ := k
  have h80 := hX.1.1.2.2.1.2
  have h1 : ∀ o, o < 6 → (dD U c o = sI (dX V ng o c) nB - (U.1 35 1 (4 * o + c)).toInt ∧ dD U c o = stD V (nI c) o) ∧ (-492375760 ≤ dD U c o ∧ dD U c o ≤ 492375760) := fun o ho => by
    obtain ⟨l1, l2, l3⟩ := hL.2.1 (4 * o + c) (by omega)
    have e := due_U hX hQ hM ho hc ⟨l2, l3⟩
    have e2 := due_V (o := o) hX hM ho hc (by rw [← l1]; exact ⟨l2, l3⟩)
    have hs := dX_s (o := o) (c := c) hX hM nB (Nat.le_refl _)
    refine ⟨⟨e, ?_⟩, ?_⟩
    · show (F_Ldg_dueOf (nI o) (nI c) U).toInt = (F_dueOf (nI o) (nI c) V).toInt
      rw [e, e2, l1]
    · show -492375760 ≤ (F_Ldg_dueOf (nI o) (nI c) U).toInt ∧ (F_Ldg_dueOf (nI o) (nI c) U).toInt ≤ 492375760
      rw [e]; omega
  refine ⟨h1, ?_⟩
  have h2 := sI_add (f := dD U c) (g := fun o => (V.2.2.1 86 1 (4 * o + c)).toInt) 6
  have h3 : sI (fun o => dD U c o + (V.2.2.1 86 1 (4 * o + c)).toInt) 6 = sI (fun o => sI (dX V ng o c) nB) 6 := by
    refine sI_c 6 fun o ho => ?_
    have l1 := (hL.2.1 (4 * o + c) (by omega)).1
    rw [(h1 o ho).1.1, l1]
    omega
  rw [dX_6 hX hM] at h3
  have h4 := hL.2.2.1 c hc
  omega
theorem pay_0 (hz : sI (stD V (nI c)) 6 = 0) : sI (stPay V (nI c)) 6 = 0 := by
  have h0 : 0 ≤ stL V (nI c) ∧ stL V (nI c) ≤ 5 := by
    have e : ∀ o, stD V (nI c) o = 10 * (stD V (nI c) o / 10) + stD V (nI c) o % 10 := fun o => (Int.mul_ediv_add_emod _ 10).symm
    have m0 : ∀ o, 0 ≤ stD V (nI c) o % 10 := fun o => Int.emod_nonneg _ (by decide)
    have m1 : ∀ o, stD V (nI c) o % 10 < 10 := fun o => Int.emod_lt_of_pos _ (by decide)
    have a : stL V (nI c) = -(0 + stD V (nI c) 0 / 10 + stD V (nI c) 1 / 10 + stD V (nI c) 2 / 10 + stD V (nI c) 3 / 10 + stD V (nI c) 4 / 10 + stD V (nI c) 5 / 10) := rfl
    have b : 0 + stD V (nI c) 0 + stD V (nI c) 1 + stD V (nI c) 2 + stD V (nI c) 3 + stD V (nI c) 4 + stD V (nI c) 5 = 0 := hz
    have e0 := e 0; have e1 := e 1; have e2 := e 2; have e3 := e 3; have e4 := e 4; have e5 := e 5
    have p0 := m0 0; have p1 := m0 1; have p2 := m0 2; have p3 := m0 3; have p4 := m0 4; have p5 := m0 5
    have q0 := m1 0; have q1 := m1 1; have q2 := m1 2; have q3 := m1 3; have q4 := m1 4; have q5 := m1 5
    rw [a]
    omega
  have ts := take_sum (fun o => stD V (nI c) o % 10) (fun _ => 1) 6 _ (fun _ => true) rfl (fun _ _ _ => by omega) (stL V (nI c)) h0.1
  have e6 : sI (fun b => if (fun _ => true) b = true then (fun _ => (1 : Int)) b else 0) 6 = 6 := rfl
  rw [e6] at ts
  have eT : sI (fun o => if stH V (nI c) o then (1 : Int) else 0) 6 = stL V (nI c) := by
    have : sI (fun o => if stH V (nI c) o then (1 : Int) else 0) 6 = min (stL V (nI c)) 6 := by
      rw [← ts]
      refine sI_c 6 fun o ho => ?_
      have eA : sI (fun c' => if ((fun _ => true) c' && ahd (fun o => stD V (nI c) o % 10) c' o) = true then (fun _ => (1 : Int)) c' else 0) 6 = sI (fun c' => if stB V (nI c) c' o then 1 else 0) 6 := rfl
      show (if stH V (nI c) o = true then (1 : Int) else 0) = if true = true then max 0 (min 1 (stL V (nI c) - sI (fun c' => if ((fun _ => true) c' && ahd (fun o => stD V (nI c) o % 10) c' o) = true then (fun _ => (1 : Int)) c' else 0) 6)) else 0
      rw [eA, if_pos rfl]
      by_cases q : stH V (nI c) o = true
      · rw [if_pos q]
        have := of_decide_eq_true q
        omega
      · rw [if_neg q]
        have := fun z => q (decide_eq_true z)
        have : ¬ sI (fun c' => if stB V (nI c) c' o then 1 else 0) 6 < stL V (nI c) := this
        omega
    rw [this]; omega
  have e : sI (stPay V (nI c)) 6 = sI (fun o => stD V (nI c) o / 10) 6 + sI (fun o => if stH V (nI c) o then (1 : Int) else 0) 6 := sI_add 6
  rw [e, eT]
  have : stL V (nI c) = -(sI (fun o => stD V (nI c) o / 10) 6) := rfl
  omega
end
