/-! ===== a new bid ===== -/
abbrev nbC (S : hs_S) (nB R : Nat) (o a3 a4 a5 e e' : Int32) : hs_S := hs_wI (hs_add (E_Bid_init (nB + 1) (nI nB) o R a3 a4 a5 e (hs_nw S 0)) 13 (nB + 1)) 10 1 5 e'
abbrev nbM (X : hs_S) (nB : Nat) (o c a3 a4 a5 e e' : Int32) : hs_S := hs_wI (hs_wI (hs_wI (hs_wI (hs_wI (hs_wI (hs_wI (hs_wI (hs_wI (hs_wI X 65 1 nB o) 66 1 nB c) 67 1 nB a3) 68 1 nB a4) 69 1 nB a5) 70 1 nB e) 71 1 nB (-1)) 72 1 nB (-1)) 11 1 24 (nI (nB + 1))) 11 1 0 e'
abbrev nbT (S : hs_S) (nB R : Nat) (o c a3 a4 a5 e e' : Int32) (y : Int64) : hs_S := nbM (E_asks 1 (hs_wL (nbC S nB R o a3 a4 a5 e e') 100 1 (0 : Int32).toNatClampNeg y)) nB o c a3 a4 a5 e e'
theorem nb0 {S : hs_S} {nB R p : Nat} {o c a3 a4 a5 e e' : Int32} {y : Int64} : (nbT S nB R o c a3 a4 a5 e e' y).1 0 (nB + 1) p = if p = 6 then e else if p = 5 then a5 else if p = 4 then a4 else if p = 3 then a3 else if p = 1 then o else if p = 0 then nI nB else if p = 9 then 0 else if p = 8 then 0 else if p = 7 then 2147483647 else (hs_nw S 0).1 0 (nB + 1) p := by
  show (hs_wI (hs_wI (hs_wI (hs_wI (hs_wI (hs_wI (hs_wI (hs_wI (hs_wI (hs_nw S 0) 0 (nB + 1) 7 2147483647) 0 (nB + 1) 8 0) 0 (nB + 1) 9 0) 0 (nB + 1) 0 (nI nB)) 0 (nB + 1) 1 o) 0 (nB + 1) 3 a3) 0 (nB + 1) 4 a4) 0 (nB + 1) 5 a5) 0 (nB + 1) 6 e).1 0 (nB + 1) p = _
  simp only [wI_at]
theorem nb0o {S : hs_S} {nB R i : Nat} {o c a3 a4 a5 e e' : Int32} {y : Int64} (h0 : S.2.2.2 0 = nB) (h : i ≠ nB + 1) : (nbT S nB R o c a3 a4 a5 e e' y).1 0 i = S.1 0 i ∧ (nbT S nB R o c a3 a4 a5 e e' y).2.1 0 i = S.2.1 0 i := by
  refine ⟨?_, (wR_ne (S := hs_nw S 0) (t := 0) (i := nB + 1) h).trans (nw_neR (by omega))⟩
  show (hs_wI (hs_wI (hs_wI (hs_wI (hs_wI (hs_wI (hs_wI (hs_wI (hs_wI (hs_nw S 0) 0 (nB + 1) 7 2147483647) 0 (nB + 1) 8 0) 0 (nB + 1) 9 0) 0 (nB + 1) 0 (nI nB)) 0 (nB + 1) 1 o) 0 (nB + 1) 3 a3) 0 (nB + 1) 4 a4) 0 (nB + 1) 5 a5) 0 (nB + 1) 6 e).1 0 i = _
  rw [wI_ne h, wI_ne h, wI_ne h, wI_ne h, wI_ne h, wI_ne h, wI_ne h, wI_ne h, wI_ne h, nw_ne (by omega)]
set_option maxRecDepth 100000 in
theorem bid_RR {n : Nat} {S : hs_S} {ev ng nl nE nB nR nd o c m l : Nat} {a3 : Int32} {y : Int64} (hS : RS n S ev ng nl nE nB nR nd) (hn : n < 512) (ho : o < 6) (hc : c < 4) (h3 : a3 = 0 ∨ a3 = 1) (hm : 1 ≤ m ∧ m ≤ 100) (hl : l ≤ 9999) (hB80 : nB < 80) : RR (n + 1) (nbT S nB (S.2.1 26 1 c) (nI o) (nI c) a3 (nI m) (nI l) (nI ev) (nI (ev + 1)) y) := by
  obtain ⟨⟨hA, hG, hH, hE, hF, hN, hB, hC⟩, hL, hQ, hM⟩ := hS
  have hev := hA.1.1
  have hR30 := hA.1.2.2.2.1
  have hz : hs_sz S 13 = nB := hA.2.2.1.2.2.1
  have h0 : S.2.2.2 0 = nB := hA.2.2.1.2.2.2.1
  have hG' := rG_up hH (by omega) hG
  have hH' := rH_up hH
  have hE' := rE_up hE
  have hC' := rC_up hC
  have e24 : (S.1 11 1 24).toNatClampNeg = nB := by rw [hA.2.1.2.2.2.2.2.1]; exact hl_cl (by omega)
  have z73 := hL.2.2.2.2.1 nB (by rw [e24]; exact Nat.le_refl _) hB80
  have hg2 : ∀ r, r < nR → ∃ f : Nat, f < ev ∧ S.1 78 1 r = nI f := fun r hr => by
    obtain ⟨_, _, ⟨f, l, g1, g2, _⟩, _⟩ := hC.1 r hr
    exact ⟨f, by omega, g2⟩
  have a65 : ∀ j, (nbT S nB (S.2.1 26 1 c) (nI o) (nI c) a3 (nI m) (nI l) (nI ev) (nI (ev + 1)) y).1 65 1 j = if j = nB then nI o else S.1 65 1 j := fun j => wI_at (S := S) (t := 65) (i := 1)
  have a66 : ∀ j, (nbT S nB (S.2.1 26 1 c) (nI o) (nI c) a3 (nI m) (nI l) (nI ev) (nI (ev + 1)) y).1 66 1 j = if j = nB then nI c else S.1 66 1 j := fun j => wI_at (S := S) (t := 66) (i := 1)
  have a67 : ∀ j, (nbT S nB (S.2.1 26 1 c) (nI o) (nI c) a3 (nI m) (nI l) (nI ev) (nI (ev + 1)) y).1 67 1 j = if j = nB then a3 else S.1 67 1 j := fun j => wI_at (S := S) (t := 67) (i := 1)
  have a68 : ∀ j, (nbT S nB (S.2.1 26 1 c) (nI o) (nI c) a3 (nI m) (nI l) (nI ev) (nI (ev + 1)) y).1 68 1 j = if j = nB then nI m else S.1 68 1 j := fun j => wI_at (S := S) (t := 68) (i := 1)
  have a69 : ∀ j, (nbT S nB (S.2.1 26 1 c) (nI o) (nI c) a3 (nI m) (nI l) (nI ev) (nI (ev + 1)) y).1 69 1 j = if j = nB then nI l else S.1 69 1 j := fun j => wI_at (S := S) (t := 69) (i := 1)
  have a70 : ∀ j, (nbT S nB (S.2.1 26 1 c) (nI o) (nI c) a3 (nI m) (nI l) (nI ev) (nI (ev + 1)) y).1 70 1 j = if j = nB then nI ev else S.1 70 1 j := fun j => wI_at (S := S) (t := 70) (i := 1)
  have a71 : ∀ j, (nbT S nB (S.2.1 26 1 c) (nI o) (nI c) a3 (nI m) (nI l) (nI ev) (nI (ev + 1)) y).1 71 1 j = if j = nB then -1 else S.1 71 1 j := fun j => wI_at (S := S) (t := 71) (i := 1)
  have a72 : ∀ j, (nbT S nB (S.2.1 26 1 c) (nI o) (nI c) a3 (nI m) (nI l) (nI ev) (nI (ev + 1)) y).1 72 1 j = if j = nB then -1 else S.1 72 1 j := fun j => wI_at (S := S) (t := 72) (i := 1)
  have k13 : ∀ j, (nbT S nB (S.2.1 26 1 c) (nI o) (nI c) a3 (nI m) (nI l) (nI ev) (nI (ev + 1)) y).2.1 13 1 j = if j = nB then nB + 1 else S.2.1 13 1 j := fun j => by
    have h1 : (nbT S nB (S.2.1 26 1 c) (nI o) (nI c) a3 (nI m) (nI l) (nI ev) (nI (ev + 1)) y).2.1 13 1 j = if 13 = 13 ∧ 1 = 1 ∧ j = S.2.1 13 2 0 then nB + 1 else if 13 = 13 ∧ (1 : Nat) = 2 ∧ j = 0 then S.2.1 13 2 0 + 1 else S.2.1 13 1 j := rfl
    rw [h1]
    by_cases q : j = nB
    · rw [if_pos q]; exact if_pos ⟨rfl, rfl, q.trans hz.symm⟩
    · rw [if_neg q]; exact (if_neg fun z => q (z.2.2.trans hz)).trans (if_neg fun z => absurd z.2.1 (by decide))
  have k02 : (nbT S nB (S.2.1 26 1 c) (nI o) (nI c) a3 (nI m) (nI l) (nI ev) (nI (ev + 1)) y).2.1 0 (nB + 1) 2 = S.2.1 26 1 c := (wR_at (S := hs_nw S 0) (t := 0) (i := nB + 1) (j := 2)).trans (if_pos rfl)
  refine ⟨ev + 1, ng, nl, nE, nB + 1, nR, nd, ⟨⟨⟨⟨by omega, by omega⟩, by have := hA.1.2.1; omega, ⟨hA.1.2.2.1.1, by omega⟩, hA.1.2.2.2⟩, ⟨rfl, rfl, hA.2.1.2.2.1, hA.2.1.2.2.2.1, hA.2.1.2.2.2.2.1, rfl, hA.2.1.2.2.2.2.2.2⟩, ⟨hA.2.2.1.1, hA.2.2.1.2.1, ?_, ?_, hA.2.2.1.2.2.2.2⟩, hA.2.2.2⟩, hG', hH', hE', hF, hN, fun b hb => ?_, hC'⟩, ⟨hL.1, hL.2.1, hL.2.2.1, hL.2.2.2.1, fun b h1 h2 => ?_, hL.2.2.2.2.2⟩, ⟨hQ.1, fun b hb => ?_⟩, fun r hr => ?_⟩
  · exact congrArg (· + 1) hz
  · exact congrArg (· + 1) h0
  · unfold rB1 rB2
    rw [k13, a65, a66, a67, a68, a69, a70, a71, a72]
    by_cases q : b = nB
    · subst q
      have c0 := fun p => nb0 (S := S) (nB := b) (R := S.2.1 26 1 c) (p := p) (o := nI o) (c := nI c) (a3 := a3) (a4 := nI m) (a5 := nI l) (e := nI ev) (e' := nI (ev + 1)) (y := y)
      simp only [if_true]
      exact ⟨⟨⟨trivial, c0 0, o, ho, rfl, c0 1⟩, ⟨c0 3, h3⟩, ⟨m, hm, rfl, c0 4⟩, ⟨l, hl, rfl, c0 5⟩, ⟨ev, by omega, rfl, c0 6⟩, Or.inl ⟨trivial, c0 7⟩, (c0 8).trans z73.1.symm, Or.inl z73.1⟩, c, hc, rfl, Or.inl ⟨trivial, k02⟩⟩
    · obtain ⟨⟨⟨g1, g2, o', g3, g4, g5⟩, ⟨g6, g7⟩, ⟨m', hm', g8, g9⟩, ⟨l', hl', g10, g11⟩, g12, g13, ⟨g14, g15⟩⟩, g16⟩ := (rB_up hB) b (by omega)
      obtain ⟨q0, q1⟩ := nb0o (S := S) (nB := nB) (R := S.2.1 26 1 c) (o := nI o) (c := nI c) (a3 := a3) (a4 := nI m) (a5 := nI l) (e := nI ev) (e' := nI (ev + 1)) (y := y) (i := b + 1) h0 (by omega)
      rw [q0, q1]
      simp only [if_neg q]
      exact ⟨⟨⟨g1, g2, o', g3, g4, g5⟩, ⟨g6, g7⟩, ⟨m', hm', g8, g9⟩, ⟨l', hl', g10, g11⟩, g12, g13, ⟨g14, g15⟩⟩, g16⟩
  · have h1' : (nI (nB + 1)).toNatClampNeg ≤ b := h1
    rw [hl_cl (by omega)] at h1'
    exact hL.2.2.2.2.1 b (by rw [e24]; omega) h2
  · by_cases q : b = nB
    · subst q
      have c0 := nb0 (S := S) (nB := b) (R := S.2.1 26 1 c) (o := nI o) (c := nI c) (a3 := a3) (a4 := nI m) (a5 := nI l) (e := nI ev) (e' := nI (ev + 1)) (y := y) (p := 9)
      exact ⟨(c0.trans rfl).trans z73.2.symm, fun _ => z73.2⟩
    · obtain ⟨q0, _⟩ := nb0o (S := S) (nB := nB) (R := S.2.1 26 1 c) (o := nI o) (c := nI c) (a3 := a3) (a4 := nI m) (a5 := nI l) (e := nI ev) (e' := nI (ev + 1)) (y := y) (i := b + 1) h0 (by omega)
      rw [q0, a72, if_neg q]
      exact hQ.2 b (by omega)
  · obtain ⟨f, hf, ef⟩ := hg2 r hr
    obtain ⟨_, ⟨x, hx, ec, _⟩, _⟩ := hC.1 r hr
    have see : S.1 78 1 r ≤ nI ev := by rw [ef]; exact (hl_le (by omega) (by omega)).mpr (by omega)
    have hS' : mSame S (nbT S nB (S.2.1 26 1 c) (nI o) (nI c) a3 (nI m) (nI l) (nI ev) (nI (ev + 1)) y) nB (nB + 1) r := ⟨⟨by omega, by omega, by omega⟩, fun b hb => by rw [a72, if_neg (by omega)], fun b h1 h2 => by
      have : b = nB := by omega
      rw [a72, if_pos this]
      exact fun z => neg1 (k := r) (by omega) z.symm, fun b hb h72 => ⟨⟨(a67 b).trans (if_neg (by omega)), (a68 b).trans (if_neg (by omega)), (a69 b).trans (if_neg (by omega))⟩, (a71 b).trans (if_neg (by omega)), rfl, rfl⟩, rfl, rfl, rfl⟩
    refine ⟨?_, mR_2 hS' (hM r hr).2.1 (hM r hr).2.2.1 (hM r hr).2.2.2⟩
    refine mR_1 (V := S) (hM r hr) hx ec (mX_eq hE hA.1.2.2.1.1 (fun _ => rfl) (fun _ _ => rfl) (fun _ => rfl) (fun _ _ => ⟨rfl, fun _ _ => rfl⟩) (fun _ => rfl) (fun w => ?_))
    refine baR_old (fun j hj => ⟨⟨(a66 j).trans (if_neg (by omega)), (a67 j).trans (if_neg (by omega)), (a68 j).trans (if_neg (by omega)), (a69 j).trans (if_neg (by omega))⟩, ?_⟩) (nB + 1) (by omega) fun j h1 h2 => ?_
    · unfold thR
      rw [a70, a71, a72, if_neg (show ¬ j = nB by omega), if_neg (show ¬ j = nB by omega), if_neg (show ¬ j = nB by omega)]
      exact Iff.rfl
    · have : j = nB := by omega
      exact Eq.mpr (congrArg (fun z => S.1 78 1 r ≤ z) ((a70 j).trans (if_pos this))) see
