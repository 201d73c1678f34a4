/-! ===== acts: an event goes by ===== -/
theorem ownR_hi {a42 a43 a44 : Nat → Int32} {c e e' : Int32} : ∀ n, (∀ k, k < n → a42 k < e ∧ a42 k < e') → ownR a42 a43 a44 c e' n = ownR a42 a43 a44 c e n := by
  intro n
  induction n with
  | zero => intro _; rfl
  | succ n ih =>
    intro h
    unfold ownR
    rw [ih fun k hk => h k (by omega)]
    by_cases q : a43 n = c
    · rw [if_pos ⟨q, (h n (by omega)).2⟩, if_pos ⟨q, (h n (by omega)).1⟩]
    · rw [if_neg fun z => q z.1, if_neg fun z => q z.1]
theorem letR_hi {a42 a43 a44 a46 a47 a48 a49 : Nat → Int32} {ng : Nat} {o c e e' : Int32} : ∀ n, (∀ k, k < n → ¬ e ≤ a46 k ∧ ¬ e' ≤ a46 k) → letR a42 a43 a44 ng a46 a47 a48 a49 o c e' n = letR a42 a43 a44 ng a46 a47 a48 a49 o c e n := by
  intro n
  induction n with
  | zero => intro _; rfl
  | succ n ih =>
    intro h
    unfold letR
    rw [ih fun k hk => h k (by omega)]
    have e1 : (tlR a46 a48 a49 o c e n ∧ ownR a42 a43 a44 c (a46 n) ng = a47 n) ↔ (tlR a46 a48 a49 o c e' n ∧ ownR a42 a43 a44 c (a46 n) ng = a47 n) :=
      ⟨fun z => ⟨⟨(h n (by omega)).2, z.1.2⟩, z.2⟩, fun z => ⟨⟨(h n (by omega)).1, z.1.2⟩, z.2⟩⟩
    by_cases q : tlR a46 a48 a49 o c e n ∧ ownR a42 a43 a44 c (a46 n) ng = a47 n
    · rw [if_pos q, if_pos (e1.mp q)]
    · rw [if_neg q, if_neg fun z => q (e1.mpr z)]
section
variable {n : Nat} {U V : hs_S} {ev ng nl nE nB nR nd : Nat}
theorem rG_up {i : Nat} (hH : rH V ev ng nl) (he : ev < 2147483647) (h : rGs U V i ng nl (nI ev)) : rGs U V i ng nl (nI (ev + 1)) := by
  intro c hc
  obtain ⟨h1, h2, h3⟩ := h c hc
  have e1 : ∀ k, k < ng → V.1 42 1 k < nI ev ∧ V.1 42 1 k < nI (ev + 1) := fun k hk => by
    obtain ⟨m, hm, em⟩ := hH.1 k hk
    rw [em]
    exact ⟨nI_lt2 (by omega) hm, nI_lt2 (by omega) (by omega)⟩
  have e2 : ∀ k, k < nl → ¬ nI ev ≤ V.1 46 1 k ∧ ¬ nI (ev + 1) ≤ V.1 46 1 k := fun k hk => by
    obtain ⟨m, hm, em⟩ := hH.2 k hk
    rw [em]
    exact ⟨fun z => absurd ((hl_le (by omega) (by omega)).mp z) (by omega), fun z => absurd ((hl_le (by omega) (by omega)).mp z) (by omega)⟩
  refine ⟨h1.trans (ownR_hi ng e1).symm, h2, fun o ho => ?_⟩
  rw [letR_hi nl e2]
  exact h3 o ho
theorem rH_up (h : rH V ev ng nl) : rH V (ev + 1) ng nl := ⟨fun k hk => by obtain ⟨m, hm, e⟩ := h.1 k hk; exact ⟨m, by omega, e⟩, fun k hk => by obtain ⟨m, hm, e⟩ := h.2 k hk; exact ⟨m, by omega, e⟩⟩
theorem rE_up (h : rE U V ev nE) : rE U V (ev + 1) nE := fun k hk => by
  obtain ⟨⟨h1, h2, ⟨h3, h4, h5, m, hm, h6⟩, h7⟩, h8⟩ := h k hk
  exact ⟨⟨h1, h2, ⟨h3, h4, h5, m, by omega, h6⟩, h7⟩, h8⟩
theorem rB_up (h : rB U V ev nB nR) : rB U V (ev + 1) nB nR := fun b hb => by
  obtain ⟨⟨h1, h2, h3, h4, ⟨m, hm, h5⟩, h6, h7⟩, h8⟩ := h b hb
  refine ⟨⟨h1, h2, h3, h4, ⟨m, by omega, h5⟩, h6.imp_right ?_, h7⟩, h8⟩
  rintro ⟨w, hw, h⟩
  exact ⟨w, by omega, h⟩
theorem rC_up (h : rC U V ev ng nl nR) : rC U V (ev + 1) ng nl nR := ⟨fun r hr => by
  obtain ⟨h1, h2, ⟨f, l, ⟨hfl, hl⟩, h3⟩, h4⟩ := h.1 r hr
  exact ⟨h1, h2, ⟨f, l, ⟨hfl, by omega⟩, h3⟩, h4⟩, fun c hc => by
  obtain ⟨h1, h2, h3, h4⟩ := h.2.1 c hc
  refine ⟨h1, h2, h3.imp_right ?_, h4⟩
  rintro ⟨f, hf, h⟩
  exact ⟨f, by omega, h⟩, h.2.2⟩
end
theorem in_iff {a : Int32} {N : Nat} (hN : N < 2147483648) : F_in a 0 (nI N) = 0 ↔ ¬ ∃ o : Nat, o ≤ N ∧ a = nI o := by
  unfold F_in
  rw [bI_eq0]
  refine not_congr ⟨fun h => le_of hN (fun z => ?_) h.2, ?_⟩
  · have h1 := h.1
    rw [i32_le] at h1
    rw [i32_lt] at z
    omega
  · rintro ⟨o, ho, rfl⟩
    refine ⟨?_, (hl_le (by omega) (by omega)).mpr ho⟩
    have := nI_lo (o := o) (by omega)
    rw [i32_lt] at this
    rw [i32_le]
    omega
theorem wI_at {S : hs_S} {t i j j' : Nat} {x : Int32} : (hs_wI S t i j x).1 t i j' = if j' = j then x else S.1 t i j' := by
  show (if t = t ∧ i = i ∧ j' = j then x else S.1 t i j') = _
  by_cases q : j' = j
  · rw [if_pos ⟨rfl, rfl, q⟩, if_pos q]
  · rw [if_neg fun z => q z.2.2, if_neg q]
theorem wR_at {S : hs_S} {t i j j' : Nat} {x : Nat} : (hs_wR S t i j x).2.1 t i j' = if j' = j then x else S.2.1 t i j' := by
  show (if t = t ∧ i = i ∧ j' = j then x else S.2.1 t i j') = _
  by_cases q : j' = j
  · rw [if_pos ⟨rfl, rfl, q⟩, if_pos q]
  · rw [if_neg fun z => q z.2.2, if_neg q]
theorem wL_at {S : hs_S} {t i j j' : Nat} {x : Int64} : (hs_wL S t i j x).2.2.1 t i j' = if j' = j then x else S.2.2.1 t i j' := by
  show (if t = t ∧ i = i ∧ j' = j then x else S.2.2.1 t i j') = _
  by_cases q : j' = j
  · rw [if_pos ⟨rfl, rfl, q⟩, if_pos q]
  · rw [if_neg fun z => q z.2.2, if_neg q]
theorem call_notice {n : Nat} {S : hs_S} {a1 a2 : Int32} (h : RR n S) (hn : n < 512) (hw : hs_Wi S) : m_L_notice a1 a2 S (fun k S2 => hs_Wi S2 → m_M_notice a1 a2 S2 (fun r T => OK n k r T)) := by
  obtain ⟨ev, ng, nl, nE, nB, nR, nd, ⟨hA, hG, hH, hE, hF, hN, hB, hC⟩, hL, hQ, hM⟩ := id h
  have bad : ∀ c : Nat, c < 4 → (¬ ∃ o : Nat, o ≤ 50 ∧ a2 = nI o) → hs_Wi S → m_M_notice (nI c) a2 S (fun r T => OK n 2 r T) := fun c hc q hw2 => by
    refine ok_M_notice hw2 ?_
    unfold vc_M_notice
    rw [col_y hc]
    rintro _ rfl
    refine ⟨Or.inr rfl, ?_⟩
    rintro _ rfl
    refine ⟨fun _ => ⟨fun z => absurd ((in_iff (N := 50) (by omega)).mpr q) z, fun _ => ?_⟩, fun z => absurd z (by decide)⟩
    rintro _ rfl
    exact OK_g h hn (by decide)
  refine ok_L_notice hw fun _ => ok_C_notice hw fun _ => t_needColumn hw (fun c hc ec => ⟨fun q => Or.inr ⟨rfl, ?_⟩, fun q => ⟨fun q2 => ?_, fun q2 => Or.inr ⟨rfl, ?_⟩⟩⟩) (fun e => Or.inl ⟨rfl, fun hw2 => ok_M_notice hw2 ?_⟩)
  · subst ec
    refine bad c hc ?_
    rintro ⟨o, _, rfl⟩
    exact nI_lo (by omega) q
  · subst ec
    obtain ⟨m, hm, em⟩ := le_of (N := 50) (by omega) q q2
    subst em
    rw [hl_cl (by omega)]
    refine ⟨hl_ix (by omega) (by omega), ?_⟩
    rintro _ rfl _ rfl _ rfl hw2
    refine ok_M_notice hw2 ?_
    unfold vc_M_notice
    rw [col_y hc, hl_cl (by omega)]
    rintro _ rfl
    refine ⟨Or.inr rfl, ?_⟩
    rintro _ rfl
    refine ⟨fun _ => ⟨fun _ => ⟨hl_ix (by omega) (by omega), ?_⟩, fun z => absurd ⟨m, hm, rfl⟩ ((in_iff (N := 50) (by omega)).mp z)⟩, fun z => absurd z (by decide)⟩
    rintro _ rfl _ rfl
    have e1 : S.1 10 1 5 + 1 = nI (ev + 1) := by rw [hA.2.1.1]; exact nI_1 ev
    have e2 : S.1 11 1 0 + 1 = nI (ev + 1) := by rw [hA.2.1.2.1]; exact nI_1 ev
    have hev := hA.1.1.1
    refine ⟨⟨ev + 1, ng, nl, nE, nB, nR, nd, ⟨⟨⟨⟨by omega, by omega⟩, by have := hA.1.2; omega⟩, ⟨e1, e2, hA.2.1.2.2⟩, hA.2.2⟩, rG_up hH (by omega) hG, rH_up hH, rE_up hE, hF, fun c' hc' => ?_, rB_up hB, rC_up hC⟩, hL, hQ, hM⟩, rfl, fun _ => ?_⟩
    · obtain ⟨⟨h1, h2⟩, h3⟩ := hN c' hc'
      refine ⟨?_, h3⟩
      have g1 := wI_at (S := S) (t := 25) (i := 1) (j := c) (j' := c') (x := nI m)
      have g2 := wI_at (S := S) (t := 60) (i := 1) (j := c) (j' := c') (x := nI m)
      by_cases q : c' = c
      · rw [if_pos q] at g1 g2
        exact ⟨g1.trans g2.symm, m, hm, g2⟩
      · rw [if_neg q] at g1 g2
        exact ⟨g1.trans (h1.trans g2.symm), by obtain ⟨m', hm', e⟩ := h2; exact ⟨m', hm', g2.trans e⟩⟩
    · exact congrArg Int32.toInt64 (hN c hc).1.1
  · subst ec
    refine bad c hc ?_
    rintro ⟨o, ho, rfl⟩
    exact q2 ((hl_le (b := 50) (by omega) (by omega)).mpr ho)
  · unfold vc_M_notice
    rw [col_n e]
    rintro _ rfl
    refine ⟨Or.inl rfl, ?_⟩
    rintro _ rfl
    exact ⟨fun z => absurd rfl z, fun _ => OK_f h hn rfl⟩
theorem call_share {n : Nat} {S : hs_S} {a1 a2 : Int32} (h2 : a2 = 0 ∨ a2 = 1) (h : RR n S) (hn : n < 512) (hw : hs_Wi S) : m_L_share a1 a2 S (fun k S2 => hs_Wi S2 → m_M_share a1 a2 S2 (fun r T => OK n k r T)) := by
  obtain ⟨ev, ng, nl, nE, nB, nR, nd, ⟨hA, hG, hH, hE, hF, hN, hB, hC⟩, hL, hQ, hM⟩ := id h
  refine ok_L_share hw fun _ => ok_C_share hw fun _ => t_needColumn hw (fun c hc ec => ?_) (fun e => ⟨rfl, fun hw2 => ok_M_share hw2 ?_⟩)
  · subst ec
    rw [hl_cl (by omega)]
    obtain ⟨h1, h3, h4⟩ := hN c hc
    have go : ∀ y : Int64, y = (S.1 61 1 c).toInt64 → hs_Wi (hs_wL (hs_wI (hs_wI S 27 1 c a2) 10 1 5 (S.1 10 1 5 + 1)) 100 1 (0 : Int32).toNatClampNeg y) → m_M_share (nI c) a2 (hs_wL (hs_wI (hs_wI S 27 1 c a2) 10 1 5 (S.1 10 1 5 + 1)) 100 1 (0 : Int32).toNatClampNeg y) (fun r T => OK n 0 r T) := fun y hy hw2 => by
      refine ok_M_share hw2 ?_
      unfold vc_M_share
      rw [col_y hc, hl_cl (by omega)]
      rintro _ rfl
      refine ⟨Or.inr rfl, ?_⟩
      rintro _ rfl
      refine ⟨fun _ => ⟨hl_ix (by omega) (by omega), h2, ?_⟩, fun z => absurd z (by decide)⟩
      rintro _ rfl _ rfl
      have e1 : S.1 10 1 5 + 1 = nI (ev + 1) := by rw [hA.2.1.1]; exact nI_1 ev
      have e2 : S.1 11 1 0 + 1 = nI (ev + 1) := by rw [hA.2.1.2.1]; exact nI_1 ev
      have hev := hA.1.1.1
      refine ⟨h4, ⟨ev + 1, ng, nl, nE, nB, nR, nd, ⟨⟨⟨⟨by omega, by omega⟩, by have := hA.1.2; omega⟩, ⟨e1, e2, hA.2.1.2.2⟩, hA.2.2⟩, rG_up hH (by omega) hG, rH_up hH, rE_up hE, hF, fun c' hc' => ?_, rB_up hB, rC_up hC⟩, hL, hQ, hM⟩, rfl, fun _ => hy⟩
      obtain ⟨w1, w2, w3⟩ := hN c' hc'
      have g1 := wI_at (S := S) (t := 27) (i := 1) (j := c) (j' := c') (x := a2)
      have g2 := wI_at (S := S) (t := 61) (i := 1) (j := c) (j' := c') (x := a2)
      refine ⟨w1, ?_⟩
      by_cases q : c' = c
      · rw [if_pos q] at g1 g2
        exact ⟨g1.trans g2.symm, h2.imp g2.trans g2.trans⟩
      · rw [if_neg q] at g1 g2
        exact ⟨g1.trans (w2.trans g2.symm), w3.imp g2.trans g2.trans⟩
    refine ⟨hl_ix (by omega) (by omega), h2, ?_⟩
    rintro _ rfl _ rfl
    refine ⟨by rw [h3]; exact h4, fun q => ?_, fun q => ?_⟩
    · rintro _ rfl hw2
      exact go _ (by rw [← h3]; show (0 : Int64) = Int32.toInt64 (S.1 27 1 c); rw [show S.1 27 1 c = 0 from q]; rfl) hw2
    · rintro _ rfl hw2
      refine go _ ?_ hw2
      rw [h4.resolve_left (by rw [← h3]; exact q)]; rfl
  · unfold vc_M_share
    rw [col_n e]
    rintro _ rfl
    refine ⟨Or.inl rfl, ?_⟩
    rintro _ rfl
    exact ⟨fun z => absurd rfl z, fun _ => OK_f h hn rfl⟩
theorem call_limit {n : Nat} {S : hs_S} {a1 a2 : Int32} (h : RR n S) (hn : n < 512) (hw : hs_Wi S) : m_L_limit a1 a2 S (fun k S2 => hs_Wi S2 → m_M_limit a1 a2 S2 (fun r T => OK n k r T)) := by
  obtain ⟨ev, ng, nl, nE, nB, nR, nd, ⟨hA, hG, hH, hE, hF, hN, hB, hC⟩, hL, hQ, hM⟩ := id h
  have bad : ∀ o : Nat, o < 6 → (¬ ∃ m : Nat, m ≤ 1000000000 ∧ a2 = nI m) → hs_Wi S → m_M_limit (nI o) a2 S (fun r T => OK n 2 r T) := fun o ho q hw2 => by
    refine ok_M_limit hw2 ?_
    unfold vc_M_limit
    rw [own_1 ho]
    refine ⟨Or.inr rfl, ?_⟩
    rintro _ rfl
    refine ⟨fun _ => ⟨fun z => absurd ((in_iff (N := 1000000000) (by omega)).mpr q) z, fun _ => ?_⟩, fun z => absurd z (by decide)⟩
    rintro _ rfl
    exact OK_g h hn (by decide)
  refine ok_L_limit hw fun _ => ok_C_limit hw fun _ => t_needOwner hw (fun o ho eo => ⟨fun q => Or.inr ⟨rfl, ?_⟩, fun q => ⟨fun q2 => ?_, fun q2 => Or.inr ⟨rfl, ?_⟩⟩⟩) (fun e => Or.inl ⟨rfl, fun hw2 => ok_M_limit hw2 ⟨Or.inl e, ?_⟩⟩)
  · subst eo
    refine bad o ho ?_
    rintro ⟨m, _, rfl⟩
    exact nI_lo (by omega) q
  · subst eo
    obtain ⟨m, hm, em⟩ := le_of (N := 1000000000) (by omega) q q2
    subst em
    rw [hl_cl (by omega)]
    refine ⟨hl_ix (by omega) (by omega), ?_⟩
    rintro _ rfl _ rfl _ rfl hw2
    refine ok_M_limit hw2 ?_
    unfold vc_M_limit
    rw [own_1 ho, hl_cl (by omega)]
    refine ⟨Or.inr rfl, ?_⟩
    rintro _ rfl
    refine ⟨fun _ => ⟨fun _ => ⟨hl_ix (by omega) (by omega), ?_⟩, fun z => absurd ⟨m, hm, rfl⟩ ((in_iff (N := 1000000000) (by omega)).mp z)⟩, fun z => absurd z (by decide)⟩
    rintro _ rfl _ rfl
    have e1 : S.1 10 1 5 + 1 = nI (ev + 1) := by rw [hA.2.1.1]; exact nI_1 ev
    have e2 : S.1 11 1 0 + 1 = nI (ev + 1) := by rw [hA.2.1.2.1]; exact nI_1 ev
    have hev := hA.1.1.1
    refine ⟨⟨ev + 1, ng, nl, nE, nB, nR, nd, ⟨⟨⟨⟨by omega, by omega⟩, by have := hA.1.2; omega⟩, ⟨e1, e2, hA.2.1.2.2⟩, hA.2.2⟩, rG_up hH (by omega) hG, rH_up hH, rE_up hE, hF, hN, rB_up hB, rC_up hC⟩, ⟨fun o' ho' => ?_, hL.2⟩, hQ, hM⟩, rfl, fun _ => ?_⟩
    · obtain ⟨h1, h2, h3⟩ := hL.1 o' ho'
      refine ⟨h1, ?_⟩
      have g1 := wI_at (S := S) (t := 37) (i := 1) (j := o) (j' := o') (x := nI m)
      have g2 := wI_at (S := S) (t := 88) (i := 1) (j := o) (j' := o') (x := nI m)
      by_cases q : o' = o
      · rw [if_pos q] at g1 g2
        exact ⟨g1.trans g2.symm, m, hm, g2⟩
      · rw [if_neg q] at g1 g2
        exact ⟨g1.trans (h2.trans g2.symm), by obtain ⟨m', hm', e⟩ := h3; exact ⟨m', hm', g2.trans e⟩⟩
    · exact congrArg Int32.toInt64 (hL.1 o ho).2.1
  · subst eo
    refine bad o ho ?_
    rintro ⟨m, hm, rfl⟩
    exact q2 ((hl_le (b := 1000000000) (by omega) (by omega)).mpr hm)
  · rintro _ rfl
    exact ⟨fun z => absurd e z, fun _ => OK_f h hn e⟩
