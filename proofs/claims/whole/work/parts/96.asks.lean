/-! ===== calls that ask of dues ===== -/
section
variable {n : Nat} {S : hs_S} {ev ng nl nE nB nR nd o c : Nat}
theorem due_c (k : RS n S ev ng nl nE nB nR nd) (ho : o < 6) (hc : c < 4) : (F_Ldg_dueOf (nI o) (nI c) S).toInt = sI (dX S ng o c) nB - (S.1 35 1 (4 * o + c)).toInt ∧ (F_dueOf (nI o) (nI c) S).toInt = sI (dX S ng o c) nB - (S.1 35 1 (4 * o + c)).toInt ∧ -492375760 ≤ sI (dX S ng o c) nB - (S.1 35 1 (4 * o + c)).toInt ∧ sI (dX S ng o c) nB - (S.1 35 1 (4 * o + c)).toInt ≤ 492375760 := by
  obtain ⟨hX, hL, hQ, hM⟩ := k
  obtain ⟨l1, l2, l3⟩ := hL.2.1 (4 * o + c) (by omega)
  have h80 := hX.1.1.2.2.1.2
  have hs := dX_s (o := o) (c := c) hX hM nB (Nat.le_refl _)
  refine ⟨due_U hX hQ hM ho hc ⟨l2, l3⟩, ?_, by omega, by omega⟩
  rw [l1]
  exact due_V hX hM ho hc (by omega)
theorem i32_of64 {a : Int64} {b : Int32} (h : a.toInt = b.toInt) : a.toInt32 = b := by
  apply i32_eq.mpr
  rw [Int64.toInt_toInt32, h]
  exact bm32 (i32_b b)
theorem P_due_of (k : RS n S ev ng nl nE nB nR nd) (ho : o < 6) (hc : c < 4) : P_Ldg_dueOf (nI o) (nI c) S ∧ P_dueOf (nI o) (nI c) S ∧ cBd S := by
  have hX := k.1
  have hA := hX.1
  have hev := hA.1.1
  have hz : hs_sz S 13 = nB := hA.2.2.1.2.2.1
  have hcb : cBd S := ⟨nB, hA.1.2.2.1.2, hz, fun k hk => by
    obtain ⟨⟨⟨b1, _⟩, _⟩, hB2⟩ := hX.2.2.2.2.2.2.1 k hk
    have eb : bd S k = k + 1 := b1
    have er : br S k = S.2.1 0 (k + 1) 2 := congrArg (fun z => S.2.1 0 z 2) eb
    rw [eb, er]
    exact ⟨Nat.succ_ne_zero _, (bid_rd (nB := nB) hB2 hX.2.2.2.2.2.2.2 (by omega) hA.1.2.2.2.1).1⟩⟩
  refine ⟨⟨⟨hcb, fun k hk => ?_⟩, ?_⟩, ⟨?_, ⟨nR, hA.1.2.2.2.1, hA.2.1.2.2.2.2.2.2.1⟩, ⟨nB, hA.1.2.2.1.2, hA.2.1.2.2.2.2.2.1⟩, ng, by have := hA.1.2.1; omega, hA.2.1.2.2.1⟩, hcb⟩
  · rw [hz] at hk
    obtain ⟨⟨⟨b1, _⟩, _⟩, hB2⟩ := hX.2.2.2.2.2.2.1 k hk
    have eb : bd S k = k + 1 := b1
    have er : br S k = S.2.1 0 (k + 1) 2 := congrArg (fun z => S.2.1 0 z 2) eb
    obtain ⟨_, x, hx, _, r2, _⟩ := bid_rd (nB := nB) hB2 hX.2.2.2.2.2.2.2 (by omega) hA.1.2.2.2.1
    unfold P_Rnd_feeOwner
    rw [er, r2, nI_6, nI_1]
    exact hl_ix (by omega) (by omega)
  · rw [nI_41]; exact hl_ix (by omega) (by omega)
  · rw [show (4 : Int32) * nI o = nI (4 * o) from pk_mul 4 o, nI_add]; exact hl_ix (by omega) (by omega)
end
theorem dc_if {a b : Int32} {x : Int32} (hx : x = (if F_isOwner a = 0 then (0 : Int32) else (if b < 0 then (0 : Int32) else (if (4 : Int32) ≤ b then (0 : Int32) else (1 : Int32))))) : (x = 1 ∧ (∃ o : Nat, o < 6 ∧ a = nI o) ∧ ∃ c : Nat, c < 4 ∧ b = nI c) ∨ (x = 0 ∧ ¬ ((∃ o : Nat, o < 6 ∧ a = nI o) ∧ ∃ c : Nat, c < 4 ∧ b = nI c)) := by
  by_cases q : F_isOwner a = 0
  · exact Or.inr ⟨by rw [hx, if_pos q], fun z => own_iff.mp q z.1⟩
  · have h1 := Classical.not_not.mp fun z => q (own_iff.mpr z)
    rw [if_neg q] at hx
    by_cases w : ∃ c : Nat, c < 4 ∧ b = nI c
    · obtain ⟨c, hc, e⟩ := w
      subst e
      rw [col_y hc] at hx
      exact Or.inl ⟨hx, h1, c, hc, rfl⟩
    · rw [col_n w] at hx
      exact Or.inr ⟨hx, fun z => w z.2⟩
theorem call_due {n : Nat} {S : hs_S} {a1 a2 : Int32} (h : RR n S) (hn : n < 512) (hw : hs_Wi S) : m_L_due a1 a2 S (fun k S2 => hs_Wi S2 → m_M_due a1 a2 S2 (fun r T => OK n k r T)) := by
  obtain ⟨ev, ng, nl, nE, nB, nR, nd, k⟩ := id h
  have bad : ¬ ((∃ o : Nat, o < 6 ∧ a1 = nI o) ∧ ∃ c : Nat, c < 4 ∧ a2 = nI c) → hs_Wi S → m_M_due a1 a2 S (fun r T => OK n 1 r T) := fun e hw2 => by
    refine ok_M_due hw2 ?_
    intro x hx
    have hx' := ((dc_if hx).resolve_left fun z => e z.2).1
    subst hx'
    refine ⟨Or.inl rfl, ?_⟩
    rintro _ rfl
    exact ⟨fun _ => OK_f h hn rfl, fun z => absurd rfl z⟩
  refine ok_L_due hw fun _ => ok_C_due hw fun _ => t_needOwner hw (fun o ho eo => fun _ => t_needColumn hw (fun c hc ec => ?_) (fun e => ⟨rfl, bad fun z => e z.2⟩)) (fun e => ⟨rfl, bad fun z => own_iff.mp e z.1⟩)
  subst eo ec
  refine ⟨(P_due_of k ho hc).1, ?_⟩
  rintro _ rfl hw2
  refine ok_M_due hw2 ?_
  intro x hx
  have hx' := ((dc_if hx).resolve_right fun z => z.2 ⟨⟨o, ho, rfl⟩, c, hc, rfl⟩).1
  subst hx'
  refine ⟨Or.inr rfl, ?_⟩
  rintro _ rfl
  have k3 := RS_as (x := 1) (RS_out (y := (F_Ldg_dueOf (nI o) (nI c) S).toInt64) k) hn
  refine ⟨fun z => absurd z (by decide), fun _ => ⟨(P_due_of k3 ho hc).2.1, k3.rr, rfl, fun _ => congrArg Int32.toInt64 ?_⟩⟩
  refine (i32_of64 ?_).symm
  rw [(due_c k ho hc).1]
  exact (due_c k3 ho hc).2.1
section
variable {n : Nat} {S : hs_S} {ev ng nl nE nB nR nd o r : Nat}
theorem ex_b (k : RS n S ev ng nl nE nB nR nd) : ∀ j, j ≤ nB → (cOf S (nI o) j).toInt = sI (fun b => if mExC S (nI o) b then (S.1 68 1 b).toInt * (S.1 69 1 b).toInt else 0) j ∧ (mExB S (nI o) j).toInt = sI (fun b => if mExC S (nI o) b then (S.1 68 1 b).toInt * (S.1 69 1 b).toInt else 0) j ∧ 0 ≤ sI (fun b => if mExC S (nI o) b then (S.1 68 1 b).toInt * (S.1 69 1 b).toInt else 0) j ∧ sI (fun b => if mExC S (nI o) b then (S.1 68 1 b).toInt * (S.1 69 1 b).toInt else 0) j ≤ 999900 * (j : Int) := by
  have hX := k.1
  have hA := hX.1
  have hev := hA.1.1
  have h80 := hA.1.2.2.1.2
  intro j
  induction j with
  | zero => intro _; exact ⟨rfl, rfl, Int.le_refl _, Int.le_refl _⟩
  | succ j ih =>
    intro hj
    obtain ⟨i1, i2, i3, i4⟩ := ih (by omega)
    obtain ⟨⟨⟨b1, _, o', ho', b2, b2'⟩, ⟨b3, _⟩, ⟨m, hm, b4, b5⟩, ⟨l, hl, b6, b7⟩, _, b10, _⟩, hB2⟩ := hX.2.2.2.2.2.2.1 j (by omega)
    obtain ⟨_, c', hc', r1, r2, r3⟩ := bid_rd (nB := nB) hB2 hX.2.2.2.2.2.2.2 (by omega) hA.1.2.2.2.1
    have eb : bd S j = j + 1 := b1
    have er : br S j = S.2.1 0 (j + 1) 2 := congrArg (fun z => S.2.1 0 z 2) eb
    have h7 : S.1 0 (j + 1) 7 = 2147483647 ↔ S.1 71 1 j = -1 := by
      rcases b10 with ⟨w1, w2⟩ | ⟨w, hw, w1, w2⟩
      · rw [w1, w2]; exact ⟨fun _ => rfl, fun _ => rfl⟩
      · rw [w1, w2]; exact ⟨fun z => absurd z (neMax (by omega)), fun z => absurd z (neg1 (by omega))⟩
    have hcc : cOfC S (nI o) j ↔ mExC S (nI o) j := by
      unfold cOfC mExC
      rw [er, eb, b2', ← b2, b3, h7, r3]
      exact ⟨fun z => ⟨z.1, z.2.1, z.2.2.2, z.2.2.1⟩, fun z => ⟨z.1, z.2.1, z.2.2.2, z.2.2.1⟩⟩
    have hs : sI (fun b => if mExC S (nI o) b then (S.1 68 1 b).toInt * (S.1 69 1 b).toInt else 0) (j + 1) = sI (fun b => if mExC S (nI o) b then (S.1 68 1 b).toInt * (S.1 69 1 b).toInt else 0) j + (if mExC S (nI o) j then (S.1 68 1 j).toInt * (S.1 69 1 j).toInt else 0) := rfl
    have em : (nI m).toInt = m := nI_toInt (by omega)
    have el : (nI l).toInt = l := nI_toInt (by omega)
    have p1 : 0 ≤ (m : Int) * l := Int.mul_nonneg (by omega) (by omega)
    have p2 : (m : Int) * l ≤ 100 * 9999 := Int.mul_le_mul (by omega) (by omega) (by omega) (by omega)
    rw [hs]
    unfold cOf mExB
    by_cases q : mExC S (nI o) j
    · rw [if_pos (hcc.mpr q), if_pos q, if_pos q, eb, b5, b7, b4, b6]
      have e1 : (nI m * nI l).toInt = m * l := by rw [i32_mul (by rw [em, el]; omega), em, el]
      have e2 : ((nI m).toInt64 * (nI l).toInt64).toInt = m * l := by rw [i64_mul_of, em, el]
      rw [em, el, i32_add (by rw [i1, e1]; omega), i64_add (by rw [i2, e2]; omega), i1, i2, e1, e2]
      omega
    · rw [if_neg fun z => q (hcc.mp z), if_neg q, if_neg q, Int64.add_zero, i1, i2]
      omega
/-- exposures of the two sides -/
theorem ex_c (k : RS n S ev ng nl nE nB nR nd) (ho : o < 6) : (F_exposureOf (nI o) S).toInt = (F_Ldg_exposureOf (nI o) S).toInt ∧ 0 ≤ (F_Ldg_exposureOf (nI o) S).toInt ∧ (F_Ldg_exposureOf (nI o) S).toInt ≤ 2049495040 := by
  have hA := k.1.1
  have h80 := hA.1.2.2.1.2
  have hz : hs_sz S 13 = nB := hA.2.2.1.2.2.1
  obtain ⟨e1, e2, e3, e4⟩ := ex_b (o := o) k nB (Nat.le_refl _)
  have eB : mExB S (nI o) (S.1 11 1 24).toNatClampNeg = mExB S (nI o) nB := by rw [hA.2.1.2.2.2.2.2.1, hl_cl (by omega)]
  have st : ∀ c, c ≤ 4 → (mExD S (nI o) (mExB S (nI o) nB) c).toInt = (cEx S (nI o) c).toInt ∧ 0 ≤ (cEx S (nI o) c).toInt ∧ (cEx S (nI o) c).toInt ≤ 79992000 + 492375760 * (c : Int) := by
    intro c
    induction c with
    | zero =>
      intro _
      have e0 : (cEx S (nI o) 0).toInt = (cOf S (nI o) nB).toInt := by
        show (F_Book_offeredBy (nI o) S).toInt = _
        unfold F_Book_offeredBy
        rw [hz]
      rw [e0, e1]
      refine ⟨e2, by omega, by omega⟩
    | succ c ih =>
      intro hc
      obtain ⟨i1, i2, i3⟩ := ih (by omega)
      obtain ⟨d1, d2, d3, d4⟩ := due_c k ho (show c < 4 by omega)
      have z0 : (0 : Int32).toInt = 0 := rfl
      have z0' : (0 : Int64).toInt = 0 := rfl
      unfold mExD cEx
      have hq : F_dueOf (nI o) (nI c) S ≤ 0 ↔ ¬ 0 < F_Ldg_dueOf (nI o) (nI c) S := by
        rw [i64_le, i32_lt, z0, z0', d1, d2]; omega
      by_cases q : F_dueOf (nI o) (nI c) S ≤ 0
      · rw [if_pos q, if_neg (hq.mp q), Int64.add_zero, Int32.add_zero, i1]
        omega
      · have q' : 0 < F_Ldg_dueOf (nI o) (nI c) S := Classical.not_not.mp fun z => q (hq.mpr z)
        have q2 := q'
        rw [i32_lt, z0, d1] at q2
        rw [if_neg q, if_pos q', i64_add (by rw [i1, d2]; omega), i32_add (by rw [d1]; omega), i1, d1, d2]
        omega
  have h4 := st 4 (Nat.le_refl _)
  unfold F_exposureOf F_Ldg_exposureOf
  rw [eB]
  exact ⟨h4.1, h4.2.1, by omega⟩
end
abbrev hs_ay (y : Int64) (S : hs_S) : hs_S := E_asks 1 (hs_wL S 100 1 (0 : Int32).toNatClampNeg y)
theorem ay_cOw {y : Int64} {S : hs_S} {o c : Int32} (k : Nat) : cOw (hs_ay y S) o c k = cOw S o c k := by
  induction k with
  | zero => rfl
  | succ k ih => unfold cOw; rw [ih]; rfl
theorem ay_cOf {y : Int64} {S : hs_S} {o : Int32} (k : Nat) : cOf (hs_ay y S) o k = cOf S o k := by
  induction k with
  | zero => rfl
  | succ k ih => unfold cOf; rw [ih]; rfl
theorem ay_due {y : Int64} {S : hs_S} {o c : Int32} : F_Ldg_dueOf o c (hs_ay y S) = F_Ldg_dueOf o c S := by
  unfold F_Ldg_dueOf F_Book_owedBy
  rw [ay_cOw]
  rfl
theorem ay_cEx {y : Int64} {S : hs_S} {o : Int32} (k : Nat) : cEx (hs_ay y S) o k = cEx S o k := by
  induction k with
  | zero =>
    show F_Book_offeredBy o (hs_ay y S) = F_Book_offeredBy o S
    unfold F_Book_offeredBy
    exact ay_cOf _
  | succ k ih => unfold cEx; rw [ih, ay_due]
theorem ay_ex {y : Int64} {S : hs_S} {o : Int32} : F_Ldg_exposureOf o (hs_ay y S) = F_Ldg_exposureOf o S := ay_cEx 4
theorem call_exposure {n : Nat} {S : hs_S} {a1 : Int32} (h : RR n S) (hn : n < 512) (hw : hs_Wi S) : m_L_exposure a1 S (fun k S2 => hs_Wi S2 → m_M_exposure a1 S2 (fun r T => OK n k r T)) := by
  obtain ⟨ev, ng, nl, nE, nB, nR, nd, k⟩ := id h
  have hA := k.1.1
  refine ok_L_exposure hw fun _ => ok_C_exposure hw fun _ => t_needOwner hw (fun o ho eo => ?_) (fun e => ⟨rfl, fun hw2 => ok_M_exposure hw2 ⟨Or.inl e, ?_⟩⟩)
  · subst eo
    refine ⟨⟨(P_due_of k ho (show 0 < 4 by omega)).2.2, fun c hc => (P_due_of k ho hc).1⟩, ?_⟩
    rintro _ rfl hw2
    refine ok_M_exposure hw2 ?_
    unfold vc_M_exposure
    rw [own_1 ho]
    refine ⟨Or.inr rfl, ?_⟩
    rintro _ rfl
    have k3 := RS_as (x := 1) (RS_out (y := (F_Ldg_exposureOf (nI o) S).toInt64) k) hn
    refine ⟨fun z => absurd z (by decide), fun _ => ⟨⟨⟨nB, hA.1.2.2.1.2, hA.2.1.2.2.2.2.2.1⟩, fun c hc => (P_due_of k3 ho hc).2.1⟩, k3.rr, rfl, fun _ => congrArg Int32.toInt64 ?_⟩⟩
    refine (i32_of64 ?_).symm
    rw [(ex_c k3 ho).1]
    exact congrArg Int32.toInt ay_ex
  · rintro _ rfl
    exact ⟨fun _ => OK_f h hn e, fun z => absurd e z⟩
section
variable {n : Nat} {S : hs_S} {ev ng nl nE nB nR nd r : Nat}
theorem fs_b (k : RS n S ev ng nl nE nB nR nd) (hr : r < nR) : ∀ j, j ≤ nB → (cFs S (S.2.1 14 1 r) j).toInt = sI (fun b => if S.1 72 1 b = nI r then bf S b else 0) j ∧ 0 ≤ sI (fun b => if S.1 72 1 b = nI r then bf S b else 0) j ∧ sI (fun b => if S.1 72 1 b = nI r then bf S b else 0) j ≤ 1009899 * (j : Int) := by
  obtain ⟨hX, hL, hQ, hM⟩ := k
  have h80 := hX.1.1.2.2.1.2
  have hR30 := hX.1.1.2.2.2.1
  intro j
  induction j with
  | zero => intro _; exact ⟨rfl, Int.le_refl _, Int.le_refl _⟩
  | succ j ih =>
    intro hj
    obtain ⟨i1, i2, i3⟩ := ih (by omega)
    obtain ⟨hw, hf⟩ := bid_b hX hM (show j < nB by omega)
    obtain ⟨_, e2, _⟩ := c_bid hX hQ hM (show j < nB by omega)
    obtain ⟨⟨⟨b1, _⟩, _⟩, _⟩ := hX.2.2.2.2.2.2.1 j (by omega)
    have eb : bd S j = j + 1 := b1
    have er : br S j = S.2.1 0 (j + 1) 2 := congrArg (fun z => S.2.1 0 z 2) eb
    have hs : sI (fun b => if S.1 72 1 b = nI r then bf S b else 0) (j + 1) = sI (fun b => if S.1 72 1 b = nI r then bf S b else 0) j + (if S.1 72 1 j = nI r then bf S j else 0) := rfl
    have hc := c_rd (r := r) hX.2.2.2.2.2.2.1 hX.2.2.2.2.2.2.2 hR30 hr (show j < nB by omega)
    rw [hs]
    unfold cFs
    rw [er, eb]
    by_cases q : S.1 72 1 j = nI r
    · rw [if_pos (hc.mpr q), if_pos q, i32_add (by rw [i1, e2]; omega), i1, e2]
      omega
    · rw [if_neg fun z => q (hc.mp z), if_neg q, i1]
      omega
end
theorem ay_cFs {y : Int64} {S : hs_S} {r : Nat} (k : Nat) : cFs (hs_ay y S) r k = cFs S r k := by
  induction k with
  | zero => rfl
  | succ k ih => unfold cFs; rw [ih]; rfl
theorem in5 {a : Int32} : F_in a 0 5 = 0 ↔ (a.toInt < 0 ∨ 5 < a.toInt) := by
  unfold F_in
  rw [bI_eq0, i32_le, i32_le]
  have z0 : (0 : Int32).toInt = 0 := rfl
  have z6 : (5 : Int32).toInt = 5 := rfl
  omega
theorem call_round {n : Nat} {S : hs_S} {a1 a2 : Int32} (h : RR n S) (hn : n < 512) (hw : hs_Wi S) : m_L_round a1 a2 S (fun k S2 => hs_Wi S2 → m_M_round a1 a2 S2 (fun r T => OK n k r T)) := by
  obtain ⟨ev, ng, nl, nE, nB, nR, nd, k⟩ := id h
  obtain ⟨hA, hG, hH, hE, hF, hN, hB, hC⟩ := id k.1
  have hz : hs_sz S 14 = nR := hA.2.2.1.2.2.2.2
  have e36 : S.1 11 1 36 = nI nR := hA.2.1.2.2.2.2.2.2.1
  have hR30 := hA.1.2.2.2.1
  have h80 := hA.1.2.2.1.2
  have hev := hA.1.1
  refine ok_L_round hw fun _ => ok_C_round hw fun _ => t_roundNumbered hw (by omega) (fun r hr => by have := (hC.1 r (by omega)).1.1; omega) (fun r hr er => ?_) (fun e => Or.inl ⟨rfl, fun hw2 => ok_M_round hw2 ?_⟩)
  · rw [hz] at hr
    subst er
    obtain ⟨g1, ⟨c, hc, c2, c3⟩, _⟩ := hC.1 r hr
    obtain ⟨q5, q6, q7, q8⟩ := k.2.2.1.1 r hr
    have hR0 : S.2.1 14 1 r ≠ 0 := by omega
    have x1 : ∀ V : hs_S, V.1 11 1 36 = nI nR → ∀ x : Int32, x = (if nI r < 0 then (0 : Int32) else (if (V.1 11 1 36) ≤ nI r then (0 : Int32) else (1 : Int32))) → x = 1 := fun V eV x hx => by
      rw [hx, if_neg (nI_lo (by omega)), eV, if_neg]
      exact fun z => absurd ((hl_le (by omega) (by omega)).mp z) (by omega)
    have fin : ∀ v : Int32, F_in a2 0 5 ≠ 0 → (a2 = 0 → v = S.1 77 1 r) → (a2 = 1 → v = S.1 81 1 r) → (a2 = 2 → v = S.1 82 1 r) → (a2 = 3 → v = S.1 83 1 r) → (a2 = 4 → v = S.1 84 1 r) → (a2 = 5 → v = F_Book_feesOf (S.2.1 14 1 r) S) → ∀ S5, S5 = hs_wL S 100 1 (0 : Int32).toNatClampNeg v.toInt64 → hs_Wi S5 → m_M_round (nI r) a2 S5 (fun r T => OK n 0 r T) := by
      rintro v h5 v0 v1 v2 v3 v4 v5 _ rfl hw2
      refine ok_M_round hw2 ?_
      intro x hx
      have hx' := x1 (hs_wL S 100 1 (0 : Int32).toNatClampNeg v.toInt64) e36 x hx
      subst hx'
      refine ⟨Or.inr rfl, ?_⟩
      rintro _ rfl
      have k3 := RS_as (x := 1) (RS_out (y := v.toInt64) k) hn
      have in5' : ¬ (a2.toInt < 0 ∨ 5 < a2.toInt) := fun z => h5 (in5.mpr z)
      rw [hl_cl (by omega)]
      have ix : 0 ≤ (nI r).toInt ∧ (nI r).toInt < 30 := hl_ix (by omega) (by omega)
      refine ⟨fun _ => ⟨fun _ => ⟨fun w => ⟨fun w0 => ⟨fun w1 => ⟨ix, k3.rr, rfl, fun _ => congrArg Int32.toInt64 (v2 ?_)⟩, fun w1 => ⟨ix, k3.rr, rfl, fun _ => congrArg Int32.toInt64 (v1 w1)⟩⟩, fun w0 => ⟨ix, k3.rr, rfl, fun _ => congrArg Int32.toInt64 (v0 w0)⟩⟩, fun w => ⟨fun w3 => ⟨fun w4 => ⟨⟨⟨nB, h80, hA.2.1.2.2.2.2.2.1⟩, ix⟩, k3.rr, rfl, fun _ => congrArg Int32.toInt64 ?_⟩, fun w4 => ⟨ix, k3.rr, rfl, fun _ => congrArg Int32.toInt64 (v4 w4)⟩⟩, fun w3 => ⟨ix, k3.rr, rfl, fun _ => congrArg Int32.toInt64 (v3 w3)⟩⟩⟩, fun z => absurd z h5⟩, fun z => absurd z (by decide)⟩
      · apply i32_eq.mpr
        rw [i32_eq] at w0 w1
        rw [i32_le] at w
        have z0 : (0 : Int32).toInt = 0 := rfl
        have z1 : (1 : Int32).toInt = 1 := rfl
        have z2 : (2 : Int32).toInt = 2 := rfl
        omega
      · have e5 : a2 = 5 := by
          apply i32_eq.mpr
          rw [i32_eq] at w3 w4
          rw [i32_le] at w
          have z3 : (3 : Int32).toInt = 3 := rfl
          have z4 : (4 : Int32).toInt = 4 := rfl
          have z2 : (2 : Int32).toInt = 2 := rfl
          have z5 : (5 : Int32).toInt = 5 := rfl
          omega
        refine Eq.trans (v5 e5) (i32_of64 ?_).symm
        have m1 := (m_fees k3.1 k3.2.2.2 hr nB (Nat.le_refl _)).1
        have c1 := (fs_b k hr nB (Nat.le_refl _)).1
        have e24 : (E_asks 1 (hs_wL S 100 1 (0 : Int32).toNatClampNeg v.toInt64)).1 11 1 24 = nI nB := hA.2.1.2.2.2.2.2.1
        have hz13 : hs_sz S 13 = nB := hA.2.2.1.2.2.1
        unfold F_feesOf F_Book_feesOf
        rw [e24, hl_cl (by omega), hz13, c1]
        exact m1
    refine ⟨fun z => ⟨hR0, ?_⟩, fun z => ⟨hR0, ?_⟩, fun z => ⟨hR0, ?_⟩, fun z => ⟨hR0, ?_⟩, fun z => ⟨hR0, ?_⟩, fun z => ⟨(P_due_of k (show 0 < 6 by omega) (show 0 < 4 by omega)).2.2, hR0, ?_⟩, fun z => Or.inr ⟨rfl, fun hw2 => ok_M_round hw2 ?_⟩⟩
    · subst z
      exact fin _ (by decide) (fun _ => c3.trans c2.symm) (fun w => absurd w (by decide)) (fun w => absurd w (by decide)) (fun w => absurd w (by decide)) (fun w => absurd w (by decide)) (fun w => absurd w (by decide))
    · subst z
      exact fin _ (by decide) (fun w => absurd w (by decide)) (fun _ => q5) (fun w => absurd w (by decide)) (fun w => absurd w (by decide)) (fun w => absurd w (by decide)) (fun w => absurd w (by decide))
    · subst z
      exact fin _ (by decide) (fun w => absurd w (by decide)) (fun w => absurd w (by decide)) (fun _ => q6) (fun w => absurd w (by decide)) (fun w => absurd w (by decide)) (fun w => absurd w (by decide))
    · subst z
      exact fin _ (by decide) (fun w => absurd w (by decide)) (fun w => absurd w (by decide)) (fun w => absurd w (by decide)) (fun _ => q7) (fun w => absurd w (by decide)) (fun w => absurd w (by decide))
    · subst z
      exact fin _ (by decide) (fun w => absurd w (by decide)) (fun w => absurd w (by decide)) (fun w => absurd w (by decide)) (fun w => absurd w (by decide)) (fun _ => q8) (fun w => absurd w (by decide))
    · subst z
      exact fin _ (by decide) (fun w => absurd w (by decide)) (fun w => absurd w (by decide)) (fun w => absurd w (by decide)) (fun w => absurd w (by decide)) (fun w => absurd w (by decide)) (fun _ => rfl)
    · intro x hx
      have hx' := x1 S e36 x hx
      subst hx'
      refine ⟨Or.inr rfl, ?_⟩
      rintro _ rfl
      refine ⟨fun _ => ⟨fun w => absurd (in5.mpr z) w, fun _ => ?_⟩, fun w => absurd w (by decide)⟩
      rintro _ rfl
      exact OK_g h hn (by decide)
  · rw [hz] at e
    intro x hx
    have hx0 : x = 0 := by
      rw [hx, e36]
      by_cases q1 : a1 < 0
      · rw [if_pos q1]
      · rw [if_neg q1, if_pos]
        refine Classical.not_not.mp fun z => e ?_
        exact lt_of (by omega) q1 (nle.mp z)
    subst hx0
    refine ⟨Or.inl rfl, ?_⟩
    rintro _ rfl
    exact ⟨fun z => absurd rfl z, fun _ => OK_f h hn rfl⟩
