/-! ===== settling keeps the history; what it pays ===== -/
theorem cz_st {S : hs_S} {qc : Nat → Int32} {ql : Nat → Int64} : cz (hs_st S qc ql) = cz S := by
  refine Prod.ext (funext fun a => funext fun b => funext fun c => ?_) rfl
  show (if gh a = true then (0 : Int32) else if a = 87 ∧ b = 1 then qc c else S.1 a b c) = if gh a = true then 0 else S.1 a b c
  by_cases q : gh a = true
  · rw [if_pos q, if_pos q]
  · rw [if_neg q, if_neg q]
    exact if_neg fun z => q (by rw [z.1]; rfl)
def csum (U : hs_S) : Nat → Int32
  | 0 => 0
  | o + 1 => csum U o + U.1 36 1 o
def psum (U : hs_S) (a : Int32) : Nat → Int32
  | 0 => 0
  | o + 1 => psum U a o + pyP U a o
theorem i_ring1 {a b : Int32} : a - (b + (a - b)) = 0 := by
  have h : b + (a - b) = a := by rw [Int32.add_comm, Int32.sub_add_cancel]
  rw [h, Int32.sub_self]
theorem i_ring2 {a b x y : Int32} : (a + x) + (b + y) = (a + b) + (x + y) := by
  rw [Int32.add_assoc, Int32.add_assoc, ← Int32.add_assoc x b y, Int32.add_comm x b, Int32.add_assoc b x y]
theorem kp_settle {n c : Nat} {U T : hs_S} {r : Int32} (h : KS n U) (hn : n < 512) (hc : c < 4) (hR : R_Ldg_payDues (nI c) (hs_wI U 10 1 5 (U.1 10 1 5 + 1)) r T) : KS (n + 1) T ∧ 0 ≤ r.toInt ∧ (∀ o, o < 6 → F_Ldg_dueOf (nI o) (nI c) T = 0) ∧ csum T 6 = csum U 6 ∧ ((∀ o, o < 6 → F_Ldg_dueOf (nI o) (nI c) U = 0) → r = 0) := by
  obtain ⟨V, ev, ng, nl, nE, nB, nR, nd, hS⟩ := h
  have k : KU n U (mrg U V) ev ng nl nE nB nR nd := by
    obtain ⟨⟨a, b, c, d, e, f, g, i⟩, hL, hQ, hM⟩ := hS
    exact ⟨⟨a, b, c, d, e, f, g, i⟩, hL, hQ, hM⟩
  obtain ⟨hX, hL, hQ, hM⟩ := id k
  have h80 := hX.1.1.2.2.1.2
  have e5 : U.1 10 1 5 = nI ev := hX.1.2.1.1
  rw [e5, nI_1] at hR
  obtain ⟨g1, g2, g3, g4, ⟨g8, g9⟩, g5⟩ := hR
  obtain ⟨g6, g7⟩ := g5 c hc rfl
  obtain ⟨df, dz⟩ := due_f k hc
  obtain ⟨pp, pt⟩ := pay_i (M := mrg U V) (v := nI (ev + 1)) (fun o ho => (df o ho).1.2) (fun o ho => by rw [← (df o ho).1.2]; exact (df o ho).2)
  have hz : sI (stD (mrg U V) (nI c)) 6 = 0 := by rw [← dz]; exact sI_c 6 fun o ho => ((df o ho).1.2).symm
  have p0 := pay_0 hz
  have eD : ∀ o, pyD (hs_ck (nI (ev + 1)) U) (nI c) o = F_Ldg_dueOf (nI o) (nI c) U := fun o => ck_due
  have q35 : ∀ o, o < 6 → (T.1 35 1 (4 * o + c)).toInt = sI (dX (mrg U V) ng o c) nB := fun o ho => by
    obtain ⟨l1, l2, l3⟩ := hL.2.1 (4 * o + c) (by omega)
    have hs := dX_s (o := o) (c := c) hX hM nB (Nat.le_refl _)
    have d1 : (F_Ldg_dueOf (nI o) (nI c) U).toInt = sI (dX (mrg U V) ng o c) nB - (U.1 35 1 (4 * o + c)).toInt := (df o ho).1.1
    have e : T.1 35 1 (4 * o + c) = U.1 35 1 (4 * o + c) + F_Ldg_dueOf (nI o) (nI c) U := (g6 o ho).trans (by rw [← eD o]; rfl)
    rw [e, i32_add (by omega)]
    omega
  have o35 : ∀ p, (∀ o, o < 6 → p ≠ 4 * o + c) → T.1 35 1 p = U.1 35 1 p := fun p hp => g7 p hp
  refine ⟨?_, ?_, fun o ho => ?_, ?_, fun h0 => ?_⟩
  · refine KS_of (settle_RR (f := T.1) (qc := fun o => T.1 36 1 o) (ql := fun p => (T.1 35 1 p).toInt64) (y := 0) hS hn (fun _ _ => rfl) (fun p hp => ⟨(Int32.toInt_toInt64 _).symm, ?_⟩) (fun c' hc' => ?_)) ?_
    · by_cases w : p % 4 = c
      · have ep : p = 4 * (p / 4) + c := by omega
        have hs := dX_s (o := p / 4) (c := c) hX hM nB (Nat.le_refl _)
        rw [ep, q35 (p / 4) (by omega)]
        omega
      · rw [o35 p fun o _ z => w (by omega)]
        obtain ⟨_, l2, l3⟩ := hL.2.1 p hp
        exact ⟨l2, l3⟩
    · by_cases w : c' = c
      · subst w
        rw [← dX_6 (c := c') hX hM]
        refine sI_c 6 fun o ho => ?_
        show ((T.1 35 1 (4 * o + c')).toInt64).toInt = _
        rw [Int32.toInt_toInt64]
        exact q35 o ho
      · rw [← hL.2.2.1 c' hc']
        refine sI_c 6 fun o ho => ?_
        show ((T.1 35 1 (4 * o + c')).toInt64).toInt = _
        rw [Int32.toInt_toInt64, o35 _ fun o' _ z => w (by omega)]
        exact (hL.2.1 (4 * o + c') (by omega)).1
    · unfold setT
      rw [cg11, cz_st, cz_as, cz_L]
      refine Prod.ext (funext fun t => funext fun i => funext fun p => ?_) (Prod.ext (congrArg (fun z => z.1) g1) (Prod.ext rfl (congrArg (fun z => z.2.2) g1)))
      show (if gh t = true then (0 : Int32) else T.1 t i p) = if gh t = true then 0 else if t = 35 ∨ t = 36 ∨ t = 38 ∨ t = 39 then T.1 t i p else (hs_wI (mrg U V) 10 1 5 (nI (ev + 1))).1 t i p
      by_cases q : gh t = true
      · rw [if_pos q, if_pos q]
      · rw [if_neg q, if_neg q]
        by_cases w : t = 35 ∨ t = 36 ∨ t = 38 ∨ t = 39
        · rw [if_pos w]
        · rw [if_neg w, g2 t i p w]
          show (if t = 10 ∧ i = 1 ∧ p = 5 then nI (ev + 1) else U.1 t i p) = if t = 10 ∧ i = 1 ∧ p = 5 then nI (ev + 1) else if gh t = true then V.1 t i p else U.1 t i p
          rw [if_neg q]
  · rw [g3, pt]
    exact sI_nn 6 fun o _ => by omega
  · have eB : F_Book_owedBy (nI o) (nI c) T = F_Book_owedBy (nI o) (nI c) (hs_ck (nI (ev + 1)) U) := by
      rw [← cL_owed, cL_fr g1 g2, cL_owed]
    have eB2 : F_Book_owedBy (nI o) (nI c) (hs_ck (nI (ev + 1)) U) = F_Book_owedBy (nI o) (nI c) U := ck_cOw _
    have e4 : (nI o * 4 + nI c).toNatClampNeg = 4 * o + c := by rw [nI_41]; exact hl_cl (by omega)
    have e : T.1 35 1 (4 * o + c) = U.1 35 1 (4 * o + c) + F_Ldg_dueOf (nI o) (nI c) U := (g6 o ho).trans (by rw [← eD o]; rfl)
    unfold F_Ldg_dueOf at e ⊢
    rw [e4] at e ⊢
    rw [eB, eB2, e]
    exact i_ring1
  · have hp : ∀ o, o ≤ 6 → csum T o + psum (hs_ck (nI (ev + 1)) U) (nI c) o = csum U o := by
      intro o
      induction o with
      | zero => intro _; exact Int32.add_zero 0
      | succ o ih =>
        intro ho
        have i1 := ih (by omega)
        have e1 : T.1 36 1 o + pyP (hs_ck (nI (ev + 1)) U) (nI c) o = U.1 36 1 o := by
          rw [g4 o (by omega)]
          exact Int32.sub_add_cancel _ _
        have e2 : csum T (o + 1) = csum T o + T.1 36 1 o := rfl
        have e3 : psum (hs_ck (nI (ev + 1)) U) (nI c) (o + 1) = psum (hs_ck (nI (ev + 1)) U) (nI c) o + pyP (hs_ck (nI (ev + 1)) U) (nI c) o := rfl
        have e4 : csum U (o + 1) = csum U o + U.1 36 1 o := rfl
        rw [e2, e3, e4, i_ring2, i1, e1]
    have hb : ∀ o, o < 6 → -49237577 ≤ stPay (mrg U V) (nI c) o ∧ stPay (mrg U V) (nI c) o ≤ 49237577 := fun o ho => by
      have hd := (df o ho).2
      rw [(df o ho).1.2] at hd
      unfold stPay
      by_cases w : stH (mrg U V) (nI c) o = true
      · rw [if_pos w]; omega
      · rw [if_neg w]; omega
    have hs : ∀ o, o ≤ 6 → (psum (hs_ck (nI (ev + 1)) U) (nI c) o).toInt = sI (stPay (mrg U V) (nI c)) o := by
      intro o
      induction o with
      | zero => intro _; rfl
      | succ o ih =>
        intro ho
        have i1 := ih (by omega)
        have i2 := sI_bd (f := stPay (mrg U V) (nI c)) (B := 49237577) (by omega) o fun j hj => hb j (by omega)
        have i3 := hb o (by omega)
        have i4 := pp o (by omega)
        show (psum (hs_ck (nI (ev + 1)) U) (nI c) o + pyP (hs_ck (nI (ev + 1)) U) (nI c) o).toInt = sI (stPay (mrg U V) (nI c)) o + stPay (mrg U V) (nI c) o
        rw [i32_add (by omega), i1, i4]
    have h6 := hp 6 (Nat.le_refl _)
    have : psum (hs_ck (nI (ev + 1)) U) (nI c) 6 = 0 := i32_eq.mpr (by rw [hs 6 (Nat.le_refl _), p0]; rfl)
    rw [this, Int32.add_zero] at h6
    exact h6
  · have z : ∀ o, o < 6 → stD (mrg U V) (nI c) o = 0 := fun o ho => by
      rw [← (df o ho).1.2]
      show (F_Ldg_dueOf (nI o) (nI c) U).toInt = 0
      rw [h0 o ho]; rfl
    have l0 : stL (mrg U V) (nI c) = 0 := by
      unfold stL
      rw [sI_0 6 fun o ho => by rw [z o ho]; rfl]
      rfl
    have y : ∀ o, o < 6 → stPay (mrg U V) (nI c) o = 0 := fun o ho => by
      unfold stPay
      have : ¬ stH (mrg U V) (nI c) o = true := fun w => by
        have w' := of_decide_eq_true w
        rw [l0] at w'
        have := sI_nn (f := fun j => if stB (mrg U V) (nI c) j o then (1 : Int) else 0) 6 fun j _ => by
          by_cases q : stB (mrg U V) (nI c) j o = true
          · rw [if_pos q]; omega
          · rw [if_neg q]; omega
        omega
      rw [if_neg this, z o ho]; rfl
    refine i32_eq.mpr ?_
    rw [g3, pt, sI_0 6 fun o ho => by rw [y o ho]; rfl]
    rfl
