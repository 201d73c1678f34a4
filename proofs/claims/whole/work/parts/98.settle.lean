/-! ===== a column settles ===== -/
abbrev pyS (S : hs_S) (v : Int32) (f : Nat → Nat → Nat → Int32) : hs_S := (fun t i p => if t = 35 ∨ t = 36 ∨ t = 38 ∨ t = 39 then f t i p else (hs_wI S 10 1 5 v).1 t i p, S.2)
abbrev setT (S : hs_S) (v : Int32) (f : Nat → Nat → Nat → Int32) (qc : Nat → Int32) (ql : Nat → Int64) (y : Int64) : hs_S := hs_wI (hs_st (E_asks 1 (hs_wL (pyS S v f) 100 1 (0 : Int32).toNatClampNeg y)) qc ql) 11 1 0 v
theorem settle_RR {n : Nat} {S : hs_S} {ev ng nl nE nB nR nd : Nat} {f : Nat → Nat → Nat → Int32} {qc : Nat → Int32} {ql : Nat → Int64} {y : Int64} (hS : RS n S ev ng nl nE nB nR nd) (hn : n < 512) (h36 : ∀ o, o < 6 → f 36 1 o = qc o) (h35 : ∀ p, p < 24 → (f 35 1 p).toInt = (ql p).toInt ∧ -250000000 ≤ (f 35 1 p).toInt ∧ (f 35 1 p).toInt ≤ 250000000) (h0 : ∀ c : Nat, c < 4 → sI (fun o => (ql (4 * o + c)).toInt) 6 = 0) : RR (n + 1) (setT S (nI (ev + 1)) f qc ql y) := by
  obtain ⟨⟨hA, hG, hH, hE, hF, hN, hB, hC⟩, hL, hQ, hM⟩ := hS
  have hev := hA.1.1
  have hG' := rG_up hH (by omega) hG
  have hH' := rH_up hH
  have hE' := rE_up hE
  have hB' := rB_up hB
  have hC' := rC_up hC
  refine ⟨ev + 1, ng, nl, nE, nB, nR, nd, ⟨⟨⟨⟨by omega, by omega⟩, by have := hA.1.2; omega⟩, ⟨rfl, rfl, hA.2.1.2.2⟩, hA.2.2⟩, hG', hH', hE', hF, hN, hB', hC'⟩, ⟨fun o ho => ⟨h36 o ho, (hL.1 o ho).2⟩, h35, h0, hL.2.2.2⟩, hQ, hM⟩
theorem ck_cOw {v : Int32} {S : hs_S} {o c : Int32} (k : Nat) : cOw (hs_ck v S) o c k = cOw S o c k := by
  induction k with
  | zero => rfl
  | succ k ih => unfold cOw; rw [ih]; rfl
theorem ck_due {v : Int32} {S : hs_S} {o c : Int32} : F_Ldg_dueOf o c (hs_ck v S) = F_Ldg_dueOf o c S := by
  unfold F_Ldg_dueOf F_Book_owedBy
  rw [ck_cOw]
  rfl
/-- what the class's owners pay, as the reference has it -/
theorem pay_i {S M : hs_S} {c : Nat} {v : Int32} (hD : ∀ o, o < 6 → (F_Ldg_dueOf (nI o) (nI c) S).toInt = stD M (nI c) o) (hb : ∀ o, o < 6 → -492375760 ≤ stD M (nI c) o ∧ stD M (nI c) o ≤ 492375760) : (∀ o, o < 6 → (pyP (hs_ck v S) (nI c) o).toInt = stPay M (nI c) o) ∧ (pyT (hs_ck v S) (nI c) 6).toInt = sI (fun o => max 0 (stPay M (nI c) o)) 6 := by
  have z0 : (0 : Int32).toInt = 0 := rfl
  have z1 : (1 : Int32).toInt = 1 := rfl
  have d : ∀ o, o < 6 → (pyD (hs_ck v S) (nI c) o).toInt = stD M (nI c) o := fun o ho => by
    show (F_Ldg_dueOf (nI o) (nI c) (hs_ck v S)).toInt = _
    rw [ck_due]; exact hD o ho
  have q : ∀ o, o < 6 → (pyQ (hs_ck v S) (nI c) o).toInt = stD M (nI c) o / 10 ∧ (pyC (hs_ck v S) (nI c) o).toInt = stD M (nI c) o % 10 := fun o ho => by
    obtain ⟨f1, f2⟩ := floor10 (a := pyD (hs_ck v S) (nI c) o)
    rw [d o ho] at f1 f2
    exact ⟨f1, f2⟩
  have sb := sI_bd (f := fun o => stD M (nI c) o / 10) (B := 49237577) (by omega) 6 fun k hk => by
    have := hb k hk
    show -49237577 ≤ stD M (nI c) k / 10 ∧ stD M (nI c) k / 10 ≤ 49237577
    omega
  have l : ∀ k, k ≤ 6 → (pyL (hs_ck v S) (nI c) k).toInt = -(sI (fun o => stD M (nI c) o / 10) k) := by
    intro k
    induction k with
    | zero => intro _; rfl
    | succ k ih =>
      intro hk
      have i1 := ih (by omega)
      have i2 := sI_bd (f := fun o => stD M (nI c) o / 10) (B := 49237577) (by omega) k fun j hj => by
        have := hb j (by omega)
        show -49237577 ≤ stD M (nI c) j / 10 ∧ stD M (nI c) j / 10 ≤ 49237577
        omega
      have hbk := hb k (by omega)
      have hs : sI (fun o => stD M (nI c) o / 10) (k + 1) = sI (fun o => stD M (nI c) o / 10) k + stD M (nI c) k / 10 := rfl
      unfold pyL
      rw [hs, i32_sub (by rw [i1, (q k (by omega)).1]; omega), i1, (q k (by omega)).1]
      omega
  have a : ∀ o, o < 6 → ∀ k, k ≤ 6 → (pyA (hs_ck v S) (nI c) o k).toInt = sI (fun j => if stB M (nI c) j o then 1 else 0) k ∧ 0 ≤ sI (fun j => if stB M (nI c) j o then 1 else 0) k ∧ sI (fun j => if stB M (nI c) j o then 1 else 0) k ≤ (k : Int) := by
    intro o ho k
    induction k with
    | zero => intro _; exact ⟨rfl, Int.le_refl _, Int.le_refl _⟩
    | succ k ih =>
      intro hk
      obtain ⟨i1, i2, i3⟩ := ih (by omega)
      have hs : sI (fun j => if stB M (nI c) j o then 1 else 0) (k + 1) = sI (fun j => if stB M (nI c) j o then 1 else 0) k + (if stB M (nI c) k o then 1 else 0) := rfl
      have hc : (pyC (hs_ck v S) (nI c) o < pyC (hs_ck v S) (nI c) k ∨ (pyC (hs_ck v S) (nI c) k = pyC (hs_ck v S) (nI c) o ∧ k < o)) ↔ stB M (nI c) k o = true := by
        unfold stB
        rw [decide_eq_true_eq, i32_lt, i32_eq, (q k (by omega)).2, (q o ho).2]
      unfold pyA
      rw [hs]
      by_cases w : stB M (nI c) k o = true
      · rw [if_pos (hc.mpr w), if_pos w, i32_add (by rw [i1, z1]; omega), i1, z1]; omega
      · rw [if_neg fun z => w (hc.mp z), if_neg w, i1]; omega
  have p : ∀ o, o < 6 → (pyP (hs_ck v S) (nI c) o).toInt = stPay M (nI c) o := fun o ho => by
    have hbo := hb o ho
    obtain ⟨a1, a2, a3⟩ := a o ho 6 (Nat.le_refl _)
    have hl := l 6 (Nat.le_refl _)
    have hh : pyL (hs_ck v S) (nI c) 6 ≤ pyA (hs_ck v S) (nI c) o 6 ↔ ¬ stH M (nI c) o = true := by
      unfold stH stL
      rw [decide_eq_true_eq, i32_le, hl, a1]
      omega
    unfold pyP stPay
    by_cases w : stH M (nI c) o = true
    · rw [if_neg fun z => hh.mp z w, if_pos w, i32_add (by rw [(q o ho).1, z1]; omega), (q o ho).1, z1]
    · rw [if_pos (hh.mpr w), if_neg w, Int32.add_zero, (q o ho).1]; omega
  refine ⟨p, ?_⟩
  have pb : ∀ o, o < 6 → -49237577 ≤ stPay M (nI c) o ∧ stPay M (nI c) o ≤ 49237578 := fun o ho => by
    have hbo := hb o ho
    unfold stPay
    by_cases w : stH M (nI c) o = true
    · rw [if_pos w]; omega
    · rw [if_neg w]; omega
  have t : ∀ k, k ≤ 6 → (pyT (hs_ck v S) (nI c) k).toInt = sI (fun o => max 0 (stPay M (nI c) o)) k ∧ 0 ≤ sI (fun o => max 0 (stPay M (nI c) o)) k ∧ sI (fun o => max 0 (stPay M (nI c) o)) k ≤ 49237578 * (k : Int) := by
    intro k
    induction k with
    | zero => intro _; exact ⟨rfl, Int.le_refl _, Int.le_refl _⟩
    | succ k ih =>
      intro hk
      obtain ⟨i1, i2, i3⟩ := ih (by omega)
      have hbk := pb k (by omega)
      have hpk := p k (by omega)
      have hs : sI (fun o => max 0 (stPay M (nI c) o)) (k + 1) = sI (fun o => max 0 (stPay M (nI c) o)) k + max 0 (stPay M (nI c) k) := rfl
      unfold pyT
      rw [hs]
      by_cases w : 0 < pyP (hs_ck v S) (nI c) k
      · have w' := w
        rw [i32_lt, z0, hpk] at w'
        rw [if_pos w, i32_add (by rw [i1, hpk]; omega), i1, hpk]
        omega
      · have w' := w
        rw [i32_lt, z0, hpk] at w'
        rw [if_neg w, Int32.add_zero, i1]
        omega
  exact (t 6 (Nat.le_refl _)).1
theorem call_settle {n : Nat} {S : hs_S} {a1 : Int32} (h : RR n S) (hn : n < 512) (hw : hs_Wi S) : m_L_settle a1 S (fun k S2 => hs_Wi S2 → m_M_settle a1 S2 (fun r T => OK n k r T)) := by
  obtain ⟨ev, ng, nl, nE, nB, nR, nd, k⟩ := id h
  have hA := k.1.1
  have hev := hA.1.1
  have e1 : S.1 10 1 5 + 1 = nI (ev + 1) := by rw [hA.2.1.1]; exact nI_1 ev
  refine ok_L_settle hw fun _ => ok_C_settle hw fun _ => t_needColumn hw (fun c hc ec => ?_) (fun e => ⟨rfl, fun hw2 => ?_⟩)
  · subst ec
    intro S3 h3
    rw [e1] at h3
    have hPd := P_due_of k (show 0 < 6 by omega) hc
    refine ⟨⟨⟨c, hc, rfl⟩, by rw [h3]; exact hPd.2.2, by rw [h3]; exact hPd.1.1.2⟩, fun r T1 hR S5 h5 hw2 => ?_⟩
    obtain ⟨g1, g2, g3, g4, g5⟩ := hR
    obtain ⟨g6, g7⟩ := g5 c hc rfl
    have eT1 : T1 = pyS S (nI (ev + 1)) T1.1 := by
      refine Prod.ext (funext fun t => funext fun i => funext fun p => ?_) (by rw [g1, h3]; rfl)
      show T1.1 t i p = if t = 35 ∨ t = 36 ∨ t = 38 ∨ t = 39 then T1.1 t i p else (hs_wI S 10 1 5 (nI (ev + 1))).1 t i p
      by_cases q : t = 35 ∨ t = 36 ∨ t = 38 ∨ t = 39
      · rw [if_pos q]
      · rw [if_neg q, g2 t i p q, h3]
    have e5 : S5 = hs_wL (pyS S (nI (ev + 1)) T1.1) 100 1 (0 : Int32).toNatClampNeg r.toInt64 := h5.trans (congrArg (fun z => hs_wL z 100 1 (0 : Int32).toNatClampNeg r.toInt64) eT1)
    obtain ⟨f, hf⟩ : ∃ f, f = T1.1 := ⟨_, rfl⟩
    rw [← hf] at e5
    have hXV : RX n S (E_asks 1 (hs_wL (pyS S (nI (ev + 1)) f) 100 1 (0 : Int32).toNatClampNeg r.toInt64)) ev ng nl nE nB nR nd := by
      obtain ⟨a, b, d, e, f, g, i, j⟩ := k.1
      exact ⟨a, b, d, e, f, g, i, j⟩
    have hMV : rM (E_asks 1 (hs_wL (pyS S (nI (ev + 1)) f) 100 1 (0 : Int32).toNatClampNeg r.toInt64)) ng nl nE nB nR := k.2.2.2
    have dV : ∀ o, o < 6 → (F_dueOf (nI o) (nI c) (E_asks 1 (hs_wL (pyS S (nI (ev + 1)) f) 100 1 (0 : Int32).toNatClampNeg r.toInt64))).toInt = (F_Ldg_dueOf (nI o) (nI c) S).toInt := fun o ho => by
      obtain ⟨l1, l2, l3⟩ := k.2.1.2.1 (4 * o + c) (by omega)
      have := due_V (o := o) (c := c) hXV hMV ho hc (by show -250000000 ≤ (S.2.2.1 86 1 (4 * o + c)).toInt ∧ (S.2.2.1 86 1 (4 * o + c)).toInt ≤ 250000000; omega)
      rw [this, (due_c k ho hc).1, l1]
      rfl
    obtain ⟨M, hMe⟩ : ∃ M, M = E_asks 1 S5 := ⟨_, rfl⟩
    have eM : M = E_asks 1 (hs_wL (pyS S (nI (ev + 1)) f) 100 1 (0 : Int32).toNatClampNeg r.toInt64) := by rw [hMe, e5]
    have hD : ∀ o, o < 6 → (F_Ldg_dueOf (nI o) (nI c) S).toInt = stD M (nI c) o := fun o ho => by rw [eM]; exact (dV o ho).symm
    have hb : ∀ o, o < 6 → -492375760 ≤ stD M (nI c) o ∧ stD M (nI c) o ≤ 492375760 := fun o ho => by
      rw [← hD o ho]
      obtain ⟨d1, _, d3, d4⟩ := due_c k ho hc
      omega
    have hz : sI (stD M (nI c)) 6 = 0 := by
      have h1 := sI_add (f := stD M (nI c)) (g := fun o => (S.2.2.1 86 1 (4 * o + c)).toInt) 6
      have h2 : sI (fun o => stD M (nI c) o + (S.2.2.1 86 1 (4 * o + c)).toInt) 6 = sI (fun o => sI (dX S ng o c) nB) 6 := by
        refine sI_c 6 fun o ho => ?_
        obtain ⟨l1, _⟩ := k.2.1.2.1 (4 * o + c) (by omega)
        rw [← hD o ho, (due_c k ho hc).1, l1]
        omega
      have h1' : sI (fun o => stD M (nI c) o + (S.2.2.1 86 1 (4 * o + c)).toInt) 6 = sI (stD M (nI c)) 6 + sI (fun o => (S.2.2.1 86 1 (4 * o + c)).toInt) 6 := h1
      rw [dX_6 k.1 k.2.2.2] at h2
      have h3 := k.2.1.2.2.1 c hc
      omega
    have hcol : okCol (nI c) := col_iff.mpr ⟨c, hc, rfl⟩
    obtain ⟨pp, pt⟩ := pay_i (v := nI (ev + 1)) hD hb
    refine qI_mono (ok_M_settle hw2 (v_M_settle fun _ => ?_)) fun r' T hR => ?_
    · rw [← hMe]
      refine ⟨fun o ho => ⟨?_, by have := hb o ho; omega, by have := hb o ho; omega⟩, hz⟩
      rw [eM]
      refine ⟨?_, ⟨nR, hA.1.2.2.2.1, hA.2.1.2.2.2.2.2.2.1⟩, ⟨nB, hA.1.2.2.1.2, hA.2.1.2.2.2.2.2.1⟩, ng, by have := hA.1.2.1; omega, hA.2.1.2.2.1⟩
      rw [show (4 : Int32) * nI o = nI (4 * o) from pk_mul 4 o, nI_add]; exact hl_ix (by omega) (by omega)
    · obtain ⟨qc, ql, pays, eT, m1, m2, m3, m4⟩ := hR.2 hcol
      rw [← hMe] at eT m1 m2 m4
      have s87 : S5.1 87 1 = S.1 87 1 := by rw [e5]; rfl
      have s86 : S5.2.2.1 86 1 = S.2.2.1 86 1 := by rw [e5]; rfl
      have eTT : T = setT S (nI (ev + 1)) f qc ql r.toInt64 := by
        rw [eT, eM]
        unfold E_act setT
        have d0 : (hs_st (E_asks 1 (hs_wL (pyS S (nI (ev + 1)) f) 100 1 (0 : Int32).toNatClampNeg r.toInt64)) qc ql).1 11 1 0 = nI ev := hA.2.1.2.1
        rw [d0, nI_1]
      have s3 : S3.1 35 1 = S.1 35 1 ∧ S3.1 36 1 = S.1 36 1 := by rw [h3]; exact ⟨rfl, rfl⟩
      have epy : S3 = hs_ck (nI (ev + 1)) S := h3
      have q35 : ∀ o, o < 6 → (f 35 1 (4 * o + c)).toInt = sI (dX S ng o c) nB ∧ (ql (4 * o + c)).toInt = sI (dX S ng o c) nB := fun o ho => by
        obtain ⟨l1, l2, l3⟩ := k.2.1.2.1 (4 * o + c) (by omega)
        obtain ⟨d1, d2, d3, d4⟩ := due_c k ho hc
        have eD : (pyD S3 (nI c) o).toInt = sI (dX S ng o c) nB - (S.1 35 1 (4 * o + c)).toInt := by
          rw [epy]
          show (F_Ldg_dueOf (nI o) (nI c) (hs_ck (nI (ev + 1)) S)).toInt = _
          rw [ck_due]; exact d1
        have hsx := dX_s (o := o) (c := c) k.1 k.2.2.2 nB (Nat.le_refl _)
        have h80 := hA.1.2.2.1.2
        have eM2 : (F_dueOf (nI o) (nI c) M).toInt = sI (dX S ng o c) nB - (S.1 35 1 (4 * o + c)).toInt := by
          rw [← d1]; exact (hD o ho).symm
        refine ⟨?_, ?_⟩
        · rw [hf, g6 o ho, s3.1, i32_add (by rw [eD]; omega), eD]; omega
        · rw [m2 c o hc rfl ho, s86, i64_add (by rw [eM2, ← l1]; omega), eM2, ← l1]; omega
      have o35 : ∀ p, (∀ o, o < 6 → p ≠ 4 * o + c) → f 35 1 p = S.1 35 1 p ∧ ql p = S.2.2.1 86 1 p := fun p hp => ⟨by rw [hf, g7 p hp, s3.1], by rw [m3 c p hc rfl hp, s86]⟩
      rw [eTT]
      refine ⟨settle_RR k hn (fun o ho => ?_) (fun p hp => ?_) (fun c' hc' => ?_), rfl, fun _ => congrArg Int32.toInt64 ?_⟩
      · rw [hf, g4 o ho, (m1 o ho).2, s87, s3.2, (k.2.1.1 o ho).1]
        have : pyP S3 (nI c) o = pays o := i32_eq.mpr (by rw [epy, pp o ho, (m1 o ho).1])
        rw [this]
      · by_cases w : p % 4 = c
        · have ep : p = 4 * (p / 4) + c := by omega
          obtain ⟨w1, w2⟩ := q35 (p / 4) (by omega)
          rw [← ep] at w1 w2
          have hsx := dX_s (o := p / 4) (c := c) k.1 k.2.2.2 nB (Nat.le_refl _)
          have h80 := hA.1.2.2.1.2
          rw [w1, w2]
          omega
        · obtain ⟨w1, w2⟩ := o35 p fun o ho z => w (by omega)
          rw [w1, w2]
          exact k.2.1.2.1 p hp
      · by_cases w : c' = c
        · rw [w]
          exact (sI_c 6 fun o ho => (q35 o ho).2).trans (dX_6 k.1 k.2.2.2)
        · refine (sI_c 6 fun o ho => ?_).trans (k.2.1.2.2.1 c' hc')
          show (ql (4 * o + c')).toInt = (S.2.2.1 86 1 (4 * o + c')).toInt
          rw [(o35 (4 * o + c') fun o' ho' z => w (by omega)).2]
      · refine i32_eq.mpr ?_
        rw [g3, epy, pt, m4]
  · refine qI_mono (ok_M_settle hw2 (v_M_settle fun z => absurd (col_iff.mp z) e)) fun r T hR => ?_
    obtain ⟨rfl, rfl⟩ := hR.1 fun z => e (col_iff.mp z)
    exact OK_f h hn rfl
