/-! ===== the right to read, let and taken back ===== -/
theorem sh_amt32 : ∀ k : Fin 32, ((nI k.val &&& 31).toBitVec.smod 32#32).toNat = k.val := by decide +kernel
def b32 (x : Int32) (k : Nat) : Bool := x.toBitVec.getLsbD k
theorem bit_test32 {x : Int32} {k : Nat} (hk : k < 32) : (x >>> (nI k &&& 31)) &&& 1 = 1 ↔ b32 x k = true := by
  have hs := sh_amt32 ⟨k, hk⟩
  have e : ((x >>> (nI k &&& 31)) &&& 1).toBitVec = (x.toBitVec.sshiftRight k) &&& 1#32 := by
    show (x.toBitVec.sshiftRight' ((nI k &&& 31).toBitVec.smod 32#32)) &&& 1#32 = _
    unfold BitVec.sshiftRight'
    rw [hs]
  have hg : ∀ i, ((x.toBitVec.sshiftRight k) &&& 1#32).getLsbD i = (decide (i = 0) && x.toBitVec.getLsbD k) := by
    intro i
    rw [BitVec.getLsbD_and, BitVec.getLsbD_sshiftRight, BitVec.getLsbD_one]
    by_cases h0 : i = 0
    · subst h0
      simp [hk]
    · simp [h0]
  refine ⟨fun h => ?_, fun h => ?_⟩
  · have h1 : ((x >>> (nI k &&& 31)) &&& 1).toBitVec = 1#32 := congrArg Int32.toBitVec h
    rw [e] at h1
    have h2 := hg 0
    rw [h1] at h2
    show x.toBitVec.getLsbD k = true
    simpa using h2.symm
  · apply Int32.toBitVec_inj.mp
    rw [e]
    apply BitVec.eq_of_getLsbD_eq
    intro i hi
    rw [hg i]
    have h' : x.toBitVec.getLsbD k = true := h
    rw [h']
    show _ = (1#32).getLsbD i
    rw [BitVec.getLsbD_one]
    by_cases h0 : i = 0 <;> simp [h0]
theorem one32 {i j : Nat} (hi : i < 32) (hj : j < 32) : b32 ((1 : Int32) <<< (nI i &&& 31)) j = decide (i = j) := by
  have hs := sh_amt32 ⟨i, hi⟩
  show (1#32 <<< ((nI i &&& 31).toBitVec.smod 32#32)).getLsbD j = _
  rw [BitVec.shiftLeft_eq', hs, BitVec.getLsbD_shiftLeft, BitVec.getLsbD_one]
  by_cases h : i = j
  · subst h; simp [hi]
  · by_cases h2 : j < i
    · simp [h, h2]
    · have : j - i ≠ 0 := by omega
      simp [h, this]
theorem or32 {x y : Int32} {j : Nat} : b32 (x ||| y) j = (b32 x j || b32 y j) := by
  show (x.toBitVec ||| y.toBitVec).getLsbD j = _
  rw [BitVec.getLsbD_or]; rfl
theorem clr32 {x y : Int32} {j : Nat} (hj : j < 32) : b32 (x &&& (y ^^^ (-1))) j = (b32 x j && !(b32 y j)) := by
  show (x.toBitVec &&& (y.toBitVec ^^^ (-1 : Int32).toBitVec)).getLsbD j = _
  have e : (-1 : Int32).toBitVec = BitVec.allOnes 32 := by decide
  rw [e, BitVec.getLsbD_and, BitVec.getLsbD_xor, BitVec.getLsbD_allOnes, decide_eq_true hj]
  show (x.toBitVec.getLsbD j && (y.toBitVec.getLsbD j ^^ true)) = (x.toBitVec.getLsbD j && !y.toBitVec.getLsbD j)
  cases y.toBitVec.getLsbD j <;> rfl
theorem rw_ne {S : hs_S} {u i : Nat} {q : Nat → Int32} (h : i ≠ 1) : (hs_rw S u q).1 u i = S.1 u i := funext fun p => (if_neg (fun z => h z.2) : (if u = u ∧ i = 1 then q p else S.1 u i p) = _)
/-- the stretch of a letting, packed -/
abbrev lW (c r1 r2 b : Nat) : Int32 := nI (c + 4 * r1 + 32 * r2 + 256 * b)
theorem lw_of : ∀ c : Fin 4, ∀ r1 : Fin 6, ∀ r2 : Fin 6, ((nI c.val + (4 : Int32) * nI r1.val) + (32 : Int32) * nI r2.val) + 0 = lW c.val r1.val r2.val 0 ∧ ((nI c.val + (4 : Int32) * nI r1.val) + (32 : Int32) * nI r2.val) + 256 = lW c.val r1.val r2.val 1 := by decide +kernel
theorem lw_in : ∀ c : Fin 4, ∀ r1 : Fin 6, ∀ r2 : Fin 6, ∀ b : Fin 2, ∀ n : Fin 24, (lW c.val r1.val r2.val b.val - lW c.val r1.val r2.val b.val / 4 * 4 = nI n.val / 6 ∧ ¬ nI n.val - nI n.val / 6 * 6 < lW c.val r1.val r2.val b.val / 4 - lW c.val r1.val r2.val b.val / 4 / 8 * 8 ∧ ¬ lW c.val r1.val r2.val b.val / 32 - lW c.val r1.val r2.val b.val / 32 / 8 * 8 < nI n.val - nI n.val / 6 * 6) ↔ (6 * c.val + r1.val ≤ n.val ∧ n.val ≤ 6 * c.val + r2.val) := by decide +kernel
theorem lw_is : ∀ c : Fin 4, ∀ r1 : Fin 6, ∀ r2 : Fin 6, ¬ lW c.val r1.val r2.val 0 / 256 = 1 ∧ lW c.val r1.val r2.val 1 / 256 = 1 := by decide +kernel
/-- the bit, once it is let or taken back -/
theorem bit_let {S : hs_S} {is : Int32} {o w p : Nat} (ho : o < 6) (hw : w < 6) : (cRB S 1 (nI w) is p >>> (nI o &&& 31)) &&& 1 = 1 ↔ if o = w then ¬ is = 0 else (S.1 21 1 p >>> (nI o &&& 31)) &&& 1 = 1 := by
  rw [bit_test32 (by omega)]
  have h1 := one32 (i := w) (j := o) (by omega) (by omega)
  unfold cRB
  by_cases q : is = 0
  · rw [if_pos q, clr32 (by omega), h1]
    by_cases e : o = w
    · rw [if_pos e, decide_eq_true e.symm]
      simp [q]
    · rw [if_neg e, decide_eq_false fun z => e z.symm, bit_test32 (by omega)]
      simp
  · rw [if_neg q, or32, h1]
    by_cases e : o = w
    · rw [if_pos e, decide_eq_true e.symm]
      simp [q]
    · rw [if_neg e, decide_eq_false fun z => e z.symm, bit_test32 (by omega)]
      simp
abbrev letT (S : hs_S) (q : Nat → Int32) (nl ev : Nat) (o1 o2 W : Int32) (y : Int64) : hs_S := hs_wI (hs_wI (hs_wI (hs_wI (hs_wI (hs_wI (E_asks 1 (hs_wL (hs_rw (hs_wI S 10 1 5 (nI (ev + 1))) 21 q) 100 1 (0 : Int32).toNatClampNeg y)) 46 1 nl (nI ev)) 47 1 nl o1) 48 1 nl o2) 49 1 nl W) 11 1 5 (nI (nl + 1))) 11 1 0 (nI (ev + 1))
set_option maxRecDepth 100000 in
theorem let_RR {n : Nat} {S : hs_S} {q : Nat → Int32} {c r1 r2 b o1 o2 : Nat} {is : Int32} {y : Int64} {ev ng nl nE nB nR nd : Nat} (hX : RX n S S ev ng nl nE nB nR nd) (hL : rL S S) (hQ : rQ S S nB nR) (hM : rM S ng nl nE nB nR) (hc : c < 4) (hr1 : r1 < 6) (hr2 : r2 < 6) (h1 : o1 < 6) (h2 : o2 < 6) (hb : (is = 0 ∧ b = 0) ∨ (¬ is = 0 ∧ b = 1)) (hn : n < 512)
    (hq : ∀ p, q p = if 6 * c + r1 ≤ p ∧ p ≤ 6 * c + r2 ∧ S.1 20 1 p = nI o1 then cRB S 1 (nI o2) is p else S.1 21 1 p) : RR (n + 1) (letT S q nl ev (nI o1) (nI o2) (lW c r1 r2 b) y) := by
  obtain ⟨hA, hG, hH, hE, hF, hN, hB, hC⟩ := hX
  have hev := hA.1.1.1
  have hng := hA.1.2.1.1
  have hnl := hA.1.2.1.2
  have a46 : ∀ j, (letT S q nl ev (nI o1) (nI o2) (lW c r1 r2 b) y).1 46 1 j = if j = nl then nI ev else S.1 46 1 j := fun j => (wI_at (S := S) (t := 46) (i := 1) (j := nl) (x := nI ev))
  have a47 : ∀ j, (letT S q nl ev (nI o1) (nI o2) (lW c r1 r2 b) y).1 47 1 j = if j = nl then nI o1 else S.1 47 1 j := fun j => (wI_at (S := S) (t := 47) (i := 1) (j := nl) (x := nI o1))
  have a48 : ∀ j, (letT S q nl ev (nI o1) (nI o2) (lW c r1 r2 b) y).1 48 1 j = if j = nl then nI o2 else S.1 48 1 j := fun j => (wI_at (S := S) (t := 48) (i := 1) (j := nl) (x := nI o2))
  have a49 : ∀ j, (letT S q nl ev (nI o1) (nI o2) (lW c r1 r2 b) y).1 49 1 j = if j = nl then lW c r1 r2 b else S.1 49 1 j := fun j => (wI_at (S := S) (t := 49) (i := 1) (j := nl) (x := lW c r1 r2 b))
  have base : ∀ j, j < nl → (letT S q nl ev (nI o1) (nI o2) (lW c r1 r2 b) y).1 46 1 j = S.1 46 1 j ∧ (letT S q nl ev (nI o1) (nI o2) (lW c r1 r2 b) y).1 47 1 j = S.1 47 1 j ∧ (letT S q nl ev (nI o1) (nI o2) (lW c r1 r2 b) y).1 48 1 j = S.1 48 1 j ∧ (letT S q nl ev (nI o1) (nI o2) (lW c r1 r2 b) y).1 49 1 j = S.1 49 1 j := fun j hj => ⟨(a46 j).trans (if_neg (by omega)), (a47 j).trans (if_neg (by omega)), (a48 j).trans (if_neg (by omega)), (a49 j).trans (if_neg (by omega))⟩
  have old : ∀ (w k : Int32) (m : Nat), m ≤ ev → letR (S.1 42 1) (S.1 43 1) (S.1 44 1) ng ((letT S q nl ev (nI o1) (nI o2) (lW c r1 r2 b) y).1 46 1) ((letT S q nl ev (nI o1) (nI o2) (lW c r1 r2 b) y).1 47 1) ((letT S q nl ev (nI o1) (nI o2) (lW c r1 r2 b) y).1 48 1) ((letT S q nl ev (nI o1) (nI o2) (lW c r1 r2 b) y).1 49 1) w k (nI m) (nl + 1) = letR (S.1 42 1) (S.1 43 1) (S.1 44 1) ng (S.1 46 1) (S.1 47 1) (S.1 48 1) (S.1 49 1) w k (nI m) nl := fun w k m hm =>
    letR_old base (fun _ _ => rfl) (nl + 1) (by omega) fun j g1 g2 => by
      have e : j = nl := by omega
      rw [a46, if_pos e]
      exact (hl_le (by omega) (by omega)).mpr hm
  have hG' := rG_up hH (by omega) hG
  have hg2 : ∀ r, r < nR → ∃ f : Nat, f < ev ∧ S.1 78 1 r = nI f := fun r hr => by
    obtain ⟨_, _, ⟨f, l, g1, g2, _⟩, _⟩ := hC.1 r hr
    exact ⟨f, by omega, g2⟩
  have hX' : RX (n + 1) (letT S q nl ev (nI o1) (nI o2) (lW c r1 r2 b) y) (letT S q nl ev (nI o1) (nI o2) (lW c r1 r2 b) y) (ev + 1) ng (nl + 1) nE nB nR nd := by
    refine ⟨⟨⟨⟨by omega, by omega⟩, by have := hA.1.2; omega⟩, ⟨rfl, rfl, hA.2.1.2.2.1, rfl, hA.2.1.2.2.2.2⟩, hA.2.2⟩, fun k hk => ?_, ⟨(rH_up hH).1, fun j hj => ?_⟩, rE_up hE, hF, hN, rB_up hB, ⟨fun r hr => ?_, fun c' hc' => ?_, hC.2.2⟩⟩
    · obtain ⟨g1, g2, g3⟩ := hG' k hk
      refine ⟨g1, g2, fun o ho => ?_⟩
      show (q k >>> (nI o &&& 31)) &&& 1 = 1 ↔ letR (S.1 42 1) (S.1 43 1) (S.1 44 1) ng ((letT S q nl ev (nI o1) (nI o2) (lW c r1 r2 b) y).1 46 1) ((letT S q nl ev (nI o1) (nI o2) (lW c r1 r2 b) y).1 47 1) ((letT S q nl ev (nI o1) (nI o2) (lW c r1 r2 b) y).1 48 1) ((letT S q nl ev (nI o1) (nI o2) (lW c r1 r2 b) y).1 49 1) (nI o) (nI k) (nI (ev + 1)) (nl + 1) = 1
      have e0 : letR (S.1 42 1) (S.1 43 1) (S.1 44 1) ng ((letT S q nl ev (nI o1) (nI o2) (lW c r1 r2 b) y).1 46 1) ((letT S q nl ev (nI o1) (nI o2) (lW c r1 r2 b) y).1 47 1) ((letT S q nl ev (nI o1) (nI o2) (lW c r1 r2 b) y).1 48 1) ((letT S q nl ev (nI o1) (nI o2) (lW c r1 r2 b) y).1 49 1) (nI o) (nI k) (nI (ev + 1)) nl = letR (S.1 42 1) (S.1 43 1) (S.1 44 1) ng (S.1 46 1) (S.1 47 1) (S.1 48 1) (S.1 49 1) (nI o) (nI k) (nI (ev + 1)) nl :=
        letR_old base (fun _ _ => rfl) nl (Nat.le_refl _) fun j w1 w2 => absurd w1 (by omega)
      have eo : ownR (S.1 42 1) (S.1 43 1) (S.1 44 1) (nI k) (nI ev) ng = S.1 20 1 k := (hG k hk).1.symm
      have hin := lw_in ⟨c, hc⟩ ⟨r1, hr1⟩ ⟨r2, hr2⟩ ⟨b, by omega⟩ ⟨k, hk⟩
      unfold letR tlR
      rw [e0, a46, a47, a48, a49, if_pos rfl, if_pos rfl, if_pos rfl, if_pos rfl, eo, hq]
      have hlt : ¬ nI (ev + 1) ≤ nI ev := fun z => absurd ((hl_le (by omega) (by omega)).mp z) (by omega)
      by_cases z1 : (6 * c + r1 ≤ k ∧ k ≤ 6 * c + r2) ∧ S.1 20 1 k = nI o1
      · rw [if_pos ⟨z1.1.1, z1.1.2, z1.2⟩, bit_let ho h2]
        by_cases z2 : o = o2
        · rw [if_pos z2, if_pos ⟨⟨hlt, by rw [z2], hin.mpr z1.1⟩, z1.2⟩]
          have hi := lw_is ⟨c, hc⟩ ⟨r1, hr1⟩ ⟨r2, hr2⟩
          rcases hb with ⟨z3, z4⟩ | ⟨z3, z4⟩
          · subst z4
            rw [bI_f hi.1]
            exact ⟨fun z => absurd z3 z, fun z => absurd z (by decide)⟩
          · subst z4
            rw [bI_t hi.2]
            exact ⟨fun _ => rfl, fun _ => z3⟩
        · rw [if_neg z2, if_neg fun z => z2 ((hl_inj (by omega) (by omega)).mp z.1.2.1).symm]
          exact g3 o ho
      · rw [if_neg fun z => z1 ⟨⟨z.1, z.2.1⟩, z.2.2⟩, if_neg fun z => z1 ⟨hin.mp z.1.2.2, z.2⟩]
        exact g3 o ho
    · rw [a46]
      by_cases z : j = nl
      · rw [if_pos z]; exact ⟨ev, by omega, rfl⟩
      · rw [if_neg z]
        obtain ⟨m, hm, em⟩ := hH.2 j (by omega)
        exact ⟨m, by omega, em⟩
    · obtain ⟨g1, g2, g3, g4, g5⟩ := (rC_up hC).1 r hr
      obtain ⟨f, hf, ef⟩ := hg2 r hr
      refine ⟨g1, g2, g3, g4, ?_⟩
      have g6 : rGs S S (S.2.1 14 1 r + 1) ng nl (nI f) := by rw [← ef]; exact g5
      have g7 : rGs (letT S q nl ev (nI o1) (nI o2) (lW c r1 r2 b) y) (letT S q nl ev (nI o1) (nI o2) (lW c r1 r2 b) y) (S.2.1 14 1 r + 1) ng (nl + 1) (nI f) := rG_old (U := S) (V := S) rfl (rw_ne (S := S) (u := 21) (q := q) (i := S.2.1 14 1 r + 1) (by have g1' : 1 ≤ S.2.1 14 1 r := g1.1; omega)) g6 (fun c => rfl) (fun w k => old w k f (by omega))
      rw [← ef] at g7
      exact g7
    · obtain ⟨g1, g2, g3, g4⟩ := (rC_up hC).2.1 c' hc'
      refine ⟨g1, g2, ?_, g4⟩
      rcases hC.2.1 c' hc' with ⟨_, _, g3, _⟩
      refine g3.imp_right ?_
      rintro ⟨f, hf, q1, q2, q3, q4⟩
      exact ⟨f, by omega, q1, q2, q3, rG_old (U := S) (V := S) rfl (rw_ne (S := S) (u := 21) (q := q) (i := S.2.1 26 1 c' + 1) (by have g1' : 1 ≤ S.2.1 26 1 c' := g1.1; omega)) q4 (fun c => rfl) (fun w k => old w k f (by omega))⟩
  refine ⟨ev + 1, ng, nl + 1, nE, nB, nR, nd, hX', hL, hQ, fun r hr => ⟨?_, (hM r hr).2⟩⟩
  obtain ⟨f, hf, ef⟩ := hg2 r hr
  obtain ⟨_, ⟨c', hc', ec, _⟩, _⟩ := hC.1 r hr
  have hg : gEq (mX (letT S q nl ev (nI o1) (nI o2) (lW c r1 r2 b) y) ng (nl + 1) nE nB nR (S.1 78 1 r)) (mX S ng nl nE nB nR (S.1 78 1 r)) := mX_eq hE hA.1.2.2.1.1 (fun c => rfl) (fun w k => by rw [ef]; exact old w k f (by omega)) (fun _ => rfl) (fun _ _ => ⟨rfl, fun _ _ => rfl⟩) (fun _ => rfl) (fun _ => rfl)
  exact mR_1 (V := S) (hM r hr) hc' ec hg
theorem mLC_c {S T : hs_S} {o e : Int32} {c r1 : Nat} (h : ∀ k, k < 24 → F_ownerAt (nI k) e T = S.1 20 1 k) : ∀ n, 6 * c + r1 + n ≤ 24 → mLC T o (nI c) e r1 n = cLC S 1 o (6 * c + r1) n := by
  intro n
  induction n with
  | zero => intro _; rfl
  | succ n ih =>
    intro hn
    unfold mLC cLC
    rw [ih (by omega), nI_6c, ← Nat.add_assoc, h (6 * c + r1 + n) (by omega)]
    by_cases q : S.1 20 1 (6 * c + r1 + n) = o
    · rw [if_pos q, if_pos q]
    · rw [if_neg q, if_neg q, Int32.add_zero]
theorem cLC_eq {S T : hs_S} {i : Nat} {o : Int32} {f : Nat} (h : T.1 20 i = S.1 20 i) : ∀ n, cLC T i o f n = cLC S i o f n := by
  intro n
  induction n with
  | zero => rfl
  | succ n ih => unfold cLC; rw [ih, h]
theorem call_let {n : Nat} {S : hs_S} {a1 a2 a3 a4 a5 a6 : Int32} (h : RR n S) (hn : n < 512) (hw : hs_Wi S) : m_L_let a1 a2 a3 a4 a5 a6 S (fun k S2 => hs_Wi S2 → m_M_let a1 a2 a3 a4 a5 a6 S2 (fun r T => OK n k r T)) := by
  obtain ⟨ev, ng, nl, nE, nB, nR, nd, hX, hL, hQ, hM⟩ := id h
  obtain ⟨hA, hG, hH, hE, hF, hN, hB, hC⟩ := id hX
  have hev := hA.1.1.1
  have hng := hA.1.2.1.1
  have hnl := hA.1.2.1.2
  have hP : P_let a1 a2 a3 a4 a5 a6 S := ⟨⟨ng, by omega, hA.2.1.2.2.1⟩, nl, by omega, hA.2.1.2.2.2.1⟩
  have bad1 : ¬ okLet a1 a2 a3 a4 a5 → hs_Wi S → m_M_let a1 a2 a3 a4 a5 a6 S (fun r T => OK n 1 r T) := fun q hw2 => qI_mono (ok_M_let hw2 (v_M_let hP)) fun r T hR => by
    obtain ⟨rfl, rfl⟩ := hR.2 q
    exact OK_f h hn rfl
  have bad2 : okLet a1 a2 a3 a4 a5 → a1 = a2 ∨ ¬ a4 ≤ a5 → hs_Wi S → m_M_let a1 a2 a3 a4 a5 a6 S (fun r T => OK n 2 r T) := fun q z hw2 => qI_mono (ok_M_let hw2 (v_M_let hP)) fun r T hR => by
    obtain ⟨rfl, rfl⟩ := (hR.1 q).1 z
    exact OK_g h hn (by decide)
  refine ok_L_let hw fun _ => ok_C_let hw fun _ => t_needOwner hw (fun o1 ho1 e1 => fun _ => t_needOwner hw (fun o2 ho2 e2 => fun _ => t_cellAt hw (fun c r1 hc hr1 e3 e4 => fun _ => t_cellAt hw (fun c' r2 hc' hr2 e3' e5 => ?_) (fun e => Or.inl ⟨rfl, bad1 fun z => z.2.2.2 e⟩)) (fun e => Or.inl ⟨rfl, bad1 fun z => z.2.2.1 e⟩)) (fun e => Or.inl ⟨rfl, bad1 fun z => z.2.1 e⟩)) (fun e => Or.inl ⟨rfl, bad1 fun z => z.1 e⟩)
  have ecc : c = c' := (hl_inj (by omega) (by omega)).mp (e3.symm.trans e3')
  subst ecc
  subst e1 e2 e3 e4 e5
  have hok : okLet (nI o1) (nI o2) (nI c) (nI r1) (nI r2) := ⟨by rw [own_1 ho1]; decide, by rw [own_1 ho2]; decide, by rw [cell_1 hc hr1]; decide, by rw [cell_1 hc hr2]; decide⟩
  refine ⟨fun q1 => ⟨fun q2 => ?_, fun q2 => Or.inr ⟨rfl, bad2 hok (Or.inr fun z => q2 ?_)⟩⟩, fun q1 => Or.inr ⟨rfl, bad2 hok (Or.inl q1)⟩⟩
  · have h12 : r1 ≤ r2 := by
      have := (hl_le (a := 6 * c + r1) (b := 6 * c + r2) (by omega) (by omega)).mp q2
      omega
    have e5 : S.1 10 1 5 + 1 = nI (ev + 1) := by rw [hA.2.1.1]; exact nI_1 ev
    intro S11 h11
    rw [e5] at h11
    refine ⟨⟨6 * c + r1, 6 * c + r2, by omega, by omega, rfl, rfl⟩, fun r S13 hR S5 h5 hw2 => ?_⟩
    obtain ⟨g1, g2, g3⟩ := hR
    obtain ⟨er, hq⟩ := g3 (6 * c + r1) (6 * c + r2) (by omega) (by omega) rfl rfl
    have e13 : S13 = hs_rw (hs_wI S 10 1 5 (nI (ev + 1))) 21 (S13.1 21 1) := by
      refine Prod.ext (funext fun t => funext fun i => funext fun p => ?_) (by rw [g1, h11]; rfl)
      show S13.1 t i p = if t = 21 ∧ i = 1 then S13.1 21 1 p else (hs_wI S 10 1 5 (nI (ev + 1))).1 t i p
      by_cases z : t = 21 ∧ i = 1
      · rw [if_pos z, z.1, z.2]
      · rw [if_neg z, g2 t i p z, h11]
    have hq' : ∀ p, S13.1 21 1 p = if 6 * c + r1 ≤ p ∧ p ≤ 6 * c + r2 ∧ S.1 20 1 p = nI o1 then cRB S 1 (nI o2) a6 p else S.1 21 1 p := fun p => by
      rw [hq p, h11]; rfl
    have hS2 : S5 = hs_wL (hs_rw (hs_wI S 10 1 5 (nI (ev + 1))) 21 (S13.1 21 1)) 100 1 (0 : Int32).toNatClampNeg r.toInt64 := h5.trans (congrArg (fun z => hs_wL z 100 1 (0 : Int32).toNatClampNeg r.toInt64) e13)
    have hP5 : P_let (nI o1) (nI o2) (nI c) (nI r1) (nI r2) a6 S5 := by rw [hS2]; exact hP
    refine qI_mono (ok_M_let hw2 (v_M_let hP5)) fun r' T hR => ?_
    obtain ⟨hT, hr'⟩ := (hR.1 hok).2 ⟨q1, (hl_le (by omega) (by omega)).mpr h12⟩
    have hr2' := hr' r1 r2 hr1 hr2 rfl rfl
    obtain ⟨b, hb, ew⟩ : ∃ b : Nat, ((a6 = 0 ∧ b = 0) ∨ (¬ a6 = 0 ∧ b = 1)) ∧ ((nI c + (4 : Int32) * nI r1) + (32 : Int32) * nI r2) + (if a6 = 0 then (0 : Int32) else 256) = lW c r1 r2 b := by
      have hl := lw_of ⟨c, hc⟩ ⟨r1, hr1⟩ ⟨r2, hr2⟩
      by_cases z : a6 = 0
      · rw [if_pos z]; exact ⟨0, Or.inl ⟨z, rfl⟩, hl.1⟩
      · rw [if_neg z]; exact ⟨1, Or.inr ⟨z, rfl⟩, hl.2⟩
    have eT : T = letT S (S13.1 21 1) nl ev (nI o1) (nI o2) (lW c r1 r2 b) r.toInt64 := by
      rw [hT, hS2]
      unfold E_let letT
      have d1 : ∀ q y, (E_asks 1 (hs_wL (hs_rw (hs_wI S 10 1 5 (nI (ev + 1))) 21 q) 100 1 (0 : Int32).toNatClampNeg y)).1 11 1 5 = nI nl := fun _ _ => hA.2.1.2.2.2.1
      have d0 : ∀ q y, (E_asks 1 (hs_wL (hs_rw (hs_wI S 10 1 5 (nI (ev + 1))) 21 q) 100 1 (0 : Int32).toNatClampNeg y)).1 11 1 0 = nI ev := fun _ _ => hA.2.1.2.1
      rw [d1, d0, hl_cl (by omega), nI_1, nI_1, ew]
    have hRR := let_RR (y := r.toInt64) hX hL hQ hM hc hr1 hr2 ho1 ho2 hb hn hq'
    rw [eT]
    refine ⟨hRR, rfl, fun _ => congrArg Int32.toInt64 ?_⟩
    rw [er, hr2', h11]
    have o5 : ∀ k, k < 24 → F_ownerAt (nI k) (S5.1 11 1 0) (E_asks 1 S5) = S.1 20 1 k := fun k hk => by
      rw [hS2]
      have := own_at (T := E_asks 1 (hs_wL (hs_rw (hs_wI S 10 1 5 (nI (ev + 1))) 21 (S13.1 21 1)) 100 1 (0 : Int32).toNatClampNeg r.toInt64)) hG hk (by omega) hA.2.1.2.2.1 rfl rfl rfl
      rw [← hA.2.1.2.1] at this
      exact this
    rw [mLC_c o5 (r2 + 1 - r1) (by omega), show 6 * c + r2 + 1 - (6 * c + r1) = r2 + 1 - r1 by omega]
    exact cLC_eq (S := S) (T := hs_wI S 10 1 5 (nI (ev + 1))) rfl _
  · exact (hl_le (by omega) (by omega)).mpr (by have := (hl_le (a := r1) (b := r2) (by omega) (by omega)).mp z; omega)
