theorem sh_amt32 : ∀ k : Fin 32, ((nI k.val &&& 31).toBitVec.smod 32#32).toNat = k.val := by decide +kernel
def b32 (x : Int32) (k : Nat) : Bool := x.toBitVec.getLsbD k
theorem bit_test32 {x : Int32} {k : Nat} (hk : k < 32) : (x >>> (nI k &&& 31)) &&& 1 = 1 ↔ b32 x k = true := by
  have hs := sh_amt32 ⟨k, hk⟩
  have e : ((x >>> (nI k &&& 31)) &&& 1).toBitVec = (x.toBitVec.sshiftRight k) &&& 1#32 := by
    show (x.toBitVec.sshiftRight' ((nI k &&& 31).toBitVec.smod 32#32)) &&& 1#32 = _
    unfold BitVec.sshiftRight'
    rw [hs]
  have hg : ∀ i, ((x.toBitVec.sshiftRight k) &&& 1#32).getLsbD i = (decide (i = 0) && x.toBitVec.getLsbD k) := by
    intro i
    rw [BitVec.getLsbD_and, BitVec.getLsbD_sshiftRight, BitVec.getLsbD_one]
    by_cases h0 : i = 0
    · subst h0
      simp [hk]
    · simp [h0]
  refine ⟨fun h => ?_, fun h => ?_⟩
  · have h1 : ((x >>> (nI k &&& 31)) &&& 1).toBitVec = 1#32 := congrArg Int32.toBitVec h
    rw [e] at h1
    have h2 := hg 0
    rw [h1] at h2
    show x.toBitVec.getLsbD k = true
    simpa using h2.symm
  · apply Int32.toBitVec_inj.mp
    rw [e]
    apply BitVec.eq_of_getLsbD_eq
    intro i hi
    rw [hg i]
    have h' : x.toBitVec.getLsbD k = true := h
    rw [h']
    show _ = (1#32).getLsbD i
    rw [BitVec.getLsbD_one]
    by_cases h0 : i = 0 <;> simp [h0]
theorem one32 {i j : Nat} (hi : i < 32) (hj : j < 32) : b32 ((1 : Int32) <<< (nI i &&& 31)) j = decide (i = j) := by
  have hs := sh_amt32 ⟨i, hi⟩
  show (1#32 <<< ((nI i &&& 31).toBitVec.smod 32#32)).getLsbD j = _
  rw [BitVec.shiftLeft_eq', hs, BitVec.getLsbD_shiftLeft, BitVec.getLsbD_one]
  by_cases h : i = j
  · subst h; simp [hi]
  · by_cases h2 : j < i
    · simp [h, h2]
    · have : j - i ≠ 0 := by omega
      simp [h, this]
theorem or32 {x y : Int32} {j : Nat} : b32 (x ||| y) j = (b32 x j || b32 y j) := by
  show (x.toBitVec ||| y.toBitVec).getLsbD j = _
  rw [BitVec.getLsbD_or]; rfl
theorem clr32 {x y : Int32} {j : Nat} (hj : j < 32) : b32 (x &&& (y ^^^ (-1))) j = (b32 x j && !(b32 y j)) := by
  show (x.toBitVec &&& (y.toBitVec ^^^ (-1 : Int32).toBitVec)).getLsbD j = _
  have e : (-1 : Int32).toBitVec = BitVec.allOnes 32 := by decide
  rw [e, BitVec.getLsbD_and, BitVec.getLsbD_xor, BitVec.getLsbD_allOnes, decide_eq_true hj]
  show (x.toBitVec.getLsbD j && (y.toBitVec.getLsbD j ^^ true)) = (x.toBitVec.getLsbD j && !y.toBitVec.getLsbD j)
  cases y.toBitVec.getLsbD j <;> rfl
theorem rw_ne {S : hs_S} {u i : Nat} {q : Nat → Int32} (h : i ≠ 1) : (hs_rw S u q).1 u i = S.1 u i := funext fun p => (if_neg (fun z => h z.2) : (if u = u ∧ i = 1 then q p else S.1 u i p) = _)
/-- the stretch of a letting, packed -/
abbrev lW (c r1 r2 b : Nat) : Int32 := nI (c + 4 * r1 + 32 * r2 + 256 * b)
theorem lw_of : ∀ c : Fin 4, ∀ r1 : Fin 6, ∀ r2 : Fin 6, ((nI c.val + (4 : Int32) * nI r1.val) + (32 : Int32) * nI r2.val) + 0 = lW c.val r1.val r2.val 0 ∧ ((nI c.val + (4 : Int32) * nI r1.val) + (32 : Int32) * nI r2.val) + 256 = lW c.val r1.val r2.val 1 := by decide +kernel
theorem lw_in : ∀ c : Fin 4, ∀ r1 : Fin 6, ∀ r2 : Fin 6, ∀ b : Fin 2, ∀ n : Fin 24, (lW c.val r1.val r2.val b.val - lW c.val r1.val r2.val b.val / 4 * 4 = nI n.val / 6 ∧ ¬ nI n.val - nI n.val / 6 * 6 < lW c.val r1.val r2.val b.val / 4 - lW c.val r1.val r2.val b.val / 4 / 8 * 8 ∧ ¬ lW c.val r1.val r2.val b.val / 32 - lW c.val r1.val r2.val b.val / 32 / 8 * 8 < nI n.val - nI n.val / 6 * 6) ↔ (6 * c.val + r1.val ≤ n.val ∧ n.val ≤ 6 * c.val + r2.val) := by decide +kernel
theorem lw_is : ∀ c : Fin 4, ∀ r1 : Fin 6, ∀ r2 : Fin 6, ¬ lW c.val r1.val r2.val 0 / 256 = 1 ∧ lW c.val r1.val r2.val 1 / 256 = 1 := by decide +kernel
/-- the bit, once it is let or taken back -/
theorem bit_let {S : hs_S} {is : Int32} {o w p : Nat} (ho : o < 6) (hw : w < 6) : (cRB S 1 (nI w) is p >>> (nI o &&& 31)) &&& 1 = 1 ↔ if o = w then ¬ is = 0 else (S.1 21 1 p >>> (nI o &&& 31)) &&& 1 = 1 := by
  rw [bit_test32 (by omega)]
  have h1 := one32 (i := w) (j := o) (by omega) (by omega)
  unfold cRB
  by_cases q : is = 0
  · rw [if_pos q, clr32 (by omega), h1]
    by_cases e : o = w
    · rw [if_pos e, decide_eq_true e.symm]
      simp [q]
    · rw [if_neg e, decide_eq_false fun z => e z.symm, bit_test32 (by omega)]
      simp
  · rw [if_neg q, or32, h1]
    by_cases e : o = w
    · rw [if_pos e, decide_eq_true e.symm]
      simp [q]
    · rw [if_neg e, decide_eq_false fun z => e z.symm, bit_test32 (by omega)]
      simp
abbrev letT (S : hs_S) (q : Nat → Int32) (nl ev : Nat) (o1 o2 W : Int32) (y : Int64) : hs_S := hs_wI (hs_wI (hs_wI (hs_wI (hs_wI (hs_wI (E_asks 1 (hs_wL (hs_rw (hs_wI S 10 1 5 (nI (ev + 1))) 21 q) 100 1 (0 : Int32).toNatClampNeg y)) 46 1 nl (nI ev)) 47 1 nl o1) 48 1 nl o2) 49 1 nl W) 11 1 5 (nI (nl + 1))) 11 1 0 (nI (ev + 1))
set_option maxRecDepth 100000 in
theorem let_RR {n : Nat} {S : hs_S} {q : Nat → Int32} {c r1 r2 b o1 o2 : Nat} {is : Int32} {y : Int64} {ev ng nl nE nB nR nd : Nat} (hX : RX n S S ev ng nl nE nB nR nd) (hL : rL S S) (hQ : rQ S S nB nR) (hM : rM S ng nl nE nB nR) (hc : c < 4) (hr1 : r1 < 6) (hr2 : r2 < 6) (h1 : o1 < 6) (h2 : o2 < 6) (hb : (is = 0 ∧ b = 0) ∨ (¬ is = 0 ∧ b = 1)) (hn : n < 512)
    (hq : ∀ p, q p = if 6 * c + r1 ≤ p ∧ p ≤ 6 * c + r2 ∧ S.1 20 1 p = nI o1 then cRB S 1 (nI o2) is p else S.1 21 1 p) : RR (n + 1) (letT S q nl ev (nI o1) (nI o2) (lW c r1 r2 b) y) := by
  obtain ⟨hA, hG, hH, hE, hF, hN, hB, hC⟩ := hX
  have hev := hA.1.1.1
  have hng := hA.1.2.1.1
  have hnl := hA.1.2.1.2
  have a46 : ∀ j, (letT S q nl ev (nI o1) (nI o2) (lW c r1 r2 b) y).1 46 1 j = if j = nl then nI ev else S.1 46 1 j := fun j => (wI_at (S := S) (t := 46) (i := 1) (j := nl) (x := nI ev))
  have a47 : ∀ j, (letT S q nl ev (nI o1) (nI o2) (lW c r1 r2 b) y).1 47 1 j = if j = nl then nI o1 else S.1 47 1 j := fun j => (wI_at (S := S) (t := 47) (i := 1) (j := nl) (x := nI o1))
  have a48 : ∀ j, (letT S q nl ev (nI o1) (nI o2) (lW c r1 r2 b) y).1 48 1 j = if j = nl then nI o2 else S.1 48 1 j := fun j => (wI_at (S := S) (t := 48) (i := 1) (j := nl) (x := nI o2))
  have a49 : ∀ j, (letT S q nl ev (nI o1) (nI o2) (lW c r1 r2 b) y).1 49 1 j = if j = nl then lW c r1 r2 b else S.1 49 1 j := fun j => (wI_at (S := S) (t := 49) (i := 1) (j := nl) (x := lW c r1 r2 b))
  have base : ∀ j, j < nl → (letT S q nl ev (nI o1) (nI o2) (lW c r1 r2 b) y).1 46 1 j = S.1 46 1 j ∧ (letT S q nl ev (nI o1) (nI o2) (lW c r1 r2 b) y).1 47 1 j = S.1 47 1 j ∧ (letT S q nl ev (nI o1) (nI o2) (lW c r1 r2 b) y).1 48 1 j = S.1 48 1 j ∧ (letT S q nl ev (nI o1) (nI o2) (lW c r1 r2 b) y).1 49 1 j = S.1 49 1 j := fun j hj => ⟨(a46 j).trans (if_neg (by omega)), (a47 j).trans (if_neg (by omega)), (a48 j).trans (if_neg (by omega)), (a49 j).trans (if_neg (by omega))⟩
  have old : ∀ (w k : Int32) (m : Nat), m ≤ ev → letR (S.1 42 1) (S.1 43 1) (S.1 44 1) ng ((letT S q nl ev (nI o1) (nI o2) (lW c r1 r2 b) y).1 46 1) ((letT S q nl ev (nI o1) (nI o2) (lW c r1 r2 b) y).1 47 1) ((letT S q nl ev (nI o1) (nI o2) (lW c r1 r2 b) y).1 48 1) ((letT S q nl ev (nI o1) (nI o2) (lW c r1 r2 b) y).1 49 1) w k (nI m) (nl + 1) = letR (S.1 42 1) (S.1 43 1) (S.1 44 1) ng (S.1 46 1) (S.1 47 1) (S.1 48 1) (S.1 49 1) w k (nI m) nl := fun w k m hm =>
    letR_old base (fun _ _ => rfl) (nl + 1) (by omega) fun j g1 g2 => by
      have e : j = nl := by omega
      rw [a46, if_pos e]
      exact (hl_le (by omega) (by omega)).mpr hm
  have hG' := rG_up hH (by omega) hG
  have hg2 : ∀ r, r < nR → ∃ f : Nat, f < ev ∧ S.1 78 1 r = nI f := fun r hr => by
    obtain ⟨_, _, ⟨f, l, g1, g2, _⟩, _⟩ := hC.1 r hr
    exact ⟨f, by omega, g2⟩
  have hX' : RX (n + 1) (letT S q nl ev (nI o1) (nI o2) (lW c r1 r2 b) y) (letT S q nl ev (nI o1) (nI o2) (lW c r1 r2 b) y) (ev + 1) ng (nl + 1) nE nB nR nd := by
    refine ⟨⟨⟨⟨by omega, by omega⟩, by have := hA.1.2; omega⟩, ⟨rfl, rfl, hA.2.1.2.2.1, rfl, hA.2.1.2.2.2.2⟩, hA.2.2⟩, fun k hk => ?_, ⟨(rH_up hH).1, fun j hj => ?_⟩, rE_up hE, hF, hN, rB_up hB, ⟨fun r hr => ?_, fun c' hc' => ?_, hC.2.2⟩⟩
    · obtain ⟨g1, g2, g3⟩ := hG' k hk
      refine ⟨g1, g2, fun o ho => ?_⟩
      show (q k >>> (nI o &&& 31)) &&& 1 = 1 ↔ letR (S.1 42 1) (S.1 43 1) (S.1 44 1) ng ((letT S q nl ev (nI o1) (nI o2) (lW c r1 r2 b) y).1 46 1) ((letT S q nl ev (nI o1) (nI o2) (lW c r1 r2 b) y).1 47 1) ((letT S q nl ev (nI o1) (nI o2) (lW c r1 r2 b) y).1 48 1) ((letT S q nl ev (nI o1) (nI o2) (lW c r1 r2 b) y).1 49 1) (nI o) (nI k) (nI (ev + 1)) (nl + 1) = 1
      have e0 : letR (S.1 42 1) (S.1 43 1) (S.1 44 1) ng ((letT S q nl ev (nI o1) (nI o2) (lW c r1 r2 b) y).1 46 1) ((letT S q nl ev (nI o1) (nI o2) (lW c r1 r2 b) y).1 47 1) ((letT S q nl ev (nI o1) (nI o2) (lW c r1 r2 b) y).1 48 1) ((letT S q nl ev (nI o1) (nI o2) (lW c r1 r2 b) y).1 49 1) (nI o) (nI k) (nI (ev + 1)) nl = letR (S.1 42 1) (S.1 43 1) (S.1 44 1) ng (S.1 46 1) (S.1 47 1) (S.1 48 1) (S.1 49 1) (nI o) (nI k) (nI (ev + 1)) nl :=
        letR_old base (fun _ _ => rfl) nl (Nat.le_refl _) fun j w1 w2 => absurd w1 (by omega)
      have eo : ownR (S.1 42 1) (S.1 43 1) (S.1 44 1) (nI k) (nI ev) ng = S.1 20 1 k := (hG k hk).1.symm
      have hin := lw_in ⟨c, hc⟩ ⟨r1, hr1⟩ ⟨r2, hr2⟩ ⟨b, by omega⟩ ⟨k, hk⟩
      unfold letR tlR
      rw [e0, a46, a47, a48, a49, if_pos rfl, if_pos rfl, if_pos rfl, if_pos rfl, eo, hq]
      have hlt : ¬ nI (ev + 1) ≤ nI ev := fun z => absurd ((hl_le (by omega) (by omega)).mp z) (by omega)
      by_cases z1 : (6 * c + r1 ≤ k ∧ k ≤ 6 * c + r2) ∧ S.1 20 1 k = nI o1
      · rw [if_pos ⟨z1.1.1, z1.1.2, z1.2⟩, bit_let ho h2]
        by_cases z2 : o = o2
        · rw [if_pos z2, if_pos ⟨⟨hlt, by rw [z2], hin.mpr z1.1⟩, z1.2⟩]
          have hi := lw_is ⟨c, hc⟩ ⟨r1, hr1⟩ ⟨r2, hr2⟩
          rcases hb with ⟨z3, z4⟩ | ⟨z3, z4⟩
          · subst z4
            rw [bI_f hi.1]
            exact ⟨fun z => absurd z3 z, fun z => absurd z (by decide)⟩
          · subst z4
            rw [bI_t hi.2]
            exact ⟨fun _ => rfl, fun _ => z3⟩
        · rw [if_neg z2, if_neg fun z => z2 ((hl_inj (by omega) (by omega)).mp z.1.2.1).symm]
          exact g3 o ho
      · rw [if_neg fun z => z1 ⟨⟨z.1, z.2.1⟩, z.2.2⟩, if_neg fun z => z1 ⟨hin.mp z.1.2.2, z.2⟩]
        exact g3 o ho
    · rw [a46]
      by_cases z : j = nl
      · rw [if_pos z]; exact ⟨ev, by omega, rfl⟩
      · rw [if_neg z]
        obtain ⟨m, hm, em⟩ := hH.2 j (by omega)
        exact ⟨m, by omega, em⟩
    · obtain ⟨g1, g2, g3, g4, g5⟩ := (rC_up hC).1 r hr
      obtain ⟨f, hf, ef⟩ := hg2 r hr
      refine ⟨g1, g2, g3, g4, ?_⟩
      have g6 : rGs S S (S.2.1 14 1 r + 1) ng nl (nI f) := by rw [← ef]; exact g5
      have g7 : rGs (letT S q nl ev (nI o1) (nI o2) (lW c r1 r2 b) y) (letT S q nl ev (nI o1) (nI o2) (lW c r1 r2 b) y) (S.2.1 14 1 r + 1) ng (nl + 1) (nI f) := rG_old (U := S) (V := S) rfl (rw_ne (S := S) (u := 21) (q := q) (i := S.2.1 14 1 r + 1) (by have g1' : 1 ≤ S.2.1 14 1 r := g1.1; omega)) g6 (fun c => rfl) (fun w k => old w k f (by omega))
      rw [← ef] at g7
      exact g7
    · obtain ⟨g1, g2, g3, g4⟩ := (rC_up hC).2.1 c' hc'
      refine ⟨g1, g2, ?_, g4⟩
      rcases hC.2.1 c' hc' with ⟨_, _, g3, _⟩
      refine g3.imp_right ?_
      rintro ⟨f, hf, q1, q2, q3, q4⟩
      exact ⟨f, by omega, q1, q2, q3, rG_old (U := S) (V := S) rfl (rw_ne (S := S) (u := 21) (q := q) (i := S.2.1 26 1 c' + 1) (by have g1' : 1 ≤ S.2.1 26 1 c' := g1.1; omega)) q4 (fun c => rfl) (fun w k => old w k f (by omega))⟩
  refine ⟨ev + 1, ng, nl + 1, nE, nB, nR, nd, hX', hL, hQ, fun r hr => ⟨?_, (hM r hr).2⟩⟩
  obtain ⟨f, hf, ef⟩ := hg2 r hr
  obtain ⟨_, ⟨c', hc', ec, _⟩, _⟩ := hC.1 r hr
  have hg : gEq (mX (letT S q nl ev (nI o1) (nI o2) (lW c r1 r2 b) y) ng (nl + 1) nE nB nR (S.1 78 1 r)) (mX S ng nl nE nB nR (S.1 78 1 r)) := mX_eq hE hA.1.2.2.1.1 (fun c => rfl) (fun w k => by rw [ef]; exact old w k f (by omega)) (fun _ => rfl) (fun _ _ => ⟨rfl, fun _ _ => rfl⟩) (fun _ => rfl) (fun _ => rfl)
  exact mR_1 (V := S) (hM r hr) hc' ec hg
theorem cLC_eq {S T : hs_S} {i : Nat} {o : Int32} {f : Nat} (h : T.1 20 i = S.1 20 i) : ∀ n, cLC T i o f n = cLC S i o f n := by
  intro n
  induction n with
  | zero => rfl
  | succ n ih => unfold cLC; rw [ih, h]
theorem nw_ne {S : hs_S} {t i : Nat} (h : i ≠ S.2.2.2 t + 1) : (hs_nw S t).1 t i = S.1 t i := funext fun p => (if_neg (fun z => h z.2) : (if t = t ∧ i = S.2.2.2 t + 1 then 0 else S.1 t i p) = _)
theorem nw_neR {S : hs_S} {t i : Nat} (h : i ≠ S.2.2.2 t + 1) : (hs_nw S t).2.1 t i = S.2.1 t i := funext fun p => (if_neg (fun z => h z.2) : (if t = t ∧ i = S.2.2.2 t + 1 then 0 else S.2.1 t i p) = _)
abbrev edU (S : hs_S) (nE : Nat) (k o e m : Int32) (f : Nat) : hs_S := hs_add (E_Edit_init (nE + 1) (nI nE) k o e m f (hs_nw S 3)) 12 (nE + 1)
theorem edU_old {S : hs_S} {nE f i : Nat} {k o e m : Int32} (h3 : S.2.2.2 3 = nE) (h : i ≠ nE + 1) : (edU S nE k o e m f).1 3 i = S.1 3 i ∧ (edU S nE k o e m f).2.1 3 i = S.2.1 3 i :=
  ⟨(wI_ne h).trans ((wI_ne h).trans ((wI_ne h).trans ((wI_ne h).trans ((wI_ne h).trans ((wI_ne h).trans (nw_ne (by omega))))))), (wR_ne h).trans (nw_neR (by omega))⟩
theorem edU_new {S : hs_S} {nE f : Nat} {k o e m : Int32} : (edU S nE k o e m f).1 3 (nE + 1) 0 = nI nE ∧ (edU S nE k o e m f).1 3 (nE + 1) 1 = k ∧ (edU S nE k o e m f).1 3 (nE + 1) 2 = o ∧ (edU S nE k o e m f).1 3 (nE + 1) 3 = e ∧ (edU S nE k o e m f).1 3 (nE + 1) 4 = m ∧ (edU S nE k o e m f).1 3 (nE + 1) 6 = 0 ∧ (edU S nE k o e m f).2.1 3 (nE + 1) 5 = f := by
  show (hs_wI (hs_wI (hs_wI (hs_wI (hs_wI (hs_wI (hs_nw S 3) 3 (nE + 1) 6 0) 3 (nE + 1) 0 (nI nE)) 3 (nE + 1) 1 k) 3 (nE + 1) 2 o) 3 (nE + 1) 3 e) 3 (nE + 1) 4 m).1 3 (nE + 1) 0 = nI nE ∧ (hs_wI (hs_wI (hs_wI (hs_wI (hs_wI (hs_wI (hs_nw S 3) 3 (nE + 1) 6 0) 3 (nE + 1) 0 (nI nE)) 3 (nE + 1) 1 k) 3 (nE + 1) 2 o) 3 (nE + 1) 3 e) 3 (nE + 1) 4 m).1 3 (nE + 1) 1 = k ∧ (hs_wI (hs_wI (hs_wI (hs_wI (hs_wI (hs_wI (hs_nw S 3) 3 (nE + 1) 6 0) 3 (nE + 1) 0 (nI nE)) 3 (nE + 1) 1 k) 3 (nE + 1) 2 o) 3 (nE + 1) 3 e) 3 (nE + 1) 4 m).1 3 (nE + 1) 2 = o ∧ (hs_wI (hs_wI (hs_wI (hs_wI (hs_wI (hs_wI (hs_nw S 3) 3 (nE + 1) 6 0) 3 (nE + 1) 0 (nI nE)) 3 (nE + 1) 1 k) 3 (nE + 1) 2 o) 3 (nE + 1) 3 e) 3 (nE + 1) 4 m).1 3 (nE + 1) 3 = e ∧ (hs_wI (hs_wI (hs_wI (hs_wI (hs_wI (hs_wI (hs_nw S 3) 3 (nE + 1) 6 0) 3 (nE + 1) 0 (nI nE)) 3 (nE + 1) 1 k) 3 (nE + 1) 2 o) 3 (nE + 1) 3 e) 3 (nE + 1) 4 m).1 3 (nE + 1) 4 = m ∧ (hs_wI (hs_wI (hs_wI (hs_wI (hs_wI (hs_wI (hs_nw S 3) 3 (nE + 1) 6 0) 3 (nE + 1) 0 (nI nE)) 3 (nE + 1) 1 k) 3 (nE + 1) 2 o) 3 (nE + 1) 3 e) 3 (nE + 1) 4 m).1 3 (nE + 1) 6 = 0 ∧ (hs_wR (hs_nw S 3) 3 (nE + 1) 5 f).2.1 3 (nE + 1) 5 = f
  simp only [wI_at, wR_at]
  exact ⟨rfl, rfl, rfl, rfl, rfl, rfl, rfl⟩
theorem edU_12 {S : hs_S} {nE f : Nat} {k o e m : Int32} (hz : hs_sz S 12 = nE) (j : Nat) : (edU S nE k o e m f).2.1 12 1 j = if j = nE then nE + 1 else S.2.1 12 1 j := by
  by_cases q : j = nE
  · exact (if_pos ⟨rfl, rfl, q.trans hz.symm⟩ : (if 12 = 12 ∧ 1 = 1 ∧ j = (hs_nw S 3).2.1 12 2 0 then nE + 1 else if 12 = 12 ∧ (1 : Nat) = 2 ∧ j = 0 then (hs_nw S 3).2.1 12 2 0 + 1 else S.2.1 12 1 j) = nE + 1).trans (if_pos q).symm
  · exact ((if_neg fun z => q (z.2.2.trans hz) : (if 12 = 12 ∧ 1 = 1 ∧ j = (hs_nw S 3).2.1 12 2 0 then nE + 1 else if 12 = 12 ∧ (1 : Nat) = 2 ∧ j = 0 then (hs_nw S 3).2.1 12 2 0 + 1 else S.2.1 12 1 j) = _).trans (if_neg fun z => absurd z.2.1 (by decide))).trans (if_neg q).symm
abbrev tellT (X : hs_S) (nE : Nat) (k o e m g e' : Int32) (q : Nat → Int32) : hs_S := hs_wI (hs_wI (hs_rw (hs_wI (hs_wI (hs_wI (hs_wI (hs_wI X 53 1 nE k) 54 1 nE o) 55 1 nE e) 56 1 nE m) 57 1 nE g) 59 q) 11 1 12 (nI (nE + 1))) 11 1 0 e'
section
variable {X : hs_S} {nE j : Nat} {k o e m g e' : Int32} {q : Nat → Int32}
theorem tl53 : (tellT X nE k o e m g e' q).1 53 1 j = if j = nE then k else X.1 53 1 j := wI_at (S := X) (t := 53) (i := 1) (j := nE) (x := k)
theorem tl54 : (tellT X nE k o e m g e' q).1 54 1 j = if j = nE then o else X.1 54 1 j := wI_at (S := X) (t := 54) (i := 1) (j := nE) (x := o)
theorem tl55 : (tellT X nE k o e m g e' q).1 55 1 j = if j = nE then e else X.1 55 1 j := wI_at (S := X) (t := 55) (i := 1) (j := nE) (x := e)
theorem tl56 : (tellT X nE k o e m g e' q).1 56 1 j = if j = nE then m else X.1 56 1 j := wI_at (S := X) (t := 56) (i := 1) (j := nE) (x := m)
theorem tl57 : (tellT X nE k o e m g e' q).1 57 1 j = if j = nE then g else X.1 57 1 j := wI_at (S := X) (t := 57) (i := 1) (j := nE) (x := g)
end
/-- the edits, with one more -/
theorem tell_E {U V U' V' : hs_S} {ev nE f m : Nat} {k o : Nat} (hE : rE U V ev nE) (hk : k < 24) (hm : m < ev + 51)
    (h3 : ∀ i, i ≠ nE + 1 → U'.1 3 i = U.1 3 i ∧ U'.2.1 3 i = U.2.1 3 i)
    (hn : U'.1 3 (nE + 1) 0 = nI nE ∧ U'.1 3 (nE + 1) 1 = nI k ∧ U'.1 3 (nE + 1) 2 = nI o ∧ U'.1 3 (nE + 1) 3 = nI ev ∧ U'.1 3 (nE + 1) 4 = nI m ∧ U'.1 3 (nE + 1) 6 = 0 ∧ U'.2.1 3 (nE + 1) 5 = f)
    (h12 : ∀ j, U'.2.1 12 1 j = if j = nE then nE + 1 else U.2.1 12 1 j)
    (r53 : ∀ j, V'.1 53 1 j = if j = nE then nI k else V.1 53 1 j) (r54 : ∀ j, V'.1 54 1 j = if j = nE then nI o else V.1 54 1 j)
    (r55 : ∀ j, V'.1 55 1 j = if j = nE then nI ev else V.1 55 1 j) (r56 : ∀ j, V'.1 56 1 j = if j = nE then nI m else V.1 56 1 j)
    (r58 : V'.1 58 1 = V.1 58 1) (hz : V.1 58 1 nE = 0) (hf : fC U' V' f nE)
    (hfo : ∀ j, j < nE → fC U V (U.2.1 3 (j + 1) 5) j → fC U' V' (U.2.1 3 (j + 1) 5) j) : rE U' V' (ev + 1) (nE + 1) := by
  intro j hj
  unfold rE1
  rw [h12, r53, r54, r55, r56, r58]
  by_cases q : j = nE
  · subst q
    obtain ⟨n0, n1, n2, n3, n4, n6, n5⟩ := hn
    rw [if_pos rfl, if_pos rfl, if_pos rfl, if_pos rfl, if_pos rfl, n5]
    exact ⟨⟨⟨rfl, n0⟩, ⟨k, hk, rfl, n1⟩, ⟨n2, n3, n4, m, by omega, rfl⟩, n6.trans hz.symm, Or.inl hz⟩, hf⟩
  · obtain ⟨⟨g1, g2, ⟨g3, g4, g5, m', hm', g6⟩, g7⟩, g8⟩ := hE j (by omega)
    obtain ⟨q1, q2⟩ := h3 (j + 1) (by omega)
    rw [if_neg q, if_neg q, if_neg q, if_neg q, if_neg q, q1, q2]
    exact ⟨⟨g1, g2, ⟨g3, g4, g5, m', by omega, g6⟩, g7⟩, hfo j (by omega) g8⟩
theorem frz_iff {U V : hs_S} {ev ng nl c : Nat} (h : rC2 U V ev ng nl c) (hev : ev ≤ 512) : V.1 62 1 c = -1 ↔ U.1 8 (U.2.1 26 1 c) 1 = 2147483647 := by
  obtain ⟨_, _, h3, _⟩ := h
  rcases h3 with ⟨w1, w2⟩ | ⟨f, hf, w1, w2, _⟩
  · exact ⟨fun _ => w2, fun _ => w1⟩
  · have e1 : (nI f).toInt = f := nI_toInt (by omega)
    refine ⟨fun z => ?_, fun z => ?_⟩
    · have e2 : (nI f).toInt = -1 := by rw [← w1, z]; rfl
      omega
    · have e2 : (nI f).toInt = 2147483647 := by rw [← w2, z]; rfl
      omega
set_option maxRecDepth 100000 in
theorem empty_RR {n : Nat} {S : hs_S} {k o m : Nat} {q : Nat → Int32} {y : Int64} {ev ng nl nE nB nR nd : Nat} (hX : RX n S S ev ng nl nE nB nR nd) (hL : rL S S) (hQ : rQ S S nB nR) (hM : rM S ng nl nE nB nR) (hk : k < 24) (hm : ev < m ∧ m < ev + 51) (hE60 : nE < 60) (hn : n < 512)
    (hq : ∀ p, q p = if 36 * nE ≤ p ∧ p < 36 * nE + 3 * 0 then S.1 51 1 (p - 36 * nE) else S.1 59 1 p) :
    RR (n + 1) (tellT (E_asks 1 (hs_wL (hs_wI (edU S nE (nI k) (nI o) (nI ev) (nI m) 1) 10 1 5 (nI (ev + 1))) 100 1 (0 : Int32).toNatClampNeg y)) nE (nI k) (nI o) (nI ev) (nI m) (nI 0) (nI (ev + 1)) q) := by
  obtain ⟨hA, hG, hH, hE, hF, hN, hB, hC⟩ := hX
  have hev := hA.1.1.1
  have hz := hA.2.2.1.1
  have h3 := hA.2.2.1.2.1
  have hq' : ∀ p, q p = S.1 59 1 p := fun p => by rw [hq, if_neg (by omega)]
  have hg2 : ∀ r, r < nR → ∃ f : Nat, f < ev ∧ S.1 78 1 r = nI f := fun r hr => by
    obtain ⟨_, _, ⟨f, l, g1, g2, _⟩, _⟩ := hC.1 r hr
    exact ⟨f, by omega, g2⟩
  have hzz : S.1 58 1 nE = 0 := hL.2.2.2.1 nE (by rw [hA.2.1.2.2.2.2.1, hl_cl (by omega)]; exact Nat.le_refl _) hE60
  refine ⟨ev + 1, ng, nl, nE + 1, nB, nR, nd, ⟨⟨⟨⟨by omega, by omega⟩, by have := hA.1.2; omega⟩, ⟨rfl, rfl, hA.2.1.2.2.1, hA.2.1.2.2.2.1, rfl, hA.2.1.2.2.2.2.2⟩, ⟨?_, ?_, hA.2.2.1.2.2⟩, hA.2.2.2⟩, rG_up hH (by omega) hG, rH_up hH, ?_, hF, hN, rB_up hB, rC_up hC⟩, ⟨hL.1, hL.2.1, hL.2.2.1, fun j h1 h2 => ?_, hL.2.2.2.2⟩, hQ, fun r hr => ⟨?_, (hM r hr).2⟩⟩
  · exact congrArg (· + 1) hz
  · exact congrArg (· + 1) h3
  · refine tell_E (U := S) (V := S) (k := k) (o := o) (m := m) (f := 1) hE hk (by omega) (fun i hi => edU_old h3 hi) edU_new (fun j => edU_12 hz j) (fun j => tl53) (fun j => tl54) (fun j => tl55) (fun j => tl56) rfl hzz ?_ (fun j hj hf => ?_)
    · refine ⟨by decide, ?_, ⟨0, by omega, hF.1.2.2, fun i hi => absurd hi (by omega)⟩, 0, by omega, hF.1.2.2, tl57.trans (if_pos rfl), fun z => absurd z (by omega), fun i hi => absurd hi (by omega)⟩
      exact Nat.lt_of_lt_of_le (by decide) hF.1.1
    · obtain ⟨f1, f2, f3, g, f4, f5, f6, f7, f8⟩ := hf
      refine ⟨f1, f2, f3, g, f4, f5, tl57.trans ((if_neg (by omega)).trans f6), f7, fun i hi => ?_⟩
      obtain ⟨w1, w2, w3⟩ := f8 i hi
      exact ⟨w1.trans (hq' _).symm, w2.trans (hq' _).symm, w3.trans (hq' _).symm⟩
  · refine hL.2.2.2.1 j ?_ h2
    have e1 : (nI (nE + 1)).toNatClampNeg ≤ j := h1
    rw [hl_cl (by omega)] at e1
    rw [hA.2.1.2.2.2.2.1, hl_cl (by omega)]
    omega
  · obtain ⟨f, hf, ef⟩ := hg2 r hr
    obtain ⟨_, ⟨c, hc, ec, _⟩, _⟩ := hC.1 r hr
    refine mR_1 (V := S) (hM r hr) hc ec (mX_eq hE (by omega) (fun _ => rfl) (fun _ _ => rfl) (fun c => ?_) (fun j hj => ⟨tl57.trans (if_neg (by omega)), fun i _ => hq' _⟩) (fun _ => rfl) (fun _ => rfl))
    refine edR_old (fun j hj => ⟨tl53.trans (if_neg (by omega)), tl56.trans (if_neg (by omega)), rfl⟩) (nE + 1) (by omega) fun j g1 g2 => ?_
    have e : j = nE := by omega
    have e2 : S.1 78 1 r < nI m := by rw [ef]; exact nI_lt2 (by omega) (by omega)
    rw [tl56, if_pos e]
    exact e2
/-- the first round behind: notice -/
theorem ntc {U V : hs_S} {c ev : Nat} (hN : rN U V) (hc : c < 4) : ∃ m : Nat, (ev < m ∧ m < ev + 51) ∧ nI ev + (if (1 : Int32) < U.1 25 1 c then U.1 25 1 c else 1) = nI m ∧ nI ev + (if (1 : Int32) ≤ V.1 60 1 c then V.1 60 1 c else 1) = nI m := by
  obtain ⟨⟨h1, w, hw, h2⟩, _⟩ := hN c hc
  rw [h1, h2]
  have e1 : ((1 : Int32) < nI w) ↔ 1 < w := hl_lt (a := 1) (by omega) (by omega)
  have e2 : ((1 : Int32) ≤ nI w) ↔ 1 ≤ w := hl_le (a := 1) (by omega) (by omega)
  have eA : ∀ x : Nat, nI ev + nI x = nI (ev + x) := fun x => nI_add ev x
  by_cases q : 1 < w
  · exact ⟨ev + w, by omega, by rw [if_pos (e1.mpr q), eA], by rw [if_pos (e2.mpr (by omega)), eA]⟩
  · refine ⟨ev + 1, by omega, by rw [if_neg fun z => q (e1.mp z)]; exact nI_1 ev, ?_⟩
    by_cases q2 : 1 ≤ w
    · have : w = 1 := by omega
      subst this
      rw [if_pos (e2.mpr (by omega)), eA]
    · rw [if_neg fun z => q2 (e2.mp z)]; exact nI_1 ev
theorem Fml_R {S : hs_S} {t i p : Nat} : (E_Fml_init (S.2.2.2 5 + 1) (hs_nw S 5)).2.1 t i p = if t = 5 ∧ i = S.2.2.2 5 + 1 ∧ p = 2 then S.2.2.2 24 + 1 else if t = 24 ∧ i = S.2.2.2 24 + 1 then 0 else if t = 5 ∧ i = S.2.2.2 5 + 1 ∧ p = 1 then S.2.2.2 23 + 1 else if t = 23 ∧ i = S.2.2.2 23 + 1 then 0 else if t = 5 ∧ i = S.2.2.2 5 + 1 ∧ p = 0 then S.2.2.2 22 + 1 else if t = 22 ∧ i = S.2.2.2 22 + 1 then 0 else if t = 5 ∧ i = S.2.2.2 5 + 1 then 0 else S.2.1 t i p := rfl
theorem Fml_N {S : hs_S} {t : Nat} : (E_Fml_init (S.2.2.2 5 + 1) (hs_nw S 5)).2.2.2 t = if t = 24 then S.2.2.2 24 + 1 else if t = 23 then S.2.2.2 23 + 1 else if t = 22 then S.2.2.2 22 + 1 else if t = 5 then S.2.2.2 5 + 1 else S.2.2.2 t := rfl
theorem Wi_Fml {S : hs_S} (h : hs_Wi S) (h22 : S.2.2.2 22 = S.2.2.2 5) (h23 : S.2.2.2 23 = S.2.2.2 5) (h24 : S.2.2.2 24 = S.2.2.2 5) : hs_Wi (E_Fml_init (S.2.2.2 5 + 1) (hs_nw S 5)) := by
  refine Wi_at h (fun t i j hw hok => ?_) (fun j => ?_) (fun hok => ?_)
  · have hle := ok_le hok
    rw [Fml_N] at hle
    rw [Fml_R]
    by_cases t5 : t = 5
    · subst t5
      rw [if_neg (by decide), if_neg (by decide), if_neg (by decide), if_pos rfl] at hle
      by_cases hi : i = S.2.2.2 5 + 1
      · right
        by_cases q2 : j = 2
        · rw [q2, if_pos ⟨rfl, hi, rfl⟩]
          show _ = i
          omega
        · by_cases q1 : j = 1
          · rw [q1, if_neg (by omega), if_neg (by omega), if_pos ⟨rfl, hi, rfl⟩]
            show _ = i
            omega
          · by_cases q0 : j = 0
            · rw [q0, if_neg (by omega), if_neg (by omega), if_neg (by omega), if_neg (by omega), if_pos ⟨rfl, hi, rfl⟩]
              show _ = i
              omega
            · refine absurd ?_ hw
              show (match j with | 0 => 2 | 1 => 2 | 2 => 2 | _ => 0) = 0
              split
              · exact absurd rfl q0
              · exact absurd rfl q1
              · exact absurd rfl q2
              · rfl
      · left
        refine ⟨ok_of hok (by omega), ?_⟩
        rw [if_neg (by omega), if_neg (by omega), if_neg (by omega), if_neg (by omega), if_neg (by omega), if_neg (by omega), if_neg (by omega)]
    · left
      have t22 : t ≠ 22 := fun z => hw (by rw [z]; rfl)
      have t23 : t ≠ 23 := fun z => hw (by rw [z]; rfl)
      have t24 : t ≠ 24 := fun z => hw (by rw [z]; rfl)
      rw [if_neg t24, if_neg t23, if_neg t22, if_neg t5] at hle
      refine ⟨ok_of hok hle, ?_⟩
      rw [if_neg (by omega), if_neg (by omega), if_neg (by omega), if_neg (by omega), if_neg (by omega), if_neg (by omega), if_neg (by omega)]
  · rw [Fml_R, if_neg (by omega), if_neg (by omega), if_neg (by omega), if_neg (by omega), if_neg (by omega), if_neg (by omega), if_neg (by omega)]
  · have hle := ok_le hok
    rw [Fml_N, if_neg (by omega), if_neg (by omega), if_neg (by omega), if_neg (by omega)] at hle
    exact ok_of hok hle
abbrev fmT (X : hs_S) (d : Nat) : hs_S := E_Fml_init (d + 1) (hs_nw X 5)
theorem fm_old {X : hs_S} {d f : Nat} (h5 : X.2.2.2 5 = d) (h22 : X.2.2.2 22 = d) (h23 : X.2.2.2 23 = d) (h24 : X.2.2.2 24 = d) (h : f ≠ d + 1) : (fmT X d).1 5 f = X.1 5 f ∧ (fmT X d).1 22 f = X.1 22 f ∧ (fmT X d).1 23 f = X.1 23 f ∧ (fmT X d).1 24 f = X.1 24 f :=
  ⟨(wI_ne h).trans ((wI_ne h).trans (nw_ne (by omega))), nw_ne (S := hs_nw X 5) (t := 22) (show f ≠ X.2.2.2 22 + 1 by omega), nw_ne (S := hs_wR (hs_nw (hs_nw X 5) 22) 5 (d + 1) 0 (X.2.2.2 22 + 1)) (t := 23) (show f ≠ X.2.2.2 23 + 1 by omega), nw_ne (S := hs_wR (hs_nw (hs_wR (hs_nw (hs_nw X 5) 22) 5 (d + 1) 0 (X.2.2.2 22 + 1)) 23) 5 (d + 1) 1 (X.2.2.2 23 + 1)) (t := 24) (show f ≠ X.2.2.2 24 + 1 by omega)⟩
theorem fm_new {X : hs_S} {d : Nat} : (fmT X d).1 5 (d + 1) 3 = 0 ∧ (fmT X d).1 5 (d + 1) 4 = 0 := by
  unfold fmT E_Fml_init
  refine ⟨?_, wI_at.trans (if_pos rfl)⟩
  exact wI_at.trans ((if_neg (by decide)).trans (wI_at.trans (if_pos rfl)))
abbrev entT (S : hs_S) (nE d nd : Nat) (k o e m e' : Int32) (q : Nat → Int32) (y : Int64) : hs_S := hs_wI (tellT (E_asks 1 (hs_wL (hs_wI (hs_wR (fmT (edU S nE k o e m d) d) 9 1 4 (d + 1)) 10 1 5 e') 100 1 (0 : Int32).toNatClampNeg y)) nE k o e m (nI nd) e' q) 11 1 10 0
set_option maxRecDepth 100000 in
theorem enter_RR {n : Nat} {S : hs_S} {k o m d : Nat} {q : Nat → Int32} {y : Int64} {ev ng nl nE nB nR nd : Nat} (hX : RX n S S ev ng nl nE nB nR nd) (hL : rL S S) (hQ : rQ S S nB nR) (hM : rM S ng nl nE nB nR) (hk : k < 24) (hm : ev < m ∧ m < ev + 51) (hE60 : nE < 60) (hn : n < 512) (hd : S.2.1 9 1 4 = d) (hp : cht S d nd = 1)
    (hq : ∀ p, q p = if 36 * nE ≤ p ∧ p < 36 * nE + 3 * nd then S.1 51 1 (p - 36 * nE) else S.1 59 1 p) :
    RR (n + 1) (entT S nE d nd (nI k) (nI o) (nI ev) (nI m) (nI (ev + 1)) q y) := by
  subst hd
  obtain ⟨hA, hG, hH, hE, hF, hN, hB, hC⟩ := hX
  obtain ⟨⟨f1, f2, f3⟩, f4, f5, f6, f7⟩ := hF
  have hev := hA.1.1.1
  have hz := hA.2.2.1.1
  have h3 := hA.2.2.1.2.1
  have hnd := hA.1.2.2.2.2
  obtain ⟨_, _, _, q22, q23, q24⟩ := hA.2.2.2
  have hg2 : ∀ r, r < nR → ∃ f : Nat, f < ev ∧ S.1 78 1 r = nI f := fun r hr => by
    obtain ⟨_, _, ⟨f, l, g1, g2, _⟩, _⟩ := hC.1 r hr
    exact ⟨f, by omega, g2⟩
  have hzz : S.1 58 1 nE = 0 := hL.2.2.2.1 nE (by rw [hA.2.1.2.2.2.2.1, hl_cl (by omega)]; exact Nat.le_refl _) hE60
  have ko := fun f (hf : f ≠ S.2.1 9 1 4 + 1) => fm_old (X := edU S nE (nI k) (nI o) (nI ev) (nI m) (S.2.1 9 1 4)) (d := S.2.1 9 1 4) f2.symm (q22.trans f2.symm) (q23.trans f2.symm) (q24.trans f2.symm) hf
  have kn := fm_new (X := edU S nE (nI k) (nI o) (nI ev) (nI m) (S.2.1 9 1 4)) (d := S.2.1 9 1 4)
  have oq : ∀ j i, j < nE → i < 36 → q (36 * j + i) = S.1 59 1 (36 * j + i) := fun j i hj hi => by rw [hq, if_neg (by omega)]
  have nq : ∀ i, i < 3 * nd → q (36 * nE + i) = S.1 51 1 i := fun i hi => by rw [hq, if_pos (by omega), show 36 * nE + i - 36 * nE = i by omega]
  have d0 : S.2.1 9 1 4 ≠ S.2.1 9 1 4 + 1 := by omega
  have t53 : ∀ j, (entT S nE (S.2.1 9 1 4) nd (nI k) (nI o) (nI ev) (nI m) (nI (ev + 1)) q y).1 53 1 j = if j = nE then nI k else S.1 53 1 j := fun j => wI_at (S := S) (t := 53) (i := 1) (j := nE) (x := nI k)
  have t54 : ∀ j, (entT S nE (S.2.1 9 1 4) nd (nI k) (nI o) (nI ev) (nI m) (nI (ev + 1)) q y).1 54 1 j = if j = nE then nI o else S.1 54 1 j := fun j => wI_at (S := S) (t := 54) (i := 1) (j := nE) (x := nI o)
  have t55 : ∀ j, (entT S nE (S.2.1 9 1 4) nd (nI k) (nI o) (nI ev) (nI m) (nI (ev + 1)) q y).1 55 1 j = if j = nE then nI ev else S.1 55 1 j := fun j => wI_at (S := S) (t := 55) (i := 1) (j := nE) (x := nI ev)
  have t56 : ∀ j, (entT S nE (S.2.1 9 1 4) nd (nI k) (nI o) (nI ev) (nI m) (nI (ev + 1)) q y).1 56 1 j = if j = nE then nI m else S.1 56 1 j := fun j => wI_at (S := S) (t := 56) (i := 1) (j := nE) (x := nI m)
  have t57 : ∀ j, (entT S nE (S.2.1 9 1 4) nd (nI k) (nI o) (nI ev) (nI m) (nI (ev + 1)) q y).1 57 1 j = if j = nE then nI nd else S.1 57 1 j := fun j => wI_at (S := S) (t := 57) (i := 1) (j := nE) (x := nI nd)
  refine ⟨ev + 1, ng, nl, nE + 1, nB, nR, 0, ⟨⟨⟨⟨by omega, by omega⟩, by have := hA.1.2; omega⟩, ⟨rfl, rfl, hA.2.1.2.2.1, hA.2.1.2.2.2.1, rfl, hA.2.1.2.2.2.2.2.1, hA.2.1.2.2.2.2.2.2.1, rfl⟩, ⟨?_, ?_, hA.2.2.1.2.2⟩, hA.2.2.2.1, hA.2.2.2.2.1, hA.2.2.2.2.2.1, ?_, ?_, ?_⟩, rG_up hH (by omega) hG, rH_up hH, ?_, ⟨⟨?_, ?_, ?_⟩, kn.1, ⟨0, by omega, kn.1, fun i hi => absurd hi (by omega)⟩, kn.2, fun i hi => absurd hi (by omega)⟩, hN, rB_up hB, rC_up hC⟩, ⟨hL.1, hL.2.1, hL.2.2.1, fun j h1 h2 => ?_, hL.2.2.2.2⟩, hQ, fun r hr => ⟨?_, (hM r hr).2⟩⟩
  · exact congrArg (· + 1) hz
  · exact congrArg (· + 1) h3
  · exact congrArg (· + 1) q22
  · exact congrArg (· + 1) q23
  · exact congrArg (· + 1) q24
  · refine tell_E (U := S) (V := S) (k := k) (o := o) (m := m) (f := S.2.1 9 1 4) hE hk (by omega) (fun i hi => edU_old h3 hi) edU_new (fun j => edU_12 hz j) t53 t54 t55 t56 rfl hzz ?_ (fun j hj hf => ?_)
    · obtain ⟨k5, k22, k23, k24⟩ := ko _ d0
      refine ⟨by omega, Nat.lt_succ_self _, fOk_fr (S := S) k5 k22 k23 k24 f5, nd, hnd, (congrFun k5 3).trans f4, (t57 _).trans (if_pos rfl), fun _ => ?_, fun i hi => ?_⟩
      · exact (chtR_ext nd fun i _ => congrFun k22 i).trans hp
      · obtain ⟨w1, w2, w3⟩ := f7 i hi
        exact ⟨(congrFun k22 i).trans (w1.trans (nq (3 * i) (by omega)).symm), (congrFun k23 i).trans (w2.trans (nq (3 * i + 1) (by omega)).symm), (congrFun k24 i).trans (w3.trans (nq (3 * i + 2) (by omega)).symm)⟩
    · have hlt : S.2.1 3 (j + 1) 5 < S.2.1 9 1 4 := hf.2.1
      obtain ⟨k5, k22, k23, k24⟩ := ko (S.2.1 3 (j + 1) 5) (by omega)
      obtain ⟨g1, g2, g3, g, g4, g5, g6, g7, g8⟩ := hf
      refine ⟨g1, Nat.lt_succ_of_lt hlt, fOk_fr (S := S) k5 k22 k23 k24 g3, g, g4, (congrFun k5 3).trans g5, (t57 _).trans ((if_neg (by omega)).trans g6), fun z => (chtR_ext g fun i _ => congrFun k22 i).trans (g7 z), fun i hi => ?_⟩
      obtain ⟨w1, w2, w3⟩ := g8 i hi
      exact ⟨(congrFun k22 i).trans (w1.trans (oq j (3 * i) hj (by omega)).symm), (congrFun k23 i).trans (w2.trans (oq j (3 * i + 1) hj (by omega)).symm), (congrFun k24 i).trans (w3.trans (oq j (3 * i + 2) hj (by omega)).symm)⟩
  · exact Nat.le_succ_of_le f1
  · exact congrArg (· + 1) f2
  · exact (congrFun (ko 1 (by omega)).1 3).trans f3
  · refine hL.2.2.2.1 j ?_ h2
    have e1 : (nI (nE + 1)).toNatClampNeg ≤ j := h1
    rw [hl_cl (by omega)] at e1
    rw [hA.2.1.2.2.2.2.1, hl_cl (by omega)]
    omega
  · obtain ⟨f, hf, ef⟩ := hg2 r hr
    obtain ⟨_, ⟨c, hc, ec, _⟩, _⟩ := hC.1 r hr
    refine mR_1 (V := S) (hM r hr) hc ec (mX_eq hE (by omega) (fun _ => rfl) (fun _ _ => rfl) (fun c => ?_) (fun j hj => ⟨(t57 _).trans (if_neg (by omega)), fun i hi => oq j i hj hi⟩) (fun _ => rfl) (fun _ => rfl))
    refine edR_old (fun j hj => ⟨(t53 _).trans (if_neg (by omega)), (t56 _).trans (if_neg (by omega)), rfl⟩) (nE + 1) (by omega) fun j g1 g2 => ?_
    have e : j = nE := by omega
    have e2 : S.1 78 1 r < nI m := by rw [ef]; exact nI_lt2 (by omega) (by omega)
    refine Eq.mpr (congrArg (fun z => S.1 78 1 r < z) ((t56 _).trans (if_pos e))) e2
