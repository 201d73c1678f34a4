/-! ===== what is asked of an edit ===== -/
def cnN (a53 : Nat → Int32) (c : Int32) : Nat → Nat
  | 0 => 0
  | k + 1 => if a53 k = c then cnN a53 c k + 1 else cnN a53 c k
theorem cnN_le {a53 : Nat → Int32} {c : Int32} : ∀ k, cnN a53 c k ≤ k := by
  intro k
  induction k with
  | zero => exact Nat.le_refl _
  | succ k ih => unfold cnN; by_cases q : a53 k = c <;> simp [q] <;> omega
theorem cnN_mono {a53 : Nat → Int32} {c : Int32} {j : Nat} : ∀ k, j ≤ k → cnN a53 c j ≤ cnN a53 c k := by
  intro k
  induction k with
  | zero => intro h; have : j = 0 := by omega
            subst this; exact Nat.le_refl _
  | succ k ih =>
    intro h
    by_cases q : j = k + 1
    · subst q; exact Nat.le_refl _
    · have := ih (by omega)
      have h2 : cnN a53 c (k + 1) = if a53 k = c then cnN a53 c k + 1 else cnN a53 c k := rfl
      rw [h2]
      by_cases q : a53 k = c
      · rw [if_pos q]; omega
      · rw [if_neg q]; exact this
theorem cnN_s {a53 : Nat → Int32} {c : Int32} {j k : Nat} (h : j < k) (hj : a53 j = c) : cnN a53 c j < cnN a53 c k := by
  have h1 : cnN a53 c (j + 1) = cnN a53 c j + 1 := if_pos hj
  have := cnN_mono (a53 := a53) (c := c) (j := j + 1) k h
  omega
theorem cnN_ex {a53 : Nat → Int32} {c : Int32} {p : Nat} : ∀ n, p < cnN a53 c n → ∃ k, k < n ∧ a53 k = c ∧ cnN a53 c k = p := by
  intro n
  induction n with
  | zero => intro h; exact absurd h (Nat.not_lt_zero _)
  | succ n ih =>
    intro h
    by_cases q : p < cnN a53 c n
    · obtain ⟨k, hk, h⟩ := ih q
      exact ⟨k, by omega, h⟩
    · by_cases q2 : a53 n = c
      · have h1 : cnN a53 c (n + 1) = cnN a53 c n + 1 := if_pos q2
        exact ⟨n, by omega, q2, by omega⟩
      · have h1 : cnN a53 c (n + 1) = cnN a53 c n := if_neg q2
        omega
theorem mEO_n {V : hs_S} {c : Int32} : ∀ k, mEO V c k = nI (cnN (V.1 53 1) c k) := by
  intro k
  induction k with
  | zero => rfl
  | succ k ih =>
    unfold mEO cnN
    rw [ih]
    by_cases q : V.1 53 1 k = c
    · rw [if_pos q, if_pos q]; exact nI_1 _
    · rw [if_neg q, if_neg q, Int32.add_zero]
section
variable {U V : hs_S} {ev nE : Nat} {c : Int32}
theorem plc_at (hE : ∀ j, j < nE → rE1 U V ev j) (h60 : nE ≤ 60) {k : Nat} (hk : k < nE) (h1 : V.1 53 1 k = c) {a : Int32} (h2 : nI (cnN (V.1 53 1) c k) = a) : ∀ n, n ≤ nE → nE - n ≤ k → cPlc U c a nE n = k + 1 := by
  intro n
  induction n with
  | zero => intro _ h; omega
  | succ n ih =>
    intro hn hm
    have hj : nE - (n + 1) < nE := by omega
    obtain ⟨⟨e1, _⟩, ⟨x, hx, e2, e3⟩, _⟩ := hE _ hj
    unfold cPlc
    have e1' : ed U (nE - (n + 1)) = nE - (n + 1) + 1 := e1
    have e4 : U.1 3 (nE - (n + 1) + 1) 1 = V.1 53 1 (nE - (n + 1)) := e3.trans e2.symm
    have e5 : cEO U c (nE - (n + 1)) = nI (cnN (V.1 53 1) c (nE - (n + 1))) := (cEO_r _ fun j hj => hE j (by omega)).trans (mEO_n _)
    rw [e1', e4, e5]
    by_cases q : V.1 53 1 (nE - (n + 1)) = c ∧ nI (cnN (V.1 53 1) c (nE - (n + 1))) = a
    · rw [if_pos q]
      have l1 := cnN_le (a53 := V.1 53 1) (c := c) (nE - (n + 1))
      have l2 := cnN_le (a53 := V.1 53 1) (c := c) k
      have e6 : cnN (V.1 53 1) c (nE - (n + 1)) = cnN (V.1 53 1) c k := (hl_inj (by omega) (by omega)).mp (q.2.trans h2.symm)
      rcases Nat.lt_trichotomy (nE - (n + 1)) k with z | z | z
      · have := cnN_s z q.1; omega
      · rw [z]
      · have := cnN_s z h1; omega
    · rw [if_neg q]
      refine ih (by omega) ?_
      by_cases z : nE - (n + 1) = k
      · rw [z] at q; exact absurd ⟨h1, h2⟩ q
      · omega
theorem plc_no (hE : ∀ j, j < nE → rE1 U V ev j) {a : Int32} (h : ∀ k, k < nE → ¬ (V.1 53 1 k = c ∧ nI (cnN (V.1 53 1) c k) = a)) : ∀ n, n ≤ nE → cPlc U c a nE n = 0 := by
  intro n
  induction n with
  | zero => intro _; rfl
  | succ n ih =>
    intro hn
    have hj : nE - (n + 1) < nE := by omega
    obtain ⟨⟨e1, _⟩, ⟨x, hx, e2, e3⟩, _⟩ := hE _ hj
    unfold cPlc
    have e1' : ed U (nE - (n + 1)) = nE - (n + 1) + 1 := e1
    have e4 : U.1 3 (nE - (n + 1) + 1) 1 = V.1 53 1 (nE - (n + 1)) := e3.trans e2.symm
    have e5 : cEO U c (nE - (n + 1)) = nI (cnN (V.1 53 1) c (nE - (n + 1))) := (cEO_r _ fun j hj => hE j (by omega)).trans (mEO_n _)
    rw [e1', e4, e5, if_neg (h _ hj)]
    exact ih (by omega)
theorem ct_r (hE : ∀ j, j < nE → rE1 U V ev j) {e : Int32} : ∀ n, n ≤ nE → (cCt U c e n = 0 ∧ edR (V.1 53 1) (V.1 56 1) (V.1 58 1) c e n = -1) ∨ ∃ k, k < n ∧ cCt U c e n = k + 1 ∧ edR (V.1 53 1) (V.1 56 1) (V.1 58 1) c e n = nI k := by
  intro n
  induction n with
  | zero => intro _; exact Or.inl ⟨rfl, rfl⟩
  | succ n ih =>
    intro hn
    obtain ⟨⟨e1, _⟩, ⟨x, hx, e2, e3⟩, ⟨_, _, e4, _⟩, e5, _⟩ := hE n (by omega)
    have e1' : ed U n = n + 1 := e1
    have e6 : (U.1 3 (n + 1) 1 = c ∧ ¬ F_Edit_countsAt (n + 1) e U = 0) ↔ (V.1 53 1 n = c ∧ ¬ e < V.1 56 1 n ∧ V.1 58 1 n = 0) := by
      unfold F_Edit_countsAt
      rw [bI_eq0, e3, e2, e4, e5]
      exact ⟨fun z => ⟨z.1, (Classical.not_not.mp z.2).2, (Classical.not_not.mp z.2).1⟩, fun z => ⟨z.1, Classical.not_not.mpr ⟨z.2.2, z.2.1⟩⟩⟩
    unfold cCt edR
    rw [e1']
    by_cases q : V.1 53 1 n = c ∧ ¬ e < V.1 56 1 n ∧ V.1 58 1 n = 0
    · rw [if_pos q, if_pos (e6.mpr q)]
      exact Or.inr ⟨n, by omega, rfl, rfl⟩
    · rw [if_neg q, if_neg fun z => q (e6.mp z)]
      rcases ih (by omega) with z | ⟨k, hk, z⟩
      · exact Or.inl z
      · exact Or.inr ⟨k, by omega, z⟩
end
theorem in6 {a : Int32} : F_in a 0 6 = 0 ↔ (a.toInt < 0 ∨ 6 < a.toInt) := by
  unfold F_in
  rw [bI_eq0, i32_le, i32_le]
  have z0 : (0 : Int32).toInt = 0 := rfl
  have z6 : (6 : Int32).toInt = 6 := rfl
  omega
theorem call_edit {n : Nat} {S : hs_S} {a1 a2 a3 a4 : Int32} (h : RR n S) (hn : n < 512) (hw : hs_Wi S) : m_L_edit a1 a2 a3 a4 S (fun k S2 => hs_Wi S2 → m_M_edit a1 a2 a3 a4 S2 (fun r T => OK n k r T)) := by
  obtain ⟨ev, ng, nl, nE, nB, nR, nd, hX, hL, hQ, hM⟩ := id h
  obtain ⟨hA, hG, hH, hE, hF, hN, hB, hC⟩ := id hX
  have hE60 := hA.1.2.2.1.1
  have hz : hs_sz S 12 = nE := hA.2.2.1.1
  have hE1 : ∀ j, j < nE → rE1 S S ev j := fun j hj => (hE j hj).1
  have e12 : S.1 11 1 12 = nI nE := hA.2.1.2.2.2.2.1
  have eEO : ∀ c, F_editsOf c S = nI (cnN (S.1 53 1) c nE) := fun c => (editsOf_r e12 hE60).trans (mEO_n _)
  have hP : ∀ y : Int64, P_edit a1 a2 a3 a4 (hs_wL S 100 1 (0 : Int32).toNatClampNeg y) := fun y => ⟨nE, hE60, e12⟩
  have hP0 : P_edit a1 a2 a3 a4 S := ⟨nE, hE60, e12⟩
  have bad1 : ¬ okEdit a1 a2 a3 S → hs_Wi S → m_M_edit a1 a2 a3 a4 S (fun r T => OK n 1 r T) := fun q hw2 => qI_mono (ok_M_edit hw2 (v_M_edit hP0)) fun r T hR => by
    obtain ⟨rfl, rfl⟩ := hR.1 q
    exact OK_f h hn rfl
  refine ok_L_edit hw fun _ => ok_C_edit hw fun _ => t_cellAt hw (fun c r hc hr e2 e3 => ?_) (fun e => Or.inl ⟨rfl, bad1 fun z => z.1 e⟩)
  subst e2 e3
  have hcell : ¬ F_isCell (nI c) (nI r) = 0 := by rw [cell_1 hc hr]; decide
  have l1 := cnN_le (a53 := S.1 53 1) (c := nI (6 * c + r)) nE
  have ePl : F_Sht_placed (nI (6 * c + r)) a3 S = cPlc S (nI (6 * c + r)) a3 nE nE := by unfold F_Sht_placed; rw [hz]
  refine ⟨⟨nE, hE60, hz, fun k hk => by have := (hE1 k hk).1.1; show S.2.1 12 1 k ≠ 0; omega⟩, fun q => ?_, fun q => Or.inl ⟨rfl, bad1 fun z => ?_⟩⟩
  · -- an edit is there
    obtain ⟨k, hk, m1, m2⟩ : ∃ k, k < nE ∧ S.1 53 1 k = nI (6 * c + r) ∧ nI (cnN (S.1 53 1) (nI (6 * c + r)) k) = a3 := by
      refine Classical.not_not.mp fun z => q ?_
      rw [ePl]
      exact plc_no hE1 (fun k hk w => z ⟨k, hk, w⟩) nE (Nat.le_refl _)
    have ep : F_Sht_placed (nI (6 * c + r)) a3 S = k + 1 := by rw [ePl]; exact plc_at hE1 hE60 hk m1 m2 nE (Nat.le_refl _) (by omega)
    have l2 := cnN_le (a53 := S.1 53 1) (c := nI (6 * c + r)) k
    have l3 := cnN_s (a53 := S.1 53 1) hk m1
    have hok : okEdit (nI c) (nI r) a3 S := by
      refine ⟨hcell, by rw [← m2]; exact nI_lo (by omega), ?_⟩
      rw [nI_6c, eEO, ← m2]
      exact fun z => absurd ((hl_le (by omega) (by omega)).mp z) (by omega)
    have fin : ∀ v : Int32, v = edV S (nI (6 * c + r)) a4 k → F_in a4 0 6 ≠ 0 → ∀ S5, S5 = hs_wL S 100 1 (0 : Int32).toNatClampNeg v.toInt64 → hs_Wi S5 → m_M_edit (nI c) (nI r) a3 a4 S5 (fun r T => OK n 0 r T) := by
      rintro v hv h6 _ rfl hw2
      refine qI_mono (ok_M_edit hw2 (v_M_edit (hP v.toInt64))) fun r' T hR => ?_
      have hok' : okEdit (nI c) (nI r) a3 (hs_wL S 100 1 (0 : Int32).toNatClampNeg v.toInt64) := ⟨hok.1, hok.2.1, by
        have := hok.2.2
        rw [nI_6c, eEO] at this
        have e2 : F_editsOf (nI (6 * c + r)) (hs_wL S 100 1 (0 : Int32).toNatClampNeg v.toInt64) = nI (cnN (S.1 53 1) (nI (6 * c + r)) nE) := (editsOf_r (T := hs_wL S 100 1 (0 : Int32).toNatClampNeg v.toInt64) e12 hE60).trans (mEO_n _)
        rw [nI_6c, e2]
        exact this⟩
      obtain ⟨rfl, k', n', hk', hn', en', g1, g2, g3⟩ := (hR.2 hok').2 h6
      have en : n' = nE := (hl_inj (by omega) (by omega)).mp (en'.symm.trans e12)
      rw [nI_6c] at g1 g2 g3
      have g2' : nI (cnN (S.1 53 1) (nI (6 * c + r)) k') = a3 := (mEO_n (V := hs_wL S 100 1 (0 : Int32).toNatClampNeg v.toInt64) k').symm.trans g2
      have l4 := cnN_le (a53 := S.1 53 1) (c := nI (6 * c + r)) k'
      have ek : k' = k := by
        have e6 : cnN (S.1 53 1) (nI (6 * c + r)) k' = cnN (S.1 53 1) (nI (6 * c + r)) k := (hl_inj (by omega) (by omega)).mp (g2'.trans m2.symm)
        rcases Nat.lt_trichotomy k' k with z | z | z
        · have := cnN_s (a53 := S.1 53 1) z g1; omega
        · exact z
        · have := cnN_s z m1; omega
      subst ek
      refine ⟨RR_as (RR_out h) hn, rfl, fun _ => ?_⟩
      have e9 : edV (hs_wL S 100 1 (0 : Int32).toNatClampNeg v.toInt64) (nI (6 * c + r)) a4 k' = edV S (nI (6 * c + r)) a4 k' := by
        unfold edV
        rw [ed_r, ed_r]
        rfl
      show v.toInt64 = r'.toInt64
      rw [hv, g3, e9]
    obtain ⟨⟨⟨i1, i2⟩, ⟨x, hx, i3, i4⟩, ⟨i5, i6, i7, _⟩, i8, i9⟩, ⟨j1, j2, j3, g, j4, j5, j6, _⟩⟩ := hE k hk
    rw [ep]
    refine ⟨fun z => ?_, fun z => ?_, fun z => ?_, fun z => ?_, fun z => ⟨j1, ?_⟩, fun z => ⟨fun w => ?_, fun w => ?_⟩, fun z => ⟨⟨nE, hE60, hz, fun k hk => by have := (hE1 k hk).1.1; show S.2.1 12 1 k ≠ 0; omega⟩, fun w => ?_, fun w => ?_⟩, fun z => Or.inr ⟨rfl, fun hw2 => ?_⟩⟩
    · subst z; exact fin _ i2 (by decide)
    · subst z; exact fin _ i6 (by decide)
    · subst z; exact fin _ i7 (by decide)
    · subst z; exact fin _ i5 (by decide)
    · subst z; exact fin _ (j5.trans j6.symm) (by decide)
    · subst z
      refine fin 0 ?_ (by decide)
      show (0 : Int32) = if S.1 58 1 k = 0 then 0 else 1
      rw [if_pos (by rw [← i8]; exact w)]
    · subst z
      refine fin 1 ?_ (by decide)
      show (1 : Int32) = if S.1 58 1 k = 0 then 0 else 1
      rw [if_neg (by rw [← i8]; exact w)]
    · subst z
      refine fin 0 ?_ (by decide)
      show (0 : Int32) = if F_editAt (nI (6 * c + r)) (S.1 11 1 0) S = nI k then 1 else 0
      rw [if_neg]
      intro w2
      refine w ?_
      unfold F_Sht_counting
      rw [hz, hA.2.1.1]
      rw [ed_r, e12, hl_cl (by omega), hA.2.1.2.1] at w2
      rcases ct_r (c := nI (6 * c + r)) (e := nI ev) hE1 nE (Nat.le_refl _) with ⟨_, u⟩ | ⟨k2, hk2, u1, u2⟩
      · rw [u] at w2
        have e1 : (nI k).toInt = k := nI_toInt (by omega)
        have e2 : (nI k).toInt = -1 := by rw [← w2]; rfl
        omega
      · have := (hl_inj (by omega) (by omega)).mp (u2.symm.trans w2)
        rw [u1, this]
    · subst z
      refine fin 1 ?_ (by decide)
      show (1 : Int32) = if F_editAt (nI (6 * c + r)) (S.1 11 1 0) S = nI k then 1 else 0
      rw [if_pos]
      unfold F_Sht_counting at w
      rw [hz, hA.2.1.1] at w
      rw [ed_r, e12, hl_cl (by omega), hA.2.1.2.1]
      rcases ct_r (c := nI (6 * c + r)) (e := nI ev) hE1 nE (Nat.le_refl _) with ⟨u, _⟩ | ⟨k2, hk2, u1, u2⟩
      · rw [u] at w; exact absurd w (Nat.succ_ne_zero _)
      · rw [u1] at w
        have : k = k2 := Nat.succ.inj w
        rw [u2, this]
    · refine qI_mono (ok_M_edit hw2 (v_M_edit hP0)) fun r' T hR => ?_
      obtain ⟨rfl, rfl⟩ := (hR.2 hok).1 (in6.mpr z)
      exact OK_g h hn (by decide)
  · -- none is there
    obtain ⟨z1, z2, z3⟩ := z
    rw [nI_6c, eEO] at z3
    obtain ⟨p, hp, ep⟩ := lt_of (a := a3) (N := cnN (S.1 53 1) (nI (6 * c + r)) nE) (by omega) z2 (nle.mp z3)
    obtain ⟨k, hk, m1, m2⟩ := cnN_ex nE hp
    rw [ePl, plc_at hE1 hE60 hk m1 (by rw [m2, ep]) nE (Nat.le_refl _) (by omega)] at q
    exact absurd q (Nat.succ_ne_zero _)
