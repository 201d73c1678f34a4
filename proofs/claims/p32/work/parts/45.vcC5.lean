/-- what a word comes to, if it has no fault -/
def cRN (w one : Int32) (j : Nat) (S : hs_S) : Int64 := if w = 0 then one.toInt64 else if w ≤ 7 then (S.1 33 (w.toNatClampNeg + 1) one.toNatClampNeg).toInt64 else if w = 14 then (if S.1 34 1 j ≤ 0 then (S.1 34 1 (j + 2)).toInt64 else (S.1 34 1 (j + 1)).toInt64) else mAr w (S.1 34 1 j).toInt64 (S.1 34 1 (j + 1)).toInt64
def rgF (n : Int64) : Int32 := if lg_cmp n (-1000000000) < 0 then 4 else if lg_cmp n 1000000000 ≤ 0 then 0 else 4
def rgE (n : Int64) (S : hs_S) : hs_S := if rgF n = 0 then hs_wI S 4 1 9 n.toInt32 else S
def F_Fnd_reckonWord (a1 a2 a3 : Int32) (S : hs_S) : Int32 := if a1 = 11 ∧ S.1 34 1 (a3.toNatClampNeg + 1) = 0 then 3 else rgF (cRN a1 a2 a3.toNatClampNeg S)
def E_Fnd_reckonWord (a1 a2 a3 : Int32) (S : hs_S) : hs_S := if a1 = 11 ∧ S.1 34 1 (a3.toNatClampNeg + 1) = 0 then S else rgE (cRN a1 a2 a3.toNatClampNeg S) S
def P_Fnd_reckonWord (a1 a2 a3 : Int32) (S : hs_S) : Prop := (∃ j : Nat, j < 289 ∧ a3 = nI j) ∧ (∃ w : Nat, w < 15 ∧ a1 = nI w) ∧ ((1 : Int32) ≤ a1 → a1 ≤ 7 → 0 ≤ a2.toInt ∧ a2.toInt < 4)
theorem rg_ok {S E : hs_S} {n : Int64} {f : Int32} (hf : f = rgF n) (he : E = rgE n S) : (lg_cmp n (-1000000000) < 0 → ((4 : Int32) = f ∧ S = E)) ∧ (¬ lg_cmp n (-1000000000) < 0 → ((lg_cmp n 1000000000 ≤ 0 → ∀ S7 : hs_S, S7 = hs_wI S 4 1 9 n.toInt32 → ((0 : Int32) = f ∧ S7 = E)) ∧ (¬ lg_cmp n 1000000000 ≤ 0 → ((4 : Int32) = f ∧ S = E)))) := by
  subst hf he
  unfold rgE rgF
  refine ⟨fun h => ?_, fun h => ⟨fun h2 => ?_, fun h2 => ?_⟩⟩
  · rw [if_pos h, if_neg (by decide)]; exact ⟨rfl, rfl⟩
  · rintro _ rfl
    rw [if_neg h, if_pos h2, if_pos rfl]; exact ⟨rfl, rfl⟩
  · rw [if_neg h, if_neg h2, if_neg (by decide)]; exact ⟨rfl, rfl⟩
theorem cRN_0 {w one : Int32} {j : Nat} {S : hs_S} (h : w = 0) : cRN w one j S = one.toInt64 := if_pos h
theorem cRN_f {w one : Int32} {j : Nat} {S : hs_S} (h0 : w ≠ 0) (h : w ≤ 7) : cRN w one j S = (S.1 33 (w.toNatClampNeg + 1) one.toNatClampNeg).toInt64 := by
  unfold cRN; rw [if_neg h0, if_pos h]
theorem cRN_a {w one : Int32} {j : Nat} {S : hs_S} (h : ¬ w ≤ 7) (h0 : w ≠ 0) (h14 : w ≠ 14) : cRN w one j S = mAr w (S.1 34 1 j).toInt64 (S.1 34 1 (j + 1)).toInt64 := by
  unfold cRN; rw [if_neg h0, if_neg h, if_neg h14]
theorem cRN_w {one : Int32} {j : Nat} {S : hs_S} : cRN 14 one j S = if S.1 34 1 j ≤ 0 then (S.1 34 1 (j + 2)).toInt64 else (S.1 34 1 (j + 1)).toInt64 := by
  unfold cRN; rw [if_neg (by decide), if_neg (by decide), if_pos rfl]
theorem FRW {a1 a2 : Int32} {j : Nat} {S : hs_S} (h : ¬ (a1 = 11 ∧ S.1 34 1 (j + 1) = 0)) (hj : j < 289) : F_Fnd_reckonWord a1 a2 (nI j) S = rgF (cRN a1 a2 j S) ∧ E_Fnd_reckonWord a1 a2 (nI j) S = rgE (cRN a1 a2 j S) S := by
  unfold F_Fnd_reckonWord E_Fnd_reckonWord
  rw [hl_cl (by omega), if_neg h, if_neg h]; exact ⟨rfl, rfl⟩
theorem lgc_max {a b : Int64} : (if lg_cmp a b ≤ 0 then b else a) = if 0 ≤ lg_cmp a b then a else b := by
  by_cases h1 : lg_cmp a b ≤ 0 <;> by_cases h2 : 0 ≤ lg_cmp a b
  · rw [if_pos h1, if_pos h2]
    have e1 : a ≤ b := (lg_cmp_le _ _).mp h1
    have e2 : ¬ a < b := fun z => by
      have := (lg_cmp_lt a b).mpr z
      rw [i32_lt] at this
      rw [i32_le] at h2
      omega
    rw [i64_le] at e1
    rw [i64_lt] at e2
    exact i64_eq.mpr (by omega)
  · rw [if_pos h1, if_neg h2]
  · rw [if_neg h1, if_pos h2]
  · rw [i32_le] at h1 h2
    have z0 : (0 : Int32).toInt = 0 := rfl
    omega
def m_Fnd_reckonWord (a1 : Int32) (a2 : Int32) (a3 : Int32) (S : hs_S) (Q : Int32 → hs_S → Prop) : Prop := hs_M 1 yX4_reckonWord (.code yX4_reckonWord cX4_reckonWord 12 (some FieldType.int)) [.inr (.inr (4, 1)), .inl a1, .inl a2, .inl a3] S 0 0 (hs_qI Q) hs_nX
def vc_Fnd_reckonWord (a1 : Int32) (a2 : Int32) (a3 : Int32) (S : hs_S) (Q : Int32 → hs_S → Prop) : Prop := ((0 ≤ a3.toInt ∧ a3.toInt < 291) ∧ ((0 ≤ (a3 + (1 : Int32)).toInt ∧ (a3 + (1 : Int32)).toInt < 291) ∧ ((0 ≤ (a3 + (2 : Int32)).toInt ∧ (a3 + (2 : Int32)).toInt < 291) ∧ ((a1 = (0 : Int32) → (((lg_cmp a2.toInt64 (-1000000000 : Int64)) < 0 → (Q (4 : Int32) S)) ∧ (¬ (lg_cmp a2.toInt64 (-1000000000 : Int64)) < 0 → (((lg_cmp a2.toInt64 (1000000000 : Int64)) ≤ 0 → (∀ S7 : hs_S, S7 = (hs_wI S 4 1 9 a2.toInt64.toInt32) → (Q (0 : Int32) S7))) ∧ (¬ (lg_cmp a2.toInt64 (1000000000 : Int64)) ≤ 0 → (Q (4 : Int32) S)))))) ∧ (a1 = (1 : Int32) → ((0 ≤ a1.toInt ∧ a1.toInt < 8) ∧ ((0 ≤ a2.toInt ∧ a2.toInt < 4) ∧ (((lg_cmp (S.1 33 (a1.toNatClampNeg + 1) a2.toNatClampNeg).toInt64 (-1000000000 : Int64)) < 0 → (Q (4 : Int32) S)) ∧ (¬ (lg_cmp (S.1 33 (a1.toNatClampNeg + 1) a2.toNatClampNeg).toInt64 (-1000000000 : Int64)) < 0 → (((lg_cmp (S.1 33 (a1.toNatClampNeg + 1) a2.toNatClampNeg).toInt64 (1000000000 : Int64)) ≤ 0 → (∀ S13 : hs_S, S13 = (hs_wI S 4 1 9 (S.1 33 (a1.toNatClampNeg + 1) a2.toNatClampNeg).toInt64.toInt32) → (Q (0 : Int32) S13))) ∧ (¬ (lg_cmp (S.1 33 (a1.toNatClampNeg + 1) a2.toNatClampNeg).toInt64 (1000000000 : Int64)) ≤ 0 → (Q (4 : Int32) S)))))))) ∧ (a1 = (2 : Int32) → ((0 ≤ a1.toInt ∧ a1.toInt < 8) ∧ ((0 ≤ a2.toInt ∧ a2.toInt < 4) ∧ (((lg_cmp (S.1 33 (a1.toNatClampNeg + 1) a2.toNatClampNeg).toInt64 (-1000000000 : Int64)) < 0 → (Q (4 : Int32) S)) ∧ (¬ (lg_cmp (S.1 33 (a1.toNatClampNeg + 1) a2.toNatClampNeg).toInt64 (-1000000000 : Int64)) < 0 → (((lg_cmp (S.1 33 (a1.toNatClampNeg + 1) a2.toNatClampNeg).toInt64 (1000000000 : Int64)) ≤ 0 → (∀ S19 : hs_S, S19 = (hs_wI S 4 1 9 (S.1 33 (a1.toNatClampNeg + 1) a2.toNatClampNeg).toInt64.toInt32) → (Q (0 : Int32) S19))) ∧ (¬ (lg_cmp (S.1 33 (a1.toNatClampNeg + 1) a2.toNatClampNeg).toInt64 (1000000000 : Int64)) ≤ 0 → (Q (4 : Int32) S)))))))) ∧ (a1 = (3 : Int32) → ((0 ≤ a1.toInt ∧ a1.toInt < 8) ∧ ((0 ≤ a2.toInt ∧ a2.toInt < 4) ∧ (((lg_cmp (S.1 33 (a1.toNatClampNeg + 1) a2.toNatClampNeg).toInt64 (-1000000000 : Int64)) < 0 → (Q (4 : Int32) S)) ∧ (¬ (lg_cmp (S.1 33 (a1.toNatClampNeg + 1) a2.toNatClampNeg).toInt64 (-1000000000 : Int64)) < 0 → (((lg_cmp (S.1 33 (a1.toNatClampNeg + 1) a2.toNatClampNeg).toInt64 (1000000000 : Int64)) ≤ 0 → (∀ S25 : hs_S, S25 = (hs_wI S 4 1 9 (S.1 33 (a1.toNatClampNeg + 1) a2.toNatClampNeg).toInt64.toInt32) → (Q (0 : Int32) S25))) ∧ (¬ (lg_cmp (S.1 33 (a1.toNatClampNeg + 1) a2.toNatClampNeg).toInt64 (1000000000 : Int64)) ≤ 0 → (Q (4 : Int32) S)))))))) ∧ (a1 = (4 : Int32) → ((0 ≤ a1.toInt ∧ a1.toInt < 8) ∧ ((0 ≤ a2.toInt ∧ a2.toInt < 4) ∧ (((lg_cmp (S.1 33 (a1.toNatClampNeg + 1) a2.toNatClampNeg).toInt64 (-1000000000 : Int64)) < 0 → (Q (4 : Int32) S)) ∧ (¬ (lg_cmp (S.1 33 (a1.toNatClampNeg + 1) a2.toNatClampNeg).toInt64 (-1000000000 : Int64)) < 0 → (((lg_cmp (S.1 33 (a1.toNatClampNeg + 1) a2.toNatClampNeg).toInt64 (1000000000 : Int64)) ≤ 0 → (∀ S31 : hs_S, S31 = (hs_wI S 4 1 9 (S.1 33 (a1.toNatClampNeg + 1) a2.toNatClampNeg).toInt64.toInt32) → (Q (0 : Int32) S31))) ∧ (¬ (lg_cmp (S.1 33 (a1.toNatClampNeg + 1) a2.toNatClampNeg).toInt64 (1000000000 : Int64)) ≤ 0 → (Q (4 : Int32) S)))))))) ∧ (a1 = (5 : Int32) → ((0 ≤ a1.toInt ∧ a1.toInt < 8) ∧ ((0 ≤ a2.toInt ∧ a2.toInt < 4) ∧ (((lg_cmp (S.1 33 (a1.toNatClampNeg + 1) a2.toNatClampNeg).toInt64 (-1000000000 : Int64)) < 0 → (Q (4 : Int32) S)) ∧ (¬ (lg_cmp (S.1 33 (a1.toNatClampNeg + 1) a2.toNatClampNeg).toInt64 (-1000000000 : Int64)) < 0 → (((lg_cmp (S.1 33 (a1.toNatClampNeg + 1) a2.toNatClampNeg).toInt64 (1000000000 : Int64)) ≤ 0 → (∀ S37 : hs_S, S37 = (hs_wI S 4 1 9 (S.1 33 (a1.toNatClampNeg + 1) a2.toNatClampNeg).toInt64.toInt32) → (Q (0 : Int32) S37))) ∧ (¬ (lg_cmp (S.1 33 (a1.toNatClampNeg + 1) a2.toNatClampNeg).toInt64 (1000000000 : Int64)) ≤ 0 → (Q (4 : Int32) S)))))))) ∧ (a1 = (6 : Int32) → ((0 ≤ a1.toInt ∧ a1.toInt < 8) ∧ ((0 ≤ a2.toInt ∧ a2.toInt < 4) ∧ (((lg_cmp (S.1 33 (a1.toNatClampNeg + 1) a2.toNatClampNeg).toInt64 (-1000000000 : Int64)) < 0 → (Q (4 : Int32) S)) ∧ (¬ (lg_cmp (S.1 33 (a1.toNatClampNeg + 1) a2.toNatClampNeg).toInt64 (-1000000000 : Int64)) < 0 → (((lg_cmp (S.1 33 (a1.toNatClampNeg + 1) a2.toNatClampNeg).toInt64 (1000000000 : Int64)) ≤ 0 → (∀ S43 : hs_S, S43 = (hs_wI S 4 1 9 (S.1 33 (a1.toNatClampNeg + 1) a2.toNatClampNeg).toInt64.toInt32) → (Q (0 : Int32) S43))) ∧ (¬ (lg_cmp (S.1 33 (a1.toNatClampNeg + 1) a2.toNatClampNeg).toInt64 (1000000000 : Int64)) ≤ 0 → (Q (4 : Int32) S)))))))) ∧ (a1 = (7 : Int32) → ((0 ≤ a1.toInt ∧ a1.toInt < 8) ∧ ((0 ≤ a2.toInt ∧ a2.toInt < 4) ∧ (((lg_cmp (S.1 33 (a1.toNatClampNeg + 1) a2.toNatClampNeg).toInt64 (-1000000000 : Int64)) < 0 → (Q (4 : Int32) S)) ∧ (¬ (lg_cmp (S.1 33 (a1.toNatClampNeg + 1) a2.toNatClampNeg).toInt64 (-1000000000 : Int64)) < 0 → (((lg_cmp (S.1 33 (a1.toNatClampNeg + 1) a2.toNatClampNeg).toInt64 (1000000000 : Int64)) ≤ 0 → (∀ S49 : hs_S, S49 = (hs_wI S 4 1 9 (S.1 33 (a1.toNatClampNeg + 1) a2.toNatClampNeg).toInt64.toInt32) → (Q (0 : Int32) S49))) ∧ (¬ (lg_cmp (S.1 33 (a1.toNatClampNeg + 1) a2.toNatClampNeg).toInt64 (1000000000 : Int64)) ≤ 0 → (Q (4 : Int32) S)))))))) ∧ (a1 = (8 : Int32) → (((lg_cmp ((S.1 34 1 a3.toNatClampNeg).toInt64 + (S.1 34 1 (a3 + (1 : Int32)).toNatClampNeg).toInt64) (-1000000000 : Int64)) < 0 → (Q (4 : Int32) S)) ∧ (¬ (lg_cmp ((S.1 34 1 a3.toNatClampNeg).toInt64 + (S.1 34 1 (a3 + (1 : Int32)).toNatClampNeg).toInt64) (-1000000000 : Int64)) < 0 → (((lg_cmp ((S.1 34 1 a3.toNatClampNeg).toInt64 + (S.1 34 1 (a3 + (1 : Int32)).toNatClampNeg).toInt64) (1000000000 : Int64)) ≤ 0 → (∀ S53 : hs_S, S53 = (hs_wI S 4 1 9 ((S.1 34 1 a3.toNatClampNeg).toInt64 + (S.1 34 1 (a3 + (1 : Int32)).toNatClampNeg).toInt64).toInt32) → (Q (0 : Int32) S53))) ∧ (¬ (lg_cmp ((S.1 34 1 a3.toNatClampNeg).toInt64 + (S.1 34 1 (a3 + (1 : Int32)).toNatClampNeg).toInt64) (1000000000 : Int64)) ≤ 0 → (Q (4 : Int32) S)))))) ∧ (a1 = (9 : Int32) → (((lg_cmp ((S.1 34 1 a3.toNatClampNeg).toInt64 - (S.1 34 1 (a3 + (1 : Int32)).toNatClampNeg).toInt64) (-1000000000 : Int64)) < 0 → (Q (4 : Int32) S)) ∧ (¬ (lg_cmp ((S.1 34 1 a3.toNatClampNeg).toInt64 - (S.1 34 1 (a3 + (1 : Int32)).toNatClampNeg).toInt64) (-1000000000 : Int64)) < 0 → (((lg_cmp ((S.1 34 1 a3.toNatClampNeg).toInt64 - (S.1 34 1 (a3 + (1 : Int32)).toNatClampNeg).toInt64) (1000000000 : Int64)) ≤ 0 → (∀ S57 : hs_S, S57 = (hs_wI S 4 1 9 ((S.1 34 1 a3.toNatClampNeg).toInt64 - (S.1 34 1 (a3 + (1 : Int32)).toNatClampNeg).toInt64).toInt32) → (Q (0 : Int32) S57))) ∧ (¬ (lg_cmp ((S.1 34 1 a3.toNatClampNeg).toInt64 - (S.1 34 1 (a3 + (1 : Int32)).toNatClampNeg).toInt64) (1000000000 : Int64)) ≤ 0 → (Q (4 : Int32) S)))))) ∧ (a1 = (10 : Int32) → (((lg_cmp ((S.1 34 1 a3.toNatClampNeg).toInt64 * (S.1 34 1 (a3 + (1 : Int32)).toNatClampNeg).toInt64) (-1000000000 : Int64)) < 0 → (Q (4 : Int32) S)) ∧ (¬ (lg_cmp ((S.1 34 1 a3.toNatClampNeg).toInt64 * (S.1 34 1 (a3 + (1 : Int32)).toNatClampNeg).toInt64) (-1000000000 : Int64)) < 0 → (((lg_cmp ((S.1 34 1 a3.toNatClampNeg).toInt64 * (S.1 34 1 (a3 + (1 : Int32)).toNatClampNeg).toInt64) (1000000000 : Int64)) ≤ 0 → (∀ S61 : hs_S, S61 = (hs_wI S 4 1 9 ((S.1 34 1 a3.toNatClampNeg).toInt64 * (S.1 34 1 (a3 + (1 : Int32)).toNatClampNeg).toInt64).toInt32) → (Q (0 : Int32) S61))) ∧ (¬ (lg_cmp ((S.1 34 1 a3.toNatClampNeg).toInt64 * (S.1 34 1 (a3 + (1 : Int32)).toNatClampNeg).toInt64) (1000000000 : Int64)) ≤ 0 → (Q (4 : Int32) S)))))) ∧ (a1 = (11 : Int32) → ((¬ (lg_cmp (S.1 34 1 (a3 + (1 : Int32)).toNatClampNeg).toInt64 (0 : Int64)) = 0 → ((¬ (S.1 34 1 (a3 + (1 : Int32)).toNatClampNeg).toInt64 = 0) ∧ (((lg_cmp ((S.1 34 1 a3.toNatClampNeg).toInt64 / (S.1 34 1 (a3 + (1 : Int32)).toNatClampNeg).toInt64) (-1000000000 : Int64)) < 0 → (Q (4 : Int32) S)) ∧ (¬ (lg_cmp ((S.1 34 1 a3.toNatClampNeg).toInt64 / (S.1 34 1 (a3 + (1 : Int32)).toNatClampNeg).toInt64) (-1000000000 : Int64)) < 0 → (((lg_cmp ((S.1 34 1 a3.toNatClampNeg).toInt64 / (S.1 34 1 (a3 + (1 : Int32)).toNatClampNeg).toInt64) (1000000000 : Int64)) ≤ 0 → (∀ S67 : hs_S, S67 = (hs_wI S 4 1 9 ((S.1 34 1 a3.toNatClampNeg).toInt64 / (S.1 34 1 (a3 + (1 : Int32)).toNatClampNeg).toInt64).toInt32) → (Q (0 : Int32) S67))) ∧ (¬ (lg_cmp ((S.1 34 1 a3.toNatClampNeg).toInt64 / (S.1 34 1 (a3 + (1 : Int32)).toNatClampNeg).toInt64) (1000000000 : Int64)) ≤ 0 → (Q (4 : Int32) S))))))) ∧ ((lg_cmp (S.1 34 1 (a3 + (1 : Int32)).toNatClampNeg).toInt64 (0 : Int64)) = 0 → (Q (3 : Int32) S)))) ∧ (a1 = (12 : Int32) → (∀ x69 : Int64, x69 = (if 0 ≤ (lg_cmp (S.1 34 1 a3.toNatClampNeg).toInt64 (S.1 34 1 (a3 + (1 : Int32)).toNatClampNeg).toInt64) then (S.1 34 1 (a3 + (1 : Int32)).toNatClampNeg).toInt64 else (S.1 34 1 a3.toNatClampNeg).toInt64) → (((lg_cmp x69 (-1000000000 : Int64)) < 0 → (Q (4 : Int32) S)) ∧ (¬ (lg_cmp x69 (-1000000000 : Int64)) < 0 → (((lg_cmp x69 (1000000000 : Int64)) ≤ 0 → (∀ S72 : hs_S, S72 = (hs_wI S 4 1 9 x69.toInt32) → (Q (0 : Int32) S72))) ∧ (¬ (lg_cmp x69 (1000000000 : Int64)) ≤ 0 → (Q (4 : Int32) S))))))) ∧ (a1 = (13 : Int32) → (∀ x77 : Int64, x77 = (if (lg_cmp (S.1 34 1 a3.toNatClampNeg).toInt64 (S.1 34 1 (a3 + (1 : Int32)).toNatClampNeg).toInt64) ≤ 0 then (S.1 34 1 (a3 + (1 : Int32)).toNatClampNeg).toInt64 else (S.1 34 1 a3.toNatClampNeg).toInt64) → (((lg_cmp x77 (-1000000000 : Int64)) < 0 → (Q (4 : Int32) S)) ∧ (¬ (lg_cmp x77 (-1000000000 : Int64)) < 0 → (((lg_cmp x77 (1000000000 : Int64)) ≤ 0 → (∀ S80 : hs_S, S80 = (hs_wI S 4 1 9 x77.toInt32) → (Q (0 : Int32) S80))) ∧ (¬ (lg_cmp x77 (1000000000 : Int64)) ≤ 0 → (Q (4 : Int32) S))))))) ∧ (a1 = (14 : Int32) → (∀ x85 : Int64, x85 = (if (lg_cmp (S.1 34 1 a3.toNatClampNeg).toInt64 (0 : Int64)) ≤ 0 then (S.1 34 1 (a3 + (2 : Int32)).toNatClampNeg).toInt64 else (S.1 34 1 (a3 + (1 : Int32)).toNatClampNeg).toInt64) → (((lg_cmp x85 (-1000000000 : Int64)) < 0 → (Q (4 : Int32) S)) ∧ (¬ (lg_cmp x85 (-1000000000 : Int64)) < 0 → (((lg_cmp x85 (1000000000 : Int64)) ≤ 0 → (∀ S88 : hs_S, S88 = (hs_wI S 4 1 9 x85.toInt32) → (Q (0 : Int32) S88))) ∧ (¬ (lg_cmp x85 (1000000000 : Int64)) ≤ 0 → (Q (4 : Int32) S))))))) ∧ (a1.toInt < 0 ∨ 14 < a1.toInt → ((0 ≤ a1.toInt ∧ a1.toInt < 8) ∧ ((0 ≤ a2.toInt ∧ a2.toInt < 4) ∧ (((lg_cmp (S.1 33 (a1.toNatClampNeg + 1) a2.toNatClampNeg).toInt64 (-1000000000 : Int64)) < 0 → (Q (4 : Int32) S)) ∧ (¬ (lg_cmp (S.1 33 (a1.toNatClampNeg + 1) a2.toNatClampNeg).toInt64 (-1000000000 : Int64)) < 0 → (((lg_cmp (S.1 33 (a1.toNatClampNeg + 1) a2.toNatClampNeg).toInt64 (1000000000 : Int64)) ≤ 0 → (∀ S96 : hs_S, S96 = (hs_wI S 4 1 9 (S.1 33 (a1.toNatClampNeg + 1) a2.toNatClampNeg).toInt64.toInt32) → (Q (0 : Int32) S96))) ∧ (¬ (lg_cmp (S.1 33 (a1.toNatClampNeg + 1) a2.toNatClampNeg).toInt64 (1000000000 : Int64)) ≤ 0 → (Q (4 : Int32) S))))))))))))
set_option maxRecDepth 100000 in
set_option maxHeartbeats 4000000 in
theorem ok_Fnd_reckonWord {a1 : Int32} {a2 : Int32} {a3 : Int32} {S : hs_S} {Q : Int32 → hs_S → Prop} (hw : hs_Wi S) (hv : vc_Fnd_reckonWord a1 a2 a3 S Q) : m_Fnd_reckonWord a1 a2 a3 S Q := by
  unfold vc_Fnd_reckonWord at hv
  refine hs_body (own := RX4) rfl rfl (Nat.le_of_ble_eq_true rfl) (fun Z X E N J0 => ?_)
  show wa Z 0 0 S 0 [(0, .inr (.inr (4, 1))), (1, .inl a1), (2, .inl a2), (3, .inl a3)] []
  refine wa_aload_n X 0 rfl dX4_reckonWord_0 rfl ?_
  refine wa_getfw X hw (j := 8) (r := 1) hk_4 hc_4 i_4 (by decide) kw_263 rfl rfl (by decide) rfl dX4_reckonWord_1 hs_1ne ?_
  refine wa_iload_n X 3 rfl dX4_reckonWord_4 rfl ?_
  obtain ⟨o1, hv⟩ := hv
  refine wa_iald X hk_34 dX4_reckonWord_5 hs_1ne o1 ?_
  refine wa_i2l X dX4_reckonWord_6 ?_
  refine wa_lstore X (lv' := [(4, .inr (.inl (S.1 34 1 a3.toNatClampNeg).toInt64)), (0, .inr (.inr (4, 1))), (1, .inl a1), (2, .inl a2), (3, .inl a3)]) dX4_reckonWord_7 (by decide) rfl ?_
  refine wa_aload_n X 1 rfl dX4_reckonWord_9 rfl ?_
  refine wa_getfw X hw (j := 8) (r := 1) hk_4 hc_4 i_4 (by decide) kw_263 rfl rfl (by decide) rfl dX4_reckonWord_10 hs_1ne ?_
  refine wa_iload_n X 4 rfl dX4_reckonWord_13 rfl ?_
  refine wa_iconst X dX4_reckonWord_14 kc1 ?_
  refine wa_iadd X dX4_reckonWord_15 ?_
  obtain ⟨o2, hv⟩ := hv
  refine wa_iald X hk_34 dX4_reckonWord_16 hs_1ne o2 ?_
  refine wa_i2l X dX4_reckonWord_17 ?_
  refine wa_lstore X (lv' := [(6, .inr (.inl (S.1 34 1 (a3 + (1 : Int32)).toNatClampNeg).toInt64)), (4, .inr (.inl (S.1 34 1 a3.toNatClampNeg).toInt64)), (0, .inr (.inr (4, 1))), (1, .inl a1), (2, .inl a2), (3, .inl a3)]) dX4_reckonWord_18 (by decide) rfl ?_
  refine wa_aload_n X 2 rfl dX4_reckonWord_20 rfl ?_
  refine wa_getfw X hw (j := 8) (r := 1) hk_4 hc_4 i_4 (by decide) kw_263 rfl rfl (by decide) rfl dX4_reckonWord_21 hs_1ne ?_
  refine wa_iload_n X 5 rfl dX4_reckonWord_24 rfl ?_
  refine wa_iconst X dX4_reckonWord_25 kc2 ?_
  refine wa_iadd X dX4_reckonWord_26 ?_
  obtain ⟨o3, hv⟩ := hv
  refine wa_iald X hk_34 dX4_reckonWord_27 hs_1ne o3 ?_
  refine wa_i2l X dX4_reckonWord_28 ?_
  refine wa_lstore X (lv' := [(8, .inr (.inl (S.1 34 1 (a3 + (2 : Int32)).toNatClampNeg).toInt64)), (6, .inr (.inl (S.1 34 1 (a3 + (1 : Int32)).toNatClampNeg).toInt64)), (4, .inr (.inl (S.1 34 1 a3.toNatClampNeg).toInt64)), (0, .inr (.inr (4, 1))), (1, .inl a1), (2, .inl a2), (3, .inl a3)]) dX4_reckonWord_29 (by decide) rfl ?_
  refine wa_iload_n X 4 rfl dX4_reckonWord_31 rfl ?_
  by_cases c4 : a1 = (0 : Int32)
  · replace hv := hv.1 c4
    refine wa_tableIn X (tgt := 108) dX4_reckonWord_32 (by rw [c4]; decide) (by rw [c4]; decide) (off := 76) (by rw [c4]; rfl) (by decide) ?_
    refine wa_iload_n X 5 rfl dX4_reckonWord_108 rfl ?_
    refine wa_i2l X dX4_reckonWord_109 ?_
    refine wa_lstore X (lv' := [(10, .inr (.inl a2.toInt64)), (8, .inr (.inl (S.1 34 1 (a3 + (2 : Int32)).toNatClampNeg).toInt64)), (6, .inr (.inl (S.1 34 1 (a3 + (1 : Int32)).toNatClampNeg).toInt64)), (4, .inr (.inl (S.1 34 1 a3.toNatClampNeg).toInt64)), (0, .inr (.inr (4, 1))), (1, .inl a1), (2, .inl a2), (3, .inl a3)]) dX4_reckonWord_110 (by decide) rfl ?_
    refine wa_goto X (tgt := 234) dX4_reckonWord_112 (by decide) ?_
    refine wa_lload X 0 rfl dX4_reckonWord_234 ?_
    refine wa_ldc2 X kw_780 dX4_reckonWord_236 ?_
    refine wa_lcmp X dX4_reckonWord_239 ?_
    refine wa_if_lt X (tgt := 252) dX4_reckonWord_240 (by decide) (fun c5 => ?_) (fun c5 => ?_)
    · replace hv := hv.1 c5
      refine wa_iconst X dX4_reckonWord_252 kc4 ?_
      exact wa_ireturn X E dX4_reckonWord_253 (Nat.le_of_ble_eq_true rfl) (Nat.le_of_ble_eq_true rfl) (Or.inl rfl) ⟨hw, _, rfl, hv⟩
    · replace hv := hv.2 c5
      refine wa_lload X 0 rfl dX4_reckonWord_243 ?_
      refine wa_ldc2 X kw_781 dX4_reckonWord_245 ?_
      refine wa_lcmp X dX4_reckonWord_248 ?_
      refine wa_if_le X (tgt := 254) dX4_reckonWord_249 (by decide) (fun c6 => ?_) (fun c6 => ?_)
      · replace hv := hv.1 c6
        refine wa_aload_n X 4 rfl dX4_reckonWord_254 rfl ?_
        refine wa_lload X 0 rfl dX4_reckonWord_255 ?_
        refine wa_l2i X dX4_reckonWord_257 ?_
        refine wa_putI X (j := 9) hk_4 hc_4 i_4 tyX4 tyX4_ok nmX4 (by decide) kw_264 rfl rfl dX4_reckonWord_258 hs_1ne ⟨rfl, Or.inl rfl⟩ (hs_eqS fun S7 hS7 => ?_)
        replace hv := hv S7 hS7
        replace hw : hs_Wi S7 := hS7 ▸ hs_Wi_I hw
        refine wa_iconst X dX4_reckonWord_261 kc0 ?_
        exact wa_ireturn X E dX4_reckonWord_262 (Nat.le_of_ble_eq_true rfl) (Nat.le_of_ble_eq_true rfl) (Or.inl rfl) ⟨hw, _, rfl, hv⟩
      · replace hv := hv.2 c6
        refine wa_iconst X dX4_reckonWord_252 kc4 ?_
        exact wa_ireturn X E dX4_reckonWord_253 (Nat.le_of_ble_eq_true rfl) (Nat.le_of_ble_eq_true rfl) (Or.inl rfl) ⟨hw, _, rfl, hv⟩
  replace hv := hv.2
  by_cases c8 : a1 = (1 : Int32)
  · replace hv := hv.1 c8
    refine wa_tableIn X (tgt := 223) dX4_reckonWord_32 (by rw [c8]; decide) (by rw [c8]; decide) (off := 191) (by rw [c8]; rfl) (by decide) ?_
    refine wa_aload_n X 3 rfl dX4_reckonWord_223 rfl ?_
    refine wa_getfw X hw (j := 7) (r := 1) hk_4 hc_4 i_4 (by decide) kw_262 rfl rfl (by decide) rfl dX4_reckonWord_224 hs_1ne ?_
    refine wa_iload_n X 4 rfl dX4_reckonWord_227 rfl ?_
    obtain ⟨o9, hv⟩ := hv
    refine wa_aaldw X hw dX4_reckonWord_228 o9 ?_
    refine wa_iload_n X 5 rfl dX4_reckonWord_229 rfl ?_
    obtain ⟨o10, hv⟩ := hv
    refine wa_iald X hk_33 dX4_reckonWord_230 (hs_sne _) o10 ?_
    refine wa_i2l X dX4_reckonWord_231 ?_
    refine wa_lstore X (lv' := [(10, .inr (.inl (S.1 33 (a1.toNatClampNeg + 1) a2.toNatClampNeg).toInt64)), (8, .inr (.inl (S.1 34 1 (a3 + (2 : Int32)).toNatClampNeg).toInt64)), (6, .inr (.inl (S.1 34 1 (a3 + (1 : Int32)).toNatClampNeg).toInt64)), (4, .inr (.inl (S.1 34 1 a3.toNatClampNeg).toInt64)), (0, .inr (.inr (4, 1))), (1, .inl a1), (2, .inl a2), (3, .inl a3)]) dX4_reckonWord_232 (by decide) rfl ?_
    refine wa_lload X 0 rfl dX4_reckonWord_234 ?_
    refine wa_ldc2 X kw_780 dX4_reckonWord_236 ?_
    refine wa_lcmp X dX4_reckonWord_239 ?_
    refine wa_if_lt X (tgt := 252) dX4_reckonWord_240 (by decide) (fun c11 => ?_) (fun c11 => ?_)
    · replace hv := hv.1 c11
      refine wa_iconst X dX4_reckonWord_252 kc4 ?_
      exact wa_ireturn X E dX4_reckonWord_253 (Nat.le_of_ble_eq_true rfl) (Nat.le_of_ble_eq_true rfl) (Or.inl rfl) ⟨hw, _, rfl, hv⟩
    · replace hv := hv.2 c11
      refine wa_lload X 0 rfl dX4_reckonWord_243 ?_
      refine wa_ldc2 X kw_781 dX4_reckonWord_245 ?_
      refine wa_lcmp X dX4_reckonWord_248 ?_
      refine wa_if_le X (tgt := 254) dX4_reckonWord_249 (by decide) (fun c12 => ?_) (fun c12 => ?_)
      · replace hv := hv.1 c12
        refine wa_aload_n X 4 rfl dX4_reckonWord_254 rfl ?_
        refine wa_lload X 0 rfl dX4_reckonWord_255 ?_
        refine wa_l2i X dX4_reckonWord_257 ?_
        refine wa_putI X (j := 9) hk_4 hc_4 i_4 tyX4 tyX4_ok nmX4 (by decide) kw_264 rfl rfl dX4_reckonWord_258 hs_1ne ⟨rfl, Or.inl rfl⟩ (hs_eqS fun S13 hS13 => ?_)
        replace hv := hv S13 hS13
        replace hw : hs_Wi S13 := hS13 ▸ hs_Wi_I hw
        refine wa_iconst X dX4_reckonWord_261 kc0 ?_
        exact wa_ireturn X E dX4_reckonWord_262 (Nat.le_of_ble_eq_true rfl) (Nat.le_of_ble_eq_true rfl) (Or.inl rfl) ⟨hw, _, rfl, hv⟩
      · replace hv := hv.2 c12
        refine wa_iconst X dX4_reckonWord_252 kc4 ?_
        exact wa_ireturn X E dX4_reckonWord_253 (Nat.le_of_ble_eq_true rfl) (Nat.le_of_ble_eq_true rfl) (Or.inl rfl) ⟨hw, _, rfl, hv⟩
  replace hv := hv.2
  by_cases c14 : a1 = (2 : Int32)
  · replace hv := hv.1 c14
    refine wa_tableIn X (tgt := 223) dX4_reckonWord_32 (by rw [c14]; decide) (by rw [c14]; decide) (off := 191) (by rw [c14]; rfl) (by decide) ?_
    refine wa_aload_n X 3 rfl dX4_reckonWord_223 rfl ?_
    refine wa_getfw X hw (j := 7) (r := 1) hk_4 hc_4 i_4 (by decide) kw_262 rfl rfl (by decide) rfl dX4_reckonWord_224 hs_1ne ?_
    refine wa_iload_n X 4 rfl dX4_reckonWord_227 rfl ?_
    obtain ⟨o15, hv⟩ := hv
    refine wa_aaldw X hw dX4_reckonWord_228 o15 ?_
    refine wa_iload_n X 5 rfl dX4_reckonWord_229 rfl ?_
    obtain ⟨o16, hv⟩ := hv
    refine wa_iald X hk_33 dX4_reckonWord_230 (hs_sne _) o16 ?_
    refine wa_i2l X dX4_reckonWord_231 ?_
    refine wa_lstore X (lv' := [(10, .inr (.inl (S.1 33 (a1.toNatClampNeg + 1) a2.toNatClampNeg).toInt64)), (8, .inr (.inl (S.1 34 1 (a3 + (2 : Int32)).toNatClampNeg).toInt64)), (6, .inr (.inl (S.1 34 1 (a3 + (1 : Int32)).toNatClampNeg).toInt64)), (4, .inr (.inl (S.1 34 1 a3.toNatClampNeg).toInt64)), (0, .inr (.inr (4, 1))), (1, .inl a1), (2, .inl a2), (3, .inl a3)]) dX4_reckonWord_232 (by decide) rfl ?_
    refine wa_lload X 0 rfl dX4_reckonWord_234 ?_
    refine wa_ldc2 X kw_780 dX4_reckonWord_236 ?_
    refine wa_lcmp X dX4_reckonWord_239 ?_
    refine wa_if_lt X (tgt := 252) dX4_reckonWord_240 (by decide) (fun c17 => ?_) (fun c17 => ?_)
    · replace hv := hv.1 c17
      refine wa_iconst X dX4_reckonWord_252 kc4 ?_
      exact wa_ireturn X E dX4_reckonWord_253 (Nat.le_of_ble_eq_true rfl) (Nat.le_of_ble_eq_true rfl) (Or.inl rfl) ⟨hw, _, rfl, hv⟩
    · replace hv := hv.2 c17
      refine wa_lload X 0 rfl dX4_reckonWord_243 ?_
      refine wa_ldc2 X kw_781 dX4_reckonWord_245 ?_
      refine wa_lcmp X dX4_reckonWord_248 ?_
      refine wa_if_le X (tgt := 254) dX4_reckonWord_249 (by decide) (fun c18 => ?_) (fun c18 => ?_)
      · replace hv := hv.1 c18
        refine wa_aload_n X 4 rfl dX4_reckonWord_254 rfl ?_
        refine wa_lload X 0 rfl dX4_reckonWord_255 ?_
        refine wa_l2i X dX4_reckonWord_257 ?_
        refine wa_putI X (j := 9) hk_4 hc_4 i_4 tyX4 tyX4_ok nmX4 (by decide) kw_264 rfl rfl dX4_reckonWord_258 hs_1ne ⟨rfl, Or.inl rfl⟩ (hs_eqS fun S19 hS19 => ?_)
        replace hv := hv S19 hS19
        replace hw : hs_Wi S19 := hS19 ▸ hs_Wi_I hw
        refine wa_iconst X dX4_reckonWord_261 kc0 ?_
        exact wa_ireturn X E dX4_reckonWord_262 (Nat.le_of_ble_eq_true rfl) (Nat.le_of_ble_eq_true rfl) (Or.inl rfl) ⟨hw, _, rfl, hv⟩
      · replace hv := hv.2 c18
        refine wa_iconst X dX4_reckonWord_252 kc4 ?_
        exact wa_ireturn X E dX4_reckonWord_253 (Nat.le_of_ble_eq_true rfl) (Nat.le_of_ble_eq_true rfl) (Or.inl rfl) ⟨hw, _, rfl, hv⟩
  replace hv := hv.2
  by_cases c20 : a1 = (3 : Int32)
  · replace hv := hv.1 c20
    refine wa_tableIn X (tgt := 223) dX4_reckonWord_32 (by rw [c20]; decide) (by rw [c20]; decide) (off := 191) (by rw [c20]; rfl) (by decide) ?_
    refine wa_aload_n X 3 rfl dX4_reckonWord_223 rfl ?_
    refine wa_getfw X hw (j := 7) (r := 1) hk_4 hc_4 i_4 (by decide) kw_262 rfl rfl (by decide) rfl dX4_reckonWord_224 hs_1ne ?_
    refine wa_iload_n X 4 rfl dX4_reckonWord_227 rfl ?_
    obtain ⟨o21, hv⟩ := hv
    refine wa_aaldw X hw dX4_reckonWord_228 o21 ?_
    refine wa_iload_n X 5 rfl dX4_reckonWord_229 rfl ?_
    obtain ⟨o22, hv⟩ := hv
    refine wa_iald X hk_33 dX4_reckonWord_230 (hs_sne _) o22 ?_
    refine wa_i2l X dX4_reckonWord_231 ?_
    refine wa_lstore X (lv' := [(10, .inr (.inl (S.1 33 (a1.toNatClampNeg + 1) a2.toNatClampNeg).toInt64)), (8, .inr (.inl (S.1 34 1 (a3 + (2 : Int32)).toNatClampNeg).toInt64)), (6, .inr (.inl (S.1 34 1 (a3 + (1 : Int32)).toNatClampNeg).toInt64)), (4, .inr (.inl (S.1 34 1 a3.toNatClampNeg).toInt64)), (0, .inr (.inr (4, 1))), (1, .inl a1), (2, .inl a2), (3, .inl a3)]) dX4_reckonWord_232 (by decide) rfl ?_
    refine wa_lload X 0 rfl dX4_reckonWord_234 ?_
    refine wa_ldc2 X kw_780 dX4_reckonWord_236 ?_
    refine wa_lcmp X dX4_reckonWord_239 ?_
    refine wa_if_lt X (tgt := 252) dX4_reckonWord_240 (by decide) (fun c23 => ?_) (fun c23 => ?_)
    · replace hv := hv.1 c23
      refine wa_iconst X dX4_reckonWord_252 kc4 ?_
      exact wa_ireturn X E dX4_reckonWord_253 (Nat.le_of_ble_eq_true rfl) (Nat.le_of_ble_eq_true rfl) (Or.inl rfl) ⟨hw, _, rfl, hv⟩
    · replace hv := hv.2 c23
      refine wa_lload X 0 rfl dX4_reckonWord_243 ?_
      refine wa_ldc2 X kw_781 dX4_reckonWord_245 ?_
      refine wa_lcmp X dX4_reckonWord_248 ?_
      refine wa_if_le X (tgt := 254) dX4_reckonWord_249 (by decide) (fun c24 => ?_) (fun c24 => ?_)
      · replace hv := hv.1 c24
        refine wa_aload_n X 4 rfl dX4_reckonWord_254 rfl ?_
        refine wa_lload X 0 rfl dX4_reckonWord_255 ?_
        refine wa_l2i X dX4_reckonWord_257 ?_
        refine wa_putI X (j := 9) hk_4 hc_4 i_4 tyX4 tyX4_ok nmX4 (by decide) kw_264 rfl rfl dX4_reckonWord_258 hs_1ne ⟨rfl, Or.inl rfl⟩ (hs_eqS fun S25 hS25 => ?_)
        replace hv := hv S25 hS25
        replace hw : hs_Wi S25 := hS25 ▸ hs_Wi_I hw
        refine wa_iconst X dX4_reckonWord_261 kc0 ?_
        exact wa_ireturn X E dX4_reckonWord_262 (Nat.le_of_ble_eq_true rfl) (Nat.le_of_ble_eq_true rfl) (Or.inl rfl) ⟨hw, _, rfl, hv⟩
      · replace hv := hv.2 c24
        refine wa_iconst X dX4_reckonWord_252 kc4 ?_
        exact wa_ireturn X E dX4_reckonWord_253 (Nat.le_of_ble_eq_true rfl) (Nat.le_of_ble_eq_true rfl) (Or.inl rfl) ⟨hw, _, rfl, hv⟩
  replace hv := hv.2
  by_cases c26 : a1 = (4 : Int32)
  · replace hv := hv.1 c26
    refine wa_tableIn X (tgt := 223) dX4_reckonWord_32 (by rw [c26]; decide) (by rw [c26]; decide) (off := 191) (by rw [c26]; rfl) (by decide) ?_
    refine wa_aload_n X 3 rfl dX4_reckonWord_223 rfl ?_
    refine wa_getfw X hw (j := 7) (r := 1) hk_4 hc_4 i_4 (by decide) kw_262 rfl rfl (by decide) rfl dX4_reckonWord_224 hs_1ne ?_
    refine wa_iload_n X 4 rfl dX4_reckonWord_227 rfl ?_
    obtain ⟨o27, hv⟩ := hv
    refine wa_aaldw X hw dX4_reckonWord_228 o27 ?_
    refine wa_iload_n X 5 rfl dX4_reckonWord_229 rfl ?_
    obtain ⟨o28, hv⟩ := hv
    refine wa_iald X hk_33 dX4_reckonWord_230 (hs_sne _) o28 ?_
    refine wa_i2l X dX4_reckonWord_231 ?_
    refine wa_lstore X (lv' := [(10, .inr (.inl (S.1 33 (a1.toNatClampNeg + 1) a2.toNatClampNeg).toInt64)), (8, .inr (.inl (S.1 34 1 (a3 + (2 : Int32)).toNatClampNeg).toInt64)), (6, .inr (.inl (S.1 34 1 (a3 + (1 : Int32)).toNatClampNeg).toInt64)), (4, .inr (.inl (S.1 34 1 a3.toNatClampNeg).toInt64)), (0, .inr (.inr (4, 1))), (1, .inl a1), (2, .inl a2), (3, .inl a3)]) dX4_reckonWord_232 (by decide) rfl ?_
    refine wa_lload X 0 rfl dX4_reckonWord_234 ?_
    refine wa_ldc2 X kw_780 dX4_reckonWord_236 ?_
    refine wa_lcmp X dX4_reckonWord_239 ?_
    refine wa_if_lt X (tgt := 252) dX4_reckonWord_240 (by decide) (fun c29 => ?_) (fun c29 => ?_)
    · replace hv := hv.1 c29
      refine wa_iconst X dX4_reckonWord_252 kc4 ?_
      exact wa_ireturn X E dX4_reckonWord_253 (Nat.le_of_ble_eq_true rfl) (Nat.le_of_ble_eq_true rfl) (Or.inl rfl) ⟨hw, _, rfl, hv⟩
    · replace hv := hv.2 c29
      refine wa_lload X 0 rfl dX4_reckonWord_243 ?_
      refine wa_ldc2 X kw_781 dX4_reckonWord_245 ?_
      refine wa_lcmp X dX4_reckonWord_248 ?_
      refine wa_if_le X (tgt := 254) dX4_reckonWord_249 (by decide) (fun c30 => ?_) (fun c30 => ?_)
      · replace hv := hv.1 c30
        refine wa_aload_n X 4 rfl dX4_reckonWord_254 rfl ?_
        refine wa_lload X 0 rfl dX4_reckonWord_255 ?_
        refine wa_l2i X dX4_reckonWord_257 ?_
        refine wa_putI X (j := 9) hk_4 hc_4 i_4 tyX4 tyX4_ok nmX4 (by decide) kw_264 rfl rfl dX4_reckonWord_258 hs_1ne ⟨rfl, Or.inl rfl⟩ (hs_eqS fun S31 hS31 => ?_)
        replace hv := hv S31 hS31
        replace hw : hs_Wi S31 := hS31 ▸ hs_Wi_I hw
        refine wa_iconst X dX4_reckonWord_261 kc0 ?_
        exact wa_ireturn X E dX4_reckonWord_262 (Nat.le_of_ble_eq_true rfl) (Nat.le_of_ble_eq_true rfl) (Or.inl rfl) ⟨hw, _, rfl, hv⟩
      · replace hv := hv.2 c30
        refine wa_iconst X dX4_reckonWord_252 kc4 ?_
        exact wa_ireturn X E dX4_reckonWord_253 (Nat.le_of_ble_eq_true rfl) (Nat.le_of_ble_eq_true rfl) (Or.inl rfl) ⟨hw, _, rfl, hv⟩
  replace hv := hv.2
  by_cases c32 : a1 = (5 : Int32)
  · replace hv := hv.1 c32
    refine wa_tableIn X (tgt := 223) dX4_reckonWord_32 (by rw [c32]; decide) (by rw [c32]; decide) (off := 191) (by rw [c32]; rfl) (by decide) ?_
    refine wa_aload_n X 3 rfl dX4_reckonWord_223 rfl ?_
    refine wa_getfw X hw (j := 7) (r := 1) hk_4 hc_4 i_4 (by decide) kw_262 rfl rfl (by decide) rfl dX4_reckonWord_224 hs_1ne ?_
    refine wa_iload_n X 4 rfl dX4_reckonWord_227 rfl ?_
    obtain ⟨o33, hv⟩ := hv
    refine wa_aaldw X hw dX4_reckonWord_228 o33 ?_
    refine wa_iload_n X 5 rfl dX4_reckonWord_229 rfl ?_
    obtain ⟨o34, hv⟩ := hv
    refine wa_iald X hk_33 dX4_reckonWord_230 (hs_sne _) o34 ?_
    refine wa_i2l X dX4_reckonWord_231 ?_
    refine wa_lstore X (lv' := [(10, .inr (.inl (S.1 33 (a1.toNatClampNeg + 1) a2.toNatClampNeg).toInt64)), (8, .inr (.inl (S.1 34 1 (a3 + (2 : Int32)).toNatClampNeg).toInt64)), (6, .inr (.inl (S.1 34 1 (a3 + (1 : Int32)).toNatClampNeg).toInt64)), (4, .inr (.inl (S.1 34 1 a3.toNatClampNeg).toInt64)), (0, .inr (.inr (4, 1))), (1, .inl a1), (2, .inl a2), (3, .inl a3)]) dX4_reckonWord_232 (by decide) rfl ?_
    refine wa_lload X 0 rfl dX4_reckonWord_234 ?_
    refine wa_ldc2 X kw_780 dX4_reckonWord_236 ?_
    refine wa_lcmp X dX4_reckonWord_239 ?_
    refine wa_if_lt X (tgt := 252) dX4_reckonWord_240 (by decide) (fun c35 => ?_) (fun c35 => ?_)
    · replace hv := hv.1 c35
      refine wa_iconst X dX4_reckonWord_252 kc4 ?_
      exact wa_ireturn X E dX4_reckonWord_253 (Nat.le_of_ble_eq_true rfl) (Nat.le_of_ble_eq_true rfl) (Or.inl rfl) ⟨hw, _, rfl, hv⟩
    · replace hv := hv.2 c35
      refine wa_lload X 0 rfl dX4_reckonWord_243 ?_
      refine wa_ldc2 X kw_781 dX4_reckonWord_245 ?_
      refine wa_lcmp X dX4_reckonWord_248 ?_
      refine wa_if_le X (tgt := 254) dX4_reckonWord_249 (by decide) (fun c36 => ?_) (fun c36 => ?_)
      · replace hv := hv.1 c36
        refine wa_aload_n X 4 rfl dX4_reckonWord_254 rfl ?_
        refine wa_lload X 0 rfl dX4_reckonWord_255 ?_
        refine wa_l2i X dX4_reckonWord_257 ?_
        refine wa_putI X (j := 9) hk_4 hc_4 i_4 tyX4 tyX4_ok nmX4 (by decide) kw_264 rfl rfl dX4_reckonWord_258 hs_1ne ⟨rfl, Or.inl rfl⟩ (hs_eqS fun S37 hS37 => ?_)
        replace hv := hv S37 hS37
        replace hw : hs_Wi S37 := hS37 ▸ hs_Wi_I hw
        refine wa_iconst X dX4_reckonWord_261 kc0 ?_
        exact wa_ireturn X E dX4_reckonWord_262 (Nat.le_of_ble_eq_true rfl) (Nat.le_of_ble_eq_true rfl) (Or.inl rfl) ⟨hw, _, rfl, hv⟩
      · replace hv := hv.2 c36
        refine wa_iconst X dX4_reckonWord_252 kc4 ?_
        exact wa_ireturn X E dX4_reckonWord_253 (Nat.le_of_ble_eq_true rfl) (Nat.le_of_ble_eq_true rfl) (Or.inl rfl) ⟨hw, _, rfl, hv⟩
  replace hv := hv.2
  by_cases c38 : a1 = (6 : Int32)
  · replace hv := hv.1 c38
    refine wa_tableIn X (tgt := 223) dX4_reckonWord_32 (by rw [c38]; decide) (by rw [c38]; decide) (off := 191) (by rw [c38]; rfl) (by decide) ?_
    refine wa_aload_n X 3 rfl dX4_reckonWord_223 rfl ?_
    refine wa_getfw X hw (j := 7) (r := 1) hk_4 hc_4 i_4 (by decide) kw_262 rfl rfl (by decide) rfl dX4_reckonWord_224 hs_1ne ?_
    refine wa_iload_n X 4 rfl dX4_reckonWord_227 rfl ?_
    obtain ⟨o39, hv⟩ := hv
    refine wa_aaldw X hw dX4_reckonWord_228 o39 ?_
    refine wa_iload_n X 5 rfl dX4_reckonWord_229 rfl ?_
    obtain ⟨o40, hv⟩ := hv
    refine wa_iald X hk_33 dX4_reckonWord_230 (hs_sne _) o40 ?_
    refine wa_i2l X dX4_reckonWord_231 ?_
    refine wa_lstore X (lv' := [(10, .inr (.inl (S.1 33 (a1.toNatClampNeg + 1) a2.toNatClampNeg).toInt64)), (8, .inr (.inl (S.1 34 1 (a3 + (2 : Int32)).toNatClampNeg).toInt64)), (6, .inr (.inl (S.1 34 1 (a3 + (1 : Int32)).toNatClampNeg).toInt64)), (4, .inr (.inl (S.1 34 1 a3.toNatClampNeg).toInt64)), (0, .inr (.inr (4, 1))), (1, .inl a1), (2, .inl a2), (3, .inl a3)]) dX4_reckonWord_232 (by decide) rfl ?_
    refine wa_lload X 0 rfl dX4_reckonWord_234 ?_
    refine wa_ldc2 X kw_780 dX4_reckonWord_236 ?_
    refine wa_lcmp X dX4_reckonWord_239 ?_
    refine wa_if_lt X (tgt := 252) dX4_reckonWord_240 (by decide) (fun c41 => ?_) (fun c41 => ?_)
    · replace hv := hv.1 c41
      refine wa_iconst X dX4_reckonWord_252 kc4 ?_
      exact wa_ireturn X E dX4_reckonWord_253 (Nat.le_of_ble_eq_true rfl) (Nat.le_of_ble_eq_true rfl) (Or.inl rfl) ⟨hw, _, rfl, hv⟩
    · replace hv := hv.2 c41
      refine wa_lload X 0 rfl dX4_reckonWord_243 ?_
      refine wa_ldc2 X kw_781 dX4_reckonWord_245 ?_
      refine wa_lcmp X dX4_reckonWord_248 ?_
      refine wa_if_le X (tgt := 254) dX4_reckonWord_249 (by decide) (fun c42 => ?_) (fun c42 => ?_)
      · replace hv := hv.1 c42
        refine wa_aload_n X 4 rfl dX4_reckonWord_254 rfl ?_
        refine wa_lload X 0 rfl dX4_reckonWord_255 ?_
        refine wa_l2i X dX4_reckonWord_257 ?_
        refine wa_putI X (j := 9) hk_4 hc_4 i_4 tyX4 tyX4_ok nmX4 (by decide) kw_264 rfl rfl dX4_reckonWord_258 hs_1ne ⟨rfl, Or.inl rfl⟩ (hs_eqS fun S43 hS43 => ?_)
        replace hv := hv S43 hS43
        replace hw : hs_Wi S43 := hS43 ▸ hs_Wi_I hw
        refine wa_iconst X dX4_reckonWord_261 kc0 ?_
        exact wa_ireturn X E dX4_reckonWord_262 (Nat.le_of_ble_eq_true rfl) (Nat.le_of_ble_eq_true rfl) (Or.inl rfl) ⟨hw, _, rfl, hv⟩
      · replace hv := hv.2 c42
        refine wa_iconst X dX4_reckonWord_252 kc4 ?_
        exact wa_ireturn X E dX4_reckonWord_253 (Nat.le_of_ble_eq_true rfl) (Nat.le_of_ble_eq_true rfl) (Or.inl rfl) ⟨hw, _, rfl, hv⟩
  replace hv := hv.2
  by_cases c44 : a1 = (7 : Int32)
  · replace hv := hv.1 c44
    refine wa_tableIn X (tgt := 223) dX4_reckonWord_32 (by rw [c44]; decide) (by rw [c44]; decide) (off := 191) (by rw [c44]; rfl) (by decide) ?_
    refine wa_aload_n X 3 rfl dX4_reckonWord_223 rfl ?_
    refine wa_getfw X hw (j := 7) (r := 1) hk_4 hc_4 i_4 (by decide) kw_262 rfl rfl (by decide) rfl dX4_reckonWord_224 hs_1ne ?_
    refine wa_iload_n X 4 rfl dX4_reckonWord_227 rfl ?_
    obtain ⟨o45, hv⟩ := hv
    refine wa_aaldw X hw dX4_reckonWord_228 o45 ?_
    refine wa_iload_n X 5 rfl dX4_reckonWord_229 rfl ?_
    obtain ⟨o46, hv⟩ := hv
    refine wa_iald X hk_33 dX4_reckonWord_230 (hs_sne _) o46 ?_
    refine wa_i2l X dX4_reckonWord_231 ?_
    refine wa_lstore X (lv' := [(10, .inr (.inl (S.1 33 (a1.toNatClampNeg + 1) a2.toNatClampNeg).toInt64)), (8, .inr (.inl (S.1 34 1 (a3 + (2 : Int32)).toNatClampNeg).toInt64)), (6, .inr (.inl (S.1 34 1 (a3 + (1 : Int32)).toNatClampNeg).toInt64)), (4, .inr (.inl (S.1 34 1 a3.toNatClampNeg).toInt64)), (0, .inr (.inr (4, 1))), (1, .inl a1), (2, .inl a2), (3, .inl a3)]) dX4_reckonWord_232 (by decide) rfl ?_
    refine wa_lload X 0 rfl dX4_reckonWord_234 ?_
    refine wa_ldc2 X kw_780 dX4_reckonWord_236 ?_
    refine wa_lcmp X dX4_reckonWord_239 ?_
    refine wa_if_lt X (tgt := 252) dX4_reckonWord_240 (by decide) (fun c47 => ?_) (fun c47 => ?_)
    · replace hv := hv.1 c47
      refine wa_iconst X dX4_reckonWord_252 kc4 ?_
      exact wa_ireturn X E dX4_reckonWord_253 (Nat.le_of_ble_eq_true rfl) (Nat.le_of_ble_eq_true rfl) (Or.inl rfl) ⟨hw, _, rfl, hv⟩
    · replace hv := hv.2 c47
      refine wa_lload X 0 rfl dX4_reckonWord_243 ?_
      refine wa_ldc2 X kw_781 dX4_reckonWord_245 ?_
      refine wa_lcmp X dX4_reckonWord_248 ?_
      refine wa_if_le X (tgt := 254) dX4_reckonWord_249 (by decide) (fun c48 => ?_) (fun c48 => ?_)
      · replace hv := hv.1 c48
        refine wa_aload_n X 4 rfl dX4_reckonWord_254 rfl ?_
        refine wa_lload X 0 rfl dX4_reckonWord_255 ?_
        refine wa_l2i X dX4_reckonWord_257 ?_
        refine wa_putI X (j := 9) hk_4 hc_4 i_4 tyX4 tyX4_ok nmX4 (by decide) kw_264 rfl rfl dX4_reckonWord_258 hs_1ne ⟨rfl, Or.inl rfl⟩ (hs_eqS fun S49 hS49 => ?_)
        replace hv := hv S49 hS49
        replace hw : hs_Wi S49 := hS49 ▸ hs_Wi_I hw
        refine wa_iconst X dX4_reckonWord_261 kc0 ?_
        exact wa_ireturn X E dX4_reckonWord_262 (Nat.le_of_ble_eq_true rfl) (Nat.le_of_ble_eq_true rfl) (Or.inl rfl) ⟨hw, _, rfl, hv⟩
      · replace hv := hv.2 c48
        refine wa_iconst X dX4_reckonWord_252 kc4 ?_
        exact wa_ireturn X E dX4_reckonWord_253 (Nat.le_of_ble_eq_true rfl) (Nat.le_of_ble_eq_true rfl) (Or.inl rfl) ⟨hw, _, rfl, hv⟩
  replace hv := hv.2
  by_cases c50 : a1 = (8 : Int32)
  · replace hv := hv.1 c50
    refine wa_tableIn X (tgt := 115) dX4_reckonWord_32 (by rw [c50]; decide) (by rw [c50]; decide) (off := 83) (by rw [c50]; rfl) (by decide) ?_
    refine wa_lload X 2 rfl dX4_reckonWord_115 ?_
    refine wa_lload X 1 rfl dX4_reckonWord_117 ?_
    refine wa_ladd X dX4_reckonWord_119 ?_
    refine wa_lstore X (lv' := [(10, .inr (.inl ((S.1 34 1 a3.toNatClampNeg).toInt64 + (S.1 34 1 (a3 + (1 : Int32)).toNatClampNeg).toInt64))), (8, .inr (.inl (S.1 34 1 (a3 + (2 : Int32)).toNatClampNeg).toInt64)), (6, .inr (.inl (S.1 34 1 (a3 + (1 : Int32)).toNatClampNeg).toInt64)), (4, .inr (.inl (S.1 34 1 a3.toNatClampNeg).toInt64)), (0, .inr (.inr (4, 1))), (1, .inl a1), (2, .inl a2), (3, .inl a3)]) dX4_reckonWord_120 (by decide) rfl ?_
    refine wa_goto X (tgt := 234) dX4_reckonWord_122 (by decide) ?_
    refine wa_lload X 0 rfl dX4_reckonWord_234 ?_
    refine wa_ldc2 X kw_780 dX4_reckonWord_236 ?_
    refine wa_lcmp X dX4_reckonWord_239 ?_
    refine wa_if_lt X (tgt := 252) dX4_reckonWord_240 (by decide) (fun c51 => ?_) (fun c51 => ?_)
    · replace hv := hv.1 c51
      refine wa_iconst X dX4_reckonWord_252 kc4 ?_
      exact wa_ireturn X E dX4_reckonWord_253 (Nat.le_of_ble_eq_true rfl) (Nat.le_of_ble_eq_true rfl) (Or.inl rfl) ⟨hw, _, rfl, hv⟩
    · replace hv := hv.2 c51
      refine wa_lload X 0 rfl dX4_reckonWord_243 ?_
      refine wa_ldc2 X kw_781 dX4_reckonWord_245 ?_
      refine wa_lcmp X dX4_reckonWord_248 ?_
      refine wa_if_le X (tgt := 254) dX4_reckonWord_249 (by decide) (fun c52 => ?_) (fun c52 => ?_)
      · replace hv := hv.1 c52
        refine wa_aload_n X 4 rfl dX4_reckonWord_254 rfl ?_
        refine wa_lload X 0 rfl dX4_reckonWord_255 ?_
        refine wa_l2i X dX4_reckonWord_257 ?_
        refine wa_putI X (j := 9) hk_4 hc_4 i_4 tyX4 tyX4_ok nmX4 (by decide) kw_264 rfl rfl dX4_reckonWord_258 hs_1ne ⟨rfl, Or.inl rfl⟩ (hs_eqS fun S53 hS53 => ?_)
        replace hv := hv S53 hS53
        replace hw : hs_Wi S53 := hS53 ▸ hs_Wi_I hw
        refine wa_iconst X dX4_reckonWord_261 kc0 ?_
        exact wa_ireturn X E dX4_reckonWord_262 (Nat.le_of_ble_eq_true rfl) (Nat.le_of_ble_eq_true rfl) (Or.inl rfl) ⟨hw, _, rfl, hv⟩
      · replace hv := hv.2 c52
        refine wa_iconst X dX4_reckonWord_252 kc4 ?_
        exact wa_ireturn X E dX4_reckonWord_253 (Nat.le_of_ble_eq_true rfl) (Nat.le_of_ble_eq_true rfl) (Or.inl rfl) ⟨hw, _, rfl, hv⟩
  replace hv := hv.2
  by_cases c54 : a1 = (9 : Int32)
  · replace hv := hv.1 c54
    refine wa_tableIn X (tgt := 125) dX4_reckonWord_32 (by rw [c54]; decide) (by rw [c54]; decide) (off := 93) (by rw [c54]; rfl) (by decide) ?_
    refine wa_lload X 2 rfl dX4_reckonWord_125 ?_
    refine wa_lload X 1 rfl dX4_reckonWord_127 ?_
    refine wa_lsub X dX4_reckonWord_129 ?_
    refine wa_lstore X (lv' := [(10, .inr (.inl ((S.1 34 1 a3.toNatClampNeg).toInt64 - (S.1 34 1 (a3 + (1 : Int32)).toNatClampNeg).toInt64))), (8, .inr (.inl (S.1 34 1 (a3 + (2 : Int32)).toNatClampNeg).toInt64)), (6, .inr (.inl (S.1 34 1 (a3 + (1 : Int32)).toNatClampNeg).toInt64)), (4, .inr (.inl (S.1 34 1 a3.toNatClampNeg).toInt64)), (0, .inr (.inr (4, 1))), (1, .inl a1), (2, .inl a2), (3, .inl a3)]) dX4_reckonWord_130 (by decide) rfl ?_
    refine wa_goto X (tgt := 234) dX4_reckonWord_132 (by decide) ?_
    refine wa_lload X 0 rfl dX4_reckonWord_234 ?_
    refine wa_ldc2 X kw_780 dX4_reckonWord_236 ?_
    refine wa_lcmp X dX4_reckonWord_239 ?_
    refine wa_if_lt X (tgt := 252) dX4_reckonWord_240 (by decide) (fun c55 => ?_) (fun c55 => ?_)
    · replace hv := hv.1 c55
      refine wa_iconst X dX4_reckonWord_252 kc4 ?_
      exact wa_ireturn X E dX4_reckonWord_253 (Nat.le_of_ble_eq_true rfl) (Nat.le_of_ble_eq_true rfl) (Or.inl rfl) ⟨hw, _, rfl, hv⟩
    · replace hv := hv.2 c55
      refine wa_lload X 0 rfl dX4_reckonWord_243 ?_
      refine wa_ldc2 X kw_781 dX4_reckonWord_245 ?_
      refine wa_lcmp X dX4_reckonWord_248 ?_
      refine wa_if_le X (tgt := 254) dX4_reckonWord_249 (by decide) (fun c56 => ?_) (fun c56 => ?_)
      · replace hv := hv.1 c56
        refine wa_aload_n X 4 rfl dX4_reckonWord_254 rfl ?_
        refine wa_lload X 0 rfl dX4_reckonWord_255 ?_
        refine wa_l2i X dX4_reckonWord_257 ?_
        refine wa_putI X (j := 9) hk_4 hc_4 i_4 tyX4 tyX4_ok nmX4 (by decide) kw_264 rfl rfl dX4_reckonWord_258 hs_1ne ⟨rfl, Or.inl rfl⟩ (hs_eqS fun S57 hS57 => ?_)
        replace hv := hv S57 hS57
        replace hw : hs_Wi S57 := hS57 ▸ hs_Wi_I hw
        refine wa_iconst X dX4_reckonWord_261 kc0 ?_
        exact wa_ireturn X E dX4_reckonWord_262 (Nat.le_of_ble_eq_true rfl) (Nat.le_of_ble_eq_true rfl) (Or.inl rfl) ⟨hw, _, rfl, hv⟩
      · replace hv := hv.2 c56
        refine wa_iconst X dX4_reckonWord_252 kc4 ?_
        exact wa_ireturn X E dX4_reckonWord_253 (Nat.le_of_ble_eq_true rfl) (Nat.le_of_ble_eq_true rfl) (Or.inl rfl) ⟨hw, _, rfl, hv⟩
  replace hv := hv.2
  by_cases c58 : a1 = (10 : Int32)
  · replace hv := hv.1 c58
    refine wa_tableIn X (tgt := 135) dX4_reckonWord_32 (by rw [c58]; decide) (by rw [c58]; decide) (off := 103) (by rw [c58]; rfl) (by decide) ?_
    refine wa_lload X 2 rfl dX4_reckonWord_135 ?_
    refine wa_lload X 1 rfl dX4_reckonWord_137 ?_
    refine wa_lmul X dX4_reckonWord_139 ?_
    refine wa_lstore X (lv' := [(10, .inr (.inl ((S.1 34 1 a3.toNatClampNeg).toInt64 * (S.1 34 1 (a3 + (1 : Int32)).toNatClampNeg).toInt64))), (8, .inr (.inl (S.1 34 1 (a3 + (2 : Int32)).toNatClampNeg).toInt64)), (6, .inr (.inl (S.1 34 1 (a3 + (1 : Int32)).toNatClampNeg).toInt64)), (4, .inr (.inl (S.1 34 1 a3.toNatClampNeg).toInt64)), (0, .inr (.inr (4, 1))), (1, .inl a1), (2, .inl a2), (3, .inl a3)]) dX4_reckonWord_140 (by decide) rfl ?_
    refine wa_goto X (tgt := 234) dX4_reckonWord_142 (by decide) ?_
    refine wa_lload X 0 rfl dX4_reckonWord_234 ?_
    refine wa_ldc2 X kw_780 dX4_reckonWord_236 ?_
    refine wa_lcmp X dX4_reckonWord_239 ?_
    refine wa_if_lt X (tgt := 252) dX4_reckonWord_240 (by decide) (fun c59 => ?_) (fun c59 => ?_)
    · replace hv := hv.1 c59
      refine wa_iconst X dX4_reckonWord_252 kc4 ?_
      exact wa_ireturn X E dX4_reckonWord_253 (Nat.le_of_ble_eq_true rfl) (Nat.le_of_ble_eq_true rfl) (Or.inl rfl) ⟨hw, _, rfl, hv⟩
    · replace hv := hv.2 c59
      refine wa_lload X 0 rfl dX4_reckonWord_243 ?_
      refine wa_ldc2 X kw_781 dX4_reckonWord_245 ?_
      refine wa_lcmp X dX4_reckonWord_248 ?_
      refine wa_if_le X (tgt := 254) dX4_reckonWord_249 (by decide) (fun c60 => ?_) (fun c60 => ?_)
      · replace hv := hv.1 c60
        refine wa_aload_n X 4 rfl dX4_reckonWord_254 rfl ?_
        refine wa_lload X 0 rfl dX4_reckonWord_255 ?_
        refine wa_l2i X dX4_reckonWord_257 ?_
        refine wa_putI X (j := 9) hk_4 hc_4 i_4 tyX4 tyX4_ok nmX4 (by decide) kw_264 rfl rfl dX4_reckonWord_258 hs_1ne ⟨rfl, Or.inl rfl⟩ (hs_eqS fun S61 hS61 => ?_)
        replace hv := hv S61 hS61
        replace hw : hs_Wi S61 := hS61 ▸ hs_Wi_I hw
        refine wa_iconst X dX4_reckonWord_261 kc0 ?_
        exact wa_ireturn X E dX4_reckonWord_262 (Nat.le_of_ble_eq_true rfl) (Nat.le_of_ble_eq_true rfl) (Or.inl rfl) ⟨hw, _, rfl, hv⟩
      · replace hv := hv.2 c60
        refine wa_iconst X dX4_reckonWord_252 kc4 ?_
        exact wa_ireturn X E dX4_reckonWord_253 (Nat.le_of_ble_eq_true rfl) (Nat.le_of_ble_eq_true rfl) (Or.inl rfl) ⟨hw, _, rfl, hv⟩
  replace hv := hv.2
  by_cases c62 : a1 = (11 : Int32)
  · replace hv := hv.1 c62
    refine wa_tableIn X (tgt := 145) dX4_reckonWord_32 (by rw [c62]; decide) (by rw [c62]; decide) (off := 113) (by rw [c62]; rfl) (by decide) ?_
    refine wa_lload X 1 rfl dX4_reckonWord_145 ?_
    refine wa_lconst X dX4_reckonWord_147 kl0 ?_
    refine wa_lcmp X dX4_reckonWord_148 ?_
    refine wa_if_ne X (tgt := 154) dX4_reckonWord_149 (by decide) (fun c63 => ?_) (fun c63 => ?_)
    · replace hv := hv.1 c63
      refine wa_lload X 2 rfl dX4_reckonWord_154 ?_
      refine wa_lload X 1 rfl dX4_reckonWord_156 ?_
      obtain ⟨o64, hv⟩ := hv
      refine wa_ldiv X dX4_reckonWord_158 o64 ?_
      refine wa_lstore X (lv' := [(10, .inr (.inl ((S.1 34 1 a3.toNatClampNeg).toInt64 / (S.1 34 1 (a3 + (1 : Int32)).toNatClampNeg).toInt64))), (8, .inr (.inl (S.1 34 1 (a3 + (2 : Int32)).toNatClampNeg).toInt64)), (6, .inr (.inl (S.1 34 1 (a3 + (1 : Int32)).toNatClampNeg).toInt64)), (4, .inr (.inl (S.1 34 1 a3.toNatClampNeg).toInt64)), (0, .inr (.inr (4, 1))), (1, .inl a1), (2, .inl a2), (3, .inl a3)]) dX4_reckonWord_159 (by decide) rfl ?_
      refine wa_goto X (tgt := 234) dX4_reckonWord_161 (by decide) ?_
      refine wa_lload X 0 rfl dX4_reckonWord_234 ?_
      refine wa_ldc2 X kw_780 dX4_reckonWord_236 ?_
      refine wa_lcmp X dX4_reckonWord_239 ?_
      refine wa_if_lt X (tgt := 252) dX4_reckonWord_240 (by decide) (fun c65 => ?_) (fun c65 => ?_)
      · replace hv := hv.1 c65
        refine wa_iconst X dX4_reckonWord_252 kc4 ?_
        exact wa_ireturn X E dX4_reckonWord_253 (Nat.le_of_ble_eq_true rfl) (Nat.le_of_ble_eq_true rfl) (Or.inl rfl) ⟨hw, _, rfl, hv⟩
      · replace hv := hv.2 c65
        refine wa_lload X 0 rfl dX4_reckonWord_243 ?_
        refine wa_ldc2 X kw_781 dX4_reckonWord_245 ?_
        refine wa_lcmp X dX4_reckonWord_248 ?_
        refine wa_if_le X (tgt := 254) dX4_reckonWord_249 (by decide) (fun c66 => ?_) (fun c66 => ?_)
        · replace hv := hv.1 c66
          refine wa_aload_n X 4 rfl dX4_reckonWord_254 rfl ?_
          refine wa_lload X 0 rfl dX4_reckonWord_255 ?_
          refine wa_l2i X dX4_reckonWord_257 ?_
          refine wa_putI X (j := 9) hk_4 hc_4 i_4 tyX4 tyX4_ok nmX4 (by decide) kw_264 rfl rfl dX4_reckonWord_258 hs_1ne ⟨rfl, Or.inl rfl⟩ (hs_eqS fun S67 hS67 => ?_)
          replace hv := hv S67 hS67
          replace hw : hs_Wi S67 := hS67 ▸ hs_Wi_I hw
          refine wa_iconst X dX4_reckonWord_261 kc0 ?_
          exact wa_ireturn X E dX4_reckonWord_262 (Nat.le_of_ble_eq_true rfl) (Nat.le_of_ble_eq_true rfl) (Or.inl rfl) ⟨hw, _, rfl, hv⟩
        · replace hv := hv.2 c66
          refine wa_iconst X dX4_reckonWord_252 kc4 ?_
          exact wa_ireturn X E dX4_reckonWord_253 (Nat.le_of_ble_eq_true rfl) (Nat.le_of_ble_eq_true rfl) (Or.inl rfl) ⟨hw, _, rfl, hv⟩
    · replace hv := hv.2 c63
      refine wa_iconst X dX4_reckonWord_152 kc3 ?_
      exact wa_ireturn X E dX4_reckonWord_153 (Nat.le_of_ble_eq_true rfl) (Nat.le_of_ble_eq_true rfl) (Or.inl rfl) ⟨hw, _, rfl, hv⟩
  replace hv := hv.2
  by_cases c68 : a1 = (12 : Int32)
  · replace hv := hv.1 c68
    refine wa_tableIn X (tgt := 164) dX4_reckonWord_32 (by rw [c68]; decide) (by rw [c68]; decide) (off := 132) (by rw [c68]; rfl) (by decide) ?_
    refine wa_lload X 2 rfl dX4_reckonWord_164 ?_
    refine wa_lload X 1 rfl dX4_reckonWord_166 ?_
    refine wa_lcmp X dX4_reckonWord_168 ?_
    have k73 : ∀ (x69 : Int64), x69 = (if 0 ≤ (lg_cmp (S.1 34 1 a3.toNatClampNeg).toInt64 (S.1 34 1 (a3 + (1 : Int32)).toNatClampNeg).toInt64) then (S.1 34 1 (a3 + (1 : Int32)).toNatClampNeg).toInt64 else (S.1 34 1 a3.toNatClampNeg).toInt64) → wa Z 0 0 S 179 [(0, .inr (.inr (4, 1)))] [.inr (.inl x69)] := by
      intro x69 hE
      replace hv := hv _ hE
      refine wa_lstore X (lv' := [(10, .inr (.inl x69)), (0, .inr (.inr (4, 1)))]) dX4_reckonWord_179 (by decide) rfl ?_
      refine wa_goto X (tgt := 234) dX4_reckonWord_181 (by decide) ?_
      refine wa_lload X 0 rfl dX4_reckonWord_234 ?_
      refine wa_ldc2 X kw_780 dX4_reckonWord_236 ?_
      refine wa_lcmp X dX4_reckonWord_239 ?_
      refine wa_if_lt X (tgt := 252) dX4_reckonWord_240 (by decide) (fun c70 => ?_) (fun c70 => ?_)
      · replace hv := hv.1 c70
        refine wa_iconst X dX4_reckonWord_252 kc4 ?_
        exact wa_ireturn X E dX4_reckonWord_253 (Nat.le_of_ble_eq_true rfl) (Nat.le_of_ble_eq_true rfl) (Or.inl rfl) ⟨hw, _, rfl, hv⟩
      · replace hv := hv.2 c70
        refine wa_lload X 0 rfl dX4_reckonWord_243 ?_
        refine wa_ldc2 X kw_781 dX4_reckonWord_245 ?_
        refine wa_lcmp X dX4_reckonWord_248 ?_
        refine wa_if_le X (tgt := 254) dX4_reckonWord_249 (by decide) (fun c71 => ?_) (fun c71 => ?_)
        · replace hv := hv.1 c71
          refine wa_aload_n X 1 rfl dX4_reckonWord_254 rfl ?_
          refine wa_lload X 0 rfl dX4_reckonWord_255 ?_
          refine wa_l2i X dX4_reckonWord_257 ?_
          refine wa_putI X (j := 9) hk_4 hc_4 i_4 tyX4 tyX4_ok nmX4 (by decide) kw_264 rfl rfl dX4_reckonWord_258 hs_1ne ⟨rfl, Or.inl rfl⟩ (hs_eqS fun S72 hS72 => ?_)
          replace hv := hv S72 hS72
          replace hw : hs_Wi S72 := hS72 ▸ hs_Wi_I hw
          refine wa_iconst X dX4_reckonWord_261 kc0 ?_
          exact wa_ireturn X E dX4_reckonWord_262 (Nat.le_of_ble_eq_true rfl) (Nat.le_of_ble_eq_true rfl) (Or.inl rfl) ⟨hw, _, rfl, hv⟩
        · replace hv := hv.2 c71
          refine wa_iconst X dX4_reckonWord_252 kc4 ?_
          exact wa_ireturn X E dX4_reckonWord_253 (Nat.le_of_ble_eq_true rfl) (Nat.le_of_ble_eq_true rfl) (Or.inl rfl) ⟨hw, _, rfl, hv⟩
    clear hv
    refine wa_if_ge X (tgt := 177) dX4_reckonWord_169 (by decide) (fun c75 => ?_) (fun c75 => ?_)
    · refine wa_lload X 1 rfl dX4_reckonWord_177 ?_
      refine wa_lv (lv' := [(0, .inr (.inr (4, 1)))]) [3] rfl ?_
      exact wa_wid (Nat.le_of_ble_eq_true rfl) (Nat.le_of_ble_eq_true rfl) (k73 _  (by rw [if_pos c75]))
    · refine wa_lload X 2 rfl dX4_reckonWord_172 ?_
      refine wa_goto X (tgt := 179) dX4_reckonWord_174 (by decide) ?_
      refine wa_lv (lv' := [(0, .inr (.inr (4, 1)))]) [3] rfl ?_
      exact wa_wid (Nat.le_of_ble_eq_true rfl) (Nat.le_of_ble_eq_true rfl) (k73 _  (by rw [if_neg c75]))
  replace hv := hv.2
  by_cases c76 : a1 = (13 : Int32)
  · replace hv := hv.1 c76
    refine wa_tableIn X (tgt := 184) dX4_reckonWord_32 (by rw [c76]; decide) (by rw [c76]; decide) (off := 152) (by rw [c76]; rfl) (by decide) ?_
    refine wa_lload X 2 rfl dX4_reckonWord_184 ?_
    refine wa_lload X 1 rfl dX4_reckonWord_186 ?_
    refine wa_lcmp X dX4_reckonWord_188 ?_
    have k81 : ∀ (x77 : Int64), x77 = (if (lg_cmp (S.1 34 1 a3.toNatClampNeg).toInt64 (S.1 34 1 (a3 + (1 : Int32)).toNatClampNeg).toInt64) ≤ 0 then (S.1 34 1 (a3 + (1 : Int32)).toNatClampNeg).toInt64 else (S.1 34 1 a3.toNatClampNeg).toInt64) → wa Z 0 0 S 199 [(0, .inr (.inr (4, 1)))] [.inr (.inl x77)] := by
      intro x77 hE
      replace hv := hv _ hE
      refine wa_lstore X (lv' := [(10, .inr (.inl x77)), (0, .inr (.inr (4, 1)))]) dX4_reckonWord_199 (by decide) rfl ?_
      refine wa_goto X (tgt := 234) dX4_reckonWord_201 (by decide) ?_
      refine wa_lload X 0 rfl dX4_reckonWord_234 ?_
      refine wa_ldc2 X kw_780 dX4_reckonWord_236 ?_
      refine wa_lcmp X dX4_reckonWord_239 ?_
      refine wa_if_lt X (tgt := 252) dX4_reckonWord_240 (by decide) (fun c78 => ?_) (fun c78 => ?_)
      · replace hv := hv.1 c78
        refine wa_iconst X dX4_reckonWord_252 kc4 ?_
        exact wa_ireturn X E dX4_reckonWord_253 (Nat.le_of_ble_eq_true rfl) (Nat.le_of_ble_eq_true rfl) (Or.inl rfl) ⟨hw, _, rfl, hv⟩
      · replace hv := hv.2 c78
        refine wa_lload X 0 rfl dX4_reckonWord_243 ?_
        refine wa_ldc2 X kw_781 dX4_reckonWord_245 ?_
        refine wa_lcmp X dX4_reckonWord_248 ?_
        refine wa_if_le X (tgt := 254) dX4_reckonWord_249 (by decide) (fun c79 => ?_) (fun c79 => ?_)
        · replace hv := hv.1 c79
          refine wa_aload_n X 1 rfl dX4_reckonWord_254 rfl ?_
          refine wa_lload X 0 rfl dX4_reckonWord_255 ?_
          refine wa_l2i X dX4_reckonWord_257 ?_
          refine wa_putI X (j := 9) hk_4 hc_4 i_4 tyX4 tyX4_ok nmX4 (by decide) kw_264 rfl rfl dX4_reckonWord_258 hs_1ne ⟨rfl, Or.inl rfl⟩ (hs_eqS fun S80 hS80 => ?_)
          replace hv := hv S80 hS80
          replace hw : hs_Wi S80 := hS80 ▸ hs_Wi_I hw
          refine wa_iconst X dX4_reckonWord_261 kc0 ?_
          exact wa_ireturn X E dX4_reckonWord_262 (Nat.le_of_ble_eq_true rfl) (Nat.le_of_ble_eq_true rfl) (Or.inl rfl) ⟨hw, _, rfl, hv⟩
        · replace hv := hv.2 c79
          refine wa_iconst X dX4_reckonWord_252 kc4 ?_
          exact wa_ireturn X E dX4_reckonWord_253 (Nat.le_of_ble_eq_true rfl) (Nat.le_of_ble_eq_true rfl) (Or.inl rfl) ⟨hw, _, rfl, hv⟩
    clear hv
    refine wa_if_le X (tgt := 197) dX4_reckonWord_189 (by decide) (fun c83 => ?_) (fun c83 => ?_)
    · refine wa_lload X 1 rfl dX4_reckonWord_197 ?_
      refine wa_lv (lv' := [(0, .inr (.inr (4, 1)))]) [3] rfl ?_
      exact wa_wid (Nat.le_of_ble_eq_true rfl) (Nat.le_of_ble_eq_true rfl) (k81 _  (by rw [if_pos c83]))
    · refine wa_lload X 2 rfl dX4_reckonWord_192 ?_
      refine wa_goto X (tgt := 199) dX4_reckonWord_194 (by decide) ?_
      refine wa_lv (lv' := [(0, .inr (.inr (4, 1)))]) [3] rfl ?_
      exact wa_wid (Nat.le_of_ble_eq_true rfl) (Nat.le_of_ble_eq_true rfl) (k81 _  (by rw [if_neg c83]))
  replace hv := hv.2
  by_cases c84 : a1 = (14 : Int32)
  · replace hv := hv.1 c84
    refine wa_tableIn X (tgt := 204) dX4_reckonWord_32 (by rw [c84]; decide) (by rw [c84]; decide) (off := 172) (by rw [c84]; rfl) (by decide) ?_
    refine wa_lload X 2 rfl dX4_reckonWord_204 ?_
    refine wa_lconst X dX4_reckonWord_206 kl0 ?_
    refine wa_lcmp X dX4_reckonWord_207 ?_
    have k89 : ∀ (x85 : Int64), x85 = (if (lg_cmp (S.1 34 1 a3.toNatClampNeg).toInt64 (0 : Int64)) ≤ 0 then (S.1 34 1 (a3 + (2 : Int32)).toNatClampNeg).toInt64 else (S.1 34 1 (a3 + (1 : Int32)).toNatClampNeg).toInt64) → wa Z 0 0 S 218 [(0, .inr (.inr (4, 1)))] [.inr (.inl x85)] := by
      intro x85 hE
      replace hv := hv _ hE
      refine wa_lstore X (lv' := [(10, .inr (.inl x85)), (0, .inr (.inr (4, 1)))]) dX4_reckonWord_218 (by decide) rfl ?_
      refine wa_goto X (tgt := 234) dX4_reckonWord_220 (by decide) ?_
      refine wa_lload X 0 rfl dX4_reckonWord_234 ?_
      refine wa_ldc2 X kw_780 dX4_reckonWord_236 ?_
      refine wa_lcmp X dX4_reckonWord_239 ?_
      refine wa_if_lt X (tgt := 252) dX4_reckonWord_240 (by decide) (fun c86 => ?_) (fun c86 => ?_)
      · replace hv := hv.1 c86
        refine wa_iconst X dX4_reckonWord_252 kc4 ?_
        exact wa_ireturn X E dX4_reckonWord_253 (Nat.le_of_ble_eq_true rfl) (Nat.le_of_ble_eq_true rfl) (Or.inl rfl) ⟨hw, _, rfl, hv⟩
      · replace hv := hv.2 c86
        refine wa_lload X 0 rfl dX4_reckonWord_243 ?_
        refine wa_ldc2 X kw_781 dX4_reckonWord_245 ?_
        refine wa_lcmp X dX4_reckonWord_248 ?_
        refine wa_if_le X (tgt := 254) dX4_reckonWord_249 (by decide) (fun c87 => ?_) (fun c87 => ?_)
        · replace hv := hv.1 c87
          refine wa_aload_n X 1 rfl dX4_reckonWord_254 rfl ?_
          refine wa_lload X 0 rfl dX4_reckonWord_255 ?_
          refine wa_l2i X dX4_reckonWord_257 ?_
          refine wa_putI X (j := 9) hk_4 hc_4 i_4 tyX4 tyX4_ok nmX4 (by decide) kw_264 rfl rfl dX4_reckonWord_258 hs_1ne ⟨rfl, Or.inl rfl⟩ (hs_eqS fun S88 hS88 => ?_)
          replace hv := hv S88 hS88
          replace hw : hs_Wi S88 := hS88 ▸ hs_Wi_I hw
          refine wa_iconst X dX4_reckonWord_261 kc0 ?_
          exact wa_ireturn X E dX4_reckonWord_262 (Nat.le_of_ble_eq_true rfl) (Nat.le_of_ble_eq_true rfl) (Or.inl rfl) ⟨hw, _, rfl, hv⟩
        · replace hv := hv.2 c87
          refine wa_iconst X dX4_reckonWord_252 kc4 ?_
          exact wa_ireturn X E dX4_reckonWord_253 (Nat.le_of_ble_eq_true rfl) (Nat.le_of_ble_eq_true rfl) (Or.inl rfl) ⟨hw, _, rfl, hv⟩
    clear hv
    refine wa_if_le X (tgt := 216) dX4_reckonWord_208 (by decide) (fun c91 => ?_) (fun c91 => ?_)
    · refine wa_lload X 0 rfl dX4_reckonWord_216 ?_
      refine wa_lv (lv' := [(0, .inr (.inr (4, 1)))]) [3] rfl ?_
      exact wa_wid (Nat.le_of_ble_eq_true rfl) (Nat.le_of_ble_eq_true rfl) (k89 _  (by rw [if_pos c91]))
    · refine wa_lload X 1 rfl dX4_reckonWord_211 ?_
      refine wa_goto X (tgt := 218) dX4_reckonWord_213 (by decide) ?_
      refine wa_lv (lv' := [(0, .inr (.inr (4, 1)))]) [3] rfl ?_
      exact wa_wid (Nat.le_of_ble_eq_true rfl) (Nat.le_of_ble_eq_true rfl) (k89 _  (by rw [if_neg c91]))
  replace hv := hv.2
  refine wa_tableOut X (tgt := 223) dX4_reckonWord_32 (hs_swo0_14 c4 c8 c14 c20 c26 c32 c38 c44 c50 c54 c58 c62 c68 c76 c84) (by decide) ?_
  replace hv := hv (hs_swo0_14 c4 c8 c14 c20 c26 c32 c38 c44 c50 c54 c58 c62 c68 c76 c84)
  refine wa_aload_n X 3 rfl dX4_reckonWord_223 rfl ?_
  refine wa_getfw X hw (j := 7) (r := 1) hk_4 hc_4 i_4 (by decide) kw_262 rfl rfl (by decide) rfl dX4_reckonWord_224 hs_1ne ?_
  refine wa_iload_n X 4 rfl dX4_reckonWord_227 rfl ?_
  obtain ⟨o92, hv⟩ := hv
  refine wa_aaldw X hw dX4_reckonWord_228 o92 ?_
  refine wa_iload_n X 5 rfl dX4_reckonWord_229 rfl ?_
  obtain ⟨o93, hv⟩ := hv
  refine wa_iald X hk_33 dX4_reckonWord_230 (hs_sne _) o93 ?_
  refine wa_i2l X dX4_reckonWord_231 ?_
  refine wa_lstore X (lv' := [(10, .inr (.inl (S.1 33 (a1.toNatClampNeg + 1) a2.toNatClampNeg).toInt64)), (8, .inr (.inl (S.1 34 1 (a3 + (2 : Int32)).toNatClampNeg).toInt64)), (6, .inr (.inl (S.1 34 1 (a3 + (1 : Int32)).toNatClampNeg).toInt64)), (4, .inr (.inl (S.1 34 1 a3.toNatClampNeg).toInt64)), (0, .inr (.inr (4, 1))), (1, .inl a1), (2, .inl a2), (3, .inl a3)]) dX4_reckonWord_232 (by decide) rfl ?_
  refine wa_lload X 0 rfl dX4_reckonWord_234 ?_
  refine wa_ldc2 X kw_780 dX4_reckonWord_236 ?_
  refine wa_lcmp X dX4_reckonWord_239 ?_
  refine wa_if_lt X (tgt := 252) dX4_reckonWord_240 (by decide) (fun c94 => ?_) (fun c94 => ?_)
  · replace hv := hv.1 c94
    refine wa_iconst X dX4_reckonWord_252 kc4 ?_
    exact wa_ireturn X E dX4_reckonWord_253 (Nat.le_of_ble_eq_true rfl) (Nat.le_of_ble_eq_true rfl) (Or.inl rfl) ⟨hw, _, rfl, hv⟩
  · replace hv := hv.2 c94
    refine wa_lload X 0 rfl dX4_reckonWord_243 ?_
    refine wa_ldc2 X kw_781 dX4_reckonWord_245 ?_
    refine wa_lcmp X dX4_reckonWord_248 ?_
    refine wa_if_le X (tgt := 254) dX4_reckonWord_249 (by decide) (fun c95 => ?_) (fun c95 => ?_)
    · replace hv := hv.1 c95
      refine wa_aload_n X 4 rfl dX4_reckonWord_254 rfl ?_
      refine wa_lload X 0 rfl dX4_reckonWord_255 ?_
      refine wa_l2i X dX4_reckonWord_257 ?_
      refine wa_putI X (j := 9) hk_4 hc_4 i_4 tyX4 tyX4_ok nmX4 (by decide) kw_264 rfl rfl dX4_reckonWord_258 hs_1ne ⟨rfl, Or.inl rfl⟩ (hs_eqS fun S96 hS96 => ?_)
      replace hv := hv S96 hS96
      replace hw : hs_Wi S96 := hS96 ▸ hs_Wi_I hw
      refine wa_iconst X dX4_reckonWord_261 kc0 ?_
      exact wa_ireturn X E dX4_reckonWord_262 (Nat.le_of_ble_eq_true rfl) (Nat.le_of_ble_eq_true rfl) (Or.inl rfl) ⟨hw, _, rfl, hv⟩
    · replace hv := hv.2 c95
      refine wa_iconst X dX4_reckonWord_252 kc4 ?_
      exact wa_ireturn X E dX4_reckonWord_253 (Nat.le_of_ble_eq_true rfl) (Nat.le_of_ble_eq_true rfl) (Or.inl rfl) ⟨hw, _, rfl, hv⟩
theorem v_Fnd_reckonWord {a1 a2 a3 : Int32} {S : hs_S} (hP : P_Fnd_reckonWord a1 a2 a3 S) : vc_Fnd_reckonWord a1 a2 a3 S (fun r S' => r = F_Fnd_reckonWord a1 a2 a3 S ∧ S' = E_Fnd_reckonWord a1 a2 a3 S) := by
  obtain ⟨⟨j, hj, rfl⟩, ⟨w, hw, ew⟩, hc⟩ := hP
  have e1 : nI j + 1 = nI (j + 1) := nI_1 j
  have e2 : nI j + 2 = nI (j + 2) := nI_add j 2
  have c0 : (nI j).toNatClampNeg = j := hl_cl (by omega)
  have c1 : (nI j + 1).toNatClampNeg = j + 1 := by rw [e1]; exact hl_cl (by omega)
  have c2 : (nI j + 2).toNatClampNeg = j + 2 := by rw [e2]; exact hl_cl (by omega)
  unfold vc_Fnd_reckonWord
  rw [c0, c1, c2]
  have na : ∀ {v : Int32}, a1 = v → v ≠ 11 → ¬ (a1 = 11 ∧ S.1 34 1 (j + 1) = 0) := fun h h2 z => h2 (h ▸ z.1)
  have go : ∀ {n : Int64}, ¬ (a1 = 11 ∧ S.1 34 1 (j + 1) = 0) → cRN a1 a2 j S = n → F_Fnd_reckonWord a1 a2 (nI j) S = rgF n ∧ E_Fnd_reckonWord a1 a2 (nI j) S = rgE n S := fun h e => by
    rw [← e]; exact FRW h hj
  refine ⟨hl_ix (by omega) (by omega), by rw [e1]; exact hl_ix (by omega) (by omega), by rw [e2]; exact hl_ix (by omega) (by omega), ?_⟩
  refine ⟨fun h => ?_, ?_⟩
  · have := go (na h (by decide)) (cRN_0 h)
    exact rg_ok this.1 this.2
  refine ⟨fun h => ?_, ?_⟩
  · have := go (na h (by decide)) (cRN_f (by rw [h]; decide) (by rw [h]; decide))
    exact ⟨by rw [h]; decide, hc (by rw [h]; decide) (by rw [h]; decide), rg_ok this.1 this.2⟩
  refine ⟨fun h => ?_, ?_⟩
  · have := go (na h (by decide)) (cRN_f (by rw [h]; decide) (by rw [h]; decide))
    exact ⟨by rw [h]; decide, hc (by rw [h]; decide) (by rw [h]; decide), rg_ok this.1 this.2⟩
  refine ⟨fun h => ?_, ?_⟩
  · have := go (na h (by decide)) (cRN_f (by rw [h]; decide) (by rw [h]; decide))
    exact ⟨by rw [h]; decide, hc (by rw [h]; decide) (by rw [h]; decide), rg_ok this.1 this.2⟩
  refine ⟨fun h => ?_, ?_⟩
  · have := go (na h (by decide)) (cRN_f (by rw [h]; decide) (by rw [h]; decide))
    exact ⟨by rw [h]; decide, hc (by rw [h]; decide) (by rw [h]; decide), rg_ok this.1 this.2⟩
  refine ⟨fun h => ?_, ?_⟩
  · have := go (na h (by decide)) (cRN_f (by rw [h]; decide) (by rw [h]; decide))
    exact ⟨by rw [h]; decide, hc (by rw [h]; decide) (by rw [h]; decide), rg_ok this.1 this.2⟩
  refine ⟨fun h => ?_, ?_⟩
  · have := go (na h (by decide)) (cRN_f (by rw [h]; decide) (by rw [h]; decide))
    exact ⟨by rw [h]; decide, hc (by rw [h]; decide) (by rw [h]; decide), rg_ok this.1 this.2⟩
  refine ⟨fun h => ?_, ?_⟩
  · have := go (na h (by decide)) (cRN_f (by rw [h]; decide) (by rw [h]; decide))
    exact ⟨by rw [h]; decide, hc (by rw [h]; decide) (by rw [h]; decide), rg_ok this.1 this.2⟩
  refine ⟨fun h => ?_, ?_⟩
  · have := go (n := (S.1 34 1 j).toInt64 + (S.1 34 1 (j + 1)).toInt64) (na h (by decide)) ((cRN_a (by rw [h]; decide) (by rw [h]; decide) (by rw [h]; decide)).trans (by rw [h]; rfl))
    exact rg_ok this.1 this.2
  refine ⟨fun h => ?_, ?_⟩
  · have := go (n := (S.1 34 1 j).toInt64 - (S.1 34 1 (j + 1)).toInt64) (na h (by decide)) ((cRN_a (by rw [h]; decide) (by rw [h]; decide) (by rw [h]; decide)).trans (by rw [h]; rfl))
    exact rg_ok this.1 this.2
  refine ⟨fun h => ?_, ?_⟩
  · have := go (n := (S.1 34 1 j).toInt64 * (S.1 34 1 (j + 1)).toInt64) (na h (by decide)) ((cRN_a (by rw [h]; decide) (by rw [h]; decide) (by rw [h]; decide)).trans (by rw [h]; rfl))
    exact rg_ok this.1 this.2
  refine ⟨fun h => ?_, ?_⟩
  · have hz : lg_cmp (S.1 34 1 (j + 1)).toInt64 0 = 0 ↔ S.1 34 1 (j + 1) = 0 := by
      constructor
      · intro q
        have a1 : lg_cmp (S.1 34 1 (j + 1)).toInt64 0 ≤ 0 := by rw [q]; decide
        have a2 : ¬ lg_cmp (S.1 34 1 (j + 1)).toInt64 0 < 0 := by rw [q]; decide
        have b1 := (lg_cmp_le _ _).mp a1
        have b2 : ¬ (S.1 34 1 (j + 1)).toInt64 < 0 := fun z => a2 ((lg_cmp_lt _ _).mpr z)
        rw [i64_le, i64_of] at b1
        rw [i64_lt, i64_of] at b2
        have z0 : (0 : Int64).toInt = 0 := rfl
        exact i32_eq.mpr (by have z1 : (0 : Int32).toInt = 0 := rfl; omega)
      · intro q; rw [q]; decide
    refine ⟨fun q => ?_, fun q => ?_⟩
    · have hn : ¬ S.1 34 1 (j + 1) = 0 := fun z => q (hz.mpr z)
      have := go (n := (S.1 34 1 j).toInt64 / (S.1 34 1 (j + 1)).toInt64) (fun z => hn z.2) ((cRN_a (by rw [h]; decide) (by rw [h]; decide) (by rw [h]; decide)).trans (by rw [h]; rfl))
      refine ⟨fun z => hn ?_, rg_ok this.1 this.2⟩
      have z2 := congrArg Int64.toInt z
      rw [i64_of] at z2
      exact i32_eq.mpr z2
    · have hn := hz.mp q
      unfold F_Fnd_reckonWord E_Fnd_reckonWord
      rw [c0, if_pos ⟨h, hn⟩, if_pos ⟨h, hn⟩]; exact ⟨rfl, rfl⟩
  refine ⟨fun h x hx => ?_, ?_⟩
  · have := go (n := x) (na h (by decide)) ((cRN_a (by rw [h]; decide) (by rw [h]; decide) (by rw [h]; decide)).trans (by rw [h, hx]; rfl))
    exact rg_ok this.1 this.2
  refine ⟨fun h x hx => ?_, ?_⟩
  · have := go (n := x) (na h (by decide)) ((cRN_a (by rw [h]; decide) (by rw [h]; decide) (by rw [h]; decide)).trans (by rw [h, hx, lgc_max]; rfl))
    exact rg_ok this.1 this.2
  refine ⟨fun h x hx => ?_, fun h => ?_⟩
  · have hz : lg_cmp (S.1 34 1 j).toInt64 0 ≤ 0 ↔ S.1 34 1 j ≤ 0 := by
      rw [lg_cmp_le, i64_le, i64_of, i32_le]; exact Iff.rfl
    have := go (n := x) (na h (by decide)) (by
      rw [h, cRN_w, hx]
      by_cases q : S.1 34 1 j ≤ 0
      · rw [if_pos q, if_pos (hz.mpr q)]
      · rw [if_neg q, if_neg fun z => q (hz.mp z)])
    exact rg_ok this.1 this.2
  · rw [ew, nI_toInt (by omega)] at h
    omega
theorem f_Fnd_reckonWord {a1 : Int32} {a2 : Int32} {a3 : Int32} {S : hs_S} (hw : hs_Wi S) (hP : P_Fnd_reckonWord a1 a2 a3 S) : hs_M 1 yX4_reckonWord (.code yX4_reckonWord cX4_reckonWord 12 (some FieldType.int)) [.inr (.inr (4, 1)), .inl a1, .inl a2, .inl a3] S 0 0 (hs_pd (some (.inl (F_Fnd_reckonWord a1 a2 a3 S))) (E_Fnd_reckonWord a1 a2 a3 S)) hs_nX := hs_pdI (ok_Fnd_reckonWord hw (v_Fnd_reckonWord hP))

def E_Fnd_forgetFacts (S : hs_S) : hs_S := (fun t i p => if t = 33 ∧ 3 ≤ i ∧ i ≤ 8 ∧ p < 4 then 0 else S.1 t i p, S.2)
theorem S_ext {S T : hs_S} (h : ∀ t i p, S.1 t i p = T.1 t i p) (h2 : S.2 = T.2) : S = T := Prod.ext (funext fun t => funext fun i => funext fun p => h t i p) h2
def m_Fnd_forgetFacts (S : hs_S) (Q : hs_S → Prop) : Prop := hs_M 1 yX4_forgetFacts (.code yX4_forgetFacts cX4_forgetFacts 3 none) [.inr (.inr (4, 1))] S 0 0 (hs_qV Q) hs_nX
def vc_Fnd_forgetFacts (S : hs_S) (Q : hs_S → Prop) : Prop := (∃ I2 : Nat → Int32 → hs_S → Prop, (∃ n7, I2 n7 (0 : Int32) S) ∧ (∀ N3 : Nat, ∀ x1 : Int32, ∀ S4 : hs_S, I2 N3 x1 S4 → (((4 : Int32) ≤ x1 → (Q S4)) ∧ (¬ (4 : Int32) ≤ x1 → (∃ I13 : Nat → Int32 → hs_S → Prop, (∃ n18, I13 n18 (2 : Int32) S4) ∧ (∀ N14 : Nat, ∀ x12 : Int32, ∀ S15 : hs_S, I13 N14 x12 S15 → (((7 : Int32) < x12 → (∃ q23, q23 < N3 ∧ I2 q23 (x1 + 1) S15)) ∧ (¬ (7 : Int32) < x12 → ((0 ≤ x12.toInt ∧ x12.toInt < 8) ∧ ((0 ≤ x1.toInt ∧ x1.toInt < 4) ∧ (∀ S27 : hs_S, S27 = (hs_wI S15 33 (x12.toNatClampNeg + 1) x1.toNatClampNeg (0 : Int32)) → (∃ q28, q28 < N14 ∧ I13 q28 (x12 + 1) S27))))))))))))
set_option maxRecDepth 100000 in
set_option maxHeartbeats 4000000 in
theorem ok_Fnd_forgetFacts {S : hs_S} {Q : hs_S → Prop} (hw : hs_Wi S) (hv : vc_Fnd_forgetFacts S Q) : m_Fnd_forgetFacts S Q := by
  unfold vc_Fnd_forgetFacts at hv
  refine hs_body (own := RX4) rfl rfl (Nat.le_of_ble_eq_true rfl) (fun Z X E N J0 => ?_)
  show wa Z 0 0 S 0 [(0, .inr (.inr (4, 1)))] []
  refine wa_iconst X dX4_forgetFacts_0 kc0 ?_
  refine wa_istore_n X (lv' := [(1, .inl (0 : Int32)), (0, .inr (.inr (4, 1)))]) dX4_forgetFacts_1 rfl (by decide) rfl ?_
  obtain ⟨I2, ⟨n7, i5⟩, b6⟩ := hv
  refine wa_lv (lv' := [(0, .inr (.inr (4, 1))), (1, .inl (0 : Int32))]) [1, 0] rfl ?_
  suffices L8 : ∀ N3 : Nat, ∀ x1 : Int32, ∀ S4 : hs_S, hs_Wi S4 → I2 N3 x1 S4 → wa Z 0 0 S4 2 [(0, .inr (.inr (4, 1))), (1, .inl x1)] [] from L8 _ _ _ hw i5
  clear hw
  clear i5
  intro N3
  induction N3 using Nat.strongRecOn with
  | _ N3 h9 =>
    intro x1 S4 hw j10
    have hv := b6 N3 x1 S4 j10
    refine wa_iload_n X 1 rfl dX4_forgetFacts_2 rfl ?_
    refine wa_iconst X dX4_forgetFacts_3 kc4 ?_
    refine wa_icmp_ge X (tgt := 36) dX4_forgetFacts_4 (by decide) (fun c11 => ?_) (fun c11 => ?_)
    · replace hv := hv.1 c11
      exact wa_return X E dX4_forgetFacts_36 (Nat.le_of_ble_eq_true rfl) (Nat.le_of_ble_eq_true rfl) ⟨hw, rfl, hv⟩
    · replace hv := hv.2 c11
      refine wa_iconst X dX4_forgetFacts_7 kc2 ?_
      refine wa_istore_n X (lv' := [(2, .inl (2 : Int32)), (0, .inr (.inr (4, 1))), (1, .inl x1)]) dX4_forgetFacts_8 rfl (by decide) rfl ?_
      obtain ⟨I13, ⟨n18, i16⟩, b17⟩ := hv
      refine wa_lv (lv' := [(0, .inr (.inr (4, 1))), (1, .inl x1), (2, .inl (2 : Int32))]) [1, 2, 0] rfl ?_
      suffices L19 : ∀ N14 : Nat, ∀ x12 : Int32, ∀ S15 : hs_S, hs_Wi S15 → I13 N14 x12 S15 → wa Z 0 0 S15 9 [(0, .inr (.inr (4, 1))), (1, .inl x1), (2, .inl x12)] [] from L19 _ _ _ hw i16
      clear hw
      clear i16
      intro N14
      induction N14 using Nat.strongRecOn with
      | _ N14 h20 =>
        intro x12 S15 hw j21
        have hv := b17 N14 x12 S15 j21
        refine wa_iload_n X 2 rfl dX4_forgetFacts_9 rfl ?_
        refine wa_bipush X dX4_forgetFacts_10 kb7 ?_
        refine wa_icmp_gt X (tgt := 30) dX4_forgetFacts_12 (by decide) (fun c22 => ?_) (fun c22 => ?_)
        · replace hv := hv.1 c22
          refine wa_iinc X (v := (x1 + 1)) (lv' := [(1, .inl (x1 + 1)), (0, .inr (.inr (4, 1))), (2, .inl x12)]) 1 rfl dX4_forgetFacts_30 rfl (by decide) rfl ?_
          refine wa_goto X (tgt := 2) dX4_forgetFacts_33 (by decide) ?_
          obtain ⟨q23, p24, hv⟩ := hv
          refine wa_lv (lv' := [(0, .inr (.inr (4, 1))), (1, .inl (x1 + 1))]) [1, 0] rfl ?_
          exact h9 q23 p24 _ _ hw hv
        · replace hv := hv.2 c22
          refine wa_aload_n X 0 rfl dX4_forgetFacts_15 rfl ?_
          refine wa_getfw X hw (j := 7) (r := 1) hk_4 hc_4 i_4 (by decide) kw_262 rfl rfl (by decide) rfl dX4_forgetFacts_16 hs_1ne ?_
          refine wa_iload_n X 2 rfl dX4_forgetFacts_19 rfl ?_
          obtain ⟨o25, hv⟩ := hv
          refine wa_aaldw X hw dX4_forgetFacts_20 o25 ?_
          refine wa_iload_n X 1 rfl dX4_forgetFacts_21 rfl ?_
          refine wa_iconst X dX4_forgetFacts_22 kc0 ?_
          obtain ⟨o26, hv⟩ := hv
          refine wa_iast X hk_33 dX4_forgetFacts_23 (hs_sne _) o26 (hs_eqS fun S27 hS27 => ?_)
          replace hv := hv S27 hS27
          replace hw : hs_Wi S27 := hS27 ▸ hs_Wi_I hw
          refine wa_iinc X (v := (x12 + 1)) (lv' := [(2, .inl (x12 + 1)), (0, .inr (.inr (4, 1))), (1, .inl x1)]) 2 rfl dX4_forgetFacts_24 rfl (by decide) rfl ?_
          refine wa_goto X (tgt := 9) dX4_forgetFacts_27 (by decide) ?_
          obtain ⟨q28, p29, hv⟩ := hv
          refine wa_lv (lv' := [(0, .inr (.inr (4, 1))), (1, .inl x1), (2, .inl (x12 + 1))]) [1, 2, 0] rfl ?_
          exact h20 q28 p29 _ _ hw hv
theorem v_Fnd_forgetFacts {S : hs_S} : vc_Fnd_forgetFacts S (fun S' => S' = E_Fnd_forgetFacts S) := by
  unfold vc_Fnd_forgetFacts
  refine ⟨fun N x T => ∃ k : Nat, k ≤ 4 ∧ x = nI k ∧ T.2 = S.2 ∧ (∀ t i p, T.1 t i p = if t = 33 ∧ 3 ≤ i ∧ i ≤ 8 ∧ p < k then 0 else S.1 t i p) ∧ N = 4 - k, ⟨4, 0, by omega, rfl, rfl, fun t i p => (if_neg (by omega)).symm, rfl⟩, ?_⟩
  rintro N x T ⟨k, hk, rfl, hT, hI, rfl⟩
  refine ⟨fun h => ?_, fun h => ?_⟩
  · have : k = 4 := hl_end (g := 4) (by omega) hk h
    subst this
    exact S_ext (fun t i p => hI t i p) hT
  · have hk1 : k < 4 := hl_go (g := 4) (by omega) hk h
    refine ⟨fun N x U => ∃ j : Nat, j ≤ 6 ∧ x = nI (j + 2) ∧ U.2 = S.2 ∧ (∀ t i p, U.1 t i p = if t = 33 ∧ ((3 ≤ i ∧ i ≤ 8 ∧ p < k) ∨ (3 ≤ i ∧ i < 3 + j ∧ p = k)) then 0 else S.1 t i p) ∧ N = 6 - j, ⟨6, 0, by omega, rfl, hT, fun t i p => ?_, rfl⟩, ?_⟩
    · rw [hI]
      by_cases q : t = 33 ∧ 3 ≤ i ∧ i ≤ 8 ∧ p < k
      · rw [if_pos q, if_pos ⟨q.1, Or.inl q.2⟩]
      · rw [if_neg q, if_neg (by omega)]
    · rintro N x U ⟨j, hj, rfl, hU, hJ, rfl⟩
      refine ⟨fun h => ?_, fun h => ?_⟩
      · have hj6 : j = 6 := by
          have := (hl_lt (a := 7) (b := j + 2) (by omega) (by omega)).mp h
          omega
        subst hj6
        refine ⟨4 - (k + 1), by omega, k + 1, by omega, nI_1 k, hU, fun t i p => ?_, rfl⟩
        rw [hJ]
        by_cases q : t = 33 ∧ 3 ≤ i ∧ i ≤ 8 ∧ p < k + 1
        · rw [if_pos q, if_pos (by omega)]
        · rw [if_neg q, if_neg (by omega)]
      · have hj6 : j < 6 := by
          have := mt (hl_lt (a := 7) (b := j + 2) (by omega) (by omega)).mpr h
          omega
        refine ⟨hl_ix (by omega) (by omega), hl_ix (by omega) (by omega), ?_⟩
        rintro _ rfl
        refine ⟨6 - (j + 1), by omega, j + 1, by omega, nI_1 _, hU, fun t i p => ?_, rfl⟩
        rw [hl_cl (by omega), hl_cl (by omega)]
        show (if t = 33 ∧ i = j + 2 + 1 ∧ p = k then 0 else U.1 t i p) = _
        rw [hJ]
        by_cases q : t = 33 ∧ i = j + 2 + 1 ∧ p = k
        · rw [if_pos q, if_pos (by omega)]
        · rw [if_neg q]
          by_cases q2 : t = 33 ∧ ((3 ≤ i ∧ i ≤ 8 ∧ p < k) ∨ (3 ≤ i ∧ i < 3 + j ∧ p = k))
          · rw [if_pos q2, if_pos (by omega)]
          · rw [if_neg q2, if_neg (by omega)]
theorem f_Fnd_forgetFacts {S : hs_S} (hw : hs_Wi S) : hs_M 1 yX4_forgetFacts (.code yX4_forgetFacts cX4_forgetFacts 3 none) [.inr (.inr (4, 1))] S 0 0 (hs_pd (none) (E_Fnd_forgetFacts S)) hs_nX := hs_pdV (ok_Fnd_forgetFacts hw (v_Fnd_forgetFacts))

