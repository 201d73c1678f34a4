/-! ===== bidding ===== -/
theorem mo_Fs {S : hs_S} {r : Int32} (k : Nat) : mFs (hs_mo S) r k = mFs S r k := by
  induction k with
  | zero => rfl
  | succ k ih => unfold mFs; rw [ih]; rfl
theorem mo_DueI {S : hs_S} {o r : Int32} {acc : Int64} (k : Nat) : mDueI (hs_mo S) o r acc k = mDueI S o r acc k := by
  induction k with
  | zero => rfl
  | succ k ih => unfold mDueI; rw [ih]; rfl
theorem mo_own {S : hs_S} {c e : Int32} : F_ownerAt c e (hs_mo S) = F_ownerAt c e S := by rw [own_r, own_r]; rfl
theorem mo_fees {S : hs_S} {r : Int32} : F_feesOf r (hs_mo S) = F_feesOf r S := mo_Fs _
theorem mo_Due {S : hs_S} {o c : Int32} (k : Nat) : mDue (hs_mo S) o c k = mDue S o c k := by
  induction k with
  | zero => rfl
  | succ k ih =>
    unfold mDue
    rw [ih, mo_DueI]
    have e1 : F_ownerAt (6 * c + 1) ((hs_mo S).1 78 1 k) (hs_mo S) = F_ownerAt (6 * c + 1) (S.1 78 1 k) S := mo_own
    rw [e1, mo_fees]
    rfl
theorem mo_dueOf {S : hs_S} {o c : Int32} : F_dueOf o c (hs_mo S) = F_dueOf o c S := mo_Due _
theorem mo_ExB {S : hs_S} {o : Int32} (k : Nat) : mExB (hs_mo S) o k = mExB S o k := by
  induction k with
  | zero => rfl
  | succ k ih => unfold mExB; rw [ih]; rfl
theorem mo_ExD {S : hs_S} {o : Int32} {acc : Int64} (k : Nat) : mExD (hs_mo S) o acc k = mExD S o acc k := by
  induction k with
  | zero => rfl
  | succ k ih => unfold mExD; rw [ih, mo_dueOf]
theorem mo_ex {S T : hs_S} {o : Int32} (h : hs_mo T = hs_mo S) : F_exposureOf o T = F_exposureOf o S := by
  have e : ∀ X : hs_S, F_exposureOf o (hs_mo X) = F_exposureOf o X := fun X => by
    unfold F_exposureOf
    rw [mo_ExD, mo_ExB]
    rfl
  rw [← e T, h, e S]
theorem in100 {a : Int32} : ¬ F_in a 1 100 = 0 ↔ ∃ m : Nat, (1 ≤ m ∧ m ≤ 100) ∧ a = nI m := by
  have z1 : (1 : Int32).toInt = 1 := rfl
  have z100 : (100 : Int32).toInt = 100 := rfl
  unfold F_in
  rw [bI_eq0, Classical.not_not, i32_le, i32_le, z1, z100]
  refine ⟨fun h => ?_, ?_⟩
  · obtain ⟨k, hk, _, e⟩ := hl_of (x := a) (n := 101) ⟨by omega, by omega⟩
    refine ⟨k, ⟨?_, by omega⟩, e⟩
    rw [e, nI_toInt (by omega)] at h
    omega
  · rintro ⟨m, hm, rfl⟩
    rw [nI_toInt (by omega)]
    omega
theorem M_bid_2 {n : Nat} {S : hs_S} {o c : Nat} {a3 a4 a5 : Int32} (h : RR n S) (hn : n < 512) (hw : hs_Wi S) (ho : o < 6) (hc : c < 4) (q : ¬ ((∃ m : Nat, (1 ≤ m ∧ m ≤ 100) ∧ a4 = nI m) ∧ ∃ l : Nat, l ≤ 9999 ∧ a5 = nI l)) : m_M_bid (nI o) (nI c) a3 a4 a5 S (fun r T => OK n 2 r T) := by
  refine ok_M_bid hw ?_
  intro x hx
  have hx' := ((dc_if hx).resolve_right fun z => z.2 ⟨⟨o, ho, rfl⟩, c, hc, rfl⟩).1
  subst hx'
  refine ⟨Or.inr rfl, ?_⟩
  rintro _ rfl
  have hb : OK n 2 0 (E_fails 2 (E_asks 1 S)) := OK_g h hn (by decide)
  refine ⟨fun _ => ⟨?_, fun q4 => ⟨fun q5 => ?_, ?_⟩⟩, fun z => absurd z (by decide)⟩
  · rintro _ _ rfl; exact hb
  · exact absurd ⟨in100.mp q4, Classical.not_not.mp fun z => q5 ((in_iff (N := 9999) (by omega)).mpr z)⟩ q
  · rintro _ _ rfl; exact hb
/-- the limit is kept -/
def limK (S : hs_S) (o m l : Nat) : Prop := (F_exposureOf (nI o) S).toInt + (m : Int) * l ≤ (S.1 88 1 o).toInt
theorem lim_m {S : hs_S} {o m l : Nat} (hm : m ≤ 100) (hl : l ≤ 9999) (he : 0 ≤ (F_exposureOf (nI o) S).toInt ∧ (F_exposureOf (nI o) S).toInt ≤ 2049495040) : lg_cmp (F_exposureOf (nI o) S + (nI m).toInt64 * (nI l).toInt64) (S.1 88 1 o).toInt64 ≤ 0 ↔ limK S o m l := by
  have em : (nI m).toInt = m := nI_toInt (by omega)
  have el : (nI l).toInt = l := nI_toInt (by omega)
  have p1 : 0 ≤ (m : Int) * l := Int.mul_nonneg (by omega) (by omega)
  have p2 : (m : Int) * l ≤ 100 * 9999 := Int.mul_le_mul (by omega) (by omega) (by omega) (by omega)
  have e2 : ((nI m).toInt64 * (nI l).toInt64).toInt = (m : Int) * l := by rw [i64_mul_of, em, el]
  rw [lg_cmp_le, i64_le, i64_add (by rw [e2]; omega), e2, i64_of]
  rfl
theorem M_bid_3 {n : Nat} {S : hs_S} {o c m l : Nat} {a3 : Int32} {ev ng nl nE nB nR nd : Nat} (k : RS n S ev ng nl nE nB nR nd) (hn : n < 512) (hw : hs_Wi S) (ho : o < 6) (hc : c < 4) (hm : 1 ≤ m ∧ m ≤ 100) (hl : l ≤ 9999) (q : ¬ (S.1 62 1 c = -1 ∧ nB < 80 ∧ (a3 = 0 ∨ limK S o m l))) : m_M_bid (nI o) (nI c) a3 (nI m) (nI l) S (fun r T => OK n 3 r T) := by
  have hA := k.1.1
  have h80 := hA.1.2.2.1.2
  refine ok_M_bid hw ?_
  intro x hx
  have hx' := ((dc_if hx).resolve_right fun z => z.2 ⟨⟨o, ho, rfl⟩, c, hc, rfl⟩).1
  subst hx'
  refine ⟨Or.inr rfl, ?_⟩
  intro S3 h3
  have k3 := RS_as (x := 1) k hn
  rw [← h3] at k3
  have hb : OK n 3 0 (E_fails 3 S3) := by rw [h3]; exact OK_g k.rr hn (by decide)
  have d62 : S3.1 62 1 c = S.1 62 1 c := by rw [h3]; rfl
  have d24 : S3.1 11 1 24 = nI nB := by rw [h3]; exact hA.2.1.2.2.2.2.2.1
  have dL : limK S3 o m l ↔ limK S o m l := by
    have e1 : F_exposureOf (nI o) S3 = F_exposureOf (nI o) S := mo_ex (by
      rw [h3]
      exact mo_of (fun t i p _ _ z => if_neg fun w => z ⟨w.1, w.2.2⟩) (fun _ _ => rfl))
    have e2 : S3.1 88 1 o = S.1 88 1 o := by rw [h3]; rfl
    unfold limK
    rw [e1, e2]
  have he := ex_c k3 ho
  rw [hl_cl (by omega), hl_cl (by omega), d62, d24]
  refine ⟨fun _ => ⟨fun z => absurd z (in100.mpr ⟨m, hm, rfl⟩), fun _ => ⟨fun _ => ⟨hl_ix (by omega) (by omega), fun z => ?_, fun z => ⟨fun w => ?_, fun w => ⟨fun a0 => ?_, fun a1 => ⟨⟨⟨nB, h80, d24⟩, fun j hj => (P_due_of k3 ho hj).2.1⟩, hl_ix (by omega) (by omega), fun le => ?_, fun _ => ?_⟩⟩⟩⟩, fun z => absurd ⟨l, hl, rfl⟩ ((in_iff (N := 9999) (by omega)).mp z)⟩⟩, fun z => absurd z (by decide)⟩
  · rintro _ rfl; exact hb
  · rintro _ rfl; exact hb
  · refine absurd ⟨z, ?_, Or.inl a0⟩ q
    have : nB ≠ 80 := fun y => w (by rw [y]; rfl)
    omega
  · refine absurd ⟨z, ?_, Or.inr (dL.mp ((lim_m hm.2 hl (by rw [he.1]; exact he.2)).mp le))⟩ q
    have : nB ≠ 80 := fun y => w (by rw [y]; rfl)
    omega
  · rintro _ rfl; exact hb
