/-! ===== the first state ===== -/
def s0 : hs_S := (fun _ _ _ => 0, (fun _ _ _ => 0, (fun _ _ _ => 0, fun t => if t = 101 then 1 else 0)))
def sA : hs_S := E_C_init (hs_nw s0 10)
def sV : hs_S := (fun t _ p => if t = 62 ∧ p < 4 then -1 else if t = 88 ∧ p < 6 then 100000 else 0, (fun _ _ _ => 0, (fun _ _ _ => 0, fun _ => 0)))
abbrev sM : hs_S := mrg sA sV
section
set_option maxRecDepth 100000
theorem sT_N : sM.2.2.2 8 = 4 ∧ sM.2.2.2 7 = 5 ∧ sM.2.2.2 5 = 2 ∧ sM.2.2.2 20 = 5 ∧ sM.2.2.2 21 = 5 ∧ sM.2.2.2 22 = 2 ∧ sM.2.2.2 23 = 2 ∧ sM.2.2.2 24 = 2 ∧ sM.2.2.2 3 = 0 ∧ sM.2.2.2 0 = 0 := ⟨rfl, rfl, rfl, rfl, rfl, rfl, rfl, rfl, rfl, rfl⟩
theorem sT_20 {p : Nat} : sM.1 20 1 p = if p < 24 then nI (p / 6) else 0 := rfl
theorem sT_21 {p : Nat} : sM.1 21 1 p = 0 := rfl
theorem sT_37 {p : Nat} : sM.1 37 1 p = if 37 = 37 ∧ 1 = 1 ∧ p < 6 then 100000 else 0 := rfl
theorem sT_88 {p : Nat} (h : p < 6) : sM.1 88 1 p = 100000 := (if_neg fun z => absurd z.1 (by decide) : (if 88 = 62 ∧ p < 4 then (-1 : Int32) else if 88 = 88 ∧ p < 6 then 100000 else 0) = _).trans (if_pos ⟨rfl, h⟩)
theorem sT_62 {p : Nat} (h : p < 4) : sM.1 62 1 p = -1 := (if_pos ⟨rfl, h⟩ : (if 62 = 62 ∧ p < 4 then (-1 : Int32) else if 62 = 88 ∧ p < 6 then 100000 else 0) = _)
theorem sT_60 {p : Nat} : sM.1 60 1 p = 0 ∧ sM.1 61 1 p = 0 ∧ sM.1 63 1 p = 0 ∧ sM.1 25 1 p = 0 ∧ sM.1 27 1 p = 0 ∧ sM.1 36 1 p = 0 ∧ sM.1 87 1 p = 0 ∧ sM.1 35 1 p = 0 ∧ sM.2.2.1 86 1 p = 0 ∧ sM.1 58 1 p = 0 ∧ sM.1 73 1 p = 0 ∧ sM.1 74 1 p = 0 := ⟨rfl, rfl, rfl, rfl, rfl, rfl, rfl, rfl, rfl, rfl, rfl, rfl⟩
theorem sT_26 : ∀ c : Nat, c < 4 → sM.2.1 26 1 c = c + 1 ∧ sM.1 8 (c + 1) 0 = nI c ∧ sM.1 8 (c + 1) 2 = 2147483647 ∧ sM.1 8 (c + 1) 1 = 2147483647 := by
  intro c hc
  match c, hc with
  | 0, _ => exact ⟨rfl, rfl, rfl, rfl⟩
  | 1, _ => exact ⟨rfl, rfl, rfl, rfl⟩
  | 2, _ => exact ⟨rfl, rfl, rfl, rfl⟩
  | 3, _ => exact ⟨rfl, rfl, rfl, rfl⟩
theorem sT_F : sM.2.1 9 1 4 = 2 ∧ sM.1 5 1 3 = 0 ∧ sM.1 5 2 3 = 0 ∧ sM.1 5 2 4 = 0 ∧ sM.1 10 1 5 = 0 ∧ (∀ p, p < 50 → sM.1 11 1 p = 0) ∧ sM.2.1 12 2 0 = 0 ∧ sM.2.1 13 2 0 = 0 ∧ sM.2.1 14 2 0 = 0 := ⟨rfl, rfl, rfl, rfl, rfl, fun _ _ => rfl, rfl, rfl, rfl⟩
end
theorem bit0 {o : Nat} (ho : o < 6) : ¬ ((0 : Int32) >>> (nI o &&& 31)) &&& 1 = 1 := fun z => by
  have := (bit_test32 (x := 0) (k := o) (by omega)).mp z
  unfold b32 at this
  have e : (0 : Int32).toBitVec.getLsbD o = false := by
    show (0#32).getLsbD o = false
    simp
  rw [e] at this
  exact absurd this (by decide)
theorem RR_0 : RR 0 sM := by
  obtain ⟨n8, n7, n5, n20, n21, n22, n23, n24, n3, n0⟩ := sT_N
  obtain ⟨f1, f2, f3, f4, f5, f6, f7, f8, f9⟩ := sT_F
  have cl0 : (0 : Int32).toNatClampNeg = 0 := rfl
  refine ⟨0, 0, 0, 0, 0, 0, 0, ⟨⟨by omega, ⟨f5, f6 0 (by omega), f6 1 (by omega), f6 5 (by omega), f6 12 (by omega), f6 24 (by omega), f6 36 (by omega), f6 10 (by omega)⟩, ⟨f7, n3, f8, n0, f9⟩, by omega, by omega, by omega, by omega, by omega, by omega⟩, fun c hc => ⟨?_, ?_, fun o ho => ?_⟩, ⟨fun k hk => absurd hk (Nat.not_lt_zero _), fun k hk => absurd hk (Nat.not_lt_zero _)⟩, fun k hk => absurd hk (Nat.not_lt_zero _), ⟨⟨by omega, by omega, f2⟩, by rw [f1]; exact f3, ⟨0, by omega, by rw [f1]; exact f3, fun i hi => absurd hi (Nat.not_lt_zero _)⟩, by rw [f1]; exact f4, fun i hi => absurd hi (Nat.not_lt_zero _)⟩, fun c hc => ?_, fun b hb => absurd hb (Nat.not_lt_zero _), ⟨fun r hr => absurd hr (Nat.not_lt_zero _), fun c hc => ?_, fun r r' hr => absurd hr (Nat.not_lt_zero _), fun x y hx hy z => ?_, fun r x hr => absurd hr (Nat.not_lt_zero _)⟩⟩, ⟨fun o ho => ?_, fun p hp => ?_, fun c hc => ?_, fun k _ _ => sT_60.2.2.2.2.2.2.2.2.2.1, fun b _ _ => sT_60.2.2.2.2.2.2.2.2.2.2, fun r r' _ h2 => ?_⟩, ⟨fun r hr => absurd hr (Nat.not_lt_zero _), fun b hb => absurd hb (Nat.not_lt_zero _)⟩, fun r hr => absurd hr (Nat.not_lt_zero _)⟩
  · rw [sT_20, if_pos hc]
    exact (nI_div6 (by omega)).symm
  · rw [sT_20, if_pos hc]
    exact ⟨c / 6, by omega, rfl⟩
  · rw [sT_21]
    exact ⟨fun z => absurd z (bit0 ho), fun z => absurd (show (0 : Int32) = 1 from z) (by decide)⟩
  · obtain ⟨h60, h61, h63, h25, h27, _⟩ := sT_60 (p := c)
    exact ⟨⟨h25.trans h60.symm, 0, by omega, h60⟩, h27.trans h61.symm, Or.inl h61⟩
  · obtain ⟨e1, e2, e3, e4⟩ := sT_26 c hc
    unfold rC2
    rw [e1, e2, e3, e4, n8]
    exact ⟨by omega, ⟨rfl, rfl⟩, Or.inl ⟨sT_62 hc, rfl⟩, Or.inl sT_60.2.2.1⟩
  · rw [(sT_26 x hx).1, (sT_26 y hy).1] at z
    omega
  · have h37 := (sT_37 (p := o)).trans (if_pos ⟨rfl, rfl, ho⟩)
    have h88 := sT_88 ho
    obtain ⟨_, _, _, _, _, h36, h87, _⟩ := sT_60 (p := o)
    exact ⟨h36.trans h87.symm, h37.trans h88.symm, 100000, by omega, h88⟩
  · obtain ⟨_, _, _, _, _, _, _, h35, h86, _⟩ := sT_60 (p := p)
    have z0 : (0 : Int32).toInt = 0 := rfl
    have z0' : (0 : Int64).toInt = 0 := rfl
    rw [h35, h86, z0, z0']
    omega
  · refine sI_0 6 fun o _ => ?_
    rw [(sT_60 (p := 4 * o + c)).2.2.2.2.2.2.2.2.1]
    rfl
  · rw [f6 36 (by omega), cl0] at h2
    exact absurd h2 (Nat.not_lt_zero _)

theorem KS_0 : KS 0 sA := ⟨sV, RR_0⟩
theorem sA_c : csum sA 6 = 0 := by decide
theorem sA_z : hs_sz sA 12 = 0 ∧ hs_sz sA 13 = 0 ∧ hs_sz sA 14 = 0 := ⟨rfl, rfl, rfl⟩
theorem JJ_0 : JJ 0 sA sA := ⟨KS_0, sA_c, rfl⟩
theorem Wi_dec : ∀ t : Fin 12, ∀ i : Fin 6, ∀ j : Fin 60, hs_wi t.val j.val ≠ 0 → 1 ≤ i.val → i.val ≤ sA.2.2.2 t.val → sA.2.1 t.val i.val j.val = hs_wv (hs_wi t.val j.val) i.val := by decide +kernel
theorem N_dec : ∀ t : Fin 12, sA.2.2.2 t.val < 6 := by decide +kernel
theorem W32_dec : ∀ j : Fin 8, sA.2.1 32 1 j.val = j.val + 1 := by decide +kernel
theorem wi_hi {t j : Nat} (h : hs_wi t j ≠ 0) : t < 12 ∧ j < 60 := by
  unfold hs_wi at h
  split at h
  all_goals (first | exact absurd rfl h | skip)
  all_goals (split at h <;> first | exact absurd rfl h | exact ⟨by omega, by omega⟩)
theorem sA_Wi : hs_Wi sA := by
  refine ⟨fun t i j hw hok => ?_, fun j hj _ => W32_dec ⟨j, hj⟩⟩
  obtain ⟨h1, h2⟩ := wi_hi hw
  have hN : sA.2.2.2 t < 6 := N_dec ⟨t, h1⟩
  exact Wi_dec ⟨t, h1⟩ ⟨i, Nat.lt_of_le_of_lt hok.2.2.2 hN⟩ ⟨j, h2⟩ hw hok.2.2.1 hok.2.2.2
