/-! ===== the first state: both sides agree ===== -/
set_option maxRecDepth 100000 in
theorem sT_26 {q : Nat → Int32} : ∀ c : Nat, c < 4 → (sT q).2.1 26 1 c = c + 1 ∧ (sT q).1 8 (c + 1) 0 = nI c ∧ (sT q).1 8 (c + 1) 2 = 2147483647 ∧ (sT q).1 8 (c + 1) 1 = 2147483647 := by
  intro c hc
  match c, hc with
  | 0, _ => exact ⟨rfl, rfl, rfl, rfl⟩
  | 1, _ => exact ⟨rfl, rfl, rfl, rfl⟩
  | 2, _ => exact ⟨rfl, rfl, rfl, rfl⟩
  | 3, _ => exact ⟨rfl, rfl, rfl, rfl⟩
set_option maxRecDepth 100000 in
theorem sT_F {q : Nat → Int32} : (sT q).2.1 9 1 4 = 2 ∧ (sT q).1 5 1 3 = 0 ∧ (sT q).1 5 2 3 = 0 ∧ (sT q).1 5 2 4 = 0 ∧ (sT q).1 10 1 5 = 0 ∧ (∀ p, p < 50 → (sT q).1 11 1 p = 0) ∧ (sT q).2.1 12 2 0 = 0 ∧ (sT q).2.1 13 2 0 = 0 ∧ (sT q).2.1 14 2 0 = 0 := ⟨rfl, rfl, rfl, rfl, rfl, fun _ _ => rfl, rfl, rfl, rfl⟩
theorem bit0 {o : Nat} (ho : o < 6) : ¬ ((0 : Int32) >>> (nI o &&& 31)) &&& 1 = 1 := fun z => by
  have := (bit_test32 (x := 0) (k := o) (by omega)).mp z
  unfold b32 at this
  have e : (0 : Int32).toBitVec.getLsbD o = false := by
    show (0#32).getLsbD o = false
    simp
  rw [e] at this
  exact absurd this (by decide)
theorem RR_0 {q : Nat → Int32} : RR 0 (sT q) := by
  obtain ⟨n8, n7, n5, n20, n21, n22, n23, n24, n3, n0⟩ := sT_N (q := q)
  obtain ⟨f1, f2, f3, f4, f5, f6, f7, f8, f9⟩ := sT_F (q := q)
  have cl0 : (0 : Int32).toNatClampNeg = 0 := rfl
  refine ⟨0, 0, 0, 0, 0, 0, 0, ⟨⟨by omega, ⟨f5, f6 0 (by omega), f6 1 (by omega), f6 5 (by omega), f6 12 (by omega), f6 24 (by omega), f6 36 (by omega), f6 10 (by omega)⟩, ⟨f7, n3, f8, n0, f9⟩, by omega, by omega, by omega, by omega, by omega, by omega⟩, fun c hc => ⟨?_, ?_, fun o ho => ?_⟩, ⟨fun k hk => absurd hk (Nat.not_lt_zero _), fun k hk => absurd hk (Nat.not_lt_zero _)⟩, fun k hk => absurd hk (Nat.not_lt_zero _), ⟨⟨by omega, by omega, f2⟩, by rw [f1]; exact f3, ⟨0, by omega, by rw [f1]; exact f3, fun i hi => absurd hi (Nat.not_lt_zero _)⟩, by rw [f1]; exact f4, fun i hi => absurd hi (Nat.not_lt_zero _)⟩, fun c hc => ?_, fun b hb => absurd hb (Nat.not_lt_zero _), ⟨fun r hr => absurd hr (Nat.not_lt_zero _), fun c hc => ?_, fun r r' hr => absurd hr (Nat.not_lt_zero _), fun x y hx hy z => ?_, fun r x hr => absurd hr (Nat.not_lt_zero _)⟩⟩, ⟨fun o ho => ?_, fun p hp => ?_, fun c hc => ?_, fun k _ _ => sT_60.2.2.2.2.2.2.2.2.2.1, fun b _ _ => sT_60.2.2.2.2.2.2.2.2.2.2, fun r r' _ h2 => ?_⟩, ⟨fun r hr => absurd hr (Nat.not_lt_zero _), fun b hb => absurd hb (Nat.not_lt_zero _)⟩, fun r hr => absurd hr (Nat.not_lt_zero _)⟩
  · rw [sT_20, if_pos hc]
    exact (nI_div6 (by omega)).symm
  · rw [sT_20, if_pos hc]
    exact ⟨c / 6, by omega, rfl⟩
  · rw [sT_21]
    exact ⟨fun z => absurd z (bit0 ho), fun z => absurd (show (0 : Int32) = 1 from z) (by decide)⟩
  · obtain ⟨h60, h61, h63, h25, h27, _⟩ := sT_60 (q := q) (p := c)
    exact ⟨⟨h25.trans h60.symm, 0, by omega, h60⟩, h27.trans h61.symm, Or.inl h61⟩
  · obtain ⟨e1, e2, e3, e4⟩ := sT_26 (q := q) c hc
    unfold rC2
    rw [e1, e2, e3, e4, n8]
    exact ⟨by omega, ⟨rfl, rfl⟩, Or.inl ⟨sT_62.trans (if_pos ⟨rfl, rfl, hc⟩), rfl⟩, Or.inl sT_60.2.2.1⟩
  · rw [(sT_26 x hx).1, (sT_26 y hy).1] at z
    omega
  · have h37 := (sT_37 (q := q) (p := o)).trans (if_pos ⟨rfl, rfl, ho⟩)
    have h88 := (sT_88 (q := q) (p := o)).trans (if_pos ⟨rfl, rfl, ho⟩)
    obtain ⟨_, _, _, _, _, h36, h87, _⟩ := sT_60 (q := q) (p := o)
    exact ⟨h36.trans h87.symm, h37.trans h88.symm, 100000, by omega, h88⟩
  · obtain ⟨_, _, _, _, _, _, _, h35, h86, _⟩ := sT_60 (q := q) (p := p)
    have z0 : (0 : Int32).toInt = 0 := rfl
    have z0' : (0 : Int64).toInt = 0 := rfl
    rw [h35, h86, z0, z0']
    omega
  · refine sI_0 6 fun o _ => ?_
    rw [(sT_60 (q := q) (p := 4 * o + c)).2.2.2.2.2.2.2.2.1]
    rfl
  · rw [f6 36 (by omega), cl0] at h2
    exact absurd h2 (Nat.not_lt_zero _)
