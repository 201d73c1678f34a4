/-! ===== the first state ===== -/
def s0 (q : Nat → Int32) : hs_S := (fun t i p => if t = 101 ∧ i = 1 then q p else 0, (fun _ _ _ => 0, (fun _ _ _ => 0, fun t => if t = 101 then 1 else 0)))
def sT (q : Nat → Int32) : hs_S := hs_nw (E_M_init (hs_nw (E_C_init (hs_nw (s0 q) 10)) 11)) 100
section
variable {q : Nat → Int32}
set_option maxRecDepth 100000
theorem sT_N : (sT q).2.2.2 8 = 4 ∧ (sT q).2.2.2 7 = 5 ∧ (sT q).2.2.2 5 = 2 ∧ (sT q).2.2.2 20 = 5 ∧ (sT q).2.2.2 21 = 5 ∧ (sT q).2.2.2 22 = 2 ∧ (sT q).2.2.2 23 = 2 ∧ (sT q).2.2.2 24 = 2 ∧ (sT q).2.2.2 3 = 0 ∧ (sT q).2.2.2 0 = 0 := ⟨rfl, rfl, rfl, rfl, rfl, rfl, rfl, rfl, rfl, rfl⟩
theorem sT_20 {p : Nat} : (sT q).1 20 1 p = if p < 24 then nI (p / 6) else 0 := rfl
theorem sT_21 {p : Nat} : (sT q).1 21 1 p = 0 := rfl
theorem sT_37 {p : Nat} : (sT q).1 37 1 p = if 37 = 37 ∧ 1 = 1 ∧ p < 6 then 100000 else 0 := rfl
theorem sT_88 {p : Nat} : (sT q).1 88 1 p = if 88 = 88 ∧ 1 = 1 ∧ p < 6 then 100000 else 0 := rfl
theorem sT_62 {p : Nat} : (sT q).1 62 1 p = if 62 = 62 ∧ 1 = 1 ∧ p < 4 then -1 else 0 := rfl
theorem sT_60 {p : Nat} : (sT q).1 60 1 p = 0 ∧ (sT q).1 61 1 p = 0 ∧ (sT q).1 63 1 p = 0 ∧ (sT q).1 25 1 p = 0 ∧ (sT q).1 27 1 p = 0 ∧ (sT q).1 36 1 p = 0 ∧ (sT q).1 87 1 p = 0 ∧ (sT q).1 35 1 p = 0 ∧ (sT q).2.2.1 86 1 p = 0 ∧ (sT q).1 58 1 p = 0 ∧ (sT q).1 73 1 p = 0 ∧ (sT q).1 74 1 p = 0 := ⟨rfl, rfl, rfl, rfl, rfl, rfl, rfl, rfl, rfl, rfl, rfl, rfl⟩
end
