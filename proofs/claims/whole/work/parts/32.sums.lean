/-! ===== sums, bits ===== -/
def sI (f : Nat → Int) : Nat → Int
  | 0 => 0
  | n + 1 => sI f n + f n
theorem sI_c {f g : Nat → Int} (n : Nat) (h : ∀ k, k < n → f k = g k) : sI f n = sI g n := by
  induction n with
  | zero => rfl
  | succ n ih => show sI f n + f n = sI g n + g n; rw [ih fun k hk => h k (by omega), h n (by omega)]
theorem sI_le {f g : Nat → Int} (n : Nat) (h : ∀ k, k < n → f k ≤ g k) : sI f n ≤ sI g n := by
  induction n with
  | zero => exact Int.le_refl _
  | succ n ih =>
    have a := ih fun k hk => h k (by omega)
    have b := h n (by omega)
    show sI f n + f n ≤ sI g n + g n
    omega
theorem sI_mul {f : Nat → Int} {a : Int} (n : Nat) : sI (fun k => f k * a) n = sI f n * a := by
  induction n with
  | zero => exact (Int.zero_mul a).symm
  | succ n ih => show sI (fun k => f k * a) n + f n * a = (sI f n + f n) * a; rw [ih, Int.add_mul]
theorem sI_add {f g : Nat → Int} (n : Nat) : sI (fun k => f k + g k) n = sI f n + sI g n := by
  induction n with
  | zero => rfl
  | succ n ih => show sI (fun k => f k + g k) n + (f n + g n) = sI f n + f n + (sI g n + g n); rw [ih]; omega
theorem sI_u {f g : Nat → Int} {b : Nat} : ∀ n, b < n → (∀ k, k < n → k ≠ b → g k = f k) → sI g n = sI f n + (g b - f b) := by
  intro n
  induction n with
  | zero => intro h; omega
  | succ n ih =>
    intro hb h
    show sI g n + g n = sI f n + f n + (g b - f b)
    by_cases q : b = n
    · subst q
      rw [sI_c b fun k hk => h k (by omega) (by omega)]
      omega
    · rw [ih (by omega) fun k hk hk2 => h k (by omega) hk2, h n (by omega) fun w => q w.symm]
      omega
theorem sI_0 {f : Nat → Int} (n : Nat) (h : ∀ k, k < n → f k = 0) : sI f n = 0 := by
  induction n with
  | zero => rfl
  | succ n ih => show sI f n + f n = 0; rw [ih fun k hk => h k (by omega), h n (by omega)]; rfl
theorem sI_nn {f : Nat → Int} (n : Nat) (h : ∀ k, k < n → 0 ≤ f k) : 0 ≤ sI f n := by
  have := sI_le (f := fun _ => 0) n h
  rwa [sI_0 n fun _ _ => rfl] at this
theorem i32_div {a b : Int32} (ha : 0 ≤ a.toInt) (hb : 0 < b.toInt) : (a / b).toInt = a.toInt / b.toInt := by
  rw [Int32.toInt_div, Int.tdiv_eq_ediv_of_nonneg ha]
  have h1 := i32_b a
  have h2 : a.toInt / b.toInt ≤ a.toInt := Int.ediv_le_self _ ha
  have h3 : 0 ≤ a.toInt / b.toInt := Int.ediv_nonneg ha (by omega)
  exact bm32 (by omega)
/-- one of a long's bits -/
def bit (t : Int64) (k : Nat) : Bool := t.toBitVec.getLsbD k
theorem sh_amt : ∀ k : Fin 64, (((nI k.val).toInt64 &&& 63).toBitVec.smod 64#64).toNat = k.val := by decide +kernel
theorem bit_test {t : Int64} {k : Nat} (hk : k < 64) : (t >>> ((nI k).toInt64 &&& 63)) &&& 1 = 1 ↔ bit t k = true := by
  have hs := sh_amt ⟨k, hk⟩
  have e : ((t >>> ((nI k).toInt64 &&& 63)) &&& 1).toBitVec = (t.toBitVec.sshiftRight k) &&& 1#64 := by
    show (t.toBitVec.sshiftRight' (((nI k).toInt64 &&& 63).toBitVec.smod 64#64)) &&& 1#64 = _
    unfold BitVec.sshiftRight'
    rw [hs]
  have hg : ∀ i, ((t.toBitVec.sshiftRight k) &&& 1#64).getLsbD i = (decide (i = 0) && t.toBitVec.getLsbD k) := by
    intro i
    rw [BitVec.getLsbD_and, BitVec.getLsbD_sshiftRight, BitVec.getLsbD_one]
    by_cases h0 : i = 0
    · subst h0
      simp [hk]
    · simp [h0]
  refine ⟨fun h => ?_, fun h => ?_⟩
  · have h1 : ((t >>> ((nI k).toInt64 &&& 63)) &&& 1).toBitVec = 1#64 := congrArg Int64.toBitVec h
    rw [e] at h1
    have h2 := hg 0
    rw [h1] at h2
    show t.toBitVec.getLsbD k = true
    simpa using h2.symm
  · apply Int64.toBitVec_inj.mp
    rw [e]
    apply BitVec.eq_of_getLsbD_eq
    intro i hi
    rw [hg i]
    have h' : t.toBitVec.getLsbD k = true := h
    rw [h']
    show _ = (1#64).getLsbD i
    rw [BitVec.getLsbD_one]
    by_cases h0 : i = 0 <;> simp [h0]
theorem bit_set {t : Int64} {i j : Nat} (hi : i < 64) (hj : j < 64) : bit (t ||| ((1 : Int64) <<< ((nI i).toInt64 &&& 63))) j = (bit t j || decide (i = j)) := by
  have hs := sh_amt ⟨i, hi⟩
  show (t.toBitVec ||| (1#64 <<< (((nI i).toInt64 &&& 63).toBitVec.smod 64#64))).getLsbD j = _
  rw [BitVec.getLsbD_or, BitVec.shiftLeft_eq', hs, BitVec.getLsbD_shiftLeft, BitVec.getLsbD_one]
  show (t.toBitVec.getLsbD j || _) = (t.toBitVec.getLsbD j || _)
  congr 1
  by_cases h : i = j
  · subst h; simp [hi]
  · by_cases h2 : j < i
    · simp [h, h2]
    · have : j - i ≠ 0 := by omega
      simp [h, this]
theorem bit_or0 {t : Int64} {j : Nat} : bit (t ||| 0) j = bit t j := by
  show (t.toBitVec ||| 0#64).getLsbD j = _
  simp [bit]
theorem bit_0 {j : Nat} : bit 0 j = false := by
  show (0#64).getLsbD j = false
  simp
