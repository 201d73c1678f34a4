/-! ===== what is taken, one after another ===== -/
def cntB (P : Nat → Bool) : Nat → Nat
  | 0 => 0
  | n + 1 => cntB P n + (if P n then 1 else 0)
def ahd (K : Nat → Int) (c b : Nat) : Bool := decide (K b < K c ∨ (K c = K b ∧ c < b))
theorem ahd_i {K : Nat → Int} {c b : Nat} : ahd K c b = true ↔ (K b < K c ∨ (K c = K b ∧ c < b)) := decide_eq_true_iff
theorem ahd_f {K : Nat → Int} {c b : Nat} (h : ahd K c b = true) : ahd K b c = false := by
  have h' := ahd_i.mp h
  exact decide_eq_false fun w => by omega
theorem ahd_s {K : Nat → Int} {b : Nat} : ahd K b b = false := decide_eq_false fun w => by omega
theorem last_ex (K : Nat → Int) (P : Nat → Bool) : ∀ n, (∃ b, b < n ∧ P b = true) → ∃ z, z < n ∧ P z = true ∧ ∀ b, b < n → P b = true → b ≠ z → ahd K b z = true := by
  intro n
  induction n with
  | zero => rintro ⟨b, hb, _⟩; omega
  | succ n ih =>
    intro h
    by_cases q : ∃ b, b < n ∧ P b = true
    · obtain ⟨z, hz, pz, hl⟩ := ih q
      by_cases pn : P n = true
      · by_cases w : ahd K z n = true
        · refine ⟨n, by omega, pn, fun b hb pb hne => ?_⟩
          by_cases e : b = z
          · rw [e]; exact w
          · have h1 := ahd_i.mp (hl b (by omega) pb e)
            have h2 := ahd_i.mp w
            exact ahd_i.mpr (by omega)
        · refine ⟨z, by omega, pz, fun b hb pb hne => ?_⟩
          by_cases e : b = n
          · rw [e]
            have h2 : ¬ (K n < K z ∨ (K z = K n ∧ z < n)) := fun k => w (ahd_i.mpr k)
            exact ahd_i.mpr (by omega)
          · exact hl b (by omega) pb hne
      · refine ⟨z, by omega, pz, fun b hb pb hne => ?_⟩
        have : b ≠ n := fun e => pn (e ▸ pb)
        exact hl b (by omega) pb hne
    · obtain ⟨b, hb, pb⟩ := h
      have e : b = n := by
        refine Classical.byContradiction fun w => q ⟨b, by omega, pb⟩
      subst e
      exact ⟨b, by omega, pb, fun c hc pc hne => absurd ⟨c, by omega, pc⟩ q⟩
theorem cntB_0 {P : Nat → Bool} : ∀ n, cntB P n = 0 → ∀ b, b < n → P b = false := by
  intro n
  induction n with
  | zero => intro _ b hb; omega
  | succ n ih =>
    intro h b hb
    have h' : cntB P n + (if P n then 1 else 0) = 0 := h
    by_cases e : b = n
    · subst e
      cases q : P b with
      | false => rfl
      | true => rw [q] at h'; simp at h'
    · exact ih (by omega) b (by omega)
theorem cntB_ex {P : Nat → Bool} : ∀ n, cntB P n ≠ 0 → ∃ b, b < n ∧ P b = true := by
  intro n
  induction n with
  | zero => intro h; exact absurd rfl h
  | succ n ih =>
    intro h
    by_cases q : P n = true
    · exact ⟨n, by omega, q⟩
    · have h' : cntB P n + (if P n then 1 else 0) ≠ 0 := h
      rw [if_neg q] at h'
      obtain ⟨b, hb, pb⟩ := ih (by omega)
      exact ⟨b, by omega, pb⟩
theorem cntB_rm {P : Nat → Bool} {z : Nat} : ∀ n, cntB (fun b => P b && !(b == z)) n = cntB P n - (if z < n ∧ P z = true then 1 else 0) ∧ ((if z < n ∧ P z = true then 1 else 0) ≤ cntB P n) := by
  intro n
  induction n with
  | zero => exact ⟨rfl, by simp⟩
  | succ n ih =>
    obtain ⟨h1, h2⟩ := ih
    have e1 : cntB (fun b => P b && !(b == z)) (n + 1) = cntB (fun b => P b && !(b == z)) n + (if (P n && !(n == z)) = true then 1 else 0) := rfl
    have e2 : cntB P (n + 1) = cntB P n + (if P n = true then 1 else 0) := rfl
    rw [e1, e2, h1]
    by_cases q : n = z
    · subst q
      have : (P n && !(n == n)) = false := by simp
      rw [this]
      rw [if_neg (fun z => absurd z.1 (by omega) : ¬ (n < n ∧ P n = true))] at h2 ⊢
      by_cases w : P n = true
      · rw [if_pos (⟨Nat.lt_succ_self n, w⟩ : n < n + 1 ∧ P n = true), if_pos w]
        simp
      · rw [if_neg (fun z => w z.2 : ¬ (n < n + 1 ∧ P n = true)), if_neg w]
        simp
    · have : (P n && !(n == z)) = P n := by
        have : (n == z) = false := beq_false_of_ne q
        rw [this]; simp
      rw [this]
      have e3 : (if z < n + 1 ∧ P z = true then 1 else 0) = if z < n ∧ P z = true then 1 else 0 := by
        by_cases w : z < n ∧ P z = true
        · rw [if_pos w, if_pos ⟨by omega, w.2⟩]
        · rw [if_neg w, if_neg fun k => w ⟨by omega, k.2⟩]
      rw [e3]
      constructor <;> omega
theorem take_sum (K W : Nat → Int) (n : Nat) : ∀ (m : Nat) (P : Nat → Bool), cntB P n = m → (∀ b, b < n → P b = true → 0 ≤ W b) → ∀ V : Int, 0 ≤ V → sI (fun b => if P b then max 0 (min (W b) (V - sI (fun c => if P c && ahd K c b then W c else 0) n)) else 0) n = min V (sI (fun b => if P b then W b else 0) n) := by
  intro m
  induction m with
  | zero =>
    intro P hc _ V hV
    have hf := cntB_0 n hc
    rw [sI_0 n fun k hk => by rw [hf k hk]; rfl, sI_0 (f := fun b => if P b then W b else 0) n fun k hk => by rw [hf k hk]; rfl]
    omega
  | succ m ih =>
    intro P hc hW V hV
    obtain ⟨z, hz, pz, hl⟩ := last_ex K P n (cntB_ex n (by omega))
    have hc' : cntB (fun b => P b && !(b == z)) n = m := by
      rw [(cntB_rm n).1, if_pos ⟨hz, pz⟩]; omega
    have hP' : ∀ b, (P b && !(b == z)) = if b = z then false else P b := fun b => by
      by_cases e : b = z
      · rw [if_pos e, e]; simp
      · rw [if_neg e, beq_false_of_ne e]; simp
    have IH := ih _ hc' (fun b hb pb => hW b hb (by
      rw [hP'] at pb
      by_cases e : b = z
      · rw [if_pos e] at pb; cases pb
      · rwa [if_neg e] at pb)) V hV
    obtain ⟨S', hS'⟩ : ∃ s, s = sI (fun b => if (P b && !(b == z)) = true then W b else 0) n := ⟨_, rfl⟩
    rw [← hS'] at IH
    have eW : sI (fun b => if P b then W b else 0) n = S' + W z := by
      rw [sI_u (f := fun b => if (P b && !(b == z)) = true then W b else 0) (b := z) n hz fun k hk hne => by
        show (if P k = true then W k else 0) = if (P k && !(k == z)) = true then W k else 0
        rw [hP', if_neg hne]]
      show sI _ n + ((if P z = true then W z else 0) - (if (P z && !(z == z)) = true then W z else 0)) = _
      rw [← hS', if_pos pz, hP', if_pos rfl]
      simp
    have eA : ∀ b, b < n → b ≠ z → P b = true → sI (fun c => if (P c && ahd K c b) = true then W c else 0) n = sI (fun c => if ((P c && !(c == z)) && ahd K c b) = true then W c else 0) n := fun b hb hne pb => by
      refine sI_c n fun c hc => ?_
      by_cases e : c = z
      · have h1 := ahd_f (hl b hb pb hne)
        rw [e, h1]; simp
      · rw [hP', if_neg e]
    have eZ : sI (fun c => if (P c && ahd K c z) = true then W c else 0) n = S' := by
      rw [hS']
      refine sI_c n fun c hc => ?_
      by_cases e : c = z
      · rw [e, ahd_s]; simp
      · rw [hP', if_neg e]
        by_cases pc : P c = true
        · rw [hl c hc pc e, pc]; rfl
        · have : P c = false := by cases q : P c with | true => exact absurd q pc | false => rfl
          rw [this]; rfl
    have eL : sI (fun b => if P b then max 0 (min (W b) (V - sI (fun c => if P c && ahd K c b then W c else 0) n)) else 0) n = min V S' + max 0 (min (W z) (V - S')) := by
      rw [sI_u (f := fun b => if (P b && !(b == z)) = true then max 0 (min (W b) (V - sI (fun c => if ((P c && !(c == z)) && ahd K c b) = true then W c else 0) n)) else 0) (b := z) n hz fun k hk hne => by
        show (if P k = true then _ else 0) = if (P k && !(k == z)) = true then _ else 0
        rw [hP', if_neg hne]
        by_cases pk : P k = true
        · rw [if_pos pk, if_pos pk, eA k hk hne pk]
        · rw [if_neg pk, if_neg pk]]
      rw [IH]
      show min V S' + ((if P z = true then max 0 (min (W z) (V - sI (fun c => if P c && ahd K c z then W c else 0) n)) else 0) - (if (P z && !(z == z)) = true then _ else 0)) = _
      rw [if_pos pz, eZ, hP', if_pos rfl]
      simp
    rw [eL, eW]
    have := hW z hz pz
    omega
/-- all on a side get the volume -/
theorem sum_G {S : hs_S} {r u all : Int32} {g : Nat} (hg : g ≤ 80) (hm : ∀ b, b < g → 1 ≤ (S.1 68 1 b).toInt ∧ (S.1 68 1 b).toInt ≤ 100) (ha : all.toInt = sI (fun b => if shT S r u b then (S.1 68 1 b).toInt else 0) g) (hv0 : 0 ≤ (shV0 S r).toInt) (hv : (shV0 S r).toInt ≤ all.toInt) : sI (fun b => if shT S r u b then shG S r u all g b else 0) g = (shV0 S r).toInt := by
  obtain ⟨f1, f2, f3⟩ := sh_fit hg hm ha hv0 hv
  have h1 := take_sum (shK S r u all) (shW S r) g _ (shT S r u) rfl (fun b hb _ => by have := shW_1 (r := r) (hm b hb); omega) (shV S r u all g) f1
  have e : sI (fun b => if shT S r u b then shG S r u all g b else 0) g = sI (fun b => if shT S r u b then shB S r all b else 0) g + sI (fun b => if shT S r u b then max 0 (min (shW S r b) (shV S r u all g - sI (fun c => if shT S r u c && ahd (shK S r u all) c b then shW S r c else 0) g)) else 0) g := by
    rw [← sI_add]
    refine sI_c g fun b _ => ?_
    by_cases q : shT S r u b = true
    · rw [if_pos q, if_pos q, if_pos q]; rfl
    · rw [if_neg q, if_neg q, if_neg q]; rfl
  rw [e, h1]
  have : shV S r u all g = (shV0 S r).toInt - sI (fun b => if shT S r u b then shB S r all b else 0) g := rfl
  omega
theorem shG_b {S : hs_S} {r u all : Int32} {g b : Nat} (hg : g ≤ 80) (hm : ∀ b, b < g → 1 ≤ (S.1 68 1 b).toInt ∧ (S.1 68 1 b).toInt ≤ 100) (ha : all.toInt = sI (fun b => if shT S r u b then (S.1 68 1 b).toInt else 0) g) (hv0 : 0 ≤ (shV0 S r).toInt) (hv : (shV0 S r).toInt ≤ all.toInt) (hb : b < g) (hT : shT S r u b = true) : 0 ≤ shG S r u all g b ∧ shG S r u all g b ≤ 8000 := by
  obtain ⟨a0, a1, a2⟩ := sh_all hg hm ha
  have nn : ∀ c, c < g → 0 ≤ (if shT S r u c then shG S r u all g c else 0) := fun c hc => by
    by_cases q : shT S r u c = true
    · rw [if_pos q]
      have := a2 c hc q
      have := hm c hc
      have := (shB_b (r := r) (all := all) (b := c) hv0 (by omega) (hm c hc) (by omega)).1
      unfold shG
      omega
    · rw [if_neg q]; omega
  have h1 := nn b hb
  have h2 := sI_ge g nn hb
  rw [sum_G hg hm ha hv0 hv] at h2
  rw [if_pos hT] at h1 h2
  omega
