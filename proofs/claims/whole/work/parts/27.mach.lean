/-! ===== the machine that finds a cell's value ===== -/
theorem pig : ∀ (n : Nat) (l : List Nat), l.Nodup → (∀ x ∈ l, x < n) → l.length ≤ n := by
  intro n
  induction n with
  | zero =>
    intro l _ h
    cases l with
    | nil => exact Nat.le_refl _
    | cons a l => exact absurd (h a (List.mem_cons_self ..)) (by omega)
  | succ n ih =>
    intro l hn h
    by_cases q : n ∈ l
    · have h1 := ih (l.erase n) (hn.erase n) (fun x hx => by
        have h2 := h x (List.mem_of_mem_erase hx)
        have h3 : x ≠ n := fun w => by subst w; exact (List.Nodup.not_mem_erase hn) hx
        omega)
      rw [List.length_erase_of_mem q] at h1
      omega
    · exact Nat.le_succ_of_le (ih l hn (fun x hx => by
        have h2 := h x hx
        have h3 : x ≠ n := fun w => q (w ▸ hx)
        omega))
def sumN (f : Nat → Nat) : Nat → Nat
  | 0 => 0
  | n + 1 => sumN f n + f n
theorem sumN_le {f g : Nat → Nat} (n : Nat) (h : ∀ k, k < n → f k ≤ g k) : sumN f n ≤ sumN g n := by
  induction n with
  | zero => exact Nat.le_refl _
  | succ n ih => exact Nat.add_le_add (ih fun k hk => h k (by omega)) (h n (by omega))
theorem sumN_lt {f g : Nat → Nat} (n : Nat) (h : ∀ k, k < n → f k ≤ g k) {j : Nat} (hj : j < n) (hl : f j < g j) : sumN f n < sumN g n := by
  induction n with
  | zero => omega
  | succ n ih =>
    by_cases q : j = n
    · subst q
      exact Nat.add_lt_add_of_le_of_lt (sumN_le j fun k hk => h k (by omega)) hl
    · exact Nat.add_lt_add_of_lt_of_le (ih (fun k hk => h k (by omega)) (by omega)) (h n (by omega))
abbrev Frm := Int32 × (Nat × List Int32)
def tot : List Frm → Nat
  | [] => 0
  | f :: r => f.2.2.length + tot r
def seg (T : hs_S) (b : Nat) : List Int32 → Prop
  | [] => True
  | v :: p => T.1 94 1 (b + p.length) = v ∧ seg T b p
def Rs (S : hs_S) (e : Int32) (T : hs_S) : List Frm → Prop
  | [] => True
  | f :: r => (T.1 89 1 r.length = f.1 ∧ T.1 90 1 r.length = nI f.2.1 ∧ T.1 91 1 r.length = nI (tot r) ∧ T.1 92 1 r.length = F_editAt f.1 e S) ∧ seg T (tot r) f.2.2 ∧ Rs S e T r
theorem seg_fr {T T' : hs_S} {b : Nat} (p : List Int32) (h : ∀ j, j < b + p.length → T'.1 94 1 j = T.1 94 1 j) (s : seg T b p) : seg T' b p := by
  induction p with
  | nil => exact True.intro
  | cons v p ih =>
    refine ⟨(h _ (by simp)).trans s.1, ih (fun j hj => h j ?_) s.2⟩
    rw [List.length_cons]; omega
theorem Rs_fr {S T T' : hs_S} {e : Int32} (fs : List Frm) (h94 : ∀ j, j < tot fs → T'.1 94 1 j = T.1 94 1 j) (h89 : ∀ j, j < fs.length → T'.1 89 1 j = T.1 89 1 j) (h90 : ∀ j, j < fs.length → T'.1 90 1 j = T.1 90 1 j) (h91 : ∀ j, j < fs.length → T'.1 91 1 j = T.1 91 1 j) (h92 : ∀ j, j < fs.length → T'.1 92 1 j = T.1 92 1 j) (s : Rs S e T fs) : Rs S e T' fs := by
  induction fs with
  | nil => exact True.intro
  | cons f r ih =>
    obtain ⟨⟨a, b, c, d⟩, s2, s3⟩ := s
    have hl : r.length < (f :: r).length := by rw [List.length_cons]; omega
    have ht : tot (f :: r) = f.2.2.length + tot r := rfl
    refine ⟨⟨(h89 _ hl).trans a, (h90 _ hl).trans b, (h91 _ hl).trans c, (h92 _ hl).trans d⟩, seg_fr _ (fun j hj => h94 j (by omega)) s2, ih (fun j hj => h94 j (by omega)) (fun j hj => h89 j (by omega)) (fun j hj => h90 j (by omega)) (fun j hj => h91 j (by omega)) (fun j hj => h92 j (by omega)) s3⟩
/-- a frame has come where its cell's words lead -/
def Gd (S : hs_S) (e : Int32) (f : Frm) : Prop := ((∃ n : Nat, n < 24 ∧ f.1 = nI n) ∧ 0 < mSz S f.1 e ∧ f.2.1 ≤ mSz S f.1 e ∧ f.2.2.length = ht S f.1 e f.2.1 ∧ ∀ v ∈ f.2.2, rng v) ∧ (∀ n r, ev S e n f.1 0 [] = some r → ∃ m, m ≤ n ∧ ev S e m f.1 f.2.1 f.2.2 = some r) ∧ ∀ n r, ev S e n f.1 f.2.1 f.2.2 = some r → ∃ m, ev S e m f.1 0 [] = some r
/-- a frame asks for a cell -/
def Ask (S : hs_S) (e : Int32) (f : Frm) (x : Int32) : Prop := f.2.1 ≠ mSz S f.1 e ∧ mWh S f.1 e f.2.1 = 1 ∧ ¬ F_readsAt (F_ownerAt f.1 e S) (mGc (mWi S f.1 e f.2.1) S) e S = 0 ∧ mGc (mWi S f.1 e f.2.1) S = x
def Lk (S : hs_S) (e : Int32) : List Frm → Prop
  | [] => True
  | f :: r => (∀ g r', r = g :: r' → Ask S e g f.1) ∧ Lk S e r
/-- the last frame's cell -/
def botc : List Frm → Int32
  | [] => 0
  | [f] => f.1
  | _ :: g :: r => botc (g :: r)
theorem ask_some {S : hs_S} {e : Int32} {f : Frm} {x : Int32} (hg : Gd S e f) (ha : Ask S e f x) {n : Nat} {r : Int32 × Int32} (h : ev S e n f.1 0 [] = some r) : ∃ m r', m < n ∧ ev S e m x 0 [] = some r' := by
  obtain ⟨m, hm, h1⟩ := hg.2.1 n r h
  obtain ⟨a1, a2, a3, a4⟩ := ha
  cases m with
  | zero => exact nomatch h1
  | succ m =>
    rw [ev_ask a1 a2 a3, a4] at h1
    cases q : ev S e m x 0 [] with
    | none => rw [q] at h1; exact nomatch h1
    | some r' => exact ⟨m, r', by omega, q⟩
theorem ask_fault {S : hs_S} {e : Int32} {f : Frm} {x : Int32} (hg : Gd S e f) (ha : Ask S e f x) {n : Nat} {k : Int32} (hk : k ≠ 0) (h : ev S e n x 0 [] = some (k, 0)) : ∃ m, ev S e m f.1 0 [] = some (k, 0) := by
  obtain ⟨a1, a2, a3, a4⟩ := ha
  refine hg.2.2 (n + 1) _ ?_
  rw [ev_ask a1 a2 a3, a4, h]
  exact if_neg hk
theorem bot_fault {S : hs_S} {e : Int32} {k : Int32} (hk : k ≠ 0) : ∀ (fs : List Frm), (∀ f ∈ fs, Gd S e f) → Lk S e fs → ∀ f r, fs = f :: r → (∃ n, ev S e n f.1 0 [] = some (k, 0)) → ∃ n, ev S e n (botc fs) 0 [] = some (k, 0) := by
  intro fs
  induction fs with
  | nil => intro _ _ f r h; exact nomatch h
  | cons f0 r0 ih =>
    intro hg hl f r hfr hn
    injection hfr with h1 h2
    subst h1 h2
    cases r0 with
    | nil => exact hn
    | cons g r' =>
      obtain ⟨n, hn⟩ := hn
      have ha := hl.1 g r' rfl
      exact ih (fun x hx => hg x (List.mem_cons_of_mem _ hx)) hl.2 g r' rfl (ask_fault (hg g (List.mem_cons_of_mem _ (List.mem_cons_self ..))) ha hk hn)
theorem Lk_ask {S : hs_S} {e : Int32} : ∀ (fs : List Frm), Lk S e fs → ∀ f ∈ fs.tail, ∃ g ∈ fs, Ask S e f g.1 := by
  intro fs
  induction fs with
  | nil => intro _ f h; exact nomatch h
  | cons f0 r0 ih =>
    intro hl f hf
    cases r0 with
    | nil => exact nomatch hf
    | cons g r' =>
      rcases List.mem_cons.mp hf with h | h
      · subst h
        exact ⟨f0, List.mem_cons_self .., hl.1 _ r' rfl⟩
      · obtain ⟨x, hx, ha⟩ := ih hl.2 f h
        exact ⟨x, List.mem_cons_of_mem _ hx, ha⟩
/-- cells that ask one another in a circle come to nothing -/
theorem circ {S : hs_S} {e : Int32} {fs : List Frm} (hg : ∀ f ∈ fs, Gd S e f) (hl : ∀ f ∈ fs, ∃ g ∈ fs, Ask S e f g.1) : ∀ n, ∀ f ∈ fs, ev S e n f.1 0 [] = none := by
  intro n
  induction n using Nat.strongRecOn with
  | _ n ih =>
    intro f hf
    cases q : ev S e n f.1 0 [] with
    | none => rfl
    | some r =>
      obtain ⟨g, hgm, ha⟩ := hl f hf
      obtain ⟨m, r', hm, h⟩ := ask_some (hg f hf) ha q
      rw [ih m hm g hgm] at h
      exact nomatch h
theorem botc_mem : ∀ (fs : List Frm), fs ≠ [] → ∃ f ∈ fs, f.1 = botc fs := by
  intro fs
  induction fs with
  | nil => intro h; exact absurd rfl h
  | cons f r ih =>
    intro _
    cases r with
    | nil => exact ⟨f, List.mem_cons_self .., rfl⟩
    | cons g r' =>
      obtain ⟨x, hx, h⟩ := ih (fun h => nomatch h)
      exact ⟨x, List.mem_cons_of_mem _ hx, h⟩
/-- what is still to be done for a cell -/
def wt (T : hs_S) (fs : List Frm) (c : Nat) : Nat := if T.1 96 1 c = 0 then (match fs.find? (fun f => f.1 == nI c) with
  | none => 30
  | some f => 29 - f.2.1) else 0
theorem mFin_iff {T : hs_S} {c : Int32} : ∀ k, mFin T c k = 0 ↔ ∀ j, j < k → T.1 89 1 j ≠ c := by
  intro k
  induction k with
  | zero => exact ⟨fun _ j h => absurd h (by omega), fun _ => rfl⟩
  | succ k ih =>
    unfold mFin
    by_cases h : mFin T c k = 0
    · rw [if_pos h, bI_eq0]
      refine ⟨fun q j hj => ?_, fun q => q k (by omega)⟩
      by_cases w : j = k
      · rw [w]; exact q
      · exact ih.mp h j (by omega)
    · rw [if_neg h]
      refine ⟨fun q => absurd q (by decide), fun q => absurd (ih.mpr fun j hj => q j (by omega)) h⟩
theorem Rs_cells {S T : hs_S} {e : Int32} : ∀ (fs : List Frm), Rs S e T fs → ∀ f ∈ fs, ∃ j, j < fs.length ∧ T.1 89 1 j = f.1 := by
  intro fs
  induction fs with
  | nil => intro _ f h; exact nomatch h
  | cons f0 r ih =>
    intro s f hf
    have hl : (f0 :: r).length = r.length + 1 := List.length_cons
    rcases List.mem_cons.mp hf with h | h
    · subst h; exact ⟨r.length, by omega, s.1.1⟩
    · obtain ⟨j, hj, h2⟩ := ih s.2.2 f h
      exact ⟨j, by omega, h2⟩
theorem Rs_cells2 {S T : hs_S} {e : Int32} : ∀ (fs : List Frm), Rs S e T fs → ∀ j, j < fs.length → ∃ f ∈ fs, T.1 89 1 j = f.1 := by
  intro fs
  induction fs with
  | nil => intro _ j h; exact absurd h (by simp)
  | cons f0 r ih =>
    intro s j hj
    have hl : (f0 :: r).length = r.length + 1 := List.length_cons
    by_cases w : j = r.length
    · subst w; exact ⟨f0, List.mem_cons_self .., s.1.1⟩
    · obtain ⟨f, hf, h2⟩ := ih s.2.2 j (by omega)
      exact ⟨f, List.mem_cons_of_mem _ hf, h2⟩
