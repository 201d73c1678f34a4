abbrev gE : Type := (Int32 → Nat) × ((Int32 → Nat → Int32) × ((Int32 → Nat → Int32) × ((Int32 → Int32 → Bool) × (Int32 → Nat → List Int32 → Int32 ⊕ List Int32))))
def gev (E : gE) : Nat → Int32 → Nat → List Int32 → Option (Int32 × Int32)
  | 0, _, _, _ => none
  | n + 1, c, i, p =>
    if i = E.1 c then some (0, p.headD 0)
    else if E.2.1 c i = 1 then
      (if E.2.2.2.1 c (E.2.2.1 c i) = false then some (1, 0)
       else match gev E n (E.2.2.1 c i) 0 [] with
        | none => none
        | some r => if r.1 = 0 then gev E n c (i + 1) (r.2 :: p) else some (r.1, 0))
    else match E.2.2.2.2 c i p with
      | .inl f => some (f, 0)
      | .inr p' => gev E n c (i + 1) p'
def gVal (E : gE) (c f v : Int32) : Prop := (∃ n, gev E n c 0 [] = some (f, v)) ∨ (f = 2 ∧ v = 0 ∧ ∀ n, gev E n c 0 [] = none)
theorem gev_end {E : gE} {c : Int32} {n i : Nat} {p : List Int32} (h : i = E.1 c) : gev E (n + 1) c i p = some (0, p.headD 0) := by
  unfold gev; rw [if_pos h]
theorem gev_hid {E : gE} {c : Int32} {n i : Nat} {p : List Int32} (h : i ≠ E.1 c) (hw : E.2.1 c i = 1) (hr : E.2.2.2.1 c (E.2.2.1 c i) = false) : gev E (n + 1) c i p = some (1, 0) := by
  unfold gev; rw [if_neg h, if_pos hw, if_pos hr]
theorem gev_ask {E : gE} {c : Int32} {n i : Nat} {p : List Int32} (h : i ≠ E.1 c) (hw : E.2.1 c i = 1) (hr : ¬ E.2.2.2.1 c (E.2.2.1 c i) = false) : gev E (n + 1) c i p = (match gev E n (E.2.2.1 c i) 0 [] with
        | none => none
        | some r => if r.1 = 0 then gev E n c (i + 1) (r.2 :: p) else some (r.1, 0)) := by
  conv => lhs; unfold gev
  rw [if_neg h, if_pos hw, if_neg hr]
theorem gev_word {E : gE} {c : Int32} {n i : Nat} {p : List Int32} (h : i ≠ E.1 c) (hw : ¬ E.2.1 c i = 1) : gev E (n + 1) c i p = (match E.2.2.2.2 c i p with
      | .inl f => some (f, 0)
      | .inr p' => gev E n c (i + 1) p') := by
  conv => lhs; unfold gev
  rw [if_neg h, if_neg hw]
theorem gev_mono1 {E : gE} : ∀ n c i p r, gev E n c i p = some r → gev E (n + 1) c i p = some r := by
  intro n
  induction n with
  | zero => intro c i p r h; exact nomatch h
  | succ n ih =>
    intro c i p r h
    by_cases h1 : i = E.1 c
    · rw [gev_end h1] at h ⊢; exact h
    · by_cases h2 : E.2.1 c i = 1
      · by_cases h3 : E.2.2.2.1 c (E.2.2.1 c i) = false
        · rw [gev_hid h1 h2 h3] at h ⊢; exact h
        · rw [gev_ask h1 h2 h3] at h ⊢
          cases q : gev E n (E.2.2.1 c i) 0 [] with
          | none => rw [q] at h; exact nomatch h
          | some r' =>
            rw [q] at h
            rw [ih _ _ _ _ q]
            by_cases h4 : r'.1 = 0
            · have h' : gev E n c (i + 1) (r'.2 :: p) = some r := by
                have : (if r'.1 = 0 then gev E n c (i + 1) (r'.2 :: p) else some (r'.1, 0)) = some r := h
                rwa [if_pos h4] at this
              show (if r'.1 = 0 then gev E (n + 1) c (i + 1) (r'.2 :: p) else some (r'.1, 0)) = some r
              rw [if_pos h4]; exact ih _ _ _ _ h'
            · have h' : (if r'.1 = 0 then gev E n c (i + 1) (r'.2 :: p) else some (r'.1, 0)) = some r := h
              rw [if_neg h4] at h'
              show (if r'.1 = 0 then gev E (n + 1) c (i + 1) (r'.2 :: p) else some (r'.1, 0)) = some r
              rw [if_neg h4]; exact h'
      · rw [gev_word h1 h2] at h ⊢
        cases q : E.2.2.2.2 c i p with
        | inl f => rw [q] at h; exact h
        | inr p' => rw [q] at h; exact ih _ _ _ _ h
theorem gev_mono {E : gE} {c : Int32} {i : Nat} {p : List Int32} {r : Int32 × Int32} {n m : Nat} (hnm : n ≤ m) (h : gev E n c i p = some r) : gev E m c i p = some r := by
  induction hnm with
  | refl => exact h
  | step _ ih => exact gev_mono1 _ _ _ _ _ ih
theorem gev_fun {E : gE} {c : Int32} {i : Nat} {p : List Int32} {r r' : Int32 × Int32} {n m : Nat} (h : gev E n c i p = some r) (h' : gev E m c i p = some r') : r = r' :=
  Option.some.inj ((gev_mono (Nat.le_max_left n m) h).symm.trans (gev_mono (Nat.le_max_right n m) h'))
theorem gVal_fun {E : gE} {c f v f' v' : Int32} (h : gVal E c f v) (h' : gVal E c f' v') : f = f' ∧ v = v' := by
  rcases h with ⟨n, h⟩ | ⟨h1, h2, h3⟩
  · rcases h' with ⟨m, h'⟩ | ⟨_, _, h3'⟩
    · have := gev_fun h h'
      exact ⟨congrArg Prod.fst this, congrArg Prod.snd this⟩
    · rw [h3' n] at h; exact nomatch h
  · rcases h' with ⟨m, h'⟩ | ⟨h1', h2', _⟩
    · rw [h3 m] at h'; exact nomatch h'
    · exact ⟨h1.trans h1'.symm, h2.trans h2'.symm⟩
/-- a fault has no number -/
theorem gev_bad {E : gE} : ∀ n c i p r, gev E n c i p = some r → r.1 ≠ 0 → r.2 = 0 := by
  intro n
  induction n with
  | zero => intro c i p r h; exact nomatch h
  | succ n ih =>
    intro c i p r h hr
    by_cases h1 : i = E.1 c
    · rw [gev_end h1] at h
      have := Option.some.inj h
      rw [← this] at hr; exact absurd rfl hr
    · by_cases h2 : E.2.1 c i = 1
      · by_cases h3 : E.2.2.2.1 c (E.2.2.1 c i) = false
        · rw [gev_hid h1 h2 h3] at h; rw [← Option.some.inj h]
        · rw [gev_ask h1 h2 h3] at h
          cases q : gev E n (E.2.2.1 c i) 0 [] with
          | none => rw [q] at h; exact nomatch h
          | some r' =>
            rw [q] at h
            have h' : (if r'.1 = 0 then gev E n c (i + 1) (r'.2 :: p) else some (r'.1, 0)) = some r := h
            by_cases h4 : r'.1 = 0
            · rw [if_pos h4] at h'; exact ih _ _ _ _ h' hr
            · rw [if_neg h4] at h'; rw [← Option.some.inj h']
      · rw [gev_word h1 h2] at h
        cases q : E.2.2.2.2 c i p with
        | inl f => rw [q] at h; rw [← Option.some.inj h]
        | inr p' => rw [q] at h; exact ih _ _ _ _ h hr
theorem gVal_bad {E : gE} {c f v : Int32} (h : gVal E c f v) (hf : f ≠ 0) : v = 0 := by
  rcases h with ⟨n, h⟩ | ⟨_, h, _⟩
  · exact gev_bad _ _ _ _ _ h hf
  · exact h
/-! ===== cells that wait for one another ===== -/
def gAsk (E : gE) (f : Frm) (x : Int32) : Prop := f.2.1 ≠ E.1 f.1 ∧ E.2.1 f.1 f.2.1 = 1 ∧ ¬ E.2.2.2.1 f.1 (E.2.2.1 f.1 f.2.1) = false ∧ E.2.2.1 f.1 f.2.1 = x
def gGd (E : gE) (f : Frm) : Prop := (∀ n r, gev E n f.1 0 [] = some r → ∃ m, m ≤ n ∧ gev E m f.1 f.2.1 f.2.2 = some r) ∧ ∀ n r, gev E n f.1 f.2.1 f.2.2 = some r → ∃ m, gev E m f.1 0 [] = some r
def gLk (E : gE) : List Frm → Prop
  | [] => True
  | f :: r => (∀ g r', r = g :: r' → gAsk E g f.1) ∧ gLk E r
theorem gask_some {E : gE} {f : Frm} {x : Int32} (hg : gGd E f) (ha : gAsk E f x) {n : Nat} {r : Int32 × Int32} (h : gev E n f.1 0 [] = some r) : ∃ m r', m < n ∧ gev E m x 0 [] = some r' := by
  obtain ⟨m, hm, h1⟩ := hg.1 n r h
  obtain ⟨a1, a2, a3, a4⟩ := ha
  cases m with
  | zero => exact nomatch h1
  | succ m =>
    rw [gev_ask a1 a2 a3, a4] at h1
    cases q : gev E m x 0 [] with
    | none => rw [q] at h1; exact nomatch h1
    | some r' => exact ⟨m, r', by omega, q⟩
/-- cells that ask one another in a circle come to nothing -/
theorem gcirc {E : gE} {fs : List Frm} (hg : ∀ f ∈ fs, gGd E f) (hl : ∀ f ∈ fs, ∃ g ∈ fs, gAsk E f g.1) : ∀ n, ∀ f ∈ fs, gev E n f.1 0 [] = none := by
  intro n
  induction n using Nat.strongRecOn with
  | _ n ih =>
    intro f hf
    cases q : gev E n f.1 0 [] with
    | none => rfl
    | some r =>
      obtain ⟨g, hgm, ha⟩ := hl f hf
      obtain ⟨m, r', hm, h⟩ := gask_some (hg f hf) ha q
      rw [ih m hm g hgm] at h
      exact nomatch h
/-- the first of them asks for one that waits -/
theorem gcirc2 {E : gE} : ∀ (fs : List Frm) (x : Int32), (∀ f ∈ fs, gGd E f) → gLk E fs → (∀ f r, fs = f :: r → gAsk E f x) → (∃ f ∈ fs, f.1 = x) → ∀ n, gev E n x 0 [] = none := by
  have cut : ∀ (fs : List Frm) (x y : Int32), (∀ f ∈ fs, gGd E f) → gLk E fs → (∀ f r, fs = f :: r → gAsk E f y) → (∃ f ∈ fs, f.1 = x) → ∃ gs : List Frm, (∀ f ∈ gs, gGd E f) ∧ (∃ f ∈ gs, f.1 = x) ∧ ∀ f ∈ gs, gAsk E f y ∨ ∃ g ∈ gs, gAsk E f g.1 := by
    intro fs
    induction fs with
    | nil => intro x y _ _ _ h; obtain ⟨f, hf, _⟩ := h; exact nomatch hf
    | cons f r ih =>
      intro x y hg hl ha hx
      by_cases q : f.1 = x
      · exact ⟨[f], fun g h => by rw [List.mem_singleton.mp h]; exact hg f (List.mem_cons_self ..), ⟨f, List.mem_cons_self .., q⟩, fun g h => by rw [List.mem_singleton.mp h]; exact Or.inl (ha f r rfl)⟩
      · have hx' : ∃ g ∈ r, g.1 = x := by
          obtain ⟨g, hgm, e⟩ := hx
          rcases List.mem_cons.mp hgm with w | w
          · rw [w] at e; exact absurd e q
          · exact ⟨g, w, e⟩
        obtain ⟨gs, g1, ⟨z, g2, g3⟩, g4⟩ := ih x f.1 (fun g h => hg g (List.mem_cons_of_mem _ h)) hl.2 (fun g r' e => hl.1 g r' e) hx'
        refine ⟨f :: gs, fun g h => ?_, ⟨z, List.mem_cons_of_mem _ g2, g3⟩, fun g h => ?_⟩
        · rcases List.mem_cons.mp h with w | w
          · rw [w]; exact hg f (List.mem_cons_self ..)
          · exact g1 g w
        · rcases List.mem_cons.mp h with w | w
          · rw [w]; exact Or.inl (ha f r rfl)
          · rcases g4 g w with v | ⟨u, v1, v2⟩
            · exact Or.inr ⟨f, List.mem_cons_self .., v⟩
            · exact Or.inr ⟨u, List.mem_cons_of_mem _ v1, v2⟩
  intro fs x hg hl ha hx n
  obtain ⟨gs, g1, ⟨z, g2, g3⟩, g4⟩ := cut fs x x hg hl ha hx
  have := gcirc (fs := gs) g1 (fun f hf => (g4 f hf).elim (fun w => ⟨z, g2, by rw [g3]; exact w⟩) id) n z g2
  rw [g3] at this
  exact this
theorem gGd_0 {E : gE} {c : Int32} : gGd E (c, (0, [])) := ⟨fun n _ h => ⟨n, Nat.le_refl _, h⟩, fun n _ h => ⟨n, h⟩⟩
/-- a frame goes on by a word -/
theorem gGd_w {E : gE} {c : Int32} {i : Nat} {p q : List Int32} (h : gGd E (c, (i, p))) (h1 : i ≠ E.1 c) (h2 : ¬ E.2.1 c i = 1) (h3 : E.2.2.2.2 c i p = .inr q) : gGd E (c, (i + 1, q)) := by
  refine ⟨fun n r hr => ?_, fun n r hr => ?_⟩
  · obtain ⟨m, hm, hv⟩ := h.1 n r hr
    cases m with
    | zero => exact nomatch hv
    | succ m =>
      have hv' : gev E (m + 1) c i p = some r := hv
      rw [gev_word h1 h2, h3] at hv'
      exact ⟨m, by omega, hv'⟩
  · refine h.2 (n + 1) r ?_
    show gev E (n + 1) c i p = some r
    rw [gev_word h1 h2, h3]; exact hr
/-- .. by a cell's number -/
theorem gGd_c {E : gE} {c x v : Int32} {i : Nat} {p : List Int32} (h : gGd E (c, (i, p))) (ha : gAsk E (c, (i, p)) x) {k : Nat} (hv : gev E k x 0 [] = some (0, v)) : gGd E (c, (i + 1, v :: p)) := by
  obtain ⟨a1, a2, a3, a4⟩ := ha
  have a1' : i ≠ E.1 c := a1
  have a2' : E.2.1 c i = 1 := a2
  have a3' : ¬ E.2.2.2.1 c (E.2.2.1 c i) = false := a3
  have a4' : E.2.2.1 c i = x := a4
  refine ⟨fun n r hr => ?_, fun n r hr => ?_⟩
  · obtain ⟨m, hm, hq⟩ := h.1 n r hr
    cases m with
    | zero => exact nomatch hq
    | succ m =>
      have hq' : gev E (m + 1) c i p = some r := hq
      rw [gev_ask a1' a2' a3', a4'] at hq'
      cases q : gev E m x 0 [] with
      | none => rw [q] at hq'; exact nomatch hq'
      | some r' =>
        have e := gev_fun q hv
        rw [q, e] at hq'
        exact ⟨m, by omega, hq'⟩
  · refine h.2 (max n k + 1) r ?_
    show gev E (max n k + 1) c i p = some r
    rw [gev_ask a1' a2' a3', a4', gev_mono (Nat.le_max_right n k) hv]
    show (if (0 : Int32) = 0 then gev E (max n k) c (i + 1) (v :: p) else _) = some r
    rw [if_pos rfl]
    exact gev_mono (Nat.le_max_left n k) hr
/-- .. ends by a fault of a cell that it asks for -/
theorem gVal_c {E : gE} {c x f v : Int32} {i : Nat} {p : List Int32} (h : gGd E (c, (i, p))) (ha : gAsk E (c, (i, p)) x) (hx : gVal E x f v) (hf : f ≠ 0) : gVal E c f 0 := by
  rcases hx with ⟨k, hk⟩ | ⟨h1, _, h3⟩
  · left
    obtain ⟨a1, a2, a3, a4⟩ := ha
    refine h.2 (k + 1) _ ?_
    show gev E (k + 1) c i p = _
    have a4' : E.2.2.1 c i = x := a4
    rw [gev_ask a1 a2 a3, a4', hk]
    exact if_neg hf
  · right
    refine ⟨h1, rfl, fun n => ?_⟩
    cases q : gev E n c 0 [] with
    | none => rfl
    | some r =>
      obtain ⟨m, r', _, hm⟩ := gask_some h ha q
      rw [h3 m] at hm; exact nomatch hm

