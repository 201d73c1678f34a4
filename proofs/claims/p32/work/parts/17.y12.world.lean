/-! ===== worlds by their keys; what lists look like ===== -/
theorem hs_e6 {DA : hs_DA} {G : hs_G} {S : hs_S} {t i b z : Nat} (hk : hs_k t = (6, (b, z))) : hs_e DA G S t i = jL (G.2.1 t) (G.1 (t + 3) 1) (nI (S.2.1 t 2 0)) := by
  unfold hs_e; rw [hk]; rfl
theorem hs_e7 {DA : hs_DA} {G : hs_G} {S : hs_S} {t i : Nat} (hk : (hs_k t).1 = 7) : hs_e DA G S t i = jA DA (G.2.2.1 t) (G.2.2.2 t) := by
  generalize hq : hs_k t = q at hk
  obtain ⟨a, x⟩ := q
  have ha : a = 7 := hk
  subst ha
  unfold hs_e; rw [hq]; rfl
theorem hs_nd {DA : hs_DA} {A : Nat → Prop} {G : hs_G} {S : hs_S} {keys : List (Nat × Nat)} (hD : va_D A (keys.map (hs_cell DA G S))) : keys.Pairwise (· ≠ ·) := by
  rw [List.pairwise_iff_getElem]
  intro i j hi hj hij e
  have h1 : keys[i]? = some keys[i] := List.getElem?_eq_getElem hi
  have h2 : keys[j]? = some keys[i] := by rw [List.getElem?_eq_getElem hj, e]
  have := hs_one hD h1 h2
  omega
theorem hs_pwi {keys : List (Nat × Nat)} (h : keys.Pairwise (· ≠ ·)) {i j : Nat} {k : Nat × Nat} (h1 : keys[i]? = some k) (h2 : keys[j]? = some k) : i = j := by
  rw [List.pairwise_iff_getElem] at h
  obtain ⟨hi, e1⟩ := List.getElem?_eq_some_iff.mp h1
  obtain ⟨hj, e2⟩ := List.getElem?_eq_some_iff.mp h2
  rcases Nat.lt_trichotomy i j with q | q | q
  · exact absurd (e1.trans e2.symm) (h i j hi hj q)
  · exact q
  · exact absurd (e2.trans e1.symm) (h j i hj hi q)
/-- a world again, key by key -/
theorem hs_wd {D : va_G} {A : Nat → Prop} {H1 : Heap} {ws' : va_W} {keys' : List (Nat × Nat)} {cell : Nat × Nat → Nat × va_E} {P : Nat × Nat → Nat → Prop} (c2 : va_P D hs_cl0 ws' H1) (c3 : va_D A ws') (hn : keys'.Pairwise (· ≠ ·)) (h1 : ∀ k ∈ keys', ∃ i, ws'[i]? = some (cell k) ∧ P k i) (h2 : ∀ k k2 i, P k i → P k2 i → k = k2) : va_P D hs_cl0 (keys'.map cell) H1 ∧ va_D A (keys'.map cell) := by
  have hm : ∀ (i : Nat) (q : Nat × va_E), (keys'.map cell)[i]? = some q → ∃ k, keys'[i]? = some k ∧ cell k = q ∧ k ∈ keys' := fun i q h => by
    rw [List.getElem?_map] at h
    obtain ⟨k, e1, e2⟩ := Option.map_eq_some_iff.mp h
    exact ⟨k, e1, e2, List.mem_of_getElem? e1⟩
  refine ⟨fun i q h => ?_, fun i j p q hi hj e => ?_, fun i q h => ?_⟩
  · obtain ⟨k, _, e2, hk⟩ := hm i q h
    obtain ⟨x, hx, _⟩ := h1 k hk
    rw [e2] at hx
    exact c2 x q hx
  · obtain ⟨k, e1, e2, hk⟩ := hm i p hi
    obtain ⟨k2, f1, f2, hk2⟩ := hm j q hj
    obtain ⟨x, hx, px⟩ := h1 k hk
    obtain ⟨y, hy, py⟩ := h1 k2 hk2
    rw [e2] at hx
    rw [f2] at hy
    have exy := c3.1 x y p q hx hy e
    subst exy
    have ek := h2 k k2 x px py
    subst ek
    exact hs_pwi hn e1 f1
  · obtain ⟨k, _, e2, hk⟩ := hm i q h
    obtain ⟨x, hx, _⟩ := h1 k hk
    rw [e2] at hx
    exact c3.2 x q hx
theorem hs_k1 {a ci N : Nat} (h : hs_k a = (1, (ci, N))) : ci ≠ 12 := by
  by_cases ha : a < 102
  · have := (by decide +kernel : ∀ a, a < 102 → (hs_k a).1 = 1 → (hs_k a).2.1 ≠ 12) a ha (by rw [h])
    rw [h] at this
    exact this
  · exfalso
    have h0 : (hs_k a).1 = 0 := by
      unfold hs_k
      split <;> first | rfl | omega
    rw [h] at h0
    exact absurd (show (1 : Nat) = 0 from h0) (by decide)
/-- what is kept of an old key's cell, where only a list's own places moved -/
theorem hs_keep {DA : hs_DA} {G G' : hs_G} {S S' : hs_S} {t : Nat} (h6t : (hs_k t).1 = 6) (hx : hs_x G S G' S') (hcl : ∀ t i j c, hs_ok S t i → hs_rt t j = some c → S.2.1 t i j = 0 ∨ hs_ok S c (S.2.1 t i j)) (h1 : ∀ a, a ≠ t → S'.1 a = S.1 a) (h2 : ∀ a, a ≠ t → S'.2.1 a = S.2.1 a) (h3 : ∀ a, a ≠ t → S'.2.2.1 a = S.2.2.1 a) (g0 : ∀ a c, ¬ (a = t ∧ c = 1) → ¬ (a = t + 3 ∧ c = 1) → G'.1 a c = G.1 a c) (g1 : ∀ a, a ≠ t → G'.2.1 a = G.2.1 a) (g2 : ∀ a, a ≠ t + 3 → G'.2.2.1 a = G.2.2.1 a ∧ G'.2.2.2 a = G.2.2.2 a) {a c : Nat} (hin : hs_in G S a c) (n1 : a ≠ t) (n2 : (a, c) ≠ (t + 3, 1)) : hs_cell DA G' S' (a, c) = hs_cell DA G S (a, c) := by
  refine Prod.ext (g0 a c (fun z => n1 z.1) (fun z => n2 (Prod.ext z.1 z.2))) ?_
  show hs_e DA G' S' a c = hs_e DA G S a c
  rcases hin with ⟨hok, h8⟩ | ⟨h7, hc1, h⟩
  · have hc := hcl a c
    unfold hs_rt at hc
    unfold hs_e
    split
    · rename_i ci N hk
      rw [hk] at hc
      congr 2
      refine List.map_congr_left fun j _ => ?_
      rw [hs_gv_o (congrFun (h1 a n1) c) (congrFun (h2 a n1) c) (congrFun (h3 a n1) c)]
      refine hx.c ?_
      unfold hs_gv
      split
      · trivial
      · trivial
      · rename_i c' hs
        refine hc j c' hok ?_
        show (match hs_sl a j with | c + 2 => some c | _ => none) = some c'
        rw [hs]
    · rw [h1 a n1]
    · rw [h1 a n1]
    · rw [h3 a n1]
    · rename_i n' b' hk
      rw [hk] at hc
      rw [h2 a n1]
      congr 7
      funext j
      unfold hs_o
      by_cases h0 : S.2.1 a c j = 0
      · rw [if_pos h0, if_pos h0]
      · rw [if_neg h0, if_neg h0, (hx b' _ ((hc j b' hok rfl).resolve_left h0)).2]
    · rename_i z hk
      have h6 : (hs_k a).1 = 6 := by rw [hk]
      have h7 := (hs_k6 h6).1
      have n3 : a + 3 ≠ t := fun z => by
        rw [z, h6t] at h7
        exact absurd h7 (by decide)
      rw [h2 a n1, g1 a n1, g0 (a + 3) 1 (fun z => n3 z.1) (fun z => n1 (by have := z.1; omega))]
    · rename_i z hk
      exact absurd (show (hs_k a).1 = 7 by rw [hk]) hok.2.1
    · rfl
  · have n3 : a ≠ t + 3 := fun z => n2 (Prod.ext z hc1)
    rw [hs_e7 h7, hs_e7 h7, (g2 a n3).1, (g2 a n3).2]
