/-! ===== new objects: loops ===== -/
def ldg0 (S : hs_S) : hs_S :=
  let S2 := hs_wR (hs_nw S 35) 6 1 1 (S.2.2.2 35 + 1)
  let S4 := hs_wR (hs_nw S2 36) 6 1 2 (S2.2.2.2 36 + 1)
  let S6 := hs_wR (hs_nw S4 37) 6 1 3 (S4.2.2.2 37 + 1)
  let S8 := hs_wR (hs_nw S6 38) 6 1 4 (S6.2.2.2 38 + 1)
  let S10 := hs_wR (hs_nw S8 39) 6 1 5 (S8.2.2.2 39 + 1)
  hs_wR S10 6 1 0 1
def ldk (X : hs_S) (k : Nat) : hs_S := (fun t i p => if t = 37 ∧ i = 1 ∧ p < k then 100000 else X.1 t i p, X.2)
def E_Ldg_init (S : hs_S) : hs_S := ldk (ldg0 S) 6
theorem v_Ldg_init {S : hs_S} {Q : hs_S → Prop} (h37 : S.2.2.2 37 = 0) (h : Q (E_Ldg_init S)) : vc_Ldg_init S Q := by
  have e3 : (ldg0 S).2.1 6 1 3 = 1 := congrArg (· + 1) h37
  rintro _ rfl _ rfl _ rfl _ rfl _ rfl _ rfl _ rfl _ rfl _ rfl _ rfl S11 h11
  have h11' : S11 = ldg0 S := h11
  refine ⟨fun N x T => ∃ k, k ≤ 6 ∧ x = nI k ∧ N = 6 - k ∧ T = ldk (ldg0 S) k, ⟨6, 0, by omega, rfl, rfl, ?_⟩, ?_⟩
  · rw [h11']
    refine Prod.ext (funext fun t => funext fun i => funext fun p => ?_) rfl
    exact (if_neg fun z => absurd z.2.2 (Nat.not_lt_zero _) : (if t = 37 ∧ i = 1 ∧ p < 0 then (100000 : Int32) else (ldg0 S).1 t i p) = _).symm
  · rintro N x T ⟨k, hk, rfl, rfl, rfl⟩
    refine ⟨fun z => ?_, fun z => ⟨e3, ?_⟩⟩
    · have : k = 6 := hl_end (g := 6) (by omega) hk z
      subst this
      exact h
    · have hk1 : k < 6 := hl_go (g := 6) (by omega) hk z
      refine ⟨hl_ix (by omega) (by omega), ?_⟩
      rintro _ rfl
      refine ⟨6 - (k + 1), by omega, k + 1, hk1, nI_1 k, rfl, ?_⟩
      rw [hl_cl (by omega)]
      refine Prod.ext (funext fun t => funext fun i => funext fun p => ?_) rfl
      show (if t = 37 ∧ i = 1 ∧ p = k then (100000 : Int32) else if t = 37 ∧ i = 1 ∧ p < k then 100000 else (ldg0 S).1 t i p) = if t = 37 ∧ i = 1 ∧ p < k + 1 then 100000 else (ldg0 S).1 t i p
      by_cases q : t = 37 ∧ i = 1 ∧ p = k
      · rw [if_pos q, if_pos ⟨q.1, q.2.1, by omega⟩]
      · rw [if_neg q]
        by_cases w : t = 37 ∧ i = 1 ∧ p < k
        · rw [if_pos w, if_pos ⟨w.1, w.2.1, by omega⟩]
        · rw [if_neg w, if_neg fun y => by
            by_cases e : p = k
            · exact q ⟨y.1, y.2.1, e⟩
            · exact w ⟨y.1, y.2.1, by omega⟩]
def Fn0 (S : hs_S) : hs_S :=
  let S2 := hs_wR (hs_nw S 28) 4 1 3 (S.2.2.2 28 + 1)
  let S4 := hs_wR (hs_nw S2 29) 4 1 4 (S2.2.2.2 29 + 1)
  let S6 := hs_wR (hs_nw S4 30) 4 1 5 (S4.2.2.2 30 + 1)
  let S8 := hs_wR (hs_nw S6 31) 4 1 6 (S6.2.2.2 31 + 1)
  let S11 := hs_wR (hs_nm S8) 4 1 7 1
  let S13 := hs_wR (hs_nw S11 34) 4 1 8 (S11.2.2.2 34 + 1)
  hs_wR (hs_wR (hs_wR (hs_wI S13 4 1 9 0) 4 1 0 1) 4 1 1 1) 4 1 2 1
def fnk (X : hs_S) (k : Nat) : hs_S := (X.1, (fun t i p => if t = 28 ∧ i = 1 ∧ p < k then 1 else X.2.1 t i p, X.2.2))
def E_Fnd_init (S : hs_S) : hs_S := fnk (Fn0 S) 24
theorem v_Fnd_init {S : hs_S} {Q : hs_S → Prop} (h28 : S.2.2.2 28 = 0) (h32 : S.2.2.2 32 = 0) (h33 : S.2.2.2 33 = 0) (h9 : S.2.1 9 1 0 = 1) (h93 : S.2.1 9 1 3 = 1) (h : Q (E_Fnd_init S)) : vc_Fnd_init S Q := by
  have e3 : (Fn0 S).2.1 4 1 3 = 1 := congrArg (· + 1) h28
  have e9 : (Fn0 S).2.1 9 1 3 = 1 := h93
  rintro _ rfl _ rfl _ rfl _ rfl _ rfl _ rfl _ rfl _ rfl
  refine ⟨⟨h32, h33⟩, ?_⟩
  rintro _ rfl _ rfl _ rfl _ rfl _ rfl _ rfl _ rfl
  refine ⟨h9, fun S18 h18 => ?_⟩
  have h18' : S18 = Fn0 S := h18
  refine ⟨fun N x T => ∃ k, k ≤ 24 ∧ x = nI k ∧ N = 24 - k ∧ T = fnk (Fn0 S) k, ⟨24, 0, by omega, rfl, rfl, ?_⟩, ?_⟩
  · rw [h18']
    refine Prod.ext rfl (Prod.ext (funext fun t => funext fun i => funext fun p => ?_) rfl)
    exact (if_neg fun z => absurd z.2.2 (Nat.not_lt_zero _) : (if t = 28 ∧ i = 1 ∧ p < 0 then 1 else (Fn0 S).2.1 t i p) = _).symm
  · rintro N x T ⟨k, hk, rfl, rfl, rfl⟩
    refine ⟨fun z => ?_, fun z => ⟨e3, e9, ?_⟩⟩
    · have : k = 24 := hl_end (g := 24) (by omega) hk z
      subst this
      exact h
    · have hk1 : k < 24 := hl_go (g := 24) (by omega) hk z
      refine ⟨hl_ix (by omega) (by omega), ?_⟩
      rintro _ rfl
      refine ⟨24 - (k + 1), by omega, k + 1, hk1, nI_1 k, rfl, ?_⟩
      rw [hl_cl (by omega)]
      refine Prod.ext rfl (Prod.ext (funext fun t => funext fun i => funext fun p => ?_) rfl)
      show (if t = 28 ∧ i = 1 ∧ p = k then 1 else if t = 28 ∧ i = 1 ∧ p < k then 1 else (Fn0 S).2.1 t i p) = if t = 28 ∧ i = 1 ∧ p < k + 1 then 1 else (Fn0 S).2.1 t i p
      by_cases q : t = 28 ∧ i = 1 ∧ p = k
      · rw [if_pos q, if_pos ⟨q.1, q.2.1, by omega⟩]
      · rw [if_neg q]
        by_cases w : t = 28 ∧ i = 1 ∧ p < k
        · rw [if_pos w, if_pos ⟨w.1, w.2.1, by omega⟩]
        · rw [if_neg w, if_neg fun y => by
            by_cases e : p = k
            · exact q ⟨y.1, y.2.1, e⟩
            · exact w ⟨y.1, y.2.1, by omega⟩]
