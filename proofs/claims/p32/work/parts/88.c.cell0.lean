/-! ===== a new Cellmarket ===== -/
def CI1 (S : hs_S) : hs_S := hs_wR (E_Sht_init (hs_nw S 9)) 10 1 0 1
def CI2 (S : hs_S) : hs_S := hs_wR (E_Book_init (hs_nw (CI1 S) 1)) 10 1 1 1
def CI3 (S : hs_S) : hs_S := hs_wR (E_Fnd_init (hs_nw (CI2 S) 4)) 10 1 2 1
def CI4 (S : hs_S) : hs_S := hs_wR (E_Clr_init (hs_nw (CI3 S) 2)) 10 1 3 1
def E_C_init (S : hs_S) : hs_S := hs_wI (hs_wR (E_Ldg_init (hs_nw (CI4 S) 6)) 10 1 4 1) 10 1 5 0
theorem v_C_init {S : hs_S} {Q : hs_S → Prop} (hN : ∀ t, t < 10 ∨ (12 ≤ t ∧ t < 40) → S.2.2.2 t = 0) (hz : ∀ t, 12 ≤ t → t < 15 → S.2.1 t 2 0 = 0) (h : Q (E_C_init S)) : vc_C_init S Q := by
  have z : ∀ t, (t < 10 ∨ (12 ≤ t ∧ t < 40)) → S.2.2.2 t = 0 := hN
  refine ⟨z 9 (by omega), ?_⟩
  rintro _ rfl
  refine ok_Sht_init (v_Sht_init ⟨z 12 (by omega), hz 12 (by omega) (by omega)⟩ ?_)
  intro S5 h5
  have e5 : S5 = CI1 S := h5
  subst e5
  refine ⟨z 1 (by omega), ?_⟩
  rintro _ rfl
  refine ok_Book_init (v_Book_init ⟨z 13 (by omega), hz 13 (by omega) (by omega)⟩ ⟨z 14 (by omega), hz 14 (by omega) (by omega)⟩ (z 26 (by omega)) ?_)
  intro S10 h10
  have e10 : S10 = CI2 S := h10
  subst e10
  refine ⟨z 4 (by omega), ?_⟩
  rintro _ rfl
  have q7 : S.2.2.2 7 + 1 = 1 := congrArg (· + 1) (z 7 (by omega))
  have q5 : S.2.2.2 5 + 1 = 1 := congrArg (· + 1) (z 5 (by omega))
  refine ⟨rfl, rfl, ok_Fnd_init (v_Fnd_init (z 28 (by omega)) (z 32 (by omega)) (z 33 (by omega)) q7 q5 ?_)⟩
  intro S17 h17
  have e17 : S17 = CI3 S := h17
  subst e17
  refine ⟨z 2 (by omega), ?_⟩
  rintro _ rfl
  refine ⟨rfl, rfl, ok_Clr_init (v_Clr_init ?_)⟩
  intro S24 h24
  have e24 : S24 = CI4 S := h24
  subst e24
  refine ⟨z 6 (by omega), ?_⟩
  rintro _ rfl
  refine ⟨rfl, ok_Ldg_init (v_Ldg_init (z 37 (by omega)) ?_)⟩
  rintro _ rfl _ rfl
  exact h
