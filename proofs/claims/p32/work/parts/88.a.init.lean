/-! ===== new objects ===== -/
def E_Sht_init (S : hs_S) : hs_S :=
  let S2 := E_Rts_init (S.2.2.2 7 + 1) (hs_nw S 7)
  let S7 := hs_wR (hs_nw (hs_wR S2 9 1 0 (S.2.2.2 7 + 1)) 12) 9 1 1 1
  let S9 := hs_wR (hs_nw S7 25) 9 1 2 (S7.2.2.2 25 + 1)
  let S13 := hs_wR (E_Fml_init (S9.2.2.2 5 + 1) (hs_nw S9 5)) 9 1 3 (S9.2.2.2 5 + 1)
  hs_wR (E_Fml_init (S13.2.2.2 5 + 1) (hs_nw S13 5)) 9 1 4 (S13.2.2.2 5 + 1)
theorem v_Sht_init {S : hs_S} {Q : hs_S → Prop} (h12 : S.2.2.2 12 = 0 ∧ S.2.1 12 2 0 = 0) (h : Q (E_Sht_init S)) : vc_Sht_init S Q := by
  rintro _ rfl
  refine ok_Rts_init (Nat.succ_ne_zero _) (v_Rts_init ?_)
  rintro _ rfl
  refine ⟨h12, ?_⟩
  rintro _ rfl _ rfl _ rfl _ rfl _ rfl
  refine ok_Fml_init (Nat.succ_ne_zero _) (v_Fml_init ?_)
  rintro _ rfl _ rfl
  refine ok_Fml_init (Nat.succ_ne_zero _) (v_Fml_init ?_)
  rintro _ rfl
  exact h
/-- a round for a column, of the book -/
def rdB (c : Int32) (S : hs_S) : hs_S := hs_wR (E_Rnd_init (S.2.2.2 8 + 1) c (hs_nw S 8)) 26 1 c.toNatClampNeg (S.2.2.2 8 + 1)
def bk0 (S : hs_S) : hs_S :=
  let S3 := hs_wR (hs_nw S 13) 1 1 0 1
  let S5 := hs_wR (hs_nw S3 26) 1 1 1 (S3.2.2.2 26 + 1)
  let S8 := hs_wR (hs_nw S5 14) 1 1 2 1
  hs_wR (hs_nw S8 27) 1 1 3 (S8.2.2.2 27 + 1)
def E_Book_init (S : hs_S) : hs_S := rdB 3 (rdB 2 (rdB 1 (rdB 0 (bk0 S))))
theorem v_Book_init {S : hs_S} {Q : hs_S → Prop} (h13 : S.2.2.2 13 = 0 ∧ S.2.1 13 2 0 = 0) (h14 : S.2.2.2 14 = 0 ∧ S.2.1 14 2 0 = 0) (h26 : S.2.2.2 26 = 0) (h : Q (E_Book_init S)) : vc_Book_init S Q := by
  have e0 : (bk0 S).2.1 1 1 1 = 1 := congrArg (· + 1) h26
  refine ⟨h13, ?_⟩
  rintro _ rfl _ rfl _ rfl _ rfl
  refine ⟨h14, ?_⟩
  rintro _ rfl _ rfl _ rfl _ rfl
  refine ⟨e0, ?_⟩
  rintro _ rfl
  refine ok_Rnd_init (Nat.succ_ne_zero _) (v_Rnd_init ?_)
  rintro _ rfl
  refine ⟨e0, ?_⟩
  rintro _ rfl
  refine ok_Rnd_init (Nat.succ_ne_zero _) (v_Rnd_init ?_)
  rintro _ rfl
  refine ⟨e0, ?_⟩
  rintro _ rfl
  refine ok_Rnd_init (Nat.succ_ne_zero _) (v_Rnd_init ?_)
  rintro _ rfl
  refine ⟨e0, ?_⟩
  rintro _ rfl
  refine ok_Rnd_init (Nat.succ_ne_zero _) (v_Rnd_init ?_)
  rintro _ rfl
  exact h
def E_Clr_init (S : hs_S) : hs_S := hs_wR (hs_wR S 2 1 0 1) 2 1 1 1
theorem v_Clr_init {S : hs_S} {Q : hs_S → Prop} (h : Q (E_Clr_init S)) : vc_Clr_init S Q := by
  rintro _ rfl _ rfl
  exact h
