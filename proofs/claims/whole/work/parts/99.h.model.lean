/-! ===== a new reference ===== -/
def st1 (t f : Nat) (S : hs_S) : hs_S := hs_wR (hs_nw S t) 11 1 f (S.2.2.2 t + 1)
def MdI0 (S : hs_S) : hs_S := (st1 97 57 (st1 96 56 (st1 94 54 (st1 92 52 (st1 91 51 (st1 90 50 (st1 89 49 (st1 88 48 (st1 87 47 (st1 86 46 (st1 85 45 (st1 84 44 (st1 83 43 (st1 82 42 (st1 81 41 (st1 80 40 (st1 79 39 (st1 78 38 (st1 77 37 (st1 75 35 (st1 74 34 (st1 73 33 (st1 72 32 (st1 71 31 (st1 70 30 (st1 69 29 (st1 68 28 (st1 67 27 (st1 66 26 (st1 65 25 (st1 63 23 (st1 62 22 (st1 61 21 (st1 60 20 (st1 59 19 (st1 58 18 (st1 57 17 (st1 56 16 (st1 55 15 (st1 54 14 (st1 53 13 (st1 51 11 (st1 49 9 (st1 48 8 (st1 47 7 (st1 46 6 (st1 44 4 (st1 43 3 (st1 42 2 S)))))))))))))))))))))))))))))))))))))))))))))))))
def gk (X : hs_S) (t : Nat) (v : Int32) (k : Nat) : hs_S := (fun a i p => if a = t ∧ i = 1 ∧ p < k then v else X.1 a i p, X.2)
theorem gk_0 {X : hs_S} {t : Nat} {v : Int32} : gk X t v 0 = X := by
  refine Prod.ext (funext fun a => funext fun i => funext fun p => ?_) rfl
  exact (if_neg fun z => absurd z.2.2 (Nat.not_lt_zero _) : (if a = t ∧ i = 1 ∧ p < 0 then v else X.1 a i p) = _)
theorem gk_s {X : hs_S} {t k : Nat} {v : Int32} : hs_wI (gk X t v k) t 1 k v = gk X t v (k + 1) := by
  refine Prod.ext (funext fun a => funext fun i => funext fun p => ?_) rfl
  show (if a = t ∧ i = 1 ∧ p = k then v else if a = t ∧ i = 1 ∧ p < k then v else X.1 a i p) = if a = t ∧ i = 1 ∧ p < k + 1 then v else X.1 a i p
  by_cases q : a = t ∧ i = 1 ∧ p = k
  · rw [if_pos q, if_pos ⟨q.1, q.2.1, by omega⟩]
  · rw [if_neg q]
    by_cases w : a = t ∧ i = 1 ∧ p < k
    · rw [if_pos w, if_pos ⟨w.1, w.2.1, by omega⟩]
    · rw [if_neg w, if_neg fun y => by
        by_cases e : p = k
        · exact q ⟨y.1, y.2.1, e⟩
        · exact w ⟨y.1, y.2.1, by omega⟩]
def E_M_init (S : hs_S) : hs_S := gk (gk (MdI0 S) 62 (-1) 4) 88 100000 6
theorem v_M_init {S : hs_S} {Q : hs_S → Prop} (h62 : S.2.2.2 62 = 0) (h88 : S.2.2.2 88 = 0) (h : Q (E_M_init S)) : vc_M_init S Q := by
  have e22 : (MdI0 S).2.1 11 1 22 = 1 := congrArg (· + 1) h62
  have e48 : (MdI0 S).2.1 11 1 48 = 1 := congrArg (· + 1) h88
  intro U1 u1 V1 v1
  have g1 : V1 = st1 42 2 S := by rw [v1, u1]; rfl
  clear u1 v1
  intro U2 u2 V2 v2
  have g2 : V2 = st1 43 3 V1 := by rw [v2, u2]; rfl
  clear u2 v2
  intro U3 u3 V3 v3
  have g3 : V3 = st1 44 4 V2 := by rw [v3, u3]; rfl
  clear u3 v3
  intro U4 u4 V4 v4
  have g4 : V4 = st1 46 6 V3 := by rw [v4, u4]; rfl
  clear u4 v4
  intro U5 u5 V5 v5
  have g5 : V5 = st1 47 7 V4 := by rw [v5, u5]; rfl
  clear u5 v5
  intro U6 u6 V6 v6
  have g6 : V6 = st1 48 8 V5 := by rw [v6, u6]; rfl
  clear u6 v6
  intro U7 u7 V7 v7
  have g7 : V7 = st1 49 9 V6 := by rw [v7, u7]; rfl
  clear u7 v7
  intro U8 u8 V8 v8
  have g8 : V8 = st1 51 11 V7 := by rw [v8, u8]; rfl
  clear u8 v8
  intro U9 u9 V9 v9
  have g9 : V9 = st1 53 13 V8 := by rw [v9, u9]; rfl
  clear u9 v9
  intro U10 u10 V10 v10
  have g10 : V10 = st1 54 14 V9 := by rw [v10, u10]; rfl
  clear u10 v10
  intro U11 u11 V11 v11
  have g11 : V11 = st1 55 15 V10 := by rw [v11, u11]; rfl
  clear u11 v11
  intro U12 u12 V12 v12
  have g12 : V12 = st1 56 16 V11 := by rw [v12, u12]; rfl
  clear u12 v12
  intro U13 u13 V13 v13
  have g13 : V13 = st1 57 17 V12 := by rw [v13, u13]; rfl
  clear u13 v13
  intro U14 u14 V14 v14
  have g14 : V14 = st1 58 18 V13 := by rw [v14, u14]; rfl
  clear u14 v14
  intro U15 u15 V15 v15
  have g15 : V15 = st1 59 19 V14 := by rw [v15, u15]; rfl
  clear u15 v15
  intro U16 u16 V16 v16
  have g16 : V16 = st1 60 20 V15 := by rw [v16, u16]; rfl
  clear u16 v16
  intro U17 u17 V17 v17
  have g17 : V17 = st1 61 21 V16 := by rw [v17, u17]; rfl
  clear u17 v17
  intro U18 u18 V18 v18
  have g18 : V18 = st1 62 22 V17 := by rw [v18, u18]; rfl
  clear u18 v18
  intro U19 u19 V19 v19
  have g19 : V19 = st1 63 23 V18 := by rw [v19, u19]; rfl
  clear u19 v19
  intro U20 u20 V20 v20
  have g20 : V20 = st1 65 25 V19 := by rw [v20, u20]; rfl
  clear u20 v20
  intro U21 u21 V21 v21
  have g21 : V21 = st1 66 26 V20 := by rw [v21, u21]; rfl
  clear u21 v21
  intro U22 u22 V22 v22
  have g22 : V22 = st1 67 27 V21 := by rw [v22, u22]; rfl
  clear u22 v22
  intro U23 u23 V23 v23
  have g23 : V23 = st1 68 28 V22 := by rw [v23, u23]; rfl
  clear u23 v23
  intro U24 u24 V24 v24
  have g24 : V24 = st1 69 29 V23 := by rw [v24, u24]; rfl
  clear u24 v24
  intro U25 u25 V25 v25
  have g25 : V25 = st1 70 30 V24 := by rw [v25, u25]; rfl
  clear u25 v25
  intro U26 u26 V26 v26
  have g26 : V26 = st1 71 31 V25 := by rw [v26, u26]; rfl
  clear u26 v26
  intro U27 u27 V27 v27
  have g27 : V27 = st1 72 32 V26 := by rw [v27, u27]; rfl
  clear u27 v27
  intro U28 u28 V28 v28
  have g28 : V28 = st1 73 33 V27 := by rw [v28, u28]; rfl
  clear u28 v28
  intro U29 u29 V29 v29
  have g29 : V29 = st1 74 34 V28 := by rw [v29, u29]; rfl
  clear u29 v29
  intro U30 u30 V30 v30
  have g30 : V30 = st1 75 35 V29 := by rw [v30, u30]; rfl
  clear u30 v30
  intro U31 u31 V31 v31
  have g31 : V31 = st1 77 37 V30 := by rw [v31, u31]; rfl
  clear u31 v31
  intro U32 u32 V32 v32
  have g32 : V32 = st1 78 38 V31 := by rw [v32, u32]; rfl
  clear u32 v32
  intro U33 u33 V33 v33
  have g33 : V33 = st1 79 39 V32 := by rw [v33, u33]; rfl
  clear u33 v33
  intro U34 u34 V34 v34
  have g34 : V34 = st1 80 40 V33 := by rw [v34, u34]; rfl
  clear u34 v34
  intro U35 u35 V35 v35
  have g35 : V35 = st1 81 41 V34 := by rw [v35, u35]; rfl
  clear u35 v35
  intro U36 u36 V36 v36
  have g36 : V36 = st1 82 42 V35 := by rw [v36, u36]; rfl
  clear u36 v36
  intro U37 u37 V37 v37
  have g37 : V37 = st1 83 43 V36 := by rw [v37, u37]; rfl
  clear u37 v37
  intro U38 u38 V38 v38
  have g38 : V38 = st1 84 44 V37 := by rw [v38, u38]; rfl
  clear u38 v38
  intro U39 u39 V39 v39
  have g39 : V39 = st1 85 45 V38 := by rw [v39, u39]; rfl
  clear u39 v39
  intro U40 u40 V40 v40
  have g40 : V40 = st1 86 46 V39 := by rw [v40, u40]; rfl
  clear u40 v40
  intro U41 u41 V41 v41
  have g41 : V41 = st1 87 47 V40 := by rw [v41, u41]; rfl
  clear u41 v41
  intro U42 u42 V42 v42
  have g42 : V42 = st1 88 48 V41 := by rw [v42, u42]; rfl
  clear u42 v42
  intro U43 u43 V43 v43
  have g43 : V43 = st1 89 49 V42 := by rw [v43, u43]; rfl
  clear u43 v43
  intro U44 u44 V44 v44
  have g44 : V44 = st1 90 50 V43 := by rw [v44, u44]; rfl
  clear u44 v44
  intro U45 u45 V45 v45
  have g45 : V45 = st1 91 51 V44 := by rw [v45, u45]; rfl
  clear u45 v45
  intro U46 u46 V46 v46
  have g46 : V46 = st1 92 52 V45 := by rw [v46, u46]; rfl
  clear u46 v46
  intro U47 u47 V47 v47
  have g47 : V47 = st1 94 54 V46 := by rw [v47, u47]; rfl
  clear u47 v47
  intro U48 u48 V48 v48
  have g48 : V48 = st1 96 56 V47 := by rw [v48, u48]; rfl
  clear u48 v48
  intro U49 u49 V49 v49
  have g49 : V49 = st1 97 57 V48 := by rw [v49, u49]; rfl
  clear u49 v49
  have gg : V49 = MdI0 S := by rw [g49, g48, g47, g46, g45, g44, g43, g42, g41, g40, g39, g38, g37, g36, g35, g34, g33, g32, g31, g30, g29, g28, g27, g26, g25, g24, g23, g22, g21, g20, g19, g18, g17, g16, g15, g14, g13, g12, g11, g10, g9, g8, g7, g6, g5, g4, g3, g2, g1]; rfl
  rw [gg]
  refine ⟨fun N x T => ∃ k, k ≤ 4 ∧ x = nI k ∧ N = 4 - k ∧ T = gk (MdI0 S) 62 (-1) k, ⟨4, 0, by omega, rfl, rfl, gk_0.symm⟩, ?_⟩
  rintro N x T ⟨k, hk, rfl, rfl, rfl⟩
  refine ⟨fun z => ?_, fun z => ⟨e22, ?_⟩⟩
  · have : k = 4 := hl_end (g := 4) (by omega) hk z
    subst this
    refine ⟨fun N x T => ∃ k, k ≤ 6 ∧ x = nI k ∧ N = 6 - k ∧ T = gk (gk (MdI0 S) 62 (-1) 4) 88 100000 k, ⟨6, 0, by omega, rfl, rfl, gk_0.symm⟩, ?_⟩
    rintro N x T ⟨k, hk, rfl, rfl, rfl⟩
    refine ⟨fun z => ?_, fun z => ⟨e48, ?_⟩⟩
    · have : k = 6 := hl_end (g := 6) (by omega) hk z
      subst this
      exact h
    · have hk1 : k < 6 := hl_go (g := 6) (by omega) hk z
      refine ⟨hl_ix (by omega) (by omega), ?_⟩
      rintro _ rfl
      refine ⟨6 - (k + 1), by omega, k + 1, hk1, nI_1 k, rfl, ?_⟩
      rw [hl_cl (by omega), gk_s]
  · have hk1 : k < 4 := hl_go (g := 4) (by omega) hk z
    refine ⟨hl_ix (by omega) (by omega), ?_⟩
    rintro _ rfl
    refine ⟨4 - (k + 1), by omega, k + 1, hk1, nI_1 k, rfl, ?_⟩
    rw [hl_cl (by omega), gk_s]
