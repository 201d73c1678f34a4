/-! ===== words and formulas ===== -/
theorem KS_d {n : Nat} {S : hs_S} (h : KS n S) : (2 ≤ S.2.1 9 1 4 ∧ S.2.1 9 1 4 = S.2.2.2 5 ∧ S.1 5 1 3 = 0) ∧ S.2.2.2 3 = hs_sz S 12 ∧ S.2.2.2 22 = S.2.2.2 5 ∧ S.2.2.2 23 = S.2.2.2 5 ∧ S.2.2.2 24 = S.2.2.2 5 ∧ S.2.2.2 0 = hs_sz S 13 := by
  obtain ⟨V, ev, ng, nl, nE, nB, nR, nd, hX, _⟩ := KS_U h
  obtain ⟨_, _, ⟨z1, z2, z3, z4, _⟩, _, _, _, a, b, c⟩ := hX.1
  exact ⟨hX.2.2.2.2.1.1, z2.trans z1.symm, a, b, c, z4.trans z3.symm⟩
def dr (S : hs_S) (g p : Nat) : Prop := S.1 5 (S.2.1 9 1 4) 3 = nI g ∧ S.1 5 (S.2.1 9 1 4) 4 = nI p
theorem jj_d {S U : hs_S} (h : hs_cl S = hs_cl U) : U.2.1 9 1 4 = S.2.1 9 1 4 := (cl_ptR h (t := 9) (i := 1) (p := 4) rfl).symm ▸ rfl
theorem jj_1 {S U : hs_S} (h : hs_cl S = hs_cl U) {t i p : Nat} (q : hs_scr t p = false) : U.1 t i p = S.1 t i p := (cl_pt h q).symm ▸ rfl
theorem jj_2 {S U : hs_S} (h : hs_cl S = hs_cl U) {t i p : Nat} (q : hs_scR t p = false) : U.2.1 t i p = S.2.1 t i p := (cl_ptR h q).symm ▸ rfl
abbrev wpT (S : hs_S) : hs_S := E_Fml_clear (S.2.1 9 1 4) S
theorem ac_wipe {n : Nat} {S : hs_S} {Q : Int32 → hs_S → Prop} (h : KS n S) (hw : hs_Wi S) (hQ : Q (S.1 5 (S.2.1 9 1 4) 3) (wpT S)) : m_C_wipe S Q := by
  refine ok_C_wipe hw ⟨by have := (KS_d h).1.1; omega, ?_⟩
  rintro _ rfl
  exact hQ
theorem jj_wipe {n : Nat} {S U : hs_S} (h : JJ n S U) : JJ n (wpT S) (wpT U) ∧ dr (wpT S) 0 0 ∧ S.1 5 (S.2.1 9 1 4) 3 = U.1 5 (U.2.1 9 1 4) 3 := by
  refine ⟨⟨kp_wipe h.1, ?_, ?_⟩, ⟨?_, ?_⟩, ?_⟩
  · rw [← h.2.1]
    exact csum_c (fun _ _ => rfl) 6 (Nat.le_refl _)
  · unfold wpT E_Fml_clear
    rw [jj_d h.2.2]
    exact cg_I (cg_I h.2.2 rfl) rfl
  · exact (wI_at (S := hs_wI S 5 (S.2.1 9 1 4) 3 0) (t := 5)).trans ((if_neg (by decide)).trans (wI_at.trans (if_pos rfl)))
  · exact (wI_at (S := hs_wI S 5 (S.2.1 9 1 4) 3 0) (t := 5)).trans (if_pos rfl)
  · rw [jj_d h.2.2, jj_1 h.2.2 rfl]
abbrev wdT (S : hs_S) (a b c : Int32) : hs_S := E_Fml_append (S.2.1 9 1 4) a b c S
theorem wd_dr {S : hs_S} {a b c : Int32} {g p : Nat} (hd : dr S g p) (hg : g < 12) (hp : p ≤ 12) (ht : tkN a ≤ p) : dr (wdT S a b c) (g + 1) (p + 1 - tkN a) := by
  obtain ⟨d1, d2⟩ := hd
  have t3 : tkN a ≤ 3 := by unfold tkN; by_cases z : a < 8 <;> by_cases z2 : a = 14 <;> simp [z, z2]
  refine ⟨?_, ?_⟩
  · show (hs_wI (hs_wI _ 5 (S.2.1 9 1 4) 3 _) 5 (S.2.1 9 1 4) 4 _).1 5 (S.2.1 9 1 4) 3 = _
    rw [wI_at, if_neg (by decide), wI_at, if_pos rfl, d1, nI_1]
  · show (hs_wI (hs_wI _ 5 (S.2.1 9 1 4) 3 _) 5 (S.2.1 9 1 4) 4 _).1 5 (S.2.1 9 1 4) 4 = _
    rw [wI_at, if_pos rfl, d2, takes_n]
    apply Int32.toInt_inj.mp
    have z1 : (1 : Int32).toInt = 1 := rfl
    have e1 : ((1 : Int32) - nI (tkN a)).toInt = 1 - tkN a := by rw [i32_sub (by rw [z1, nI_toInt (by omega)]; omega), z1, nI_toInt (by omega)]
    rw [i32_add (by rw [e1, nI_toInt (by omega)]; omega), e1, nI_toInt (by omega), nI_toInt (by omega)]
    omega
theorem ac_word {n : Nat} {S : hs_S} {a b c : Int32} {g p : Nat} (h : KS n S) (hw : hs_Wi S) (ho : wdOk a b c) (hd : dr S g p) (hg : g < 12) (hp : p ≤ 12) (ht : tkN a ≤ p) : m_L_call 2 a b c S (lIs (nI (g + 1)) (wdT S a b c)) := by
  have hd0 : S.2.1 9 1 4 ≠ 0 := by have := (KS_d h).1.1; omega
  have hdr := wd_dr (b := b) (c := c) hd hg hp ht
  obtain ⟨d1, d2⟩ := hd
  have t3 : tkN a ≤ 3 := by unfold tkN; by_cases z : a < 8 <;> by_cases z2 : a = 14 <;> simp [z, z2]
  refine lc_2 hw fun hw => ok_C_word hw (word_vc (fun _ => ?_) (fun z => absurd ho z) rfl rfl)
  refine ⟨hd0, fun _ => ⟨fun _ => ⟨⟨g, by omega, d1⟩, ?_⟩, fun q => absurd ?_ q⟩, fun q => absurd ?_ q⟩
  · rintro _ rfl
    exact ⟨hd0, hdr.1, rfl⟩
  · rw [takes_n, d2]
    exact (hl_le (by omega) (by omega)).mpr ht
  · rw [d1]
    exact (hl_lt (b := 12) (by omega) (by omega)).mpr hg
theorem bo_word {n : Nat} {S U : hs_S} {a b c : Int32} {g p : Nat} {Q : Int32 → hs_S → hs_S → Prop} (h : JJ n S U) (hw : hs_Wi S) (hu : hs_Wi U) (ho : wdOk a b c) (hd : dr S g p) (hg : g < 12) (hp : p ≤ 12) (ht : tkN a ≤ p)
    (hQ : ∀ T', JJ n (wdT S a b c) T' → dr (wdT S a b c) (g + 1) (p + 1 - tkN a) → Q (nI (g + 1)) (wdT S a b c) T') : m_L_both 2 a b c S U Q := by
  have hd' : dr U g p := ⟨by rw [jj_d h.2.2, jj_1 h.2.2 rfl]; exact hd.1, by rw [jj_d h.2.2, jj_1 h.2.2 rfl]; exact hd.2⟩
  refine bo_f hw hu (ac_word h.1 hw ho hd hg hp ht) (ac_word h.u hu ho hd' hg hp ht) rfl (hQ _ ⟨kp_word h.1 ho hd.1 hd.2 hg hp ht, ?_, ?_⟩ (wd_dr hd hg hp ht))
  · rw [← h.2.1]
    exact csum_c (fun _ _ => rfl) 6 (Nat.le_refl _)
  · unfold wdT E_Fml_append
    rw [jj_d h.2.2, jj_1 h.2.2 (p := 3) rfl, jj_1 h.2.2 (p := 4) rfl]
    exact cg_I (cg_I (cg_I (cg_I (cg_I h.2.2 rfl) rfl) rfl) rfl) rfl
/-- what is told goes behind -/
def tld (S T : hs_S) (k o d : Nat) (l : Int32) : Prop := (hs_sz T 12 = hs_sz S 12 + 1 ∧ T.2.1 12 1 (hs_sz S 12) = hs_sz S 12 + 1 ∧ ∀ j, j < hs_sz S 12 → T.2.1 12 1 j = S.2.1 12 1 j) ∧ (∀ j, j < hs_sz S 12 → ∀ p, T.1 3 (j + 1) p = S.1 3 (j + 1) p) ∧
  (T.1 3 (hs_sz S 12 + 1) 0 = nI (hs_sz S 12) ∧ T.1 3 (hs_sz S 12 + 1) 1 = nI k ∧ T.1 3 (hs_sz S 12 + 1) 2 = nI o ∧ T.1 3 (hs_sz S 12 + 1) 3 = S.1 10 1 5 ∧ T.1 3 (hs_sz S 12 + 1) 4 = S.1 10 1 5 + l ∧ T.1 3 (hs_sz S 12 + 1) 6 = 0 ∧ T.2.1 3 (hs_sz S 12 + 1) 5 = d) ∧
  T.1 10 1 5 = S.1 10 1 5 + 1 ∧ T.1 20 = S.1 20 ∧ T.1 5 d 3 = S.1 5 d 3 ∧ T.1 36 = S.1 36 ∧ T.1 25 = S.1 25 ∧ T.1 8 = S.1 8 ∧ (∀ c, T.2.1 26 1 c = S.2.1 26 1 c) ∧ hs_sz T 13 = hs_sz S 13 ∧ hs_sz T 14 = hs_sz S 14
abbrev ntL (S : hs_S) (c : Nat) : Int32 := if (1 : Int32) < S.1 25 1 c then S.1 25 1 c else 1
theorem tell_e {S : hs_S} {k o d : Nat} {e : Int32} (hk : k < 24) : E_Sht_tell (nI k) (nI o) e d S = hs_add (E_Edit_init (S.2.2.2 3 + 1) (nI (hs_sz S 12)) (nI k) (nI o) e (e + ntL S (k / 6)) d (hs_nw S 3)) 12 (S.2.2.2 3 + 1) := by
  unfold E_Sht_tell
  rw [nI_div6 (by omega), hl_cl (by omega)]
theorem tld_0 {S : hs_S} {k o d : Nat} (hk : k < 24) (h3 : S.2.2.2 3 = hs_sz S 12) {T : hs_S} (hT : T = E_Sht_tell (nI k) (nI o) (S.1 10 1 5) d S) : (hs_sz T 12 = hs_sz S 12 + 1 ∧ T.2.1 12 1 (hs_sz S 12) = hs_sz S 12 + 1 ∧ ∀ j, j < hs_sz S 12 → T.2.1 12 1 j = S.2.1 12 1 j) ∧ (∀ j, j < hs_sz S 12 → ∀ p, T.1 3 (j + 1) p = S.1 3 (j + 1) p) ∧
  (T.1 3 (hs_sz S 12 + 1) 0 = nI (hs_sz S 12) ∧ T.1 3 (hs_sz S 12 + 1) 1 = nI k ∧ T.1 3 (hs_sz S 12 + 1) 2 = nI o ∧ T.1 3 (hs_sz S 12 + 1) 3 = S.1 10 1 5 ∧ T.1 3 (hs_sz S 12 + 1) 4 = S.1 10 1 5 + ntL S (k / 6) ∧ T.1 3 (hs_sz S 12 + 1) 6 = 0 ∧ T.2.1 3 (hs_sz S 12 + 1) 5 = d) := by
  rw [tell_e hk, h3] at hT
  have a3 : ∀ p, T.1 3 (hs_sz S 12 + 1) p = if p = 4 then S.1 10 1 5 + ntL S (k / 6) else if p = 3 then S.1 10 1 5 else if p = 2 then nI o else if p = 1 then nI k else if p = 0 then nI (hs_sz S 12) else if p = 6 then 0 else (hs_nw S 3).1 3 (hs_sz S 12 + 1) p := fun p => by
    rw [hT]
    show (hs_wI (hs_wI (hs_wI (hs_wI (hs_wI (hs_wI (hs_nw S 3) 3 (hs_sz S 12 + 1) 6 0) 3 (hs_sz S 12 + 1) 0 _) 3 (hs_sz S 12 + 1) 1 _) 3 (hs_sz S 12 + 1) 2 _) 3 (hs_sz S 12 + 1) 3 _) 3 (hs_sz S 12 + 1) 4 _).1 3 (hs_sz S 12 + 1) p = _
    rw [wI_at, wI_at, wI_at, wI_at, wI_at, wI_at]
  refine ⟨⟨by rw [hT]; rfl, ?_, fun j hj => ?_⟩, fun j hj p => ?_, a3 0, a3 1, a3 2, a3 3, a3 4, a3 6, ?_⟩
  · rw [hT]
    exact if_pos ⟨rfl, rfl, rfl⟩
  · rw [hT]
    exact (if_neg fun z => absurd (show j = hs_sz S 12 from z.2.2) (by omega)).trans ((if_neg fun z => absurd z.2.1 (by decide)).trans rfl)
  · rw [hT]
    show (hs_wI (hs_wI (hs_wI (hs_wI (hs_wI (hs_wI (hs_nw S 3) 3 (hs_sz S 12 + 1) 6 0) 3 (hs_sz S 12 + 1) 0 _) 3 (hs_sz S 12 + 1) 1 _) 3 (hs_sz S 12 + 1) 2 _) 3 (hs_sz S 12 + 1) 3 _) 3 (hs_sz S 12 + 1) 4 _).1 3 (j + 1) p = _
    rw [wI_ne (by omega), wI_ne (by omega), wI_ne (by omega), wI_ne (by omega), wI_ne (by omega), wI_ne (by omega)]
    exact if_neg fun z => by omega
  · rw [hT]
    exact wR_at.trans (if_pos rfl)
abbrev emU (S : hs_S) (k o : Nat) : hs_S := hs_wI (E_Sht_tell (nI k) (nI o) (S.1 10 1 5) 1 S) 10 1 5 (S.1 10 1 5 + 1)
theorem tld_em {n : Nat} {S : hs_S} {k o : Nat} (h : KS n S) (hk : k < 24) : tld S (emU S k o) k o 1 (ntL S (k / 6)) := by
  obtain ⟨⟨z1, z2, z3⟩, a1, a2⟩ := tld_0 (o := o) (d := 1) hk (KS_d h).2.1 rfl
  exact ⟨⟨z1, z2, z3⟩, a1, a2, rfl, rfl, rfl, rfl, rfl, rfl, fun _ => rfl, rfl, rfl⟩
theorem tld_en {n : Nat} {S : hs_S} {k o : Nat} (h : KS n S) (hk : k < 24) : tld S (enU S (nI k) (nI o)) k o (S.2.1 9 1 4) (ntL S (k / 6)) := by
  obtain ⟨⟨z1, z2, z3⟩, a1, a2⟩ := tld_0 (o := o) (d := S.2.1 9 1 4) hk (KS_d h).2.1 rfl
  refine ⟨⟨z1, z2, z3⟩, a1, a2, rfl, rfl, ?_, rfl, rfl, rfl, fun _ => rfl, rfl, rfl⟩
  have hd := (KS_d h).1.2.1
  show (hs_wI (hs_wI _ 5 (S.2.2.2 5 + 1) 3 0) 5 (S.2.2.2 5 + 1) 4 0).1 5 (S.2.1 9 1 4) 3 = _
  rw [wI_ne (by omega), wI_ne (by omega)]
  exact if_neg fun z => by have : S.2.1 9 1 4 = S.2.2.2 5 + 1 := z.2; omega
theorem tld_cEO {S T : hs_S} {k o d : Nat} {l : Int32} {c : Int32} (n : Nat) (t : tld S T k o d l) (h : KS n S) : ∀ j, j ≤ hs_sz S 12 → cEO T c j = cEO S c j := by
  intro j
  induction j with
  | zero => intro _; rfl
  | succ j ih =>
    intro hj
    have e1 : ed T j = ed S j := t.1.2.2 j (by omega)
    have e2 : ed S j = j + 1 := KS_ed h (by omega)
    unfold cEO
    rw [ih (by omega), e1, e2, t.2.1 j (by omega)]
theorem tld_n {n m : Nat} {S T : hs_S} {k o d : Nat} {l : Int32} (t : tld S T k o d l) (h : KS n S) (hT : KS m T) : ∃ cn : Nat, cn ≤ 60 ∧ F_Sht_countOf (nI k) S = nI cn ∧ F_Sht_countOf (nI k) T = nI (cn + 1) ∧ F_Sht_placed (nI k) (nI cn) T = hs_sz S 12 + 1 := by
  obtain ⟨V, ev, ng, nl, nE, nB, nR, nd, hX, _⟩ := KS_U hT
  have hz : hs_sz T 12 = nE := hX.1.2.2.1.1
  have h60 : nE ≤ 60 := hX.1.1.2.2.1.1
  have hE : ∀ j, j < nE → rE1 T V ev j := fun j hj => (hX.2.2.2.1 j hj).1
  have hz1 := t.1.1
  have e0 := tld_cEO (c := nI k) n t h (hs_sz S 12) (Nat.le_refl _)
  have e1 : cEO T (nI k) (hs_sz S 12) = nI (cnN (V.1 53 1) (nI k) (hs_sz S 12)) := (cEO_r _ fun j hj => hE j (by omega)).trans (mEO_n _)
  have hN : V.1 53 1 (hs_sz S 12) = nI k := by
    obtain ⟨_, ⟨c, hc, c1, c2⟩, _⟩ := hE (hs_sz S 12) (by omega)
    rw [c1, ← c2]; exact t.2.2.1.2.1
  have hc := cnN_le (a53 := V.1 53 1) (c := nI k) (hs_sz S 12)
  refine ⟨cnN (V.1 53 1) (nI k) (hs_sz S 12), by omega, ?_, ?_, ?_⟩
  · exact e0.symm.trans e1
  · unfold F_Sht_countOf
    rw [hz1]
    have e2 : ed T (hs_sz S 12) = hs_sz S 12 + 1 := t.1.2.1
    unfold cEO
    rw [e2, if_pos t.2.2.1.2.1, e1, nI_1]
  · unfold F_Sht_placed
    rw [hz]
    exact plc_at hE h60 (by omega) hN rfl nE (Nat.le_refl _) (by omega)
theorem tld_ct {n m : Nat} {S T : hs_S} {k o d : Nat} {l : Int32} (t : tld S T k o d l) (h : KS n S) (hT : KS m T) : (hs_sz S 12 + 1 = F_Sht_counting (nI k) (T.1 10 1 5) T ↔ ¬ S.1 10 1 5 + 1 < S.1 10 1 5 + l) := by
  have e2 : ed T (hs_sz S 12) = hs_sz S 12 + 1 := t.1.2.1
  have lo : ∀ j, j ≤ hs_sz S 12 → cCt T (nI k) (T.1 10 1 5) j ≠ hs_sz S 12 + 1 := by
    intro j
    induction j with
    | zero => intro _ z; exact absurd z.symm (Nat.succ_ne_zero _)
    | succ j ih =>
      intro hj
      have e1 : ed T j = j + 1 := (t.1.2.2 j (by omega)).trans (KS_ed h (by omega))
      unfold cCt
      rw [e1]
      by_cases q : T.1 3 (j + 1) 1 = nI k ∧ ¬ F_Edit_countsAt (j + 1) (T.1 10 1 5) T = 0
      · rw [if_pos q]; omega
      · rw [if_neg q]; exact ih (by omega)
  unfold F_Sht_counting
  rw [t.1.1]
  unfold cCt
  rw [e2]
  have e3 : F_Edit_countsAt (hs_sz S 12 + 1) (T.1 10 1 5) T = 0 ↔ S.1 10 1 5 + 1 < S.1 10 1 5 + l := by
    unfold F_Edit_countsAt
    rw [bI_eq0, t.2.2.1.2.2.2.2.2.1, t.2.2.1.2.2.2.2.1, t.2.2.2.1]
    exact ⟨fun z => Classical.byContradiction fun w => z ⟨rfl, w⟩, fun z w => w.2 z⟩
  by_cases q : S.1 10 1 5 + 1 < S.1 10 1 5 + l
  · rw [if_neg fun z => z.2 (e3.mpr q)]
    exact ⟨fun z => absurd z.symm (lo _ (Nat.le_refl _)), fun z => absurd q z⟩
  · rw [if_pos ⟨t.2.2.1.2.1, fun z => q (e3.mp z)⟩]
    exact ⟨fun _ => q, fun _ => rfl⟩
/-- an edit, told -/
def edX (T : hs_S) (k N w : Nat) : Int32 := if w = 0 then T.1 3 (N + 1) 0 else if w = 1 then T.1 3 (N + 1) 3 else if w = 2 then T.1 3 (N + 1) 4 else if w = 3 then T.1 3 (N + 1) 2 else if w = 4 then T.1 5 (T.2.1 3 (N + 1) 5) 3 else if w = 5 then (if T.1 3 (N + 1) 6 = 0 then 0 else 1) else (if N + 1 = F_Sht_counting (nI k) (T.1 10 1 5) T then 1 else 0)
theorem KS_cEd {n : Nat} {S : hs_S} (h : KS n S) : cEd S := ⟨hs_sz S 12, (KS_sz h).1.1, rfl, fun k hk => by have : ed S k = k + 1 := KS_ed h hk; omega⟩
theorem ac_edit {n c r cn N w : Nat} {T : hs_S} (h : KS n T) (hw : hs_Wi T) (hc : c < 4) (hr : r < 6) (hcn : cn ≤ 60) (hw7 : w < 7) (hp : F_Sht_placed (nI (6 * c + r)) (nI cn) T = N + 1) (h5 : T.2.1 3 (N + 1) 5 ≠ 0) : m_L_call 9 (nI c) (nI r) (nI (16 * (cn + 2) + (w + 2))) T (lIs (edX T (6 * c + r) N w) T) := by
  refine lc_9 hw fun hw => ?_
  have d1 : nI (16 * (cn + 2) + (w + 2)) / 16 - 2 = nI cn := by
    rw [show (16 : Int32) = nI 16 from rfl, pq_d (by omega) (by omega) (by omega)]
    exact pq_s (k := 2) (by omega)
  have d2 : nI (16 * (cn + 2) + (w + 2)) - nI (16 * (cn + 2) + (w + 2)) / 16 * 16 - 2 = nI w := by
    rw [show (16 : Int32) = nI 16 from rfl, pq_m (by omega) (by omega) (by omega)]
    exact pq_s (k := 2) (by omega)
  rw [d1, d2]
  refine ok_C_edit hw fun _ => y_cell hw hc hr ⟨KS_cEd h, fun _ => ?_, fun z => absurd (hp.symm.trans z) (Nat.succ_ne_zero _)⟩
  rw [hp]
  rcases (show w = 0 ∨ w = 1 ∨ w = 2 ∨ w = 3 ∨ w = 4 ∨ w = 5 ∨ w = 6 by omega) with rfl | rfl | rfl | rfl | rfl | rfl | rfl
  · exact ⟨fun _ => ⟨rfl, rfl⟩, fun z => absurd z (by decide), fun z => absurd z (by decide), fun z => absurd z (by decide), fun z => absurd z (by decide), fun z => absurd z (by decide), fun z => absurd z (by decide), fun z => absurd z (by decide)⟩
  · exact ⟨fun z => absurd z (by decide), fun _ => ⟨rfl, rfl⟩, fun z => absurd z (by decide), fun z => absurd z (by decide), fun z => absurd z (by decide), fun z => absurd z (by decide), fun z => absurd z (by decide), fun z => absurd z (by decide)⟩
  · exact ⟨fun z => absurd z (by decide), fun z => absurd z (by decide), fun _ => ⟨rfl, rfl⟩, fun z => absurd z (by decide), fun z => absurd z (by decide), fun z => absurd z (by decide), fun z => absurd z (by decide), fun z => absurd z (by decide)⟩
  · exact ⟨fun z => absurd z (by decide), fun z => absurd z (by decide), fun z => absurd z (by decide), fun _ => ⟨rfl, rfl⟩, fun z => absurd z (by decide), fun z => absurd z (by decide), fun z => absurd z (by decide), fun z => absurd z (by decide)⟩
  · exact ⟨fun z => absurd z (by decide), fun z => absurd z (by decide), fun z => absurd z (by decide), fun z => absurd z (by decide), fun _ => ⟨h5, rfl, rfl⟩, fun z => absurd z (by decide), fun z => absurd z (by decide), fun z => absurd z (by decide)⟩
  · exact ⟨fun z => absurd z (by decide), fun z => absurd z (by decide), fun z => absurd z (by decide), fun z => absurd z (by decide), fun z => absurd z (by decide), fun _ => ⟨fun z => ⟨(if_pos z).symm, rfl⟩, fun z => ⟨(if_neg z).symm, rfl⟩⟩, fun z => absurd z (by decide), fun z => absurd z (by decide)⟩
  · exact ⟨fun z => absurd z (by decide), fun z => absurd z (by decide), fun z => absurd z (by decide), fun z => absurd z (by decide), fun z => absurd z (by decide), fun z => absurd z (by decide), fun _ => ⟨KS_cEd h, fun z => ⟨(if_neg z).symm, rfl⟩, fun z => ⟨(if_pos z).symm, rfl⟩⟩, fun z => absurd z (by decide)⟩
