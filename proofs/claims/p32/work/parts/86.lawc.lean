/-! ===== the law's turns ===== -/
theorem lb_mono {d : Nat} {y : MethodName} {w : Cond} {av : List hs_V} {S : b_S} {mc mS : Nat} {Q Q' : Int32 → hs_S → hs_S → Prop} (h : b_M d y w av S mc mS (b_qI Q)) (hQ : ∀ r T T', Q r T T' → Q' r T T') : b_M d y w av S mc mS (b_qI Q') := h.mono fun v S' q => by
  obtain ⟨h1, h2, r, e, q⟩ := q
  exact ⟨h1, h2, r, e, hQ r _ _ q⟩
def LI (k : Nat) (S U : hs_S) : Prop := JJ (4 * k) S U ∧ hs_sz S 12 ≤ 55 ∧ hs_sz S 12 ≤ k ∧ hs_sz S 13 ≤ 75 ∧ hs_sz S 14 ≤ 28
/-- how many were told, counted cell by cell -/
def sC (S : hs_S) : Nat → Int32 → Int32 := fun j x => x + F_Cq_edits (nI (j / 6)) (nI (j % 6)) S
theorem sC_i {n : Nat} {S : hs_S} (h : KS n S) : fp (sC S) 24 0 = nI (hs_sz S 12) := by
  obtain ⟨V, ev, ng, nl, nE, nB, nR, nd, hX, _⟩ := KS_U h
  have hz : hs_sz S 12 = nE := hX.1.2.2.1.1
  have h60 : nE ≤ 60 := hX.1.1.2.2.1.1
  have hE : ∀ j, j < nE → rE1 S V ev j := fun j hj => (hX.2.2.2.1 j hj).1
  have hc : ∀ j, j < 24 → F_Cq_edits (nI (j / 6)) (nI (j % 6)) S = nI (cnN (V.1 53 1) (nI j) nE) := fun j hj => by
    rw [fq_edits, show 6 * (j / 6) + j % 6 = j by omega]
    unfold F_Sht_countOf
    rw [hz]
    exact (cEO_r _ hE).trans (mEO_n _)
  have e1 : ∀ k, k ≤ 24 → fp (sC S) k 0 = Int32.ofInt (sI (fun j => ((cnN (V.1 53 1) (nI j) nE : Nat) : Int)) k) := by
    intro k
    induction k with
    | zero => intro _; rfl
    | succ k ih =>
      intro hk
      show fp (sC S) k 0 + F_Cq_edits (nI (k / 6)) (nI (k % 6)) S = Int32.ofInt (sI (fun j => ((cnN (V.1 53 1) (nI j) nE : Nat) : Int)) k + ((cnN (V.1 53 1) (nI k) nE : Nat) : Int))
      have := cnN_le (a53 := V.1 53 1) (c := nI k) nE
      have e : ((cnN (V.1 53 1) (nI k) nE : Nat) : Int) = (nI (cnN (V.1 53 1) (nI k) nE)).toInt := (nI_toInt (by omega)).symm
      rw [ih (by omega), hc k (by omega), Int32.ofInt_add, e, Int32.ofInt_toInt]
  have e2 : ∀ m, m ≤ nE → sI (fun j => ((cnN (V.1 53 1) (nI j) m : Nat) : Int)) 24 = m := by
    intro m
    induction m with
    | zero => intro _; exact sI_0 24 fun _ _ => rfl
    | succ m ih =>
      intro hm
      obtain ⟨_, ⟨c, hc24, ec, _⟩, _⟩ := hE m (by omega)
      have e3 : ∀ j, j < 24 → ((cnN (V.1 53 1) (nI j) (m + 1) : Nat) : Int) = ((cnN (V.1 53 1) (nI j) m : Nat) : Int) + (if j = c then 1 else 0) := fun j hj => by
        have : cnN (V.1 53 1) (nI j) (m + 1) = if V.1 53 1 m = nI j then cnN (V.1 53 1) (nI j) m + 1 else cnN (V.1 53 1) (nI j) m := rfl
        rw [this, ec]
        by_cases q : j = c
        · rw [if_pos (by rw [q]), if_pos q]; omega
        · rw [if_neg fun z => q ((hl_inj (by omega) (by omega)).mp z).symm, if_neg q]; omega
      rw [sI_c 24 e3, sI_add 24, ih (by omega), sI_one (b := c) 24 hc24 fun k _ hk => if_neg hk, if_pos rfl]
      omega
  rw [e1 24 (Nat.le_refl _), e2 nE (Nat.le_refl _), hz]
  have e : (nE : Int) = (nI nE).toInt := (nI_toInt (by omega)).symm
  rw [e, Int32.ofInt_toInt]
section
variable {k : Nat} {S U : hs_S} {K : Int32 → Int32 → Int32 → Int32 → hs_S → hs_S → Prop}
theorem tn_gives {r8 : Int32} (h : LI k S U) (hk : k < 90) (hK : ∀ (y : Int32) T T', LI (k + 1) T T' → ¬ y = 0 → K (nI (hs_sz T 12)) (nI (hs_sz T 13)) (nI (hs_sz T 14)) y T T') (hw : hs_Wi S) (hu : hs_Wi U) : m_L_gives r8 S U (fun r T T' => K (nI (hs_sz S 12)) (nI (hs_sz S 13)) (nI (hs_sz S 14)) r T T') :=
  lb_mono (la_gives h.1 (by omega) hw hu) fun r T T' q => by
    obtain ⟨rfl, hJ, z1, z2, z3⟩ := q
    rw [← z1, ← z2, ← z3]
    exact hK 1 T T' ⟨hJ.le (by omega) (by omega), by have := h.2; omega⟩ (by decide)
theorem tn_strikes {r8 : Int32} (h : LI k S U) (hk : k < 90) (hK : ∀ (y : Int32) T T', LI (k + 1) T T' → ¬ y = 0 → K (nI (hs_sz T 12)) (nI (hs_sz T 13)) (nI (hs_sz T 14)) y T T') (hw : hs_Wi S) (hu : hs_Wi U) : m_L_strikes (nI (hs_sz S 12)) (nI (hs_sz S 13)) (nI (hs_sz S 14)) r8 S U (fun r T T' => K (nI (hs_sz S 12)) (nI (hs_sz S 13)) (nI (hs_sz S 14)) r T T') :=
  lb_mono (la_strikes ⟨rfl, rfl, rfl⟩ h.1 (by omega) hw hu) fun r T T' q => by
    obtain ⟨rfl, hJ, z1, z2, z3⟩ := q
    rw [← z1, ← z2, ← z3]
    exact hK 1 T T' ⟨hJ.le (by omega) (by omega), by have := h.2; omega⟩ (by decide)
theorem tn_settle {r8 : Int32} (h : LI k S U) (hk : k < 90) (hK : ∀ (y : Int32) T T', LI (k + 1) T T' → ¬ y = 0 → K (nI (hs_sz T 12)) (nI (hs_sz T 13)) (nI (hs_sz T 14)) y T T') : P_L_some r8 (2 : Int32) S ∧ (hs_Wi S → hs_Wi U → m_L_both (19 : Int32) (F_L_some r8 (2 : Int32)) (0 : Int32) (0 : Int32) S U (fun r47 S45 U46 => (¬ r47 < 0 ∧ (∃ I51 : Nat → Int32 → Int32 → Prop, (∃ n55, I51 n55 (1 : Int32) (0 : Int32)) ∧ (∀ N52 : Nat, ∀ x49 : Int32, ∀ x50 : Int32, I51 N52 x49 x50 → (∀ K61 : hs_S → hs_S → Prop, (∀  (S59 U60 : hs_S), (¬ x49 = 0 ∧ (hs_Wi S59 → hs_Wi U60 → m_L_both (19 : Int32) (F_L_some r8 (2 : Int32)) (0 : Int32) (0 : Int32) S59 U60 (fun r65 S63 U64 => (r65 = 0 ∧ (K (nI (hs_sz S 12)) (nI (hs_sz S 13)) (nI (hs_sz S 14)) (1 : Int32) S63 U64))))) → K61  S59 U60) → (((6 : Int32) ≤ x50 → (K61 S45 U46)) ∧ (¬ (6 : Int32) ≤ x50 → ((x49 = 0 → (K61 S45 U46)) ∧ (¬ x49 = 0 → ((P_Cq_due x50 (F_L_some r8 (2 : Int32)) S45) ∧ ((F_Ldg_dueOf x50 (F_L_some r8 (2 : Int32)) S45) = 0 ∧ (∃ q71, q71 < N52 ∧ I51 q71 (1 : Int32) (x50 + 1)))))))))))))) := by
  obtain ⟨c, hc, ec⟩ := so_ex (N := 2) r8 2 rfl (by omega) (by omega)
  have hc4 : c < 4 := by omega
  rw [ec]
  refine ⟨so_P (by decide), fun hw hu => bo_settle h.1 (by omega) hw hu hc4 fun r T T' hJ r0 hd _ hz => ⟨?_, fun N x y => ∃ j : Nat, j ≤ 6 ∧ y = nI j ∧ x = 1 ∧ N = 6 - j, ⟨6, 0, Nat.zero_le _, rfl, rfl, rfl⟩, fun N x y hI K61 hK61 => ?_⟩⟩
  · rw [i32_lt]
    have z0 : (0 : Int32).toInt = 0 := rfl
    omega
  · obtain ⟨j, hj, rfl, rfl, rfl⟩ := hI
    have go : K61 T T' := hK61 T T' ⟨by decide, fun hw hu => bo_settle hJ (by omega) hw hu hc4 fun r2 T2 T2' hJ2 _ _ e0 hz2 => ⟨e0 hd, by
      rw [← hz.1, ← hz.2.1, ← hz.2.2, ← hz2.1, ← hz2.2.1, ← hz2.2.2]
      exact hK 1 T2 T2' ⟨hJ2.le (by omega) (by omega), by have := h.2; omega⟩ (by decide)⟩⟩
    refine ⟨fun _ => go, fun q => ⟨fun q0 => absurd q0 (by decide), fun _ => ?_⟩⟩
    have hj6 := hl_go (g := 6) (by omega) hj q
    exact ⟨pq_due hJ.1 hj6 hc4, hd j hj6, 6 - (j + 1), by omega, j + 1, hj6, nI_1 j, rfl, rfl⟩
theorem tn_share {r8 : Int32} (h : LI k S U) (hk : k < 90) (hK : ∀ (y : Int32) T T', LI (k + 1) T T' → ¬ y = 0 → K (nI (hs_sz T 12)) (nI (hs_sz T 13)) (nI (hs_sz T 14)) y T T') : (P_L_some r8 (4 : Int32) S) ∧ ((P_L_some (r8 >>> ((3 : Int32) &&& 31)) (2 : Int32) S) ∧ (hs_Wi S → hs_Wi U → m_L_both (12 : Int32) (F_L_some r8 (4 : Int32)) (F_L_some (r8 >>> ((3 : Int32) &&& 31)) (2 : Int32)) (0 : Int32) S U (fun r77 S75 U76 => ((r77 = 0 → (hs_Wi S75 → hs_Wi U76 → m_L_both (12 : Int32) (F_L_some r8 (4 : Int32)) (F_L_some (r8 >>> ((3 : Int32) &&& 31)) (2 : Int32)) (0 : Int32) S75 U76 (fun r81 S79 U80 => (r81 = (F_L_some (r8 >>> ((3 : Int32) &&& 31)) (2 : Int32)) ∧ (K (nI (hs_sz S 12)) (nI (hs_sz S 13)) (nI (hs_sz S 14)) (1 : Int32) S79 U80))))) ∧ (¬ r77 = 0 → (r77 = (1 : Int32) ∧ (hs_Wi S75 → hs_Wi U76 → m_L_both (12 : Int32) (F_L_some r8 (4 : Int32)) (F_L_some (r8 >>> ((3 : Int32) &&& 31)) (2 : Int32)) (0 : Int32) S75 U76 (fun r86 S84 U85 => (r86 = (F_L_some (r8 >>> ((3 : Int32) &&& 31)) (2 : Int32)) ∧ (K (nI (hs_sz S 12)) (nI (hs_sz S 13)) (nI (hs_sz S 14)) (1 : Int32) S84 U85)))))))))) := by
  obtain ⟨c, hc, ec⟩ := so_ex (N := 4) r8 4 rfl (by omega) (by omega)
  obtain ⟨l, hl, el⟩ := so_ex (N := 2) (r8 >>> ((3 : Int32) &&& 31)) 2 rfl (by omega) (by omega)
  rw [ec, el]
  refine ⟨so_P (by decide), so_P (by decide), fun hw hu => bo_share h.1 (by omega) hw hu hc hl fun T' hJ => ?_⟩
  have e27 : (shT' S c (nI l)).1 27 1 c = nI l := (wI_at (S := S) (t := 27) (i := 1) (j := c) (x := nI l)).trans (if_pos rfl)
  have go : hs_Wi (shT' S c (nI l)) → hs_Wi T' → m_L_both (12 : Int32) (nI c) (nI l) (0 : Int32) (shT' S c (nI l)) T' (fun r81 S79 U80 => (r81 = nI l ∧ (K (nI (hs_sz S 12)) (nI (hs_sz S 13)) (nI (hs_sz S 14)) (1 : Int32) S79 U80))) := fun hw hu => bo_share hJ (by omega) hw hu hc hl fun T2 hJ2 => ⟨e27, hK 1 _ T2 ⟨hJ2.le (by omega) (by omega), by have := h.2; exact ⟨this.1, by have := this.2.1; exact Nat.le_succ_of_le this, this.2.2⟩⟩ (by decide)⟩
  exact ⟨fun _ => go, fun q => ⟨(KS_shr h.1.1 hc).resolve_left q, go⟩⟩
theorem ac_rnd {n r : Nat} {T : hs_S} (h : KS n T) (hw : hs_Wi T) (hr : r < hs_sz T 14) : m_L_call 15 (nI r) 0 0 T (lIs (T.1 8 (T.2.1 14 1 r) 0) T) := lc_15 hw fun hw => ok_C_round hw fun _ => y_r h hw hr ⟨fun _ => ⟨KS_rd h hr, rfl, rfl⟩, fun z => absurd z (by decide), fun z => absurd z (by decide), fun z => absurd z (by decide), fun z => absurd z (by decide), fun z => absurd z (by decide), fun z => absurd z (by decide)⟩
theorem KS_rc {n r : Nat} {T : hs_S} (h : KS n T) (hr : r < hs_sz T 14) : ¬ T.1 8 (T.2.1 14 1 r) 0 < 0 := by
  obtain ⟨V, ev, ng, nl, nE, nB, nR, nd, hX, _⟩ := KS_U h
  obtain ⟨_, ⟨c, hc, _, e⟩, _⟩ := hX.2.2.2.2.2.2.2.1 r (by rw [← (show hs_sz T 14 = nR from hX.1.2.2.1.2.2.2.2)]; exact hr)
  rw [e]
  exact nI_lo (by omega)
theorem tn_rings {r8 : Int32} (h : LI k S U) (hk : k < 90) (hK : ∀ (y : Int32) T T', LI (k + 1) T T' → ¬ y = 0 → K (nI (hs_sz T 12)) (nI (hs_sz T 13)) (nI (hs_sz T 14)) y T T') (hw : hs_Wi S) (hu : hs_Wi U) : ∀ K90 : hs_S → hs_S → Prop, (∀  (S88 U89 : hs_S), (hs_Wi S88 → m_L_call (15 : Int32) (nI (hs_sz S 14)) (0 : Int32) (0 : Int32) S88 (fun r92 S91 => ((r92 < 0 → (K (nI (hs_sz S 12)) (nI (hs_sz S 13)) ((nI (hs_sz S 14)) + (0 : Int32)) (1 : Int32) S91 U89)) ∧ (¬ r92 < 0 → (K (nI (hs_sz S 12)) (nI (hs_sz S 13)) ((nI (hs_sz S 14)) + (1 : Int32)) (1 : Int32) S91 U89))))) → K90  S88 U89) → ((nI (hs_sz S 14) = (28 : Int32) → (K90 S U)) ∧ (¬ nI (hs_sz S 14) = (28 : Int32) → (hs_Wi S → hs_Wi U → m_L_rings (nI (hs_sz S 13)) (nI (hs_sz S 14)) r8 S U (fun r97 S95 U96 => (¬ r97 = 0 ∧ (K90 S95 U96)))))) := by
  intro K90 hK90
  have hh := h.2
  refine ⟨fun _ => hK90 S U fun hw => ?_, fun q => fun hw hu => lb_mono (la_rings h.1 (by omega) hw hu (by omega) ?_) fun r T T' hq => ?_⟩
  · refine lq_is (rf_17 h.1.1 hw) fun _ => ⟨fun _ => ?_, fun z => absurd (by decide) z⟩
    rw [Int32.add_zero]
    exact hK 1 S U ⟨h.1.le (by omega) (by omega), by omega⟩ (by decide)
  · have : hs_sz S 14 ≠ 28 := fun z => q (by rw [z]; rfl)
    omega
  · obtain ⟨rfl, hJ, z1, z2, z3⟩ := hq
    refine ⟨by decide, hK90 T T' fun hw => ?_⟩
    have q28 : hs_sz S 14 ≠ 28 := fun z => q (by rw [z]; rfl)
    have fin := hK 1 T T' ⟨hJ.le (by omega) (by omega), by omega⟩ (by decide)
    rw [z1, z2] at fin
    rcases z3 with z3 | z3
    · rw [z3] at fin
      have := rf_17 hJ.1 hw
      rw [z3] at this
      exact lq_is this fun _ => ⟨fun _ => by rw [Int32.add_zero]; exact fin, fun z => absurd (by decide) z⟩
    · rw [z3] at fin
      exact lq_is (ac_rnd hJ.1 hw (by omega)) fun _ => ⟨fun z => absurd z (KS_rc hJ.1 (by omega)), fun _ => by rw [nI_1]; exact fin⟩
theorem tn_bids {r8 : Int32} (h : LI k S U) (hk : k < 90) (h75 : hs_sz S 13 < 75) (hK : ∀ (y : Int32) T T', LI (k + 1) T T' → ¬ y = 0 → K (nI (hs_sz T 12)) (nI (hs_sz T 13)) (nI (hs_sz T 14)) y T T') (hw : hs_Wi S) (hu : hs_Wi U) : m_L_bids (nI (hs_sz S 13)) r8 S U (fun r163 S161 U162 => (hs_Wi S161 → m_L_call (17 : Int32) (nI (hs_sz S 13)) (0 : Int32) (0 : Int32) S161 (fun r165 S164 => ((¬ r165 = 0 → (K (nI (hs_sz S 12)) ((nI (hs_sz S 13)) + (0 : Int32)) (nI (hs_sz S 14)) r163 S164 U162)) ∧ (r165 = 0 → (K (nI (hs_sz S 12)) ((nI (hs_sz S 13)) + (1 : Int32)) (nI (hs_sz S 14)) r163 S164 U162)))))) := by
  have hh := h.2
  refine lb_mono (la_bids h.1 (by omega) hw hu h75) fun r T T' q => ?_
  obtain ⟨rfl, hJ, z1, z3, z2⟩ := q
  intro hw
  have fin := hK 1 T T' ⟨hJ.le (by omega) (by omega), by omega⟩ (by decide)
  rw [z1, z3] at fin
  rcases z2 with z2 | ⟨z2, z9⟩
  · rw [z2] at fin
    have := rf_got hJ.1 hw
    rw [z2] at this
    exact lq_is this fun _ => ⟨fun _ => by rw [Int32.add_zero]; exact fin, fun z => absurd z (by decide)⟩
  · rw [z2] at fin
    exact lq_is (ac_got hJ.1 hw (by omega)) fun _ => ⟨fun z => absurd z9 z, fun _ => by rw [nI_1]; exact fin⟩
theorem tn_edits {x r8 : Int32} (h : LI k S U) (hk : k < 90) (h60 : hs_sz S 12 < 55 ∨ k < 4) (hK : ∀ (y : Int32) T T', LI (k + 1) T T' → ¬ y = 0 → K (nI (hs_sz T 12)) (nI (hs_sz T 13)) (nI (hs_sz T 14)) y T T') (hw : hs_Wi S) (hu : hs_Wi U) : m_L_edits (nI (hs_sz S 12)) x r8 S U (fun r169 S167 U168 => (∃ I172 : Nat → Int32 → Int32 → Prop, (∃ n176, I172 n176 (0 : Int32) (0 : Int32)) ∧ (∀ N173 : Nat, ∀ x170 : Int32, ∀ x171 : Int32, I172 N173 x170 x171 → (((24 : Int32) ≤ x171 → (K x170 (nI (hs_sz S 13)) (nI (hs_sz S 14)) r169 S167 U168)) ∧ (¬ (24 : Int32) ≤ x171 → ((P_Cq_edits (x171 / (6 : Int32)) (x171 - x171 / (6 : Int32) * (6 : Int32)) S167) ∧ (∃ q182, q182 < N173 ∧ I172 q182 (x170 + (F_Cq_edits (x171 / (6 : Int32)) (x171 - x171 / (6 : Int32) * (6 : Int32)) S167)) (x171 + 1)))))))) := by
  have hh := h.2
  refine la_edits h.1 (by omega) hw hu rfl (by omega) fun T T' hJ z2 z3 z1 => ?_
  have fin := hK 1 T T' ⟨hJ.le (by omega) (by omega), by omega⟩ (by decide)
  rw [z2, z3] at fin
  refine ⟨pI (sC T) 0 24, pI_0, fun N y j hI => ⟨fun q => ?_, fun q => ?_⟩⟩
  · have := pI_e (n := 24) (by omega) hI q
    rw [sC_i hJ.1] at this
    rw [this]
    exact fin
  · obtain ⟨i, hi, rfl, _, hn⟩ := pI_b (n := 24) (by omega) hI q
    rw [k6_m hi, k6_d hi]
    exact ⟨⟨pq_cell (by omega) (by omega), KS_cEd hJ.1⟩, hn _ rfl⟩
end
