/-! ===== words of the draft, and what asks without a wrapper ===== -/
theorem wI_ne {S : hs_S} {t i i' j : Nat} {x : Int32} (h : i' ≠ i) : (hs_wI S t i j x).1 t i' = S.1 t i' :=
  funext fun j' => (if_neg (fun z => h z.2.1) : (if t = t ∧ i' = i ∧ j' = j then x else S.1 t i' j') = _)
theorem wR_ne {S : hs_S} {t i i' j : Nat} {x : Nat} (h : i' ≠ i) : (hs_wR S t i j x).2.1 t i' = S.2.1 t i' :=
  funext fun j' => (if_neg (fun z => h z.2.1) : (if t = t ∧ i' = i ∧ j' = j then x else S.2.1 t i' j') = _)
theorem chtR_ext {w w' : Nat → Int32} : ∀ n, (∀ i, i < n → w' i = w i) → chtR w' n = chtR w n := by
  intro n
  induction n with
  | zero => intro _; rfl
  | succ n ih => intro h; unfold chtR; rw [ih fun i hi => h i (by omega), h n (by omega)]
theorem fOk_fr {S T : hs_S} {f : Nat} (h5 : T.1 5 f = S.1 5 f) (h22 : T.1 22 f = S.1 22 f) (h23 : T.1 23 f = S.1 23 f) (h24 : T.1 24 f = S.1 24 f) (h : fOk S f) : fOk T f := by
  unfold fOk cht
  rw [h5, h22, h23, h24]
  exact h
theorem fC_fr {U V U' : hs_S} {f k : Nat} (h5 : U'.1 5 f = U.1 5 f) (h22 : U'.1 22 f = U.1 22 f) (h23 : U'.1 23 f = U.1 23 f) (h24 : U'.1 24 f = U.1 24 f) (hd : U.2.1 9 1 4 ≤ U'.2.1 9 1 4) (h : fC U V f k) : fC U' V f k := by
  obtain ⟨h1, h2, h3, h4⟩ := h
  refine ⟨h1, Nat.lt_of_lt_of_le h2 hd, fOk_fr h5 h22 h23 h24 h3, ?_⟩
  unfold cht at h4 ⊢
  rw [h5, h22, h23, h24]
  exact h4
theorem RR_wI59 {n : Nat} {S : hs_S} {x : Int32} (h : RR n S) : RR n (hs_wI S 11 1 59 x) := RR_th h
/-- what the class and the reference answer without a wrapper -/
theorem call_events {n : Nat} {S : hs_S} (h : RR n S) (hn : n < 512) (hw : hs_Wi S) : m_C_events S (fun a S2 => hs_Wi S2 → m_M_events S2 (fun b T => RR (n + 1) T ∧ a = b)) := by
  refine ok_C_events hw ?_
  intro hw2
  refine ok_M_events hw2 ?_
  rintro _ rfl
  refine ⟨RR_th (RR_up h hn), ?_⟩
  obtain ⟨ev, ng, nl, nE, nB, nR, nd, hX, _⟩ := h
  exact hX.1.2.1.1.trans hX.1.2.1.2.1.symm
theorem call_wipe {n : Nat} {S : hs_S} (h : RR n S) (hn : n < 512) (hw : hs_Wi S) : m_C_wipe S (fun a S2 => hs_Wi S2 → m_M_wipe S2 (fun b T => RR (n + 1) T ∧ a = b)) := by
  obtain ⟨ev, ng, nl, nE, nB, nR, nd, ⟨hA, hG, hH, hE, hF, hN, hB, hC⟩, hL, hQ, hM⟩ := RR_up h hn
  obtain ⟨⟨f1, f2, f3⟩, f4, f5, f6, f7⟩ := hF
  refine ok_C_wipe hw ⟨by omega, ?_⟩
  rintro _ rfl hw2
  refine ok_M_wipe hw2 ?_
  rintro _ rfl _ rfl
  have hne : ∀ f, f ≠ S.2.1 9 1 4 → (E_Fml_clear (S.2.1 9 1 4) S).1 5 f = S.1 5 f := fun f hf => (wI_ne hf).trans (wI_ne hf)
  refine ⟨⟨ev, ng, nl, nE, nB, nR, 0, ⟨⟨by have := hA.1; omega, ⟨hA.2.1.1, hA.2.1.2.1, hA.2.1.2.2.1, hA.2.1.2.2.2.1, hA.2.1.2.2.2.2.1, hA.2.1.2.2.2.2.2.1, hA.2.1.2.2.2.2.2.2.1, rfl⟩, hA.2.2⟩, hG, hH, fun k hk => ⟨(hE k hk).1, fC_fr (U := S) (V := S) (hne _ ?_) rfl rfl rfl (Nat.le_refl _) (hE k hk).2⟩, ⟨⟨f1, f2, ?_⟩, ?_, ?_, ?_, fun i hi => absurd hi (by omega)⟩, hN, hB, hC⟩, hL, hQ, hM⟩, ?_⟩
  · have h9 : S.2.1 3 (k + 1) 5 < S.2.1 9 1 4 := (hE k hk).2.2.1
    exact Nat.ne_of_lt h9
  · exact (congrFun (hne 1 (by omega)) 3).trans f3
  · show (hs_wI (hs_wI S 5 (S.2.1 9 1 4) 3 0) 5 (S.2.1 9 1 4) 4 0).1 5 (S.2.1 9 1 4) 3 = 0
    rw [wI_at, if_neg (by decide), wI_at, if_pos rfl]
  · refine ⟨0, by omega, ?_, fun i hi => absurd hi (by omega)⟩
    show (hs_wI (hs_wI S 5 (S.2.1 9 1 4) 3 0) 5 (S.2.1 9 1 4) 4 0).1 5 (S.2.1 9 1 4) 3 = 0
    rw [wI_at, if_neg (by decide), wI_at, if_pos rfl]
  · show (hs_wI (hs_wI S 5 (S.2.1 9 1 4) 3 0) 5 (S.2.1 9 1 4) 4 0).1 5 (S.2.1 9 1 4) 4 = 0
    rw [wI_at, if_pos rfl]
  · exact f4.trans hA.2.1.2.2.2.2.2.2.2.symm
/-- a word that may be said -/
def wdOk (a1 a2 a3 : Int32) : Prop := (∃ w : Nat, w < 15 ∧ a1 = nI w) ∧ (a1 = 0 → -1000000 ≤ a2 ∧ a2 ≤ 1000000) ∧ (1 ≤ a1 → a1 ≤ 7 → ∃ a : Nat, a < 4 ∧ a2 = nI a) ∧ (a1 = 1 → ∃ b : Nat, b < 6 ∧ a3 = nI b)
theorem nlt {a b : Int32} : ¬ a < b ↔ b ≤ a := by rw [i32_lt, i32_le]; omega
theorem nle {a b : Int32} : ¬ a ≤ b ↔ b < a := by rw [i32_lt, i32_le]; omega
theorem i15 {a : Int32} : (∃ w : Nat, w < 15 ∧ a = nI w) ↔ (¬ a < 0 ∧ a ≤ 14) := by
  refine ⟨?_, fun h => ?_⟩
  · rintro ⟨w, hw, rfl⟩
    exact ⟨nI_lo (by omega), (hl_le (b := 14) (by omega) (by omega)).mpr (by omega)⟩
  · obtain ⟨o, ho, e⟩ := le_of (N := 14) (by omega) h.1 h.2
    exact ⟨o, by omega, e⟩
theorem iN {a : Int32} {N : Nat} (hN : N < 2147483648) : (∃ w : Nat, w < N ∧ a = nI w) ↔ (¬ a < 0 ∧ a < nI N) := by
  refine ⟨?_, fun h => lt_of hN h.1 h.2⟩
  rintro ⟨w, hw, rfl⟩
  exact ⟨nI_lo (by omega), nI_lt2 hN hw⟩
theorem word_vc {a1 a2 a3 : Int32} {T B : Prop} (hT : wdOk a1 a2 a3 → T) (hB : ¬ wdOk a1 a2 a3 → B) {C0 A : Prop} (eC : C0 = ((¬ a1 = (1 : Int32) → T) ∧ (a1 = (1 : Int32) → ((a3 < 0 → B) ∧ (¬ a3 < 0 → ((a3 < (6 : Int32) → T) ∧ (¬ a3 < (6 : Int32) → B)))))))
    (eA : A = ((a1 < (1 : Int32) → C0) ∧ (¬ a1 < (1 : Int32) → (((7 : Int32) < a1 → C0) ∧ (¬ (7 : Int32) < a1 → ((a2 < 0 → B) ∧ (¬ a2 < 0 → ((a2 < (4 : Int32) → C0) ∧ (¬ a2 < (4 : Int32) → B))))))))) :
    (a1 < 0 → B) ∧ (¬ a1 < 0 → ((a1 ≤ (14 : Int32) → ((¬ a1 = 0 → A) ∧ (a1 = 0 → ((a2 < (-1000000 : Int32) → B) ∧ (¬ a2 < (-1000000 : Int32) → ((a2 ≤ (1000000 : Int32) → A) ∧ (¬ a2 ≤ (1000000 : Int32) → B))))))) ∧ (¬ a1 ≤ (14 : Int32) → B))) := by
  have z1 : (1 : Int32).toInt = 1 := rfl
  have z7 : (7 : Int32).toInt = 7 := rfl
  have z0 : (0 : Int32).toInt = 0 := rfl
  have c0 : ¬ a1 < 0 → a1 ≤ 14 → (a1 = 0 → -1000000 ≤ a2 ∧ a2 ≤ 1000000) → (1 ≤ a1 → a1 ≤ 7 → ∃ a : Nat, a < 4 ∧ a2 = nI a) → C0 := by
    intro p1 p2 p3 p4
    rw [eC]
    refine ⟨fun q => hT ⟨i15.mpr ⟨p1, p2⟩, p3, p4, fun z => absurd z q⟩, fun q => ⟨fun r => hB fun z => ?_, fun r => ⟨fun s => hT ⟨i15.mpr ⟨p1, p2⟩, p3, p4, fun _ => lt_of (N := 6) (by omega) r s⟩, fun s => hB fun z => ?_⟩⟩⟩
    · exact ((iN (N := 6) (by omega)).mp (z.2.2.2 q)).1 r
    · exact s ((iN (N := 6) (by omega)).mp (z.2.2.2 q)).2
  have ca : ¬ a1 < 0 → a1 ≤ 14 → (a1 = 0 → -1000000 ≤ a2 ∧ a2 ≤ 1000000) → A := by
    intro p1 p2 p3
    rw [eA]
    refine ⟨fun q => c0 p1 p2 p3 fun z => absurd q (nlt.mpr z), fun q => ⟨fun r => c0 p1 p2 p3 fun _ z => absurd r (nlt.mpr z), fun r => ⟨fun s => hB fun z => ?_, fun s => ⟨fun t => c0 p1 p2 p3 fun _ _ => lt_of (N := 4) (by omega) s t, fun t => hB fun z => ?_⟩⟩⟩⟩
    · exact ((iN (N := 4) (by omega)).mp (z.2.2.1 (nlt.mp q) (nlt.mp r))).1 s
    · exact t ((iN (N := 4) (by omega)).mp (z.2.2.1 (nlt.mp q) (nlt.mp r))).2
  refine ⟨fun q => hB fun z => (i15.mp z.1).1 q, fun q => ⟨fun r => ⟨fun s => ca q r fun z => absurd z s, fun s => ⟨fun t => hB fun z => ?_, fun t => ⟨fun u => ca q r fun _ => ⟨nlt.mp t, u⟩, fun u => hB fun z => u (z.2.1 s).2⟩⟩⟩, fun r => hB fun z => r (i15.mp z.1).2⟩⟩
  exact absurd t (nlt.mpr (z.2.1 s).1)
theorem pile_r {V : hs_S} {w : Nat → Int32} : ∀ n, n ≤ 12 → (∀ i, i < n → w i = V.1 51 1 (3 * i) ∧ tkN (w i) ≤ chtR w i) → mPile V n = nI (chtR w n) := by
  intro n
  induction n with
  | zero => intro _ _; rfl
  | succ n ih =>
    intro hn h
    have hc : chtR w n ≤ n := by
      have : ∀ i, chtR w i ≤ i := fun i => by
        induction i with
        | zero => exact Nat.le_refl _
        | succ i ih => unfold chtR; omega
      exact this n
    unfold mPile chtR
    rw [ih (by omega) fun i hi => h i (by omega), ← (h n (by omega)).1, takes_n]
    have := (h n (by omega)).2
    apply Int32.toInt_inj.mp
    have ht : tkN (w n) ≤ 3 := by unfold tkN; by_cases q : w n < 8 <;> by_cases q2 : w n = 14 <;> simp [q, q2]
    have e1 : ((1 : Int32) - nI (tkN (w n))).toInt = 1 - tkN (w n) := by
      have z1 : (1 : Int32).toInt = 1 := rfl
      rw [i32_sub (by rw [z1, nI_toInt (by omega)]; omega), z1, nI_toInt (by omega)]
    rw [i32_add (by rw [e1, nI_toInt (by omega)]; omega), e1, nI_toInt (by omega), nI_toInt (by omega)]
    omega
theorem wd_x {a1 a2 a3 x1 x2 : Int32} (h1 : x1 = (if a1 = 0 then (F_in a2 (-1000000 : Int32) (1000000 : Int32)) else (if (7 : Int32) < a1 then (1 : Int32) else (if (F_in a2 (0 : Int32) (3 : Int32)) = 0 then (0 : Int32) else (1 : Int32))))) (h2 : x2 = (if (F_in a1 (0 : Int32) (14 : Int32)) = 0 then (0 : Int32) else (if x1 = 0 then (0 : Int32) else (if a1 = (1 : Int32) then (if (F_in a3 (0 : Int32) (5 : Int32)) = 0 then (0 : Int32) else (1 : Int32)) else (1 : Int32))))) : (x2 = 1 ∧ wdOk a1 a2 a3) ∨ (x2 = 0 ∧ ¬ wdOk a1 a2 a3) := by
  have z1 : (1 : Int32).toInt = 1 := rfl
  have z7 : (7 : Int32).toInt = 7 := rfl
  have z0 : (0 : Int32).toInt = 0 := rfl
  by_cases p : F_in a1 0 14 = 0
  · refine Or.inr ⟨by rw [h2, if_pos p], ?_⟩
    rintro ⟨⟨w, hw, e⟩, _⟩
    exact (in_iff (N := 14) (by omega)).mp p ⟨w, by omega, e⟩
  rw [if_neg p] at h2
  have p' : ∃ w : Nat, w < 15 ∧ a1 = nI w := by
    obtain ⟨w, hw, e⟩ := Classical.not_not.mp fun z => p ((in_iff (N := 14) (by omega)).mpr z)
    exact ⟨w, by omega, e⟩
  have e3 : ∀ b : Int32, (F_in b 0 3 = 0 ↔ ¬ ∃ a : Nat, a < 4 ∧ b = nI a) := fun b => by
    rw [show (3 : Int32) = nI 3 from rfl, in_iff (by omega)]
    exact not_congr ⟨fun ⟨o, ho, e⟩ => ⟨o, by omega, e⟩, fun ⟨o, ho, e⟩ => ⟨o, by omega, e⟩⟩
  have e5 : ∀ b : Int32, (F_in b 0 5 = 0 ↔ ¬ ∃ a : Nat, a < 6 ∧ b = nI a) := fun b => by
    rw [show (5 : Int32) = nI 5 from rfl, in_iff (by omega)]
    exact not_congr ⟨fun ⟨o, ho, e⟩ => ⟨o, by omega, e⟩, fun ⟨o, ho, e⟩ => ⟨o, by omega, e⟩⟩
  have hx1 : x1 = 0 ↔ ¬ ((a1 = 0 → -1000000 ≤ a2 ∧ a2 ≤ 1000000) ∧ (1 ≤ a1 → a1 ≤ 7 → ∃ a : Nat, a < 4 ∧ a2 = nI a)) := by
    by_cases q : a1 = 0
    · rw [h1, if_pos q]
      unfold F_in
      rw [bI_eq0]
      refine not_congr ⟨fun z => ⟨fun _ => z, fun w => ?_⟩, fun z => z.1 q⟩
      rw [q] at w
      exact absurd w (by decide)
    rw [if_neg q] at h1
    have q1 : 1 ≤ a1 := by
      obtain ⟨w, hw, rfl⟩ := p'
      refine (hl_le (a := 1) (by omega) (by omega)).mpr ?_
      rcases Nat.eq_zero_or_pos w with r | r
      · subst r; exact absurd rfl q
      · exact r
    by_cases r : 7 < a1
    · rw [h1, if_pos r]
      exact ⟨fun z => absurd z (by decide), fun z => absurd ⟨fun w => absurd w q, fun _ w => absurd r (nlt.mpr w)⟩ z⟩
    rw [if_neg r] at h1
    by_cases s : F_in a2 0 3 = 0
    · rw [h1, if_pos s]
      exact ⟨fun _ z => (e3 a2).mp s (z.2 q1 (nlt.mp r)), fun _ => rfl⟩
    · rw [h1, if_neg s]
      exact ⟨fun z => absurd z (by decide), fun z => absurd ⟨fun w => absurd w q, fun _ _ => Classical.not_not.mp fun w => s ((e3 a2).mpr w)⟩ z⟩
  by_cases y : x1 = 0
  · exact Or.inr ⟨by rw [h2, if_pos y], fun z => (hx1.mp y) ⟨z.2.1, z.2.2.1⟩⟩
  rw [if_neg y] at h2
  have y' := Classical.not_not.mp fun z => y (hx1.mpr z)
  by_cases q : a1 = 1
  · rw [if_pos q] at h2
    by_cases r : F_in a3 0 5 = 0
    · exact Or.inr ⟨by rw [h2, if_pos r], fun z => (e5 a3).mp r (z.2.2.2 q)⟩
    · exact Or.inl ⟨by rw [h2, if_neg r], p', y'.1, y'.2, fun _ => Classical.not_not.mp fun w => r ((e5 a3).mpr w)⟩
  · exact Or.inl ⟨by rw [h2, if_neg q], p', y'.1, y'.2, fun z => absurd z q⟩
theorem M_word_go {a1 a2 a3 : Int32} {X : hs_S} {g : Nat} {Q : Int32 → hs_S → Prop} (hw : hs_Wi X) (ho : wdOk a1 a2 a3) (e10 : X.1 11 1 10 = nI g) (hg : g < 12) (hp : F_takes a1 ≤ F_pileOfDraft (E_asks 1 X)) (hQ : Q (nI (g + 1)) (hs_wI (hs_wI (hs_wI (hs_wI (E_asks 1 X) 51 1 (3 * g) a1) 51 1 (3 * g + 1) a2) 51 1 (3 * g + 2) a3) 11 1 10 (nI (g + 1)))) : m_M_word a1 a2 a3 X Q := by
  have e3 : (3 : Int32) * nI g = nI (3 * g) := hl_mul3
  have c0 : ((3 : Int32) * nI g).toNatClampNeg = 3 * g := by rw [e3]; exact hl_cl (by omega)
  have c1 : ((3 : Int32) * nI g + 1).toNatClampNeg = 3 * g + 1 := by rw [e3, nI_1]; exact hl_cl (by omega)
  have c2 : ((3 : Int32) * nI g + 2).toNatClampNeg = 3 * g + 2 := by rw [e3, show (2 : Int32) = nI 2 from rfl, nI_addI (by omega)]; exact hl_cl (by omega)
  have i0 : 0 ≤ ((3 : Int32) * nI g).toInt ∧ ((3 : Int32) * nI g).toInt < 36 := by rw [e3]; exact hl_ix (by omega) (by omega)
  have i1 : 0 ≤ ((3 : Int32) * nI g + 1).toInt ∧ ((3 : Int32) * nI g + 1).toInt < 36 := by rw [e3, nI_1]; exact hl_ix (by omega) (by omega)
  have i2 : 0 ≤ ((3 : Int32) * nI g + 2).toInt ∧ ((3 : Int32) * nI g + 2).toInt < 36 := by rw [e3, show (2 : Int32) = nI 2 from rfl, nI_addI (by omega)]; exact hl_ix (by omega) (by omega)
  refine ok_M_word hw ?_
  unfold vc_M_word
  rintro x1 hx1 x2 hx2
  have e2 := ((wd_x hx1 hx2).resolve_right fun z => z.2 ho).1
  subst e2
  refine ⟨Or.inr rfl, ?_⟩
  intro S4 h4
  have d4 : S4.1 11 1 10 = nI g := by rw [h4]; exact e10
  have hp4 : F_takes a1 ≤ F_pileOfDraft S4 := by rw [h4]; exact hp
  rw [← h4] at hQ
  rw [d4]
  refine ⟨fun _ => ⟨fun z => ?_, fun _ => ⟨⟨g, by omega, d4⟩, fun _ => ⟨i0, fun S11 h11 => ?_⟩, fun z => absurd hp4 z⟩⟩, fun z => absurd z (by decide)⟩
  · have z' : nI g = nI 12 := z
    have := (hl_inj (by omega) (by omega)).mp z'
    omega
  · rw [c0] at h11
    have d11 : S11.1 11 1 10 = nI g := by rw [h11]; exact d4
    rw [d11]
    refine ⟨i1, fun S13 h13 => ?_⟩
    rw [c1] at h13
    have d13 : S13.1 11 1 10 = nI g := by rw [h13]; exact d11
    rw [d13]
    refine ⟨i2, fun S15 h15 S16 h16 => ?_⟩
    rw [c2] at h15
    have d15 : S15.1 11 1 10 = nI g := by rw [h15]; exact d13
    rw [d15, nI_1] at h16
    have d16 : S16.1 11 1 10 = nI (g + 1) := by rw [h16]; exact (wI_at).trans (if_pos rfl)
    rw [d16, h16, h15, h13, h11]
    exact hQ
set_option maxRecDepth 100000 in
theorem word_RR {n : Nat} {S : hs_S} {a1 a2 a3 : Int32} {y : Int64} {g : Nat} (h : RR n S) (ho : wdOk a1 a2 a3) (e10 : S.1 11 1 10 = nI g) (hg12 : g < 12) (hlo2 : tkN a1 ≤ cht S (S.2.1 9 1 4) g) : RR n (hs_wI (hs_wI (hs_wI (hs_wI (E_asks 1 (hs_wL (hs_wI (hs_wI (hs_wI (hs_wI (hs_wI S 22 (S.2.1 9 1 4) g a1) 23 (S.2.1 9 1 4) g a2) 24 (S.2.1 9 1 4) g a3) 5 (S.2.1 9 1 4) 3 (nI (g + 1))) 5 (S.2.1 9 1 4) 4 (nI (cht S (S.2.1 9 1 4) g + 1 - tkN a1))) 100 1 (0 : Int32).toNatClampNeg y)) 51 1 (3 * g) a1) 51 1 (3 * g + 1) a2) 51 1 (3 * g + 2) a3) 11 1 10 (nI (g + 1))) := by
      obtain ⟨ev, ng, nl, nE, nB, nR, nd, ⟨hA, hG, hH, hE, hF, hN, hB, hC⟩, hL, hQ, hM⟩ := h
      obtain ⟨⟨f1, f2, f3⟩, f4, f5, f6, f7⟩ := hF
      have hnd : nd ≤ 12 := hA.1.2.2.2.2
      have eg' : g = nd := (hl_inj (by omega) (by omega)).mp (e10.symm.trans hA.2.1.2.2.2.2.2.2.2)
      subst eg'
      obtain ⟨g', hg', eg, hok⟩ := f5
      have eg' : g' = g := (hl_inj (by omega) (by omega)).mp (eg.symm.trans f4)
      subst eg'
      have hlo : (∃ w : Nat, w < 15 ∧ a1 = nI w) ∧ tkN a1 ≤ cht S (S.2.1 9 1 4) g' := ⟨ho.1, hlo2⟩
      have r51 : ∀ p, (hs_wI (hs_wI (hs_wI S 51 1 (3 * g') a1) 51 1 (3 * g' + 1) a2) 51 1 (3 * g' + 2) a3).1 51 1 p = if p = 3 * g' + 2 then a3 else if p = 3 * g' + 1 then a2 else if p = 3 * g' then a1 else S.1 51 1 p := fun p => by
        rw [wI_at, wI_at, wI_at]
      have hne : ∀ f, f ≠ S.2.1 9 1 4 → (hs_wI (hs_wI S 5 (S.2.1 9 1 4) 3 (nI (g' + 1))) 5 (S.2.1 9 1 4) 4 (nI (cht S (S.2.1 9 1 4) g' + 1 - tkN a1))).1 5 f = S.1 5 f := fun f hf => (wI_ne hf).trans (wI_ne hf)
      have r22 : ∀ i, (hs_wI S 22 (S.2.1 9 1 4) g' a1).1 22 (S.2.1 9 1 4) i = if i = g' then a1 else S.1 22 (S.2.1 9 1 4) i := fun i => wI_at
      have r23 : ∀ i, (hs_wI S 23 (S.2.1 9 1 4) g' a2).1 23 (S.2.1 9 1 4) i = if i = g' then a2 else S.1 23 (S.2.1 9 1 4) i := fun i => wI_at
      have r24 : ∀ i, (hs_wI S 24 (S.2.1 9 1 4) g' a3).1 24 (S.2.1 9 1 4) i = if i = g' then a3 else S.1 24 (S.2.1 9 1 4) i := fun i => wI_at
      have hch : ∀ i, i ≤ g' → cht (hs_wI S 22 (S.2.1 9 1 4) g' a1) (S.2.1 9 1 4) i = cht S (S.2.1 9 1 4) i := fun i hi => chtR_ext i fun j hj => (r22 j).trans (if_neg (by omega))
      have r53 : (hs_wI (hs_wI S 5 (S.2.1 9 1 4) 3 (nI (g' + 1))) 5 (S.2.1 9 1 4) 4 (nI (cht S (S.2.1 9 1 4) g' + 1 - tkN a1))).1 5 (S.2.1 9 1 4) 3 = nI (g' + 1) := by
        rw [wI_at, if_neg (by decide), wI_at, if_pos rfl]
      have r54 : (hs_wI (hs_wI S 5 (S.2.1 9 1 4) 3 (nI (g' + 1))) 5 (S.2.1 9 1 4) 4 (nI (cht S (S.2.1 9 1 4) g' + 1 - tkN a1))).1 5 (S.2.1 9 1 4) 4 = nI (cht S (S.2.1 9 1 4) g' + 1 - tkN a1) := by
        rw [wI_at, if_pos rfl]
      have hcg : cht (hs_wI S 22 (S.2.1 9 1 4) g' a1) (S.2.1 9 1 4) (g' + 1) = cht S (S.2.1 9 1 4) g' + 1 - tkN a1 := by
        show cht (hs_wI S 22 (S.2.1 9 1 4) g' a1) (S.2.1 9 1 4) g' + 1 - tkN ((hs_wI S 22 (S.2.1 9 1 4) g' a1).1 22 (S.2.1 9 1 4) g') = _
        rw [hch g' (Nat.le_refl _), r22, if_pos rfl]
      refine ⟨ev, ng, nl, nE, nB, nR, g' + 1, ⟨⟨by have := hA.1; omega, ⟨hA.2.1.1, hA.2.1.2.1, hA.2.1.2.2.1, hA.2.1.2.2.2.1, hA.2.1.2.2.2.2.1, hA.2.1.2.2.2.2.2.1, hA.2.1.2.2.2.2.2.2.1, rfl⟩, hA.2.2⟩, hG, hH, fun k hk => ⟨(hE k hk).1, ?_⟩, ⟨⟨f1, f2, ?_⟩, r53, ⟨g' + 1, by omega, r53, fun i hi => ?_⟩, ?_, fun i hi => ?_⟩, hN, hB, hC⟩, hL, hQ, hM⟩
      · have h9 : S.2.1 3 (k + 1) 5 < S.2.1 9 1 4 := (hE k hk).2.2.1
        have h10 := Nat.ne_of_lt h9
        exact fC_fr (U := S) (V := S) (hne _ h10) (wI_ne h10) (wI_ne h10) (wI_ne h10) (Nat.le_refl _) (hE k hk).2
      · exact (congrFun (hne 1 (by omega)) 3).trans f3
      · have q22 := r22 i
        have q23 := r23 i
        have q24 := r24 i
        have qch := hch i (by omega)
        by_cases z : i = g'
        · rw [if_pos z] at q22 q23 q24
          rw [z] at qch
          have k1 : tkN a1 ≤ cht (hs_wI S 22 (S.2.1 9 1 4) g' a1) (S.2.1 9 1 4) i := by rw [z, qch]; exact hlo.2
          refine ⟨?_, ?_, fun w => ?_, fun w1 w2 => ?_⟩
          · obtain ⟨w, hw, e⟩ := ho.1
            exact ⟨w, hw, q22.trans e⟩
          · exact Nat.le_trans (Nat.le_of_eq (congrArg tkN q22)) k1
          · have w' : a1 = 1 := q22.symm.trans w
            obtain ⟨a, ha, ea⟩ := ho.2.2.1 (by rw [w']; decide) (by rw [w']; decide)
            obtain ⟨b, hb, eb⟩ := ho.2.2.2 w'
            exact ⟨a, b, ha, hb, q23.trans ea, q24.trans eb⟩
          · have w1' : 1 ≤ a1 := Eq.mp (congrArg (fun z => (1 : Int32) ≤ z) q22) w1
            have w2' : a1 ≤ 7 := Eq.mp (congrArg (fun z => z ≤ (7 : Int32)) q22) w2
            obtain ⟨a, ha, ea⟩ := ho.2.2.1 w1' w2'
            have e23 := q23.trans ea
            exact Eq.mpr (congrArg (fun z : Int32 => 0 ≤ z.toInt ∧ z.toInt < 4) e23) (hl_ix (by omega) (by omega))
        · rw [if_neg z] at q22 q23 q24
          obtain ⟨h1, h2, h3, h4⟩ := hok i (by omega)
          refine ⟨?_, ?_, fun w => ?_, fun w1 w2 => ?_⟩
          · obtain ⟨w, hw, e⟩ := h1
            exact ⟨w, hw, q22.trans e⟩
          · exact Nat.le_trans (Nat.le_of_eq (congrArg tkN q22)) (Nat.le_trans h2 (Nat.le_of_eq qch.symm))
          · obtain ⟨a, b, ha, hb, ea, eb⟩ := h3 (q22.symm.trans w)
            exact ⟨a, b, ha, hb, q23.trans ea, q24.trans eb⟩
          · exact Eq.mpr (congrArg (fun z : Int32 => 0 ≤ z.toInt ∧ z.toInt < 4) q23) (h4 (Eq.mp (congrArg (fun z => (1 : Int32) ≤ z) q22) w1) (Eq.mp (congrArg (fun z => z ≤ (7 : Int32)) q22) w2))
      · exact r54.trans (congrArg nI hcg.symm)
      · have q22 := r22 i
        have q23 := r23 i
        have q24 := r24 i
        have p0 := r51 (3 * i)
        have p1 := r51 (3 * i + 1)
        have p2 := r51 (3 * i + 2)
        by_cases z : i = g'
        · rw [if_pos z] at q22 q23 q24
          rw [if_neg (by omega), if_neg (by omega), if_pos (by omega)] at p0
          rw [if_neg (by omega), if_pos (by omega)] at p1
          rw [if_pos (by omega)] at p2
          exact ⟨q22.trans p0.symm, q23.trans p1.symm, q24.trans p2.symm⟩
        · rw [if_neg z] at q22 q23 q24
          rw [if_neg (by omega), if_neg (by omega), if_neg (by omega)] at p0
          rw [if_neg (by omega), if_neg (by omega), if_neg (by omega)] at p1
          rw [if_neg (by omega), if_neg (by omega), if_neg (by omega)] at p2
          obtain ⟨h1, h2, h3⟩ := f7 i (by omega)
          exact ⟨q22.trans (h1.trans p0.symm), q23.trans (h2.trans p1.symm), q24.trans (h3.trans p2.symm)⟩
theorem call_word {n : Nat} {S : hs_S} {a1 a2 a3 : Int32} (h : RR n S) (hn : n < 512) (hw : hs_Wi S) : m_L_word a1 a2 a3 S (fun k S2 => hs_Wi S2 → m_M_word a1 a2 a3 S2 (fun r T => OK n k r T)) := by
  obtain ⟨ev, ng, nl, nE, nB, nR, nd, ⟨hA, hG, hH, hE, hF, hN, hB, hC⟩, hL, hQ, hM⟩ := id (RR_up h hn)
  obtain ⟨⟨f1, f2, f3⟩, f4, f5, f6, f7⟩ := hF
  have hnd : nd ≤ 12 := hA.1.2.2.2.2
  have e10 : S.1 11 1 10 = nI nd := hA.2.1.2.2.2.2.2.2.2
  obtain ⟨g, hg, eg, hok⟩ := f5
  have eg' : g = nd := (hl_inj (by omega) (by omega)).mp (eg.symm.trans f4)
  subst eg'
  have epileT : ∀ T : hs_S, T.1 11 1 10 = nI g → (∀ p, T.1 51 1 p = S.1 51 1 p) → F_pileOfDraft T = nI (cht S (S.2.1 9 1 4) g) := fun T h1 h2 => by
    unfold F_pileOfDraft
    rw [h1, hl_cl (by omega)]
    exact pile_r g hg fun i hi => ⟨(f7 i hi).1.trans (h2 _).symm, (hok i hi).2.1⟩
  have epile := epileT S e10 fun _ => rfl
  have fin : ∀ k, ¬ k = 0 → wdOk a1 a2 a3 → k = 2 → (g = 12 ∨ ¬ F_takes a1 ≤ F_pileOfDraft S) → hs_Wi S → m_M_word a1 a2 a3 S (fun r T => OK n k r T) := fun k hk0 ho hk hbad hw2 => by
    subst hk
    refine ok_M_word hw2 ?_
    unfold vc_M_word
    rintro x1 hx1 x2 hx2
    have e2 := ((wd_x hx1 hx2).resolve_right fun z => z.2 ho).1
    subst e2
    refine ⟨Or.inr rfl, ?_⟩
    rintro _ rfl
    refine ⟨fun _ => ⟨fun _ => ?_, fun q => ⟨⟨g, hg, e10⟩, fun q2 => ?_, fun q2 => ?_⟩⟩, fun z => absurd z (by decide)⟩
    · rintro _ rfl
      exact OK_g h hn (by decide)
    · refine (hbad.elim (fun z => q ?_) (fun z => z ?_)).elim
      · rw [z] at e10
        exact e10
      · rw [epileT (E_asks 1 S) e10 fun _ => rfl] at q2
        rw [epile]
        exact q2
    · rintro _ rfl
      exact OK_g h hn (by decide)
  have bad1 : ¬ wdOk a1 a2 a3 → hs_Wi S → m_M_word a1 a2 a3 S (fun r T => OK n 1 r T) := fun ho hw2 => by
    refine ok_M_word hw2 ?_
    unfold vc_M_word
    rintro x1 hx1 x2 hx2
    have e2 := ((wd_x hx1 hx2).resolve_left fun z => ho z.2).1
    subst e2
    refine ⟨Or.inl rfl, ?_⟩
    rintro _ rfl
    exact ⟨fun z => absurd rfl z, fun _ => OK_f h hn rfl⟩
  have hd0 : S.2.1 9 1 4 ≠ 0 := by omega
  refine ok_L_word hw fun _ => ok_C_word hw (word_vc (fun ho => ?_) (fun ho => Or.inl ⟨rfl, bad1 ho⟩) rfl rfl)
  refine ⟨hd0, fun q => ⟨fun q2 => ⟨⟨g, ?_, eg⟩, ?_⟩, fun q2 => Or.inr ⟨rfl, fin 2 (by decide) ho rfl (Or.inr ?_)⟩⟩, fun q => Or.inr ⟨rfl, fin 2 (by decide) ho rfl (Or.inl ?_)⟩⟩
  · rw [eg] at q
    have := (hl_lt (a := g) (b := 12) (by omega) (by omega)).mp q
    omega
  · have hg12 : g < 12 := by
      rw [eg] at q
      exact (hl_lt (a := g) (b := 12) (by omega) (by omega)).mp q
    have hlo : (∃ w : Nat, w < 15 ∧ a1 = nI w) ∧ tkN a1 ≤ cht S (S.2.1 9 1 4) g := by
      refine ⟨ho.1, ?_⟩
      rw [f6, takes_n] at q2
      have hc := cht_le (S := S) (f := S.2.1 9 1 4) g
      have ht : tkN a1 ≤ 3 := by unfold tkN; by_cases z : a1 < 8 <;> by_cases z2 : a1 = 14 <;> simp [z, z2]
      exact (hl_le (by omega) (by omega)).mp q2
    have hcle := cht_le (S := S) (f := S.2.1 9 1 4) g
    have ht3 : tkN a1 ≤ 3 := by unfold tkN; by_cases z : a1 < 8 <;> by_cases z2 : a1 = 14 <;> simp [z, z2]
    have e4 : S.1 5 (S.2.1 9 1 4) 4 + (1 - F_takes a1) = nI (cht S (S.2.1 9 1 4) g + 1 - tkN a1) := by
      rw [f6, takes_n]
      apply Int32.toInt_inj.mp
      have z1 : (1 : Int32).toInt = 1 := rfl
      have e1 : ((1 : Int32) - nI (tkN a1)).toInt = 1 - tkN a1 := by rw [i32_sub (by rw [z1, nI_toInt (by omega)]; omega), z1, nI_toInt (by omega)]
      have := hlo.2
      rw [i32_add (by rw [e1, nI_toInt (by omega)]; omega), e1, nI_toInt (by omega), nI_toInt (by omega)]
      omega
    have eA : E_Fml_append (S.2.1 9 1 4) a1 a2 a3 S = hs_wI (hs_wI (hs_wI (hs_wI (hs_wI S 22 (S.2.1 9 1 4) g a1) 23 (S.2.1 9 1 4) g a2) 24 (S.2.1 9 1 4) g a3) 5 (S.2.1 9 1 4) 3 (nI (g + 1))) 5 (S.2.1 9 1 4) 4 (nI (cht S (S.2.1 9 1 4) g + 1 - tkN a1)) := by
      unfold E_Fml_append
      rw [e4, f4, nI_1, hl_cl (by omega)]
    intro S10 h10
    rw [eA] at h10
    subst h10
    refine ⟨hd0, ?_⟩
    rintro _ rfl hw2
    refine M_word_go (g := g) hw2 ho e10 hg12 ?_ ⟨word_RR (RR_up h hn) ho e10 hg12 hlo.2, rfl, fun _ => congrArg Int32.toInt64 ((wI_at).trans ((if_neg (by decide)).trans ((wI_at).trans (if_pos rfl))))⟩
    have hpT : ∀ T : hs_S, T.1 11 1 10 = nI g → (∀ p, T.1 51 1 p = S.1 51 1 p) → F_takes a1 ≤ F_pileOfDraft T := fun T h1 h2 => by
      rw [epileT T h1 h2, ← f6]; exact q2
    refine hpT _ ?_ fun p => ?_
    · exact e10
    · rfl
  · rw [epile, ← f6]; exact q2
  · rw [eg] at q
    have : ¬ g < 12 := fun z => q (nI_lt2 (N := 12) (by omega) z)
    omega
