theorem nI_6c {c r : Nat} : (6 : Int32) * nI c + nI r = nI (6 * c + r) := by
  rw [show (6 : Int32) * nI c = nI (6 * c) from pk_mul 6 c, nI_add]
theorem cell_1 {c r : Nat} (hc : c < 4) (hr : r < 6) : F_isCell (nI c) (nI r) = 1 := by
  rcases bI_01 ((0 ≤ nI c ∧ nI c < 4) ∧ 0 ≤ nI r ∧ nI r < 6) with h | h
  · exact absurd ⟨⟨c, hc, rfl⟩, r, hr, rfl⟩ (cell_iff.mp h)
  · exact h
theorem own_1 {o : Nat} (ho : o < 6) : F_isOwner (nI o) = 1 := by
  rcases bI_01 (0 ≤ nI o ∧ nI o < 6) with h | h
  · exact absurd ⟨o, ho, rfl⟩ (own_iff.mp h)
  · exact h
section
variable {n : Nat} {T : hs_S} {ev ng nl nE nB nR nd : Nat}
theorem rd_now {u20 u21 a42 a43 a44 a46 a47 a48 a49 : Nat → Int32} {e : Int32} (h : rG u20 u21 a42 a43 a44 ng a46 a47 a48 a49 nl e) {k o : Nat} (hk : k < 24) (ho : o < 6) : rdR a42 a43 a44 ng a46 a47 a48 a49 nl (nI o) (nI k) e = bI (u20 k = nI o ∨ (u21 k >>> (nI o &&& 31)) &&& 1 = 1) := by
  obtain ⟨h1, _, h3⟩ := h k hk
  unfold rdR
  rw [← h1]
  by_cases q : u20 k = nI o
  · rw [if_pos q, bI_t (Or.inl q)]
  · rw [if_neg q]
    rcases letR_01 (a42 := a42) (a43 := a43) (a44 := a44) (a46 := a46) (a47 := a47) (a48 := a48) (a49 := a49) (ng := ng) (o := nI o) (c := nI k) (e := e) nl with z | z
    · rw [z, bI_f]
      intro w
      rcases w with w | w
      · exact q w
      · rw [(h3 o ho).mp w] at z
        exact absurd z (by decide)
    · rw [z, bI_t (Or.inr ((h3 o ho).mpr z))]
theorem read_now (h : RX n T T ev ng nl nE nB nR nd) {k o : Nat} (hk : k < 24) (ho : o < 6) : F_readsAt (nI o) (nI k) (T.1 11 1 0) T = F_Rts_canRead 1 (nI o) (nI k) T := by
  obtain ⟨⟨⟨⟨b1, b2⟩, ⟨b3, b4⟩, _⟩, ⟨a1, a2, a3, a4, _⟩, _⟩, hG, _⟩ := h
  rw [read_r, a3, a2, a4, hl_cl (by omega), hl_cl (by omega), rd_now hG hk ho]
  unfold F_Rts_canRead
  rw [cl24 hk]
end
theorem cEO_r {U V : hs_S} {ev : Nat} {c : Int32} : ∀ k, (∀ j, j < k → rE1 U V ev j) → cEO U c k = mEO V c k := by
  intro k
  induction k with
  | zero => intro _; rfl
  | succ k ih =>
    intro hE
    obtain ⟨⟨e1, _⟩, ⟨x, hx, e2, e3⟩, _⟩ := hE k (by omega)
    have e1' : ed U k = k + 1 := e1
    unfold cEO mEO
    rw [ih fun j hj => hE j (by omega), e1', e3, e2, Int32.add_zero]
theorem ownR_hi {a42 a43 a44 : Nat → Int32} {c e e' : Int32} : ∀ n, (∀ k, k < n → a42 k < e ∧ a42 k < e') → ownR a42 a43 a44 c e' n = ownR a42 a43 a44 c e n := by
  intro n
  induction n with
  | zero => intro _; rfl
  | succ n ih =>
    intro h
    unfold ownR
    rw [ih fun k hk => h k (by omega)]
    by_cases q : a43 n = c
    · rw [if_pos ⟨q, (h n (by omega)).2⟩, if_pos ⟨q, (h n (by omega)).1⟩]
    · rw [if_neg fun z => q z.1, if_neg fun z => q z.1]
theorem letR_hi {a42 a43 a44 a46 a47 a48 a49 : Nat → Int32} {ng : Nat} {o c e e' : Int32} : ∀ n, (∀ k, k < n → ¬ e ≤ a46 k ∧ ¬ e' ≤ a46 k) → letR a42 a43 a44 ng a46 a47 a48 a49 o c e' n = letR a42 a43 a44 ng a46 a47 a48 a49 o c e n := by
  intro n
  induction n with
  | zero => intro _; rfl
  | succ n ih =>
    intro h
    unfold letR
    rw [ih fun k hk => h k (by omega)]
    have e1 : (tlR a46 a48 a49 o c e n ∧ ownR a42 a43 a44 c (a46 n) ng = a47 n) ↔ (tlR a46 a48 a49 o c e' n ∧ ownR a42 a43 a44 c (a46 n) ng = a47 n) :=
      ⟨fun z => ⟨⟨(h n (by omega)).2, z.1.2⟩, z.2⟩, fun z => ⟨⟨(h n (by omega)).1, z.1.2⟩, z.2⟩⟩
    by_cases q : tlR a46 a48 a49 o c e n ∧ ownR a42 a43 a44 c (a46 n) ng = a47 n
    · rw [if_pos q, if_pos (e1.mp q)]
    · rw [if_neg q, if_neg fun z => q (e1.mpr z)]
section
variable {n : Nat} {U V : hs_S} {ev ng nl nE nB nR nd : Nat}
theorem rG_up {i : Nat} (hH : rH V ev ng nl) (he : ev < 2147483647) (h : rGs U V i ng nl (nI ev)) : rGs U V i ng nl (nI (ev + 1)) := by
  intro c hc
  obtain ⟨h1, h2, h3⟩ := h c hc
  have e1 : ∀ k, k < ng → V.1 42 1 k < nI ev ∧ V.1 42 1 k < nI (ev + 1) := fun k hk => by
    obtain ⟨m, hm, em⟩ := hH.1 k hk
    rw [em]
    exact ⟨nI_lt2 (by omega) hm, nI_lt2 (by omega) (by omega)⟩
  have e2 : ∀ k, k < nl → ¬ nI ev ≤ V.1 46 1 k ∧ ¬ nI (ev + 1) ≤ V.1 46 1 k := fun k hk => by
    obtain ⟨m, hm, em⟩ := hH.2 k hk
    rw [em]
    exact ⟨fun z => absurd ((hl_le (by omega) (by omega)).mp z) (by omega), fun z => absurd ((hl_le (by omega) (by omega)).mp z) (by omega)⟩
  refine ⟨h1.trans (ownR_hi ng e1).symm, h2, fun o ho => ?_⟩
  rw [letR_hi nl e2]
  exact h3 o ho
theorem rH_up (h : rH V ev ng nl) : rH V (ev + 1) ng nl := ⟨fun k hk => by obtain ⟨m, hm, e⟩ := h.1 k hk; exact ⟨m, by omega, e⟩, fun k hk => by obtain ⟨m, hm, e⟩ := h.2 k hk; exact ⟨m, by omega, e⟩⟩
theorem rE_up (h : rE U V ev nE) : rE U V (ev + 1) nE := fun k hk => by
  obtain ⟨⟨h1, h2, ⟨h3, h4, h5, m, hm, h6⟩, h7⟩, h8⟩ := h k hk
  exact ⟨⟨h1, h2, ⟨h3, h4, h5, m, by omega, h6⟩, h7⟩, h8⟩
theorem rB_up (h : rB U V ev nB nR) : rB U V (ev + 1) nB nR := fun b hb => by
  obtain ⟨⟨h1, h2, h3, h4, ⟨m, hm, h5⟩, h6, h7⟩, h8⟩ := h b hb
  refine ⟨⟨h1, h2, h3, h4, ⟨m, by omega, h5⟩, h6.imp_right ?_, h7⟩, h8⟩
  rintro ⟨w, hw, h⟩
  exact ⟨w, by omega, h⟩
theorem rC_up (h : rC U V ev ng nl nR) : rC U V (ev + 1) ng nl nR := ⟨fun r hr => by
  obtain ⟨h1, h2, ⟨f, l, ⟨hfl, hl⟩, h3⟩, h4⟩ := h.1 r hr
  exact ⟨h1, h2, ⟨f, l, ⟨hfl, by omega⟩, h3⟩, h4⟩, fun c hc => by
  obtain ⟨h1, h2, h3, h4⟩ := h.2.1 c hc
  refine ⟨h1, h2, h3.imp_right ?_, h4⟩
  rintro ⟨f, hf, h⟩
  exact ⟨f, by omega, h⟩, h.2.2⟩
end
theorem wI_at {S : hs_S} {t i j j' : Nat} {x : Int32} : (hs_wI S t i j x).1 t i j' = if j' = j then x else S.1 t i j' := by
  show (if t = t ∧ i = i ∧ j' = j then x else S.1 t i j') = _
  by_cases q : j' = j
  · rw [if_pos ⟨rfl, rfl, q⟩, if_pos q]
  · rw [if_neg fun z => q z.2.2, if_neg q]
theorem wR_at {S : hs_S} {t i j j' : Nat} {x : Nat} : (hs_wR S t i j x).2.1 t i j' = if j' = j then x else S.2.1 t i j' := by
  show (if t = t ∧ i = i ∧ j' = j then x else S.2.1 t i j') = _
  by_cases q : j' = j
  · rw [if_pos ⟨rfl, rfl, q⟩, if_pos q]
  · rw [if_neg fun z => q z.2.2, if_neg q]
theorem wI_ne {S : hs_S} {t i i' j : Nat} {x : Int32} (h : i' ≠ i) : (hs_wI S t i j x).1 t i' = S.1 t i' :=
  funext fun j' => (if_neg (fun z => h z.2.1) : (if t = t ∧ i' = i ∧ j' = j then x else S.1 t i' j') = _)
theorem wR_ne {S : hs_S} {t i i' j : Nat} {x : Nat} (h : i' ≠ i) : (hs_wR S t i j x).2.1 t i' = S.2.1 t i' :=
  funext fun j' => (if_neg (fun z => h z.2.1) : (if t = t ∧ i' = i ∧ j' = j then x else S.2.1 t i' j') = _)
theorem chtR_ext {w w' : Nat → Int32} : ∀ n, (∀ i, i < n → w' i = w i) → chtR w' n = chtR w n := by
  intro n
  induction n with
  | zero => intro _; rfl
  | succ n ih => intro h; unfold chtR; rw [ih fun i hi => h i (by omega), h n (by omega)]
theorem fOk_fr {S T : hs_S} {f : Nat} (h5 : T.1 5 f = S.1 5 f) (h22 : T.1 22 f = S.1 22 f) (h23 : T.1 23 f = S.1 23 f) (h24 : T.1 24 f = S.1 24 f) (h : fOk S f) : fOk T f := by
  unfold fOk cht
  rw [h5, h22, h23, h24]
  exact h
theorem fC_fr {U V U' : hs_S} {f k : Nat} (h5 : U'.1 5 f = U.1 5 f) (h22 : U'.1 22 f = U.1 22 f) (h23 : U'.1 23 f = U.1 23 f) (h24 : U'.1 24 f = U.1 24 f) (hd : U.2.1 9 1 4 ≤ U'.2.1 9 1 4) (h : fC U V f k) : fC U' V f k := by
  obtain ⟨h1, h2, h3, h4⟩ := h
  refine ⟨h1, Nat.lt_of_lt_of_le h2 hd, fOk_fr h5 h22 h23 h24 h3, ?_⟩
  unfold cht at h4 ⊢
  rw [h5, h22, h23, h24]
  exact h4
/-- a word that may be said -/
def wdOk (a1 a2 a3 : Int32) : Prop := (∃ w : Nat, w < 15 ∧ a1 = nI w) ∧ (a1 = 0 → -1000000 ≤ a2 ∧ a2 ≤ 1000000) ∧ (1 ≤ a1 → a1 ≤ 7 → ∃ a : Nat, a < 4 ∧ a2 = nI a) ∧ (a1 = 1 → ∃ b : Nat, b < 6 ∧ a3 = nI b)
theorem nlt {a b : Int32} : ¬ a < b ↔ b ≤ a := by rw [i32_lt, i32_le]; omega
theorem nle {a b : Int32} : ¬ a ≤ b ↔ b < a := by rw [i32_lt, i32_le]; omega
theorem i15 {a : Int32} : (∃ w : Nat, w < 15 ∧ a = nI w) ↔ (¬ a < 0 ∧ a ≤ 14) := by
  refine ⟨?_, fun h => ?_⟩
  · rintro ⟨w, hw, rfl⟩
    exact ⟨nI_lo (by omega), (hl_le (b := 14) (by omega) (by omega)).mpr (by omega)⟩
  · obtain ⟨o, ho, e⟩ := le_of (N := 14) (by omega) h.1 h.2
    exact ⟨o, by omega, e⟩
theorem iN {a : Int32} {N : Nat} (hN : N < 2147483648) : (∃ w : Nat, w < N ∧ a = nI w) ↔ (¬ a < 0 ∧ a < nI N) := by
  refine ⟨?_, fun h => lt_of hN h.1 h.2⟩
  rintro ⟨w, hw, rfl⟩
  exact ⟨nI_lo (by omega), nI_lt2 hN hw⟩
theorem word_vc {a1 a2 a3 : Int32} {T B : Prop} (hT : wdOk a1 a2 a3 → T) (hB : ¬ wdOk a1 a2 a3 → B) {C0 A : Prop} (eC : C0 = ((¬ a1 = (1 : Int32) → T) ∧ (a1 = (1 : Int32) → ((a3 < 0 → B) ∧ (¬ a3 < 0 → ((a3 < (6 : Int32) → T) ∧ (¬ a3 < (6 : Int32) → B)))))))
    (eA : A = ((a1 < (1 : Int32) → C0) ∧ (¬ a1 < (1 : Int32) → (((7 : Int32) < a1 → C0) ∧ (¬ (7 : Int32) < a1 → ((a2 < 0 → B) ∧ (¬ a2 < 0 → ((a2 < (4 : Int32) → C0) ∧ (¬ a2 < (4 : Int32) → B))))))))) :
    (a1 < 0 → B) ∧ (¬ a1 < 0 → ((a1 ≤ (14 : Int32) → ((¬ a1 = 0 → A) ∧ (a1 = 0 → ((a2 < (-1000000 : Int32) → B) ∧ (¬ a2 < (-1000000 : Int32) → ((a2 ≤ (1000000 : Int32) → A) ∧ (¬ a2 ≤ (1000000 : Int32) → B))))))) ∧ (¬ a1 ≤ (14 : Int32) → B))) := by
  have z1 : (1 : Int32).toInt = 1 := rfl
  have z7 : (7 : Int32).toInt = 7 := rfl
  have z0 : (0 : Int32).toInt = 0 := rfl
  have c0 : ¬ a1 < 0 → a1 ≤ 14 → (a1 = 0 → -1000000 ≤ a2 ∧ a2 ≤ 1000000) → (1 ≤ a1 → a1 ≤ 7 → ∃ a : Nat, a < 4 ∧ a2 = nI a) → C0 := by
    intro p1 p2 p3 p4
    rw [eC]
    refine ⟨fun q => hT ⟨i15.mpr ⟨p1, p2⟩, p3, p4, fun z => absurd z q⟩, fun q => ⟨fun r => hB fun z => ?_, fun r => ⟨fun s => hT ⟨i15.mpr ⟨p1, p2⟩, p3, p4, fun _ => lt_of (N := 6) (by omega) r s⟩, fun s => hB fun z => ?_⟩⟩⟩
    · exact ((iN (N := 6) (by omega)).mp (z.2.2.2 q)).1 r
    · exact s ((iN (N := 6) (by omega)).mp (z.2.2.2 q)).2
  have ca : ¬ a1 < 0 → a1 ≤ 14 → (a1 = 0 → -1000000 ≤ a2 ∧ a2 ≤ 1000000) → A := by
    intro p1 p2 p3
    rw [eA]
    refine ⟨fun q => c0 p1 p2 p3 fun z => absurd q (nlt.mpr z), fun q => ⟨fun r => c0 p1 p2 p3 fun _ z => absurd r (nlt.mpr z), fun r => ⟨fun s => hB fun z => ?_, fun s => ⟨fun t => c0 p1 p2 p3 fun _ _ => lt_of (N := 4) (by omega) s t, fun t => hB fun z => ?_⟩⟩⟩⟩
    · exact ((iN (N := 4) (by omega)).mp (z.2.2.1 (nlt.mp q) (nlt.mp r))).1 s
    · exact t ((iN (N := 4) (by omega)).mp (z.2.2.1 (nlt.mp q) (nlt.mp r))).2
  refine ⟨fun q => hB fun z => (i15.mp z.1).1 q, fun q => ⟨fun r => ⟨fun s => ca q r fun z => absurd z s, fun s => ⟨fun t => hB fun z => ?_, fun t => ⟨fun u => ca q r fun _ => ⟨nlt.mp t, u⟩, fun u => hB fun z => u (z.2.1 s).2⟩⟩⟩, fun r => hB fun z => r (i15.mp z.1).2⟩⟩
  exact absurd t (nlt.mpr (z.2.1 s).1)
set_option maxRecDepth 100000 in
theorem word_RR {n : Nat} {S : hs_S} {a1 a2 a3 : Int32} {y : Int64} {g : Nat} (h : RR n S) (ho : wdOk a1 a2 a3) (e10 : S.1 11 1 10 = nI g) (hg12 : g < 12) (hlo2 : tkN a1 ≤ cht S (S.2.1 9 1 4) g) : RR n (hs_wI (hs_wI (hs_wI (hs_wI (E_asks 1 (hs_wL (hs_wI (hs_wI (hs_wI (hs_wI (hs_wI S 22 (S.2.1 9 1 4) g a1) 23 (S.2.1 9 1 4) g a2) 24 (S.2.1 9 1 4) g a3) 5 (S.2.1 9 1 4) 3 (nI (g + 1))) 5 (S.2.1 9 1 4) 4 (nI (cht S (S.2.1 9 1 4) g + 1 - tkN a1))) 100 1 (0 : Int32).toNatClampNeg y)) 51 1 (3 * g) a1) 51 1 (3 * g + 1) a2) 51 1 (3 * g + 2) a3) 11 1 10 (nI (g + 1))) := by
      obtain ⟨ev, ng, nl, nE, nB, nR, nd, ⟨hA, hG, hH, hE, hF, hN, hB, hC⟩, hL, hQ, hM⟩ := h
      obtain ⟨⟨f1, f2, f3⟩, f4, f5, f6, f7⟩ := hF
      have hnd : nd ≤ 12 := hA.1.2.2.2.2
      have eg' : g = nd := (hl_inj (by omega) (by omega)).mp (e10.symm.trans hA.2.1.2.2.2.2.2.2.2)
      subst eg'
      obtain ⟨g', hg', eg, hok⟩ := f5
      have eg' : g' = g := (hl_inj (by omega) (by omega)).mp (eg.symm.trans f4)
      subst eg'
      have hlo : (∃ w : Nat, w < 15 ∧ a1 = nI w) ∧ tkN a1 ≤ cht S (S.2.1 9 1 4) g' := ⟨ho.1, hlo2⟩
      have r51 : ∀ p, (hs_wI (hs_wI (hs_wI S 51 1 (3 * g') a1) 51 1 (3 * g' + 1) a2) 51 1 (3 * g' + 2) a3).1 51 1 p = if p = 3 * g' + 2 then a3 else if p = 3 * g' + 1 then a2 else if p = 3 * g' then a1 else S.1 51 1 p := fun p => by
        rw [wI_at, wI_at, wI_at]
      have hne : ∀ f, f ≠ S.2.1 9 1 4 → (hs_wI (hs_wI S 5 (S.2.1 9 1 4) 3 (nI (g' + 1))) 5 (S.2.1 9 1 4) 4 (nI (cht S (S.2.1 9 1 4) g' + 1 - tkN a1))).1 5 f = S.1 5 f := fun f hf => (wI_ne hf).trans (wI_ne hf)
      have r22 : ∀ i, (hs_wI S 22 (S.2.1 9 1 4) g' a1).1 22 (S.2.1 9 1 4) i = if i = g' then a1 else S.1 22 (S.2.1 9 1 4) i := fun i => wI_at
      have r23 : ∀ i, (hs_wI S 23 (S.2.1 9 1 4) g' a2).1 23 (S.2.1 9 1 4) i = if i = g' then a2 else S.1 23 (S.2.1 9 1 4) i := fun i => wI_at
      have r24 : ∀ i, (hs_wI S 24 (S.2.1 9 1 4) g' a3).1 24 (S.2.1 9 1 4) i = if i = g' then a3 else S.1 24 (S.2.1 9 1 4) i := fun i => wI_at
      have hch : ∀ i, i ≤ g' → cht (hs_wI S 22 (S.2.1 9 1 4) g' a1) (S.2.1 9 1 4) i = cht S (S.2.1 9 1 4) i := fun i hi => chtR_ext i fun j hj => (r22 j).trans (if_neg (by omega))
      have r53 : (hs_wI (hs_wI S 5 (S.2.1 9 1 4) 3 (nI (g' + 1))) 5 (S.2.1 9 1 4) 4 (nI (cht S (S.2.1 9 1 4) g' + 1 - tkN a1))).1 5 (S.2.1 9 1 4) 3 = nI (g' + 1) := by
        rw [wI_at, if_neg (by decide), wI_at, if_pos rfl]
      have r54 : (hs_wI (hs_wI S 5 (S.2.1 9 1 4) 3 (nI (g' + 1))) 5 (S.2.1 9 1 4) 4 (nI (cht S (S.2.1 9 1 4) g' + 1 - tkN a1))).1 5 (S.2.1 9 1 4) 4 = nI (cht S (S.2.1 9 1 4) g' + 1 - tkN a1) := by
        rw [wI_at, if_pos rfl]
      have hcg : cht (hs_wI S 22 (S.2.1 9 1 4) g' a1) (S.2.1 9 1 4) (g' + 1) = cht S (S.2.1 9 1 4) g' + 1 - tkN a1 := by
        show cht (hs_wI S 22 (S.2.1 9 1 4) g' a1) (S.2.1 9 1 4) g' + 1 - tkN ((hs_wI S 22 (S.2.1 9 1 4) g' a1).1 22 (S.2.1 9 1 4) g') = _
        rw [hch g' (Nat.le_refl _), r22, if_pos rfl]
      refine ⟨ev, ng, nl, nE, nB, nR, g' + 1, ⟨⟨by have := hA.1; omega, ⟨hA.2.1.1, hA.2.1.2.1, hA.2.1.2.2.1, hA.2.1.2.2.2.1, hA.2.1.2.2.2.2.1, hA.2.1.2.2.2.2.2.1, hA.2.1.2.2.2.2.2.2.1, rfl⟩, hA.2.2⟩, hG, hH, fun k hk => ⟨(hE k hk).1, ?_⟩, ⟨⟨f1, f2, ?_⟩, r53, ⟨g' + 1, by omega, r53, fun i hi => ?_⟩, ?_, fun i hi => ?_⟩, hN, hB, hC⟩, hL, hQ, hM⟩
      · have h9 : S.2.1 3 (k + 1) 5 < S.2.1 9 1 4 := (hE k hk).2.2.1
        have h10 := Nat.ne_of_lt h9
        exact fC_fr (U := S) (V := S) (hne _ h10) (wI_ne h10) (wI_ne h10) (wI_ne h10) (Nat.le_refl _) (hE k hk).2
      · exact (congrFun (hne 1 (by omega)) 3).trans f3
      · have q22 := r22 i
        have q23 := r23 i
        have q24 := r24 i
        have qch := hch i (by omega)
        by_cases z : i = g'
        · rw [if_pos z] at q22 q23 q24
          rw [z] at qch
          have k1 : tkN a1 ≤ cht (hs_wI S 22 (S.2.1 9 1 4) g' a1) (S.2.1 9 1 4) i := by rw [z, qch]; exact hlo.2
          refine ⟨?_, ?_, fun w => ?_, fun w1 w2 => ?_⟩
          · obtain ⟨w, hw, e⟩ := ho.1
            exact ⟨w, hw, q22.trans e⟩
          · exact Nat.le_trans (Nat.le_of_eq (congrArg tkN q22)) k1
          · have w' : a1 = 1 := q22.symm.trans w
            obtain ⟨a, ha, ea⟩ := ho.2.2.1 (by rw [w']; decide) (by rw [w']; decide)
            obtain ⟨b, hb, eb⟩ := ho.2.2.2 w'
            exact ⟨a, b, ha, hb, q23.trans ea, q24.trans eb⟩
          · have w1' : 1 ≤ a1 := Eq.mp (congrArg (fun z => (1 : Int32) ≤ z) q22) w1
            have w2' : a1 ≤ 7 := Eq.mp (congrArg (fun z => z ≤ (7 : Int32)) q22) w2
            obtain ⟨a, ha, ea⟩ := ho.2.2.1 w1' w2'
            have e23 := q23.trans ea
            exact Eq.mpr (congrArg (fun z : Int32 => 0 ≤ z.toInt ∧ z.toInt < 4) e23) (hl_ix (by omega) (by omega))
        · rw [if_neg z] at q22 q23 q24
          obtain ⟨h1, h2, h3, h4⟩ := hok i (by omega)
          refine ⟨?_, ?_, fun w => ?_, fun w1 w2 => ?_⟩
          · obtain ⟨w, hw, e⟩ := h1
            exact ⟨w, hw, q22.trans e⟩
          · exact Nat.le_trans (Nat.le_of_eq (congrArg tkN q22)) (Nat.le_trans h2 (Nat.le_of_eq qch.symm))
          · obtain ⟨a, b, ha, hb, ea, eb⟩ := h3 (q22.symm.trans w)
            exact ⟨a, b, ha, hb, q23.trans ea, q24.trans eb⟩
          · exact Eq.mpr (congrArg (fun z : Int32 => 0 ≤ z.toInt ∧ z.toInt < 4) q23) (h4 (Eq.mp (congrArg (fun z => (1 : Int32) ≤ z) q22) w1) (Eq.mp (congrArg (fun z => z ≤ (7 : Int32)) q22) w2))
      · exact r54.trans (congrArg nI hcg.symm)
      · have q22 := r22 i
        have q23 := r23 i
        have q24 := r24 i
        have p0 := r51 (3 * i)
        have p1 := r51 (3 * i + 1)
        have p2 := r51 (3 * i + 2)
        by_cases z : i = g'
        · rw [if_pos z] at q22 q23 q24
          rw [if_neg (by omega), if_neg (by omega), if_pos (by omega)] at p0
          rw [if_neg (by omega), if_pos (by omega)] at p1
          rw [if_pos (by omega)] at p2
          exact ⟨q22.trans p0.symm, q23.trans p1.symm, q24.trans p2.symm⟩
        · rw [if_neg z] at q22 q23 q24
          rw [if_neg (by omega), if_neg (by omega), if_neg (by omega)] at p0
          rw [if_neg (by omega), if_neg (by omega), if_neg (by omega)] at p1
          rw [if_neg (by omega), if_neg (by omega), if_neg (by omega)] at p2
          obtain ⟨h1, h2, h3⟩ := f7 i (by omega)
          exact ⟨q22.trans (h1.trans p0.symm), q23.trans (h2.trans p1.symm), q24.trans (h3.trans p2.symm)⟩
theorem edR_in {a53 a56 a58 : Nat → Int32} {c e : Int32} (n : Nat) : edR a53 a56 a58 c e n = -1 ∨ ∃ k, k < n ∧ edR a53 a56 a58 c e n = nI k ∧ a53 k = c ∧ ¬ e < a56 k ∧ a58 k = 0 := by
  induction n with
  | zero => exact Or.inl rfl
  | succ n ih =>
    unfold edR
    by_cases q : a53 n = c ∧ ¬ e < a56 n ∧ a58 n = 0
    · rw [if_pos q]; exact Or.inr ⟨n, by omega, rfl, q⟩
    · rw [if_neg q]
      rcases ih with h | ⟨k, hk, h⟩
      · exact Or.inl h
      · exact Or.inr ⟨k, by omega, h⟩
theorem mX_eq {U V V' : hs_S} {ev ng nl nE nB nR ng' nl' nE' nB' nR' : Nat} {e : Int32} (hE : rE U V ev nE) (h60 : nE ≤ 60)
    (ho : ∀ c, ownR (V'.1 42 1) (V'.1 43 1) (V'.1 44 1) c e ng' = ownR (V.1 42 1) (V.1 43 1) (V.1 44 1) c e ng)
    (hl : ∀ o c, letR (V'.1 42 1) (V'.1 43 1) (V'.1 44 1) ng' (V'.1 46 1) (V'.1 47 1) (V'.1 48 1) (V'.1 49 1) o c e nl' = letR (V.1 42 1) (V.1 43 1) (V.1 44 1) ng (V.1 46 1) (V.1 47 1) (V.1 48 1) (V.1 49 1) o c e nl)
    (he : ∀ c, edR (V'.1 53 1) (V'.1 56 1) (V'.1 58 1) c e nE' = edR (V.1 53 1) (V.1 56 1) (V.1 58 1) c e nE)
    (h7 : ∀ k, k < nE → V'.1 57 1 k = V.1 57 1 k ∧ ∀ j, j < 36 → V'.1 59 1 (36 * k + j) = V.1 59 1 (36 * k + j))
    (hla : ∀ c, lastR (V'.1 77 1) (V'.1 79 1) (V'.1 81 1) c e nR' = lastR (V.1 77 1) (V.1 79 1) (V.1 81 1) c e nR)
    (hba : ∀ c, baR (V'.1 66 1) (V'.1 67 1) (V'.1 68 1) (V'.1 69 1) (V'.1 70 1) (V'.1 71 1) (V'.1 72 1) (V'.1 73 1) (V'.1 79 1) c e nB' = baR (V.1 66 1) (V.1 67 1) (V.1 68 1) (V.1 69 1) (V.1 70 1) (V.1 71 1) (V.1 72 1) (V.1 73 1) (V.1 79 1) c e nB) :
    gEq (mX V' ng' nl' nE' nB' nR' e) (mX V ng nl nE nB nR e) := by
  have hrd : ∀ o c, rdR (V'.1 42 1) (V'.1 43 1) (V'.1 44 1) ng' (V'.1 46 1) (V'.1 47 1) (V'.1 48 1) (V'.1 49 1) nl' o c e = rdR (V.1 42 1) (V.1 43 1) (V.1 44 1) ng (V.1 46 1) (V.1 47 1) (V.1 48 1) (V.1 49 1) nl o c e := fun o c => by unfold rdR; rw [ho, hl]
  intro n hn
  rcases edR_in (a53 := V.1 53 1) (a56 := V.1 56 1) (a58 := V.1 58 1) (c := nI n) (e := e) nE with ek | ⟨k, hk, ek, _⟩
  · have s0 : (mX V' ng' nl' nE' nB' nR' e).1 (nI n) = 0 := by
      show (if edR (V'.1 53 1) (V'.1 56 1) (V'.1 58 1) (nI n) e nE' = -1 then 0 else _) = 0
      rw [he, if_pos ek]
    have s1 : (mX V ng nl nE nB nR e).1 (nI n) = 0 := by
      show (if edR (V.1 53 1) (V.1 56 1) (V.1 58 1) (nI n) e nE = -1 then 0 else _) = 0
      rw [if_pos ek]
    exact ⟨s0.trans s1.symm, fun i hi => absurd hi (by rw [s0]; omega)⟩
  · have ck : (nI k).toNatClampNeg = k := hl_cl (by omega)
    have nk : ¬ nI k = -1 := fun z => by
      have e1 : (nI k).toInt = k := nI_toInt (by omega)
      have e2 : (nI k).toInt = -1 := by rw [z]; rfl
      omega
    obtain ⟨_, _, ⟨g', hg', eg', hok⟩, g, hg, eg, eg2, _, hwd⟩ := (hE k hk).2
    have egg : g' = g := (hl_inj (by omega) (by omega)).mp (eg'.symm.trans eg)
    subst egg
    obtain ⟨h57, h59⟩ := h7 k hk
    have s1 : (mX V ng nl nE nB nR e).1 (nI n) = g' := by
      show (if edR (V.1 53 1) (V.1 56 1) (V.1 58 1) (nI n) e nE = -1 then 0 else (V.1 57 1 (edR (V.1 53 1) (V.1 56 1) (V.1 58 1) (nI n) e nE).toNatClampNeg).toNatClampNeg) = g'
      rw [ek, if_neg nk, ck, eg2, hl_cl (by omega)]
    have s0 : (mX V' ng' nl' nE' nB' nR' e).1 (nI n) = g' := by
      show (if edR (V'.1 53 1) (V'.1 56 1) (V'.1 58 1) (nI n) e nE' = -1 then 0 else (V'.1 57 1 (edR (V'.1 53 1) (V'.1 56 1) (V'.1 58 1) (nI n) e nE').toNatClampNeg).toNatClampNeg) = g'
      rw [he, ek, if_neg nk, ck, h57, eg2, hl_cl (by omega)]
    refine ⟨s0.trans s1.symm, fun i hi => ?_⟩
    rw [s0] at hi
    have c0 : (nI (36 * k + 3 * i)).toNatClampNeg = 36 * k + 3 * i := hl_cl (by omega)
    have c1 : (nI (36 * k + 3 * i) + 1).toNatClampNeg = 36 * k + 3 * i + 1 := by rw [nI_1]; exact hl_cl (by omega)
    have c2 : (nI (36 * k + 3 * i) + 2).toNatClampNeg = 36 * k + 3 * i + 2 := by rw [show (2 : Int32) = nI 2 from rfl, nI_addI (by omega)]; exact hl_cl (by omega)
    have p0 : V'.1 59 1 (36 * k + 3 * i) = V.1 59 1 (36 * k + 3 * i) := h59 (3 * i) (by omega)
    have p1 : V'.1 59 1 (36 * k + 3 * i + 1) = V.1 59 1 (36 * k + 3 * i + 1) := h59 (3 * i + 1) (by omega)
    have p2 : V'.1 59 1 (36 * k + 3 * i + 2) = V.1 59 1 (36 * k + 3 * i + 2) := h59 (3 * i + 2) (by omega)
    have w0 : (mX V ng nl nE nB nR e).2.1 (nI n) i = V.1 59 1 (36 * k + 3 * i) := by
      show V.1 59 1 (nI (36 * (edR (V.1 53 1) (V.1 56 1) (V.1 58 1) (nI n) e nE).toNatClampNeg + 3 * i)).toNatClampNeg = _
      rw [ek, ck, c0]
    have w0' : (mX V' ng' nl' nE' nB' nR' e).2.1 (nI n) i = V.1 59 1 (36 * k + 3 * i) := by
      show V'.1 59 1 (nI (36 * (edR (V'.1 53 1) (V'.1 56 1) (V'.1 58 1) (nI n) e nE').toNatClampNeg + 3 * i)).toNatClampNeg = _
      rw [he, ek, ck, c0, p0]
    have w1 : (mX V ng nl nE nB nR e).2.2.1 (nI n) i = 6 * V.1 59 1 (36 * k + 3 * i + 1) + V.1 59 1 (36 * k + 3 * i + 2) := by
      show 6 * V.1 59 1 (nI (36 * (edR (V.1 53 1) (V.1 56 1) (V.1 58 1) (nI n) e nE).toNatClampNeg + 3 * i) + 1).toNatClampNeg + V.1 59 1 (nI (36 * (edR (V.1 53 1) (V.1 56 1) (V.1 58 1) (nI n) e nE).toNatClampNeg + 3 * i) + 2).toNatClampNeg = _
      rw [ek, ck, c1, c2]
    have w1' : (mX V' ng' nl' nE' nB' nR' e).2.2.1 (nI n) i = 6 * V.1 59 1 (36 * k + 3 * i + 1) + V.1 59 1 (36 * k + 3 * i + 2) := by
      show 6 * V'.1 59 1 (nI (36 * (edR (V'.1 53 1) (V'.1 56 1) (V'.1 58 1) (nI n) e nE').toNatClampNeg + 3 * i) + 1).toNatClampNeg + V'.1 59 1 (nI (36 * (edR (V'.1 53 1) (V'.1 56 1) (V'.1 58 1) (nI n) e nE').toNatClampNeg + 3 * i) + 2).toNatClampNeg = _
      rw [he, ek, ck, c1, c2, p1, p2]
    refine ⟨w0'.trans w0.symm, fun hw => ⟨w1'.trans w1.symm, ?_, ?_⟩, fun _ p => ?_⟩
    · rw [w0'] at hw
      obtain ⟨q1, q2, q3⟩ := hwd i hi
      obtain ⟨a, b, ha, hb, ea, eb⟩ := (hok i hi).2.2.1 (q1.trans hw)
      exact ⟨6 * a + b, by omega, w1'.trans (by rw [← q2, ← q3, ea, eb, nI_6c])⟩
    · rw [w1']
      show (!decide (rdR (V'.1 42 1) (V'.1 43 1) (V'.1 44 1) ng' (V'.1 46 1) (V'.1 47 1) (V'.1 48 1) (V'.1 49 1) nl' (ownR (V'.1 42 1) (V'.1 43 1) (V'.1 44 1) (nI n) e ng') _ e = 0)) = (!decide (rdR (V.1 42 1) (V.1 43 1) (V.1 44 1) ng (V.1 46 1) (V.1 47 1) (V.1 48 1) (V.1 49 1) nl (ownR (V.1 42 1) (V.1 43 1) (V.1 44 1) (nI n) e ng) _ e = 0))
      rw [ho, hrd]
    · unfold mX mX0
      simp only [he, ek, ck, c0, c1, p0, p1, hla, hba]
/-- a round's price still follows from what was seen when it froze -/
theorem mR_1 {V : hs_S} {ng nl nE nB nR r c : Nat} {E' : gE} (h : mR V ng nl nE nB nR r) (hc : c < 4) (ec : V.1 77 1 r = nI c) (hg : gEq E' (mX V ng nl nE nB nR (V.1 78 1 r))) : ∃ f v f2 v2 : Int32, gVal E' (6 * V.1 77 1 r) f v ∧ gVal E' (6 * V.1 77 1 r + 1) f2 v2 ∧ V.1 84 1 r = cY (if E'.1 (6 * V.1 77 1 r) = 0 then 1 else 0) f v ∧ V.1 81 1 r = (if V.1 84 1 r = 0 then v else -1) ∧ V.1 83 1 r = clF (V.1 81 1 r) v2 := by
  obtain ⟨⟨f, v, f2, v2, h1, h2, h3, h4⟩, _⟩ := h
  have e6 : (6 : Int32) * V.1 77 1 r = nI (6 * c) := by rw [ec]; exact pk_mul 6 c
  have e7 : (6 : Int32) * V.1 77 1 r + 1 = nI (6 * c + 1) := by rw [e6, nI_1]
  rw [e7] at h2 ⊢
  rw [e6] at h1 h3 ⊢
  exact ⟨f, v, f2, v2, (gVal_eq hg (by omega)).mpr h1, (gVal_eq hg (by omega)).mpr h2, by rw [(hg (6 * c) (by omega)).1]; exact h3, h4⟩
/-- rights of an event, behind more gifts and lettings -/
theorem rG_old {U V U' V' : hs_S} {i ng nl ng' nl' : Nat} {e : Int32} (hu : U'.1 20 i = U.1 20 i) (hu2 : U'.1 21 i = U.1 21 i) (h : rGs U V i ng nl e)
    (ho : ∀ c, ownR (V'.1 42 1) (V'.1 43 1) (V'.1 44 1) c e ng' = ownR (V.1 42 1) (V.1 43 1) (V.1 44 1) c e ng)
    (hl : ∀ o c, letR (V'.1 42 1) (V'.1 43 1) (V'.1 44 1) ng' (V'.1 46 1) (V'.1 47 1) (V'.1 48 1) (V'.1 49 1) o c e nl' = letR (V.1 42 1) (V.1 43 1) (V.1 44 1) ng (V.1 46 1) (V.1 47 1) (V.1 48 1) (V.1 49 1) o c e nl) : rGs U' V' i ng' nl' e := by
  intro c hc
  obtain ⟨h1, h2, h3⟩ := h c hc
  rw [hu, hu2]
  refine ⟨h1.trans (ho _).symm, h2, fun o hO => ?_⟩
  rw [hl]
  exact h3 o hO
theorem own_at {U V T : hs_S} {i ng nl k : Nat} {e : Int32} (hG : rGs U V i ng nl e) (hk : k < 24) (hng : ng ≤ 1200) (e1 : T.1 11 1 1 = nI ng) (h42 : T.1 42 1 = V.1 42 1) (h43 : T.1 43 1 = V.1 43 1) (h44 : T.1 44 1 = V.1 44 1) : F_ownerAt (nI k) e T = U.1 20 i k := by
  rw [own_r, e1, hl_cl (by omega), h42, h43, h44]
  exact (hG k hk).1.symm
abbrev giveT (S : hs_S) (k ng ev : Nat) (x : Int32) (y : Int64) : hs_S := hs_wI (hs_wI (hs_wI (hs_wI (hs_wI (E_asks 1 (hs_wL (hs_wI (hs_wI S 20 1 k x) 10 1 5 (nI (ev + 1))) 100 1 (0 : Int32).toNatClampNeg y)) 42 1 ng (nI ev)) 43 1 ng (nI k)) 44 1 ng x) 11 1 1 (nI (ng + 1))) 11 1 0 (nI (ev + 1))
theorem give_RR {n : Nat} {S : hs_S} {k o : Nat} {y : Int64} {ev ng nl nE nB nR nd : Nat} (hX : RX n S S ev ng nl nE nB nR nd) (hL : rL S S) (hQ : rQ S S nB nR) (hM : rM S ng nl nE nB nR) (hk : k < 24) (ho : o < 6) (hn : n < 512) : RX (n + 1) (giveT S k ng ev (nI o) y) (giveT S k ng ev (nI o) y) (ev + 1) (ng + 1) nl nE nB nR nd ∧ RR (n + 1) (giveT S k ng ev (nI o) y) := by
  obtain ⟨hA, hG, hH, hE, hF, hN, hB, hC⟩ := hX
  have hev := hA.1.1.1
  have hng := hA.1.2.1.1
  have a42 : ∀ j, (giveT S k ng ev (nI o) y).1 42 1 j = if j = ng then nI ev else S.1 42 1 j := fun j => (wI_at (S := S) (t := 42) (i := 1) (j := ng) (x := nI ev))
  have a43 : ∀ j, (giveT S k ng ev (nI o) y).1 43 1 j = if j = ng then nI k else S.1 43 1 j := fun j => (wI_at (S := S) (t := 43) (i := 1) (j := ng) (x := nI k))
  have a44 : ∀ j, (giveT S k ng ev (nI o) y).1 44 1 j = if j = ng then nI o else S.1 44 1 j := fun j => (wI_at (S := S) (t := 44) (i := 1) (j := ng) (x := nI o))
  have base : ∀ j, j < ng → (giveT S k ng ev (nI o) y).1 42 1 j = S.1 42 1 j ∧ (giveT S k ng ev (nI o) y).1 43 1 j = S.1 43 1 j ∧ (giveT S k ng ev (nI o) y).1 44 1 j = S.1 44 1 j := fun j hj => ⟨(a42 j).trans (if_neg (by omega)), (a43 j).trans (if_neg (by omega)), (a44 j).trans (if_neg (by omega))⟩
  -- who owned at an event that is not behind
  have old : ∀ (c : Int32) (m : Nat), m ≤ ev → ownR ((giveT S k ng ev (nI o) y).1 42 1) ((giveT S k ng ev (nI o) y).1 43 1) ((giveT S k ng ev (nI o) y).1 44 1) c (nI m) (ng + 1) = ownR (S.1 42 1) (S.1 43 1) (S.1 44 1) c (nI m) ng := fun c m hm =>
    ownR_old base (ng + 1) (by omega) fun j h1 h2 => by
      have e : j = ng := by omega
      rw [a42, if_pos e]
      exact fun z => absurd ((hl_lt (by omega) (by omega)).mp z) (by omega)
  have oldl : ∀ (w c e : Int32), letR ((giveT S k ng ev (nI o) y).1 42 1) ((giveT S k ng ev (nI o) y).1 43 1) ((giveT S k ng ev (nI o) y).1 44 1) (ng + 1) (S.1 46 1) (S.1 47 1) (S.1 48 1) (S.1 49 1) w c e nl = letR (S.1 42 1) (S.1 43 1) (S.1 44 1) ng (S.1 46 1) (S.1 47 1) (S.1 48 1) (S.1 49 1) w c e nl := fun w c e =>
    letR_old (fun _ _ => ⟨rfl, rfl, rfl, rfl⟩) (fun j hj => by
      obtain ⟨m, hm, em⟩ := hH.2 j hj
      rw [em]
      exact old c m (by omega)) nl (Nat.le_refl _) fun j h1 h2 => absurd h1 (by omega)
  have hG' := rG_up hH (by omega) hG
  have hg2 : ∀ r, r < nR → ∃ f : Nat, f < ev ∧ S.1 78 1 r = nI f := fun r hr => by
    obtain ⟨_, _, ⟨f, l, h1, h2, _⟩, _⟩ := hC.1 r hr
    exact ⟨f, by omega, h2⟩
  have hX' : RX (n + 1) (giveT S k ng ev (nI o) y) (giveT S k ng ev (nI o) y) (ev + 1) (ng + 1) nl nE nB nR nd := by
    refine ⟨⟨⟨⟨by omega, by omega⟩, by have := hA.1.2; omega⟩, ⟨rfl, rfl, rfl, hA.2.1.2.2.2⟩, hA.2.2⟩, fun c hc => ?_, ⟨fun j hj => ?_, (rH_up hH).2⟩, rE_up hE, hF, hN, rB_up hB, ⟨fun r hr => ?_, fun c hc => ?_, hC.2.2⟩⟩
    · obtain ⟨h1, h2, h3⟩ := hG' c hc
      have r20 : (giveT S k ng ev (nI o) y).1 20 1 c = if c = k then nI o else S.1 20 1 c := wI_at (S := S) (t := 20) (i := 1) (j := k) (x := nI o)
      have r21 : (giveT S k ng ev (nI o) y).1 21 1 c = S.1 21 1 c := rfl
      refine ⟨?_, ?_, fun w hw => ?_⟩
      · have e1 : ownR ((giveT S k ng ev (nI o) y).1 42 1) ((giveT S k ng ev (nI o) y).1 43 1) ((giveT S k ng ev (nI o) y).1 44 1) (nI c) (nI (ev + 1)) ng = ownR (S.1 42 1) (S.1 43 1) (S.1 44 1) (nI c) (nI (ev + 1)) ng := ownR_old base ng (Nat.le_refl _) fun j h1 h2 => absurd h1 (by omega)
        rw [r20]
        unfold ownR
        rw [e1, a42, a43, a44, if_pos rfl, if_pos rfl, if_pos rfl]
        by_cases q : c = k
        · rw [if_pos q, if_pos ⟨by rw [q], nI_lt2 (by omega) (by omega)⟩]
        · rw [if_neg q, if_neg fun z => q ((hl_inj (by omega) (by omega)).mp z.1).symm]
          exact h1
      · rw [r20]
        by_cases q : c = k
        · rw [if_pos q]; exact ⟨o, ho, rfl⟩
        · rw [if_neg q]; exact h2
      · have e2 := oldl (nI w) (nI c) (nI (ev + 1))
        rw [r21]
        have h4 := h3 w hw
        rw [← e2] at h4
        exact h4
    · rw [a42]
      by_cases q : j = ng
      · rw [if_pos q]; exact ⟨ev, by omega, rfl⟩
      · rw [if_neg q]
        obtain ⟨m, hm, em⟩ := hH.1 j (by omega)
        exact ⟨m, by omega, em⟩
    · obtain ⟨h1, h2, h3, h4, h5⟩ := (rC_up hC).1 r hr
      obtain ⟨f, hf, ef⟩ := hg2 r hr
      refine ⟨h1, h2, h3, h4, ?_⟩
      have h6 : rGs S S (S.2.1 14 1 r + 1) ng nl (nI f) := by rw [← ef]; exact h5
      have h7 : rGs (giveT S k ng ev (nI o) y) (giveT S k ng ev (nI o) y) (S.2.1 14 1 r + 1) (ng + 1) nl (nI f) := rG_old (wI_ne (S := S) (t := 20) (i := 1) (by have := h1.1; omega)) rfl h6 (fun c => old c f (by omega)) (fun w c => oldl w c _)
      rw [← ef] at h7
      exact h7
    · obtain ⟨h1, h2, h3, h4⟩ := (rC_up hC).2.1 c hc
      refine ⟨h1, h2, ?_, h4⟩
      rcases hC.2.1 c hc with ⟨_, _, h3, _⟩
      refine h3.imp_right ?_
      rintro ⟨f, hf, q1, q2, q3, q4⟩
      exact ⟨f, by omega, q1, q2, q3, rG_old (wI_ne (S := S) (t := 20) (i := 1) (i' := S.2.1 26 1 c + 1) (by have h1' : 1 ≤ S.2.1 26 1 c := h1.1; omega)) rfl q4 (fun c => old c f (by omega)) (fun w c => oldl w c _)⟩
  refine ⟨hX', ev + 1, ng + 1, nl, nE, nB, nR, nd, hX', hL, hQ, fun r hr => ⟨?_, (hM r hr).2⟩⟩
  obtain ⟨f, hf, ef⟩ := hg2 r hr
  obtain ⟨_, ⟨c, hc, ec, _⟩, _⟩ := hC.1 r hr
  have hg : gEq (mX (giveT S k ng ev (nI o) y) (ng + 1) nl nE nB nR (S.1 78 1 r)) (mX S ng nl nE nB nR (S.1 78 1 r)) := mX_eq hE hA.1.2.2.1.1 (fun c => by rw [ef]; exact old c f (by omega)) (fun w c => oldl w c _) (fun _ => rfl) (fun _ _ => ⟨rfl, fun _ _ => rfl⟩) (fun _ => rfl) (fun _ => rfl)
  exact mR_1 (V := S) (hM r hr) hc ec hg
