/-! ===== the bridge: what a cell comes to, on both sides ===== -/
section
variable {U V : hs_S} {ev ng nl nE nB nR : Nat} {c e : Int32}
theorem form_ed (hE : rE U V ev nE) {e : Int32} : ∀ n, n ≤ nE → (edR (V.1 53 1) (V.1 56 1) (V.1 58 1) c e n = -1 ∧ cForm U e c n = 1) ∨ ∃ k, k < n ∧ edR (V.1 53 1) (V.1 56 1) (V.1 58 1) c e n = nI k ∧ cForm U e c n = U.2.1 3 (k + 1) 5 := by
  intro n
  induction n with
  | zero => intro _; exact Or.inl ⟨rfl, rfl⟩
  | succ n ih =>
    intro hn
    obtain ⟨⟨⟨e1, _⟩, ⟨x, hx, e2, e3⟩, ⟨_, _, e4, _⟩, e5, _⟩, _⟩ := hE n (by omega)
    have e1' : ed U n = n + 1 := e1
    have e6 : (U.1 3 (n + 1) 1 = c ∧ ¬ F_Edit_countsAt (n + 1) e U = 0) ↔ (V.1 53 1 n = c ∧ ¬ e < V.1 56 1 n ∧ V.1 58 1 n = 0) := by
      unfold F_Edit_countsAt
      rw [bI_eq0, e3, e2, e4, e5]
      exact ⟨fun z => ⟨z.1, (Classical.not_not.mp z.2).2, (Classical.not_not.mp z.2).1⟩, fun z => ⟨z.1, Classical.not_not.mpr ⟨z.2.2, z.2.1⟩⟩⟩
    unfold cForm edR
    rw [e1']
    by_cases q : V.1 53 1 n = c ∧ ¬ e < V.1 56 1 n ∧ V.1 58 1 n = 0
    · rw [if_pos q, if_pos (e6.mpr q)]
      exact Or.inr ⟨n, by omega, rfl, rfl⟩
    · rw [if_neg q, if_neg fun z => q (e6.mp z)]
      rcases ih (by omega) with z | ⟨k, hk, z⟩
      · exact Or.inl z
      · exact Or.inr ⟨k, by omega, z⟩
theorem min_eq {a b : Int32} : (if a < b then a else b) = if b ≤ a then b else a := by
  by_cases q : a < b
  · rw [if_pos q, if_neg (nle.mpr q)]
  · rw [if_neg q, if_pos (nlt.mp q)]
theorem max_eq {a b : Int32} : (if b < a then a else b) = if a ≤ b then b else a := by
  by_cases q : b < a
  · rw [if_pos q, if_neg (nle.mpr q)]
  · rw [if_neg q, if_pos (nlt.mp q)]
theorem maxlt {m : Nat} (h : m < 2147483647) : ¬ (2147483647 : Int32) < nI m := fun z => by
  rw [i32_lt, nI_toInt (by omega)] at z
  have e : (2147483647 : Int32).toInt = 2147483647 := rfl
  omega
theorem ba_eq (hB : rB U V ev nB nR) (hC : rC U V ev ng nl nR) (hR : nR ≤ 30) (hev : ev ≤ 512) {m : Nat} (hm : m ≤ ev) : ∀ n, n ≤ nB → cBA U c (nI m) n = baR (V.1 66 1) (V.1 67 1) (V.1 68 1) (V.1 69 1) (V.1 70 1) (V.1 71 1) (V.1 72 1) (V.1 73 1) (V.1 79 1) c (nI m) n := by
  intro n
  induction n with
  | zero => intro _; rfl
  | succ n ih =>
    intro hn
    obtain ⟨⟨⟨b1, b2, _⟩, ⟨b3, _⟩, ⟨a, ha, b4, b5⟩, ⟨l, hl, b6, b7⟩, ⟨p, hp, b8, b9⟩, b10, ⟨b11, _⟩⟩, hB2⟩ := hB n (by omega)
    obtain ⟨_, c', hc', r1, r2, r3⟩ := bid_rd (nB := nB) hB2 hC (by omega) hR
    have eb : bd U n = n + 1 := b1
    have er : br U n = U.2.1 0 (n + 1) 2 := congrArg (fun z => U.2.1 0 z 2) eb
    have hth : ¬ F_Bid_standsAt (n + 1) (nI m) U = 0 ↔ thR (V.1 70 1) (V.1 71 1) (V.1 72 1) (V.1 73 1) (V.1 79 1) n (nI m) := by
      unfold F_Bid_standsAt thR
      rw [bI_eq0, Classical.not_not, b9, b11, b8]
      have h7 : ¬ U.1 0 (n + 1) 7 < nI m ↔ (V.1 71 1 n = -1 ∨ nI m ≤ V.1 71 1 n) := by
        rcases b10 with ⟨w1, w2⟩ | ⟨w, hw, w1, w2⟩
        · rw [w1, w2]; exact ⟨fun _ => Or.inl rfl, fun _ => maxlt (by omega)⟩
        · rw [w1, w2]
          exact ⟨fun z => Or.inr (nlt.mp z), fun z => nlt.mpr (z.resolve_left (neg1 (by omega)))⟩
      have h8 : ¬ U.1 8 (U.2.1 0 (n + 1) 2) 2 < nI m ↔ (V.1 72 1 n = -1 ∨ nI m ≤ V.1 79 1 (V.1 72 1 n).toNatClampNeg) := by
        obtain ⟨c0, hc0, _, w⟩ := hB2
        rcases w with ⟨w1, w2⟩ | ⟨r, hr, w1, w2, _⟩
        · rw [w1, w2, (hC.2.1 c0 hc0).2.1.2]; exact ⟨fun _ => Or.inl rfl, fun _ => maxlt (by omega)⟩
        · obtain ⟨_, _, ⟨f, l, _, _, _, g1, g2⟩, _⟩ := hC.1 r hr
          rw [w1, w2, hl_cl (by omega), g1, g2]
          exact ⟨fun z => Or.inr (nlt.mp z), fun z => nlt.mpr (z.resolve_left (neg1 (by omega)))⟩
      rw [h7, h8]
      exact ⟨fun z => ⟨z.1, z.2.2.1, z.2.1, z.2.2.2⟩, fun z => ⟨z.1, z.2.2.1, z.2.1, z.2.2.2⟩⟩
    have e6 : (U.1 8 (br U n) 0 = c ∧ ¬ F_Bid_standsAt (bd U n) (nI m) U = 0) ↔ (V.1 66 1 n = c ∧ thR (V.1 70 1) (V.1 71 1) (V.1 72 1) (V.1 73 1) (V.1 79 1) n (nI m)) := by
      rw [er, eb, r2, r1, hth]
    unfold cBA baR
    rw [ih (by omega)]
    by_cases q : V.1 66 1 n = c ∧ thR (V.1 70 1) (V.1 71 1) (V.1 72 1) (V.1 73 1) (V.1 79 1) n (nI m)
    · rw [if_pos (e6.mpr q), eb, b3, b5, ← b4, b7, ← b6, if_pos q, min_eq, max_eq]
    · rw [if_neg fun z => q (e6.mp z), if_neg q]
theorem ls_eq (hC : rC U V ev ng nl nR) {m : Nat} (hp : ∀ r, r < nR → ¬ nI m ≤ V.1 79 1 r → U.1 8 (U.2.1 14 1 r) 5 = V.1 81 1 r) : ∀ n, n ≤ nR → cLs U c (nI m) n = lastR (V.1 77 1) (V.1 79 1) (V.1 81 1) c (nI m) n := by
  intro n
  induction n with
  | zero => intro _; rfl
  | succ n ih =>
    intro hn
    obtain ⟨_, ⟨c', hc', r1, r2⟩, ⟨f, l, _, _, _, g1, g2⟩, _⟩ := hC.1 n (by omega)
    unfold cLs lastR
    rw [ih (by omega), r2, ← r1, g2, ← g1]
    by_cases q : nI m ≤ V.1 79 1 n
    · rw [if_neg fun z => z.2.1 q, if_neg fun z => z.2.1 q]
    · rw [hp n (by omega) q]
end
/-- both sides' tables say the same of an event -/
theorem br_eq {U V T : hs_S} {n ev ng nl nE nB nR nd m i : Nat} (hX : RX n U V ev ng nl nE nB nR nd) (hm : m ≤ ev) (hG : rGs U V i ng nl (nI m)) (hp : ∀ r, r < nR → ¬ nI m ≤ V.1 79 1 r → U.1 8 (U.2.1 14 1 r) 5 = V.1 81 1 r) (hT : R_Fnd_goTo (nI m) i U T) : gEq (cEnv T) (mX V ng nl nE nB nR (nI m)) := by
  obtain ⟨hA, _, _, hE, hF, _, hB, hC⟩ := hX
  have hev := hA.1.1
  obtain ⟨g1, g2, g3, g4⟩ := hT
  have row : ∀ t, t ≠ 29 → t ≠ 33 → T.1 t = U.1 t := fun t a b => funext fun i => funext fun p => g1.2.2 t i p a b
  have r5 := row 5 (by decide) (by decide)
  have r20 := row 20 (by decide) (by decide)
  have r21 := row 21 (by decide) (by decide)
  have r22 := row 22 (by decide) (by decide)
  have r23 := row 23 (by decide) (by decide)
  have r24 := row 24 (by decide) (by decide)
  have hz12 : hs_sz U 12 = nE := hA.2.2.1.1
  have hz13 : hs_sz U 13 = nB := hA.2.2.1.2.2.1
  have hz14 : hs_sz U 14 = nR := hA.2.2.1.2.2.2.2
  intro c hc
  have hcc : (nI c).toNatClampNeg = c := hl_cl (by omega)
  have ef := (g3 c hc).2
  rw [hz12] at ef
  have s1 : (cEnv T).1 (nI c) = (U.1 5 (cForm U (nI m) (nI c) nE) 3).toNatClampNeg := by
    show (T.1 5 (T.2.1 28 1 (nI c).toNatClampNeg) 3).toNatClampNeg = _
    rw [hcc, ef, r5]
  rcases form_ed (c := nI c) (e := nI m) hE nE (Nat.le_refl _) with ⟨ek, ec⟩ | ⟨k, hk, ek, ec⟩
  · have s2 : (cEnv T).1 (nI c) = 0 := by rw [s1, ec, hF.1.2.2]; rfl
    have s3 : (mX V ng nl nE nB nR (nI m)).1 (nI c) = 0 := by
      show (if edR (V.1 53 1) (V.1 56 1) (V.1 58 1) (nI c) (nI m) nE = -1 then 0 else _) = 0
      rw [if_pos ek]
    exact ⟨s2.trans s3.symm, fun i hi => absurd hi (by rw [s2]; omega)⟩
  · have h60 := hA.1.2.2.1.1
    have ck : (nI k).toNatClampNeg = k := hl_cl (by omega)
    have nk : ¬ nI k = -1 := neg1 (by omega)
    obtain ⟨_, _, ⟨g', hg', eg', hok⟩, g, hg, eg, eg2, _, hwd⟩ := (hE k hk).2
    have egg : g' = g := (hl_inj (by omega) (by omega)).mp (eg'.symm.trans eg)
    subst egg
    have s2 : (cEnv T).1 (nI c) = g' := by rw [s1, ec, eg', hl_cl (by omega)]
    have s3 : (mX V ng nl nE nB nR (nI m)).1 (nI c) = g' := by
      show (if edR (V.1 53 1) (V.1 56 1) (V.1 58 1) (nI c) (nI m) nE = -1 then 0 else (V.1 57 1 (edR (V.1 53 1) (V.1 56 1) (V.1 58 1) (nI c) (nI m) nE).toNatClampNeg).toNatClampNeg) = g'
      rw [ek, if_neg nk, ck, eg2, hl_cl (by omega)]
    refine ⟨s2.trans s3.symm, fun i' hi => ?_⟩
    rw [s2] at hi
    obtain ⟨q1, q2, q3⟩ := hwd i' hi
    obtain ⟨hw15, _, hask, hone⟩ := hok i' hi
    have c0 : (nI (36 * k + 3 * i')).toNatClampNeg = 36 * k + 3 * i' := hl_cl (by omega)
    have c1 : (nI (36 * k + 3 * i') + 1).toNatClampNeg = 36 * k + 3 * i' + 1 := by rw [nI_1]; exact hl_cl (by omega)
    have c2 : (nI (36 * k + 3 * i') + 2).toNatClampNeg = 36 * k + 3 * i' + 2 := by rw [show (2 : Int32) = nI 2 from rfl, nI_addI (by omega)]; exact hl_cl (by omega)
    have w0 : (cEnv T).2.1 (nI c) i' = U.1 22 (U.2.1 3 (k + 1) 5) i' := by
      show T.1 22 (T.2.1 28 1 (nI c).toNatClampNeg) i' = _
      rw [hcc, ef, r22, ec]
    have w0' : (mX V ng nl nE nB nR (nI m)).2.1 (nI c) i' = U.1 22 (U.2.1 3 (k + 1) 5) i' := by
      show V.1 59 1 (nI (36 * (edR (V.1 53 1) (V.1 56 1) (V.1 58 1) (nI c) (nI m) nE).toNatClampNeg + 3 * i')).toNatClampNeg = _
      rw [ek, ck, c0, q1]
    have w1 : (cEnv T).2.2.1 (nI c) i' = 6 * U.1 23 (U.2.1 3 (k + 1) 5) i' + U.1 24 (U.2.1 3 (k + 1) 5) i' := by
      show T.1 23 (T.2.1 28 1 (nI c).toNatClampNeg) i' * 6 + T.1 24 (T.2.1 28 1 (nI c).toNatClampNeg) i' = _
      rw [hcc, ef, r23, r24, ec, Int32.mul_comm]
    have w1' : (mX V ng nl nE nB nR (nI m)).2.2.1 (nI c) i' = 6 * U.1 23 (U.2.1 3 (k + 1) 5) i' + U.1 24 (U.2.1 3 (k + 1) 5) i' := by
      show 6 * V.1 59 1 (nI (36 * (edR (V.1 53 1) (V.1 56 1) (V.1 58 1) (nI c) (nI m) nE).toNatClampNeg + 3 * i') + 1).toNatClampNeg + V.1 59 1 (nI (36 * (edR (V.1 53 1) (V.1 56 1) (V.1 58 1) (nI c) (nI m) nE).toNatClampNeg + 3 * i') + 2).toNatClampNeg = _
      rw [ek, ck, c1, c2, q2, q3]
    refine ⟨w0.trans w0'.symm, fun hw => ⟨w1.trans w1'.symm, ?_, ?_⟩, fun hw p => ?_⟩
    · rw [w0] at hw
      obtain ⟨a, b, ha, hb, ea, eb⟩ := hask hw
      exact ⟨6 * a + b, by omega, w1.trans (by rw [ea, eb, nI_6c])⟩
    · rw [w0] at hw
      obtain ⟨a, b, ha, hb, ea, eb⟩ := hask hw
      have w1n : (cEnv T).2.2.1 (nI c) i' = nI (6 * a + b) := w1.trans (by rw [ea, eb, nI_6c])
      rw [w1n]
      show (!decide (bI (T.1 20 (T.2.1 4 1 2) (nI (6 * a + b)).toNatClampNeg = T.1 20 (T.2.1 4 1 2) (nI c).toNatClampNeg ∨ (T.1 21 (T.2.1 4 1 2) (nI (6 * a + b)).toNatClampNeg >>> (T.1 20 (T.2.1 4 1 2) (nI c).toNatClampNeg &&& 31)) &&& 1 = 1) = 0)) = (!decide (rdR (V.1 42 1) (V.1 43 1) (V.1 44 1) ng (V.1 46 1) (V.1 47 1) (V.1 48 1) (V.1 49 1) nl (ownR (V.1 42 1) (V.1 43 1) (V.1 44 1) (nI c) (nI m) ng) (nI (6 * a + b)) (nI m) = 0))
      obtain ⟨o1, ⟨o, ho, o2⟩, _⟩ := hG c hc
      rw [g2, r20, r21, hcc, hl_cl (by omega), ← o1, o2, rd_now hG (by omega) ho]
    · rw [w0] at hw
      have hw0 : U.1 22 (U.2.1 3 (k + 1) 5) i' ≠ 1 := hw
      show cStp (T.1 33) (T.1 22 (T.2.1 28 1 (nI c).toNatClampNeg) i') (T.1 23 (T.2.1 28 1 (nI c).toNatClampNeg) i') p = (if 8 ≤ V.1 59 1 (nI (36 * (edR (V.1 53 1) (V.1 56 1) (V.1 58 1) (nI c) (nI m) nE).toNatClampNeg + 3 * i')).toNatClampNeg then lrk (V.1 59 1 (nI (36 * (edR (V.1 53 1) (V.1 56 1) (V.1 58 1) (nI c) (nI m) nE).toNatClampNeg + 3 * i')).toNatClampNeg) p else lpush (if V.1 59 1 (nI (36 * (edR (V.1 53 1) (V.1 56 1) (V.1 58 1) (nI c) (nI m) nE).toNatClampNeg + 3 * i')).toNatClampNeg = 0 then (V.1 59 1 (nI (36 * (edR (V.1 53 1) (V.1 56 1) (V.1 58 1) (nI c) (nI m) nE).toNatClampNeg + 3 * i') + 1).toNatClampNeg).toInt64 else if V.1 59 1 (nI (36 * (edR (V.1 53 1) (V.1 56 1) (V.1 58 1) (nI c) (nI m) nE).toNatClampNeg + 3 * i')).toNatClampNeg = 7 then (lastR (V.1 77 1) (V.1 79 1) (V.1 81 1) (V.1 59 1 (nI (36 * (edR (V.1 53 1) (V.1 56 1) (V.1 58 1) (nI c) (nI m) nE).toNatClampNeg + 3 * i') + 1).toNatClampNeg) (nI m) nR).toInt64 else (mBS (V.1 59 1 (nI (36 * (edR (V.1 53 1) (V.1 56 1) (V.1 58 1) (nI c) (nI m) nE).toNatClampNeg + 3 * i')).toNatClampNeg) (baR (V.1 66 1) (V.1 67 1) (V.1 68 1) (V.1 69 1) (V.1 70 1) (V.1 71 1) (V.1 72 1) (V.1 73 1) (V.1 79 1) (V.1 59 1 (nI (36 * (edR (V.1 53 1) (V.1 56 1) (V.1 58 1) (nI c) (nI m) nE).toNatClampNeg + 3 * i') + 1).toNatClampNeg) (nI m) nB)).toInt64) p)
      rw [ek, ck, c0, c1, hcc, ef, r22, r23, ec, ← q1, ← q2]
      obtain ⟨w, hw, ew⟩ := hw15
      rw [ew] at hone hw0 ⊢
      unfold cStp
      by_cases z8 : (8 : Int32) ≤ nI w
      · rw [if_pos z8, if_pos z8]
      · rw [if_neg z8, if_neg z8]
        have l8 : w < 8 := by
          have : ¬ 8 ≤ w := fun z => z8 ((hl_le (a := 8) (by omega) (by omega)).mpr z)
          omega
        by_cases z0 : nI w = 0
        · rw [if_pos z0, if_pos z0]
        · rw [if_neg z0, if_neg z0]
          have l0 : w ≠ 0 := fun z => z0 (by rw [z]; rfl)
          have l1 : w ≠ 1 := fun z => hw0 (by rw [z]; rfl)
          obtain ⟨x, hx, _, ex⟩ := hl_of (n := 4) (hone ((hl_le (a := 1) (by omega) (by omega)).mpr (by omega)) ((hl_le (b := 7) (by omega) (by omega)).mpr (by omega)))
          obtain ⟨a1, a2⟩ := g4 x hx
          rw [hz13] at a1
          rw [hz14, ls_eq hC hp nR (Nat.le_refl _)] at a2
          rw [ba_eq hB hC hA.1.2.2.2.1 (by omega) hm nB (Nat.le_refl _)] at a1
          rw [ex, hl_cl (by omega), hl_cl (by omega)]
          by_cases z7 : nI w = 7
          · have : w = 7 := (hl_inj (b := 7) (by omega) (by omega)).mp z7
            subst this
            rw [if_pos z7, a2]
          · rw [if_neg z7, ← a1]
            have n7 : w ≠ 7 := fun z => z7 (by rw [z]; rfl)
            have cases5 : w = 2 ∨ w = 3 ∨ w = 4 ∨ w = 5 ∨ w = 6 := by omega
            rcases cases5 with z | z | z | z | z <;> subst z <;> rfl
