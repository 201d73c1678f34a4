/-! ===== history that goes on: what was seen at an event stays ===== -/
theorem edR_in {a53 a56 a58 : Nat → Int32} {c e : Int32} (n : Nat) : edR a53 a56 a58 c e n = -1 ∨ ∃ k, k < n ∧ edR a53 a56 a58 c e n = nI k ∧ a53 k = c ∧ ¬ e < a56 k ∧ a58 k = 0 := by
  induction n with
  | zero => exact Or.inl rfl
  | succ n ih =>
    unfold edR
    by_cases q : a53 n = c ∧ ¬ e < a56 n ∧ a58 n = 0
    · rw [if_pos q]; exact Or.inr ⟨n, by omega, rfl, q⟩
    · rw [if_neg q]
      rcases ih with h | ⟨k, hk, h⟩
      · exact Or.inl h
      · exact Or.inr ⟨k, by omega, h⟩
theorem mX_eq {U V V' : hs_S} {ev ng nl nE nB nR ng' nl' nE' nB' nR' : Nat} {e : Int32} (hE : rE U V ev nE) (h60 : nE ≤ 60)
    (ho : ∀ c, ownR (V'.1 42 1) (V'.1 43 1) (V'.1 44 1) c e ng' = ownR (V.1 42 1) (V.1 43 1) (V.1 44 1) c e ng)
    (hl : ∀ o c, letR (V'.1 42 1) (V'.1 43 1) (V'.1 44 1) ng' (V'.1 46 1) (V'.1 47 1) (V'.1 48 1) (V'.1 49 1) o c e nl' = letR (V.1 42 1) (V.1 43 1) (V.1 44 1) ng (V.1 46 1) (V.1 47 1) (V.1 48 1) (V.1 49 1) o c e nl)
    (he : ∀ c, edR (V'.1 53 1) (V'.1 56 1) (V'.1 58 1) c e nE' = edR (V.1 53 1) (V.1 56 1) (V.1 58 1) c e nE)
    (h7 : ∀ k, k < nE → V'.1 57 1 k = V.1 57 1 k ∧ ∀ j, j < 36 → V'.1 59 1 (36 * k + j) = V.1 59 1 (36 * k + j))
    (hla : ∀ c, lastR (V'.1 77 1) (V'.1 79 1) (V'.1 81 1) c e nR' = lastR (V.1 77 1) (V.1 79 1) (V.1 81 1) c e nR)
    (hba : ∀ c, baR (V'.1 66 1) (V'.1 67 1) (V'.1 68 1) (V'.1 69 1) (V'.1 70 1) (V'.1 71 1) (V'.1 72 1) (V'.1 73 1) (V'.1 79 1) c e nB' = baR (V.1 66 1) (V.1 67 1) (V.1 68 1) (V.1 69 1) (V.1 70 1) (V.1 71 1) (V.1 72 1) (V.1 73 1) (V.1 79 1) c e nB) :
    gEq (mX V' ng' nl' nE' nB' nR' e) (mX V ng nl nE nB nR e) := by
  have hrd : ∀ o c, rdR (V'.1 42 1) (V'.1 43 1) (V'.1 44 1) ng' (V'.1 46 1) (V'.1 47 1) (V'.1 48 1) (V'.1 49 1) nl' o c e = rdR (V.1 42 1) (V.1 43 1) (V.1 44 1) ng (V.1 46 1) (V.1 47 1) (V.1 48 1) (V.1 49 1) nl o c e := fun o c => by unfold rdR; rw [ho, hl]
  intro n hn
  rcases edR_in (a53 := V.1 53 1) (a56 := V.1 56 1) (a58 := V.1 58 1) (c := nI n) (e := e) nE with ek | ⟨k, hk, ek, _⟩
  · have s0 : (mX V' ng' nl' nE' nB' nR' e).1 (nI n) = 0 := by
      show (if edR (V'.1 53 1) (V'.1 56 1) (V'.1 58 1) (nI n) e nE' = -1 then 0 else _) = 0
      rw [he, if_pos ek]
    have s1 : (mX V ng nl nE nB nR e).1 (nI n) = 0 := by
      show (if edR (V.1 53 1) (V.1 56 1) (V.1 58 1) (nI n) e nE = -1 then 0 else _) = 0
      rw [if_pos ek]
    exact ⟨s0.trans s1.symm, fun i hi => absurd hi (by rw [s0]; omega)⟩
  · have ck : (nI k).toNatClampNeg = k := hl_cl (by omega)
    have nk : ¬ nI k = -1 := fun z => by
      have e1 : (nI k).toInt = k := nI_toInt (by omega)
      have e2 : (nI k).toInt = -1 := by rw [z]; rfl
      omega
    obtain ⟨_, _, ⟨g', hg', eg', hok⟩, g, hg, eg, eg2, _, hwd⟩ := (hE k hk).2
    have egg : g' = g := (hl_inj (by omega) (by omega)).mp (eg'.symm.trans eg)
    subst egg
    obtain ⟨h57, h59⟩ := h7 k hk
    have s1 : (mX V ng nl nE nB nR e).1 (nI n) = g' := by
      show (if edR (V.1 53 1) (V.1 56 1) (V.1 58 1) (nI n) e nE = -1 then 0 else (V.1 57 1 (edR (V.1 53 1) (V.1 56 1) (V.1 58 1) (nI n) e nE).toNatClampNeg).toNatClampNeg) = g'
      rw [ek, if_neg nk, ck, eg2, hl_cl (by omega)]
    have s0 : (mX V' ng' nl' nE' nB' nR' e).1 (nI n) = g' := by
      show (if edR (V'.1 53 1) (V'.1 56 1) (V'.1 58 1) (nI n) e nE' = -1 then 0 else (V'.1 57 1 (edR (V'.1 53 1) (V'.1 56 1) (V'.1 58 1) (nI n) e nE').toNatClampNeg).toNatClampNeg) = g'
      rw [he, ek, if_neg nk, ck, h57, eg2, hl_cl (by omega)]
    refine ⟨s0.trans s1.symm, fun i hi => ?_⟩
    rw [s0] at hi
    have c0 : (nI (36 * k + 3 * i)).toNatClampNeg = 36 * k + 3 * i := hl_cl (by omega)
    have c1 : (nI (36 * k + 3 * i) + 1).toNatClampNeg = 36 * k + 3 * i + 1 := by rw [nI_1]; exact hl_cl (by omega)
    have c2 : (nI (36 * k + 3 * i) + 2).toNatClampNeg = 36 * k + 3 * i + 2 := by rw [show (2 : Int32) = nI 2 from rfl, nI_addI (by omega)]; exact hl_cl (by omega)
    have p0 : V'.1 59 1 (36 * k + 3 * i) = V.1 59 1 (36 * k + 3 * i) := h59 (3 * i) (by omega)
    have p1 : V'.1 59 1 (36 * k + 3 * i + 1) = V.1 59 1 (36 * k + 3 * i + 1) := h59 (3 * i + 1) (by omega)
    have p2 : V'.1 59 1 (36 * k + 3 * i + 2) = V.1 59 1 (36 * k + 3 * i + 2) := h59 (3 * i + 2) (by omega)
    have w0 : (mX V ng nl nE nB nR e).2.1 (nI n) i = V.1 59 1 (36 * k + 3 * i) := by
      show V.1 59 1 (nI (36 * (edR (V.1 53 1) (V.1 56 1) (V.1 58 1) (nI n) e nE).toNatClampNeg + 3 * i)).toNatClampNeg = _
      rw [ek, ck, c0]
    have w0' : (mX V' ng' nl' nE' nB' nR' e).2.1 (nI n) i = V.1 59 1 (36 * k + 3 * i) := by
      show V'.1 59 1 (nI (36 * (edR (V'.1 53 1) (V'.1 56 1) (V'.1 58 1) (nI n) e nE').toNatClampNeg + 3 * i)).toNatClampNeg = _
      rw [he, ek, ck, c0, p0]
    have w1 : (mX V ng nl nE nB nR e).2.2.1 (nI n) i = 6 * V.1 59 1 (36 * k + 3 * i + 1) + V.1 59 1 (36 * k + 3 * i + 2) := by
      show 6 * V.1 59 1 (nI (36 * (edR (V.1 53 1) (V.1 56 1) (V.1 58 1) (nI n) e nE).toNatClampNeg + 3 * i) + 1).toNatClampNeg + V.1 59 1 (nI (36 * (edR (V.1 53 1) (V.1 56 1) (V.1 58 1) (nI n) e nE).toNatClampNeg + 3 * i) + 2).toNatClampNeg = _
      rw [ek, ck, c1, c2]
    have w1' : (mX V' ng' nl' nE' nB' nR' e).2.2.1 (nI n) i = 6 * V.1 59 1 (36 * k + 3 * i + 1) + V.1 59 1 (36 * k + 3 * i + 2) := by
      show 6 * V'.1 59 1 (nI (36 * (edR (V'.1 53 1) (V'.1 56 1) (V'.1 58 1) (nI n) e nE').toNatClampNeg + 3 * i) + 1).toNatClampNeg + V'.1 59 1 (nI (36 * (edR (V'.1 53 1) (V'.1 56 1) (V'.1 58 1) (nI n) e nE').toNatClampNeg + 3 * i) + 2).toNatClampNeg = _
      rw [he, ek, ck, c1, c2, p1, p2]
    refine ⟨w0'.trans w0.symm, fun hw => ⟨w1'.trans w1.symm, ?_, ?_⟩, fun _ p => ?_⟩
    · rw [w0'] at hw
      obtain ⟨q1, q2, q3⟩ := hwd i hi
      obtain ⟨a, b, ha, hb, ea, eb⟩ := (hok i hi).2.2.1 (q1.trans hw)
      exact ⟨6 * a + b, by omega, w1'.trans (by rw [← q2, ← q3, ea, eb, nI_6c])⟩
    · rw [w1']
      show (!decide (rdR (V'.1 42 1) (V'.1 43 1) (V'.1 44 1) ng' (V'.1 46 1) (V'.1 47 1) (V'.1 48 1) (V'.1 49 1) nl' (ownR (V'.1 42 1) (V'.1 43 1) (V'.1 44 1) (nI n) e ng') _ e = 0)) = (!decide (rdR (V.1 42 1) (V.1 43 1) (V.1 44 1) ng (V.1 46 1) (V.1 47 1) (V.1 48 1) (V.1 49 1) nl (ownR (V.1 42 1) (V.1 43 1) (V.1 44 1) (nI n) e ng) _ e = 0))
      rw [ho, hrd]
    · unfold mX mX0
      simp only [he, ek, ck, c0, c1, p0, p1, hla, hba]
/-- a round's price still follows from what was seen when it froze -/
theorem mR_1 {V : hs_S} {ng nl nE nB nR r c : Nat} {E' : gE} (h : mR V ng nl nE nB nR r) (hc : c < 4) (ec : V.1 77 1 r = nI c) (hg : gEq E' (mX V ng nl nE nB nR (V.1 78 1 r))) : ∃ f v f2 v2 : Int32, gVal E' (6 * V.1 77 1 r) f v ∧ gVal E' (6 * V.1 77 1 r + 1) f2 v2 ∧ V.1 84 1 r = cY (if E'.1 (6 * V.1 77 1 r) = 0 then 1 else 0) f v ∧ V.1 81 1 r = (if V.1 84 1 r = 0 then v else -1) ∧ V.1 83 1 r = clF (V.1 81 1 r) v2 := by
  obtain ⟨⟨f, v, f2, v2, h1, h2, h3, h4⟩, _⟩ := h
  have e6 : (6 : Int32) * V.1 77 1 r = nI (6 * c) := by rw [ec]; exact pk_mul 6 c
  have e7 : (6 : Int32) * V.1 77 1 r + 1 = nI (6 * c + 1) := by rw [e6, nI_1]
  rw [e7] at h2 ⊢
  rw [e6] at h1 h3 ⊢
  exact ⟨f, v, f2, v2, (gVal_eq hg (by omega)).mpr h1, (gVal_eq hg (by omega)).mpr h2, by rw [(hg (6 * c) (by omega)).1]; exact h3, h4⟩
/-- rights of an event, behind more gifts and lettings -/
theorem rG_old {U V U' V' : hs_S} {i ng nl ng' nl' : Nat} {e : Int32} (hu : U'.1 20 i = U.1 20 i) (hu2 : U'.1 21 i = U.1 21 i) (h : rGs U V i ng nl e)
    (ho : ∀ c, ownR (V'.1 42 1) (V'.1 43 1) (V'.1 44 1) c e ng' = ownR (V.1 42 1) (V.1 43 1) (V.1 44 1) c e ng)
    (hl : ∀ o c, letR (V'.1 42 1) (V'.1 43 1) (V'.1 44 1) ng' (V'.1 46 1) (V'.1 47 1) (V'.1 48 1) (V'.1 49 1) o c e nl' = letR (V.1 42 1) (V.1 43 1) (V.1 44 1) ng (V.1 46 1) (V.1 47 1) (V.1 48 1) (V.1 49 1) o c e nl) : rGs U' V' i ng' nl' e := by
  intro c hc
  obtain ⟨h1, h2, h3⟩ := h c hc
  rw [hu, hu2]
  refine ⟨h1.trans (ho _).symm, h2, fun o hO => ?_⟩
  rw [hl]
  exact h3 o hO
theorem mOC_c {S T : hs_S} {o e : Int32} (h : ∀ k, k < 24 → F_ownerAt (nI k) e T = S.1 20 1 k) : ∀ n, n ≤ 24 → mOC T o e n = cOC S 1 o n := by
  intro n
  induction n with
  | zero => intro _; rfl
  | succ n ih =>
    intro hn
    unfold mOC cOC
    rw [ih (by omega), h n (by omega)]
    by_cases q : S.1 20 1 n = o
    · rw [if_pos q, if_pos q]
    · rw [if_neg q, if_neg q, Int32.add_zero]
theorem own_at {U V T : hs_S} {i ng nl k : Nat} {e : Int32} (hG : rGs U V i ng nl e) (hk : k < 24) (hng : ng ≤ 1200) (e1 : T.1 11 1 1 = nI ng) (h42 : T.1 42 1 = V.1 42 1) (h43 : T.1 43 1 = V.1 43 1) (h44 : T.1 44 1 = V.1 44 1) : F_ownerAt (nI k) e T = U.1 20 i k := by
  rw [own_r, e1, hl_cl (by omega), h42, h43, h44]
  exact (hG k hk).1.symm
abbrev giveT (S : hs_S) (k ng ev : Nat) (x : Int32) (y : Int64) : hs_S := hs_wI (hs_wI (hs_wI (hs_wI (hs_wI (E_asks 1 (hs_wL (hs_wI (hs_wI S 20 1 k x) 10 1 5 (nI (ev + 1))) 100 1 (0 : Int32).toNatClampNeg y)) 42 1 ng (nI ev)) 43 1 ng (nI k)) 44 1 ng x) 11 1 1 (nI (ng + 1))) 11 1 0 (nI (ev + 1))
theorem give_RR {n : Nat} {S : hs_S} {k o : Nat} {y : Int64} {ev ng nl nE nB nR nd : Nat} (hX : RX n S S ev ng nl nE nB nR nd) (hL : rL S S) (hQ : rQ S S nB nR) (hM : rM S ng nl nE nB nR) (hk : k < 24) (ho : o < 6) (hn : n < 512) : RX (n + 1) (giveT S k ng ev (nI o) y) (giveT S k ng ev (nI o) y) (ev + 1) (ng + 1) nl nE nB nR nd ∧ RR (n + 1) (giveT S k ng ev (nI o) y) := by
  obtain ⟨hA, hG, hH, hE, hF, hN, hB, hC⟩ := hX
  have hev := hA.1.1.1
  have hng := hA.1.2.1.1
  have a42 : ∀ j, (giveT S k ng ev (nI o) y).1 42 1 j = if j = ng then nI ev else S.1 42 1 j := fun j => (wI_at (S := S) (t := 42) (i := 1) (j := ng) (x := nI ev))
  have a43 : ∀ j, (giveT S k ng ev (nI o) y).1 43 1 j = if j = ng then nI k else S.1 43 1 j := fun j => (wI_at (S := S) (t := 43) (i := 1) (j := ng) (x := nI k))
  have a44 : ∀ j, (giveT S k ng ev (nI o) y).1 44 1 j = if j = ng then nI o else S.1 44 1 j := fun j => (wI_at (S := S) (t := 44) (i := 1) (j := ng) (x := nI o))
  have base : ∀ j, j < ng → (giveT S k ng ev (nI o) y).1 42 1 j = S.1 42 1 j ∧ (giveT S k ng ev (nI o) y).1 43 1 j = S.1 43 1 j ∧ (giveT S k ng ev (nI o) y).1 44 1 j = S.1 44 1 j := fun j hj => ⟨(a42 j).trans (if_neg (by omega)), (a43 j).trans (if_neg (by omega)), (a44 j).trans (if_neg (by omega))⟩
  -- who owned at an event that is not behind
  have old : ∀ (c : Int32) (m : Nat), m ≤ ev → ownR ((giveT S k ng ev (nI o) y).1 42 1) ((giveT S k ng ev (nI o) y).1 43 1) ((giveT S k ng ev (nI o) y).1 44 1) c (nI m) (ng + 1) = ownR (S.1 42 1) (S.1 43 1) (S.1 44 1) c (nI m) ng := fun c m hm =>
    ownR_old base (ng + 1) (by omega) fun j h1 h2 => by
      have e : j = ng := by omega
      rw [a42, if_pos e]
      exact fun z => absurd ((hl_lt (by omega) (by omega)).mp z) (by omega)
  have oldl : ∀ (w c e : Int32), letR ((giveT S k ng ev (nI o) y).1 42 1) ((giveT S k ng ev (nI o) y).1 43 1) ((giveT S k ng ev (nI o) y).1 44 1) (ng + 1) (S.1 46 1) (S.1 47 1) (S.1 48 1) (S.1 49 1) w c e nl = letR (S.1 42 1) (S.1 43 1) (S.1 44 1) ng (S.1 46 1) (S.1 47 1) (S.1 48 1) (S.1 49 1) w c e nl := fun w c e =>
    letR_old (fun _ _ => ⟨rfl, rfl, rfl, rfl⟩) (fun j hj => by
      obtain ⟨m, hm, em⟩ := hH.2 j hj
      rw [em]
      exact old c m (by omega)) nl (Nat.le_refl _) fun j h1 h2 => absurd h1 (by omega)
  have hG' := rG_up hH (by omega) hG
  have hg2 : ∀ r, r < nR → ∃ f : Nat, f < ev ∧ S.1 78 1 r = nI f := fun r hr => by
    obtain ⟨_, _, ⟨f, l, h1, h2, _⟩, _⟩ := hC.1 r hr
    exact ⟨f, by omega, h2⟩
  have hX' : RX (n + 1) (giveT S k ng ev (nI o) y) (giveT S k ng ev (nI o) y) (ev + 1) (ng + 1) nl nE nB nR nd := by
    refine ⟨⟨⟨⟨by omega, by omega⟩, by have := hA.1.2; omega⟩, ⟨rfl, rfl, rfl, hA.2.1.2.2.2⟩, hA.2.2⟩, fun c hc => ?_, ⟨fun j hj => ?_, (rH_up hH).2⟩, rE_up hE, hF, hN, rB_up hB, ⟨fun r hr => ?_, fun c hc => ?_, hC.2.2⟩⟩
    · obtain ⟨h1, h2, h3⟩ := hG' c hc
      have r20 : (giveT S k ng ev (nI o) y).1 20 1 c = if c = k then nI o else S.1 20 1 c := wI_at (S := S) (t := 20) (i := 1) (j := k) (x := nI o)
      have r21 : (giveT S k ng ev (nI o) y).1 21 1 c = S.1 21 1 c := rfl
      refine ⟨?_, ?_, fun w hw => ?_⟩
      · have e1 : ownR ((giveT S k ng ev (nI o) y).1 42 1) ((giveT S k ng ev (nI o) y).1 43 1) ((giveT S k ng ev (nI o) y).1 44 1) (nI c) (nI (ev + 1)) ng = ownR (S.1 42 1) (S.1 43 1) (S.1 44 1) (nI c) (nI (ev + 1)) ng := ownR_old base ng (Nat.le_refl _) fun j h1 h2 => absurd h1 (by omega)
        rw [r20]
        unfold ownR
        rw [e1, a42, a43, a44, if_pos rfl, if_pos rfl, if_pos rfl]
        by_cases q : c = k
        · rw [if_pos q, if_pos ⟨by rw [q], nI_lt2 (by omega) (by omega)⟩]
        · rw [if_neg q, if_neg fun z => q ((hl_inj (by omega) (by omega)).mp z.1).symm]
          exact h1
      · rw [r20]
        by_cases q : c = k
        · rw [if_pos q]; exact ⟨o, ho, rfl⟩
        · rw [if_neg q]; exact h2
      · have e2 := oldl (nI w) (nI c) (nI (ev + 1))
        rw [r21]
        have h4 := h3 w hw
        rw [← e2] at h4
        exact h4
    · rw [a42]
      by_cases q : j = ng
      · rw [if_pos q]; exact ⟨ev, by omega, rfl⟩
      · rw [if_neg q]
        obtain ⟨m, hm, em⟩ := hH.1 j (by omega)
        exact ⟨m, by omega, em⟩
    · obtain ⟨h1, h2, h3, h4, h5⟩ := (rC_up hC).1 r hr
      obtain ⟨f, hf, ef⟩ := hg2 r hr
      refine ⟨h1, h2, h3, h4, ?_⟩
      have h6 : rGs S S (S.2.1 14 1 r + 1) ng nl (nI f) := by rw [← ef]; exact h5
      have h7 : rGs (giveT S k ng ev (nI o) y) (giveT S k ng ev (nI o) y) (S.2.1 14 1 r + 1) (ng + 1) nl (nI f) := rG_old (wI_ne (S := S) (t := 20) (i := 1) (by have := h1.1; omega)) rfl h6 (fun c => old c f (by omega)) (fun w c => oldl w c _)
      rw [← ef] at h7
      exact h7
    · obtain ⟨h1, h2, h3, h4⟩ := (rC_up hC).2.1 c hc
      refine ⟨h1, h2, ?_, h4⟩
      rcases hC.2.1 c hc with ⟨_, _, h3, _⟩
      refine h3.imp_right ?_
      rintro ⟨f, hf, q1, q2, q3, q4⟩
      exact ⟨f, by omega, q1, q2, q3, rG_old (wI_ne (S := S) (t := 20) (i := 1) (i' := S.2.1 26 1 c + 1) (by have h1' : 1 ≤ S.2.1 26 1 c := h1.1; omega)) rfl q4 (fun c => old c f (by omega)) (fun w c => oldl w c _)⟩
  refine ⟨hX', ev + 1, ng + 1, nl, nE, nB, nR, nd, hX', hL, hQ, fun r hr => ⟨?_, (hM r hr).2⟩⟩
  obtain ⟨f, hf, ef⟩ := hg2 r hr
  obtain ⟨_, ⟨c, hc, ec, _⟩, _⟩ := hC.1 r hr
  have hg : gEq (mX (giveT S k ng ev (nI o) y) (ng + 1) nl nE nB nR (S.1 78 1 r)) (mX S ng nl nE nB nR (S.1 78 1 r)) := mX_eq hE hA.1.2.2.1.1 (fun c => by rw [ef]; exact old c f (by omega)) (fun w c => oldl w c _) (fun _ => rfl) (fun _ _ => ⟨rfl, fun _ _ => rfl⟩) (fun _ => rfl) (fun _ => rfl)
  exact mR_1 (V := S) (hM r hr) hc ec hg
theorem call_give {n : Nat} {S : hs_S} {a1 a2 a3 a4 : Int32} (h : RR n S) (hn : n < 512) (hw : hs_Wi S) : m_L_give a1 a2 a3 a4 S (fun k S2 => hs_Wi S2 → m_M_give a1 a2 a3 a4 S2 (fun r T => OK n k r T)) := by
  obtain ⟨ev, ng, nl, nE, nB, nR, nd, hX, hL, hQ, hM⟩ := id h
  obtain ⟨hA, hG, hH, hE, hF, hN, hB, hC⟩ := id hX
  have hev := hA.1.1.1
  have hng := hA.1.2.1.1
  have hP : P_give a1 a2 a3 a4 S := ⟨ng, by omega, hA.2.1.2.2.1⟩
  have bad1 : ¬ okGive a1 a2 a3 a4 → hs_Wi S → m_M_give a1 a2 a3 a4 S (fun r T => OK n 1 r T) := fun q hw2 => qI_mono (ok_M_give hw2 (v_M_give hP)) fun r T hR => by
    obtain ⟨rfl, rfl⟩ := hR.2 q
    exact OK_f h hn rfl
  refine ok_L_give hw fun _ => ok_C_give hw fun _ => t_needOwner hw (fun o1 ho1 e1 => fun _ => t_needOwner hw (fun o ho e4 => fun _ => t_cellAt hw (fun c r hc hr e2 e3 => fun _ => t_needOwnCell hw (by omega) (fun q => ?_) (fun q => Or.inr ⟨rfl, fun hw2 => ?_⟩)) (fun e => Or.inl ⟨rfl, bad1 fun z => z.2.1 e⟩)) (fun e => Or.inl ⟨rfl, bad1 fun z => z.2.2 e⟩)) (fun e => Or.inl ⟨rfl, bad1 fun z => z.1 e⟩)
  · subst e1 e4 e2 e3
    have hk : 6 * c + r < 24 := by omega
    have hok : okGive (nI o1) (nI c) (nI r) (nI o) := ⟨by rw [own_1 ho1]; decide, by rw [cell_1 hc hr]; decide, by rw [own_1 ho]; decide⟩
    refine ⟨hl_ix (by omega) (by omega), ?_⟩
    have e5 : S.1 10 1 5 + 1 = nI (ev + 1) := by rw [hA.2.1.1]; exact nI_1 ev
    rw [hl_cl (by omega)]
    rintro _ rfl S11 h11 S5 h5 hw2
    have h11' : S11 = hs_wI (hs_wI S 20 1 (6 * c + r) (nI o)) 10 1 5 (nI (ev + 1)) := h11.trans (congrArg (hs_wI (hs_wI S 20 1 (6 * c + r) (nI o)) 10 1 5) e5)
    refine qI_mono (ok_M_give hw2 (v_M_give (by rw [h5, h11']; exact hP))) fun r' T hR => ?_
    have own : F_ownerAt (6 * nI c + nI r) (S5.1 11 1 0) (E_asks 1 S5) = nI o1 := by
      rw [nI_6c, h5, h11']
      refine Eq.trans ?_ q
      have := own_at (T := E_asks 1 (hs_wL (hs_wI (hs_wI S 20 1 (6 * c + r) (nI o)) 10 1 5 (nI (ev + 1))) 100 1 (0 : Int32).toNatClampNeg (F_Rts_ownedBy 1 (nI o) (hs_wI (hs_wI S 20 1 (6 * c + r) (nI o)) 10 1 5 (nI (ev + 1)))).toInt64)) hG hk (by omega) hA.2.1.2.2.1 rfl rfl rfl
      rw [← hA.2.1.2.1] at this
      exact this
    obtain ⟨hT, hr'⟩ := (hR.1 hok).1 own
    have eT : T = giveT S (6 * c + r) ng ev (nI o) (F_Rts_ownedBy 1 (nI o) S11).toInt64 := by
      rw [hT, nI_6c, h5, h11']
      unfold E_give giveT
      have d1 : ∀ y, (E_asks 1 (hs_wL (hs_wI (hs_wI S 20 1 (6 * c + r) (nI o)) 10 1 5 (nI (ev + 1))) 100 1 (0 : Int32).toNatClampNeg y)).1 11 1 1 = nI ng := fun _ => hA.2.1.2.2.1
      have d0 : ∀ y, (E_asks 1 (hs_wL (hs_wI (hs_wI S 20 1 (6 * c + r) (nI o)) 10 1 5 (nI (ev + 1))) 100 1 (0 : Int32).toNatClampNeg y)).1 11 1 0 = nI ev := fun _ => hA.2.1.2.1
      rw [d1, d0, hl_cl (by omega), nI_1, nI_1]
    obtain ⟨hX', hR'⟩ := give_RR (y := (F_Rts_ownedBy 1 (nI o) S11).toInt64) hX hL hQ hM hk ho hn
    rw [eT] at hr' ⊢
    refine ⟨hR', rfl, fun _ => congrArg Int32.toInt64 ?_⟩
    rw [hr', mOC_c (fun k hk => own_now hX' hk) 24 (Nat.le_refl _), h11']
    rfl
  · subst e1 e4 e2 e3
    have hok : okGive (nI o1) (nI c) (nI r) (nI o) := ⟨by rw [own_1 ho1]; decide, by rw [cell_1 hc hr]; decide, by rw [own_1 ho]; decide⟩
    refine qI_mono (ok_M_give hw2 (v_M_give hP)) fun r' T hR => ?_
    have own : ¬ F_ownerAt (6 * nI c + nI r) (S.1 11 1 0) (E_asks 1 S) = nI o1 := by
      rw [nI_6c]
      intro z
      refine q (Eq.trans ?_ z)
      have := own_at (T := E_asks 1 S) hG (k := 6 * c + r) (by omega) (by omega) hA.2.1.2.2.1 rfl rfl rfl
      rw [← hA.2.1.2.1] at this
      exact this.symm
    obtain ⟨rfl, rfl⟩ := (hR.1 hok).2 own
    exact OK_g h hn (by decide)
