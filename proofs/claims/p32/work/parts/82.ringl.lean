/-! ===== the law's bells ===== -/
def fp (s : Nat → Int32 → Int32) : Nat → Int32 → Int32
  | 0, x => x
  | k + 1, x => s k (fp s k x)
def pI (s : Nat → Int32 → Int32) (x0 : Int32) (n N : Nat) (x : Int32) (k : Int32) : Prop := ∃ j : Nat, j ≤ n ∧ k = nI j ∧ x = fp s j x0 ∧ N = n - j
theorem pI_0 {s : Nat → Int32 → Int32} {x0 : Int32} {n : Nat} : ∃ m, pI s x0 n m x0 0 := ⟨n, 0, Nat.zero_le _, rfl, rfl, rfl⟩
theorem pI_e {s : Nat → Int32 → Int32} {x0 x : Int32} {n N : Nat} {k : Int32} (hn : n < 2147483648) (h : pI s x0 n N x k) (z : nI n ≤ k) : x = fp s n x0 := by
  obtain ⟨j, hj, rfl, rfl, _⟩ := h
  rw [hl_end hn hj z]
theorem pI_b {s : Nat → Int32 → Int32} {x0 x : Int32} {n N : Nat} {k : Int32} (hn : n < 2147483648) (h : pI s x0 n N x k) (z : ¬ nI n ≤ k) : ∃ j : Nat, j < n ∧ k = nI j ∧ x = fp s j x0 ∧ ∀ y, y = s j x → ∃ q, q < N ∧ pI s x0 n q y (k + 1) := by
  obtain ⟨j, hj, rfl, rfl, rfl⟩ := h
  have h1 := hl_go hn hj z
  refine ⟨j, h1, rfl, rfl, fun y hy => ⟨n - (j + 1), by omega, j + 1, h1, nI_1 j, hy, rfl⟩⟩
def sG (S : hs_S) : Nat → Int64 → Int64 := fun b x => x + (F_Cq_got (nI b) S).toInt64
def sP (S : hs_S) (c : Nat) : Nat → Int32 → Int32 := fun o x => x + (if F_Ldg_dueOf (nI o) (nI c) S ≤ 0 then 0 else F_Ldg_dueOf (nI o) (nI c) S)
def sD (S : hs_S) (c : Nat) : Nat → Int32 → Int32 := fun o x => x + F_Ldg_dueOf (nI o) (nI c) S
theorem sG_i {n : Nat} {S : hs_S} (h : KS n S) : ∀ k, k ≤ hs_sz S 13 → (fo (sG S) k 0).toInt = sI (fun b => (S.1 0 (b + 1) 9).toInt) k ∧ 0 ≤ sI (fun b => (S.1 0 (b + 1) 9).toInt) k ∧ sI (fun b => (S.1 0 (b + 1) 9).toInt) k ≤ 101 * (k : Int) := by
  have h80 := (KS_sz h).1.2.1
  intro k
  induction k with
  | zero => intro _; exact ⟨rfl, Int.le_refl _, Int.le_refl _⟩
  | succ k ih =>
    intro hk
    obtain ⟨i1, i2, i3⟩ := ih (by omega)
    have g := KS_got h (show k < hs_sz S 13 by omega)
    have e : sI (fun b => (S.1 0 (b + 1) 9).toInt) (k + 1) = sI (fun b => (S.1 0 (b + 1) 9).toInt) k + (S.1 0 (k + 1) 9).toInt := rfl
    have e2 : fo (sG S) (k + 1) 0 = fo (sG S) k 0 + (S.1 0 (k + 1) 9).toInt64 := by
      show fo (sG S) k 0 + (F_Cq_got (nI k) S).toInt64 = _
      rw [fq_got h (by omega)]
    rw [e2, e, i64_add (by rw [i1, i64_of]; omega), i1, i64_of]
    omega
theorem KS_due {n c : Nat} {S : hs_S} (h : KS n S) (hc : c < 4) : (∀ o, o < 6 → -492375760 ≤ dD S c o ∧ dD S c o ≤ 492375760) ∧ sI (dD S c) 6 = 0 := by
  obtain ⟨V, ev, ng, nl, nE, nB, nR, nd, k⟩ := KS_U h
  obtain ⟨h1, h2⟩ := due_f k hc
  exact ⟨fun o ho => (h1 o ho).2, h2⟩
theorem sD_i {S : hs_S} {c : Nat} : ∀ k, fp (sD S c) k 0 = Int32.ofInt (sI (dD S c) k) := by
  intro k
  induction k with
  | zero => rfl
  | succ k ih =>
    show fp (sD S c) k 0 + F_Ldg_dueOf (nI k) (nI c) S = Int32.ofInt (sI (dD S c) k + dD S c k)
    rw [ih, Int32.ofInt_add, Int32.ofInt_toInt]
theorem sD_0 {n c : Nat} {S : hs_S} (h : KS n S) (hc : c < 4) : fp (sD S c) 6 0 = 0 := by
  rw [sD_i, (KS_due h hc).2]; rfl
theorem sP_i {n c : Nat} {S : hs_S} (h : KS n S) (hc : c < 4) : ¬ fp (sP S c) 6 0 < 0 := by
  obtain ⟨h1, h2⟩ := KS_due h hc
  have hB : ∀ k, k ≤ 6 → sI (fun o => max 0 (dD S c o)) k ≤ 1477127280 := by
    have e : sI (fun o => max 0 (dD S c o)) 6 ≤ 1477127280 := by
      have e1 : sI (fun o => max 0 (dD S c o) + max 0 (-(dD S c o))) 6 ≤ sI (fun _ => 492375760) 6 := sI_le 6 fun o ho => by have := h1 o ho; omega
      have e2 : sI (fun o => max 0 (dD S c o)) 6 = sI (fun o => dD S c o + max 0 (-(dD S c o))) 6 := sI_c 6 fun o ho => by omega
      have e3 := sI_add (f := fun o => max 0 (dD S c o)) (g := fun o => max 0 (-(dD S c o))) 6
      have e4 := sI_add (f := dD S c) (g := fun o => max 0 (-(dD S c o))) 6
      have e5 : sI (fun _ => (492375760 : Int)) 6 = 2954254560 := rfl
      omega
    intro k hk
    have mono : ∀ d, k + d ≤ 6 → sI (fun o => max 0 (dD S c o)) k ≤ sI (fun o => max 0 (dD S c o)) (k + d) := by
      intro d
      induction d with
      | zero => intro _; exact Int.le_refl _
      | succ d ih =>
        intro hd
        have := ih (by omega)
        have e : sI (fun o => max 0 (dD S c o)) (k + (d + 1)) = sI (fun o => max 0 (dD S c o)) (k + d) + max 0 (dD S c (k + d)) := rfl
        omega
    have := mono (6 - k) (by omega)
    rw [show k + (6 - k) = 6 by omega] at this
    omega
  have key : ∀ k, k ≤ 6 → (fp (sP S c) k 0).toInt = sI (fun o => max 0 (dD S c o)) k ∧ 0 ≤ sI (fun o => max 0 (dD S c o)) k := by
    intro k
    induction k with
    | zero => intro _; exact ⟨rfl, Int.le_refl _⟩
    | succ k ih =>
      intro hk
      obtain ⟨i1, i2⟩ := ih (by omega)
      have hb := hB (k + 1) hk
      have e : sI (fun o => max 0 (dD S c o)) (k + 1) = sI (fun o => max 0 (dD S c o)) k + max 0 (dD S c k) := rfl
      have et : (if F_Ldg_dueOf (nI k) (nI c) S ≤ 0 then (0 : Int32) else F_Ldg_dueOf (nI k) (nI c) S).toInt = max 0 (dD S c k) := by
        have z0 : (0 : Int32).toInt = 0 := rfl
        by_cases q : F_Ldg_dueOf (nI k) (nI c) S ≤ 0
        · rw [if_pos q, z0]
          rw [i32_le, z0] at q
          show 0 = max 0 (F_Ldg_dueOf (nI k) (nI c) S).toInt
          omega
        · rw [if_neg q]
          rw [i32_le, z0] at q
          show _ = max 0 (F_Ldg_dueOf (nI k) (nI c) S).toInt
          omega
      show (fp (sP S c) k 0 + (if F_Ldg_dueOf (nI k) (nI c) S ≤ 0 then (0 : Int32) else F_Ldg_dueOf (nI k) (nI c) S)).toInt = _ ∧ _
      rw [i32_add (by rw [i1, et]; omega), i1, et, e]
      omega
  obtain ⟨k1, k2⟩ := key 6 (Nat.le_refl _)
  rw [i32_lt, k1]
  have z0 : (0 : Int32).toInt = 0 := rfl
  omega
theorem fr_0 {a : Int32} {S : hs_S} : F_Cq_round a 0 S = S.1 8 (F_Cq_roundNumbered a S) 0 := rfl
theorem fr_1 {a : Int32} {S : hs_S} : F_Cq_round a 1 S = S.1 8 (F_Cq_roundNumbered a S) 5 := rfl
theorem fr_2 {a : Int32} {S : hs_S} : F_Cq_round a 2 S = S.1 8 (F_Cq_roundNumbered a S) 6 := rfl
theorem fr_3 {a : Int32} {S : hs_S} : F_Cq_round a 3 S = S.1 8 (F_Cq_roundNumbered a S) 7 := rfl
theorem fr_4 {a : Int32} {S : hs_S} : F_Cq_round a 4 S = S.1 8 (F_Cq_roundNumbered a S) 8 := rfl
theorem fr_5 {a : Int32} {S : hs_S} : F_Cq_round a 5 S = F_Book_feesOf (F_Cq_roundNumbered a S) S := rfl
theorem la_rings {n : Nat} {z : Int32} {S U : hs_S} (h : JJ n S U) (hn : n + 2 < 512) (hw : hs_Wi S) (hu : hs_Wi U) (h75 : hs_sz S 13 ≤ 75) (h28 : hs_sz S 14 < 28) : m_L_rings (nI (hs_sz S 13)) (nI (hs_sz S 14)) z S U (fun x T T' => x = 1 ∧ JJ (n + 2) T T' ∧ hs_sz T 12 = hs_sz S 12 ∧ hs_sz T 13 = hs_sz S 13 ∧ (hs_sz T 14 = hs_sz S 14 ∨ hs_sz T 14 = hs_sz S 14 + 1)) := by
  refine ok_L_rings hw hu ?_
  unfold vc_L_rings
  obtain ⟨c, hc, ec⟩ := so_ex (N := 2) z 2 rfl (by omega) (by omega)
  have hc4 : c < 4 := by omega
  rw [ec]
  refine ⟨so_P (by decide), pq_frz h.1 hc4, fI (sG S) 0 (hs_sz S 13), fI_0, fun N x k hI => ⟨fun z1 => ?_, fun z1 => ?_⟩⟩
  · have e1 := fI_e (by omega) hI z1
    refine ⟨pI (sP S c) 0 6, pI_0, fun N2 x2 k2 hI2 => ⟨fun z2 => fun _ _ => ?_, fun z2 => ?_⟩⟩
    · have e2 := pI_e (n := 6) (by omega) hI2 z2
      by_cases hf : F_Rnd_wasFrozen (S.2.1 26 1 c) S = 0
      · refine bo_bellF h (by omega) hw hu hc4 hf fun T' hJ => ⟨fun q => absurd ((fq_frz hc4).trans hf) q, fun _ => ⟨rfl, pq_frz hJ.1 hc4, ?_, fun hw hu => ?_⟩⟩
        · rw [fq_frz hc4]; exact frz_f h.1
        · have e3 : (2 : Int32) * nI c = nI (2 * c + 0) := by rw [show (2 : Int32) = nI 2 from rfl, nI_mulI, Nat.add_zero]
          rw [e3]
          refine bo_bid (o := 1) (m := 1) (l := 1) hJ (by omega) hw hu (by omega) hc4 (by omega) (by omega) (by omega) (show hs_sz S 13 < 80 by omega) (fun _ => ⟨rfl, fun hw => ?_⟩) (fun q => absurd q (frz_f h.1))
          exact lq_is (rf_17 hJ.1 hw) fun _ => ⟨rfl, rfl, hJ.le (by omega) (by omega), rfl, rfl, Or.inl rfl⟩
      · refine bo_bellC h (by omega) hw hu hc4 hf (by omega) fun T T' hJ hb => ⟨fun _ => ?_, fun q => absurd ((fq_frz hc4).symm.trans q) hf⟩
        obtain ⟨⟨t14, tR, t13, t12⟩, tf, t0, tg⟩ := clr_f h.1 hJ.1 hc4 hb
        have hr : hs_sz S 14 < hs_sz T 14 := by omega
        have eR : F_Cq_roundNumbered (nI (hs_sz S 14)) T = S.2.1 26 1 c := (fq_rn hJ.1 hr).trans tR
        refine ⟨fI (sG T) 0 (hs_sz S 13), fI_0, fun N3 x3 k3 hI3 => ⟨fun z3 => ?_, fun z3 => ?_⟩⟩
        · have e3 := fI_e (by omega) hI3 z3
          refine ⟨pI (sD T c) 0 6, pI_0, fun N4 x4 k4 hI4 => ⟨fun z4 => ?_, fun z4 => ?_⟩⟩
          · have e4 := pI_e (n := 6) (by omega) hI4 z4
            have rd := KS_round hJ.1 hr
            rw [tR] at rd
            have an : P_Cq_priceAnew (nI (hs_sz S 14)) T ∧ ∀ (r71 : Int32) (S70 : hs_S), R_Cq_priceAnew (nI (hs_sz S 14)) T r71 S70 → P_Cq_round (nI (hs_sz S 14)) 1 S70 ∧ r71 = F_Cq_round (nI (hs_sz S 14)) 1 S70 ∧ ((1 : Int32) = 1 ∧ JJ (n + 2) S70 T' ∧ hs_sz S70 12 = hs_sz S 12 ∧ hs_sz S70 13 = hs_sz S 13 ∧ (hs_sz S70 14 = hs_sz S 14 ∨ hs_sz S70 14 = hs_sz S 14 + 1)) := by
              refine ⟨pq_anew hJ.1 hr, fun x71 T7 hR => ?_⟩
              obtain ⟨cl, ex⟩ := anew_cl hJ.1 hr hR
              have k7 := KS_cl cl hJ.1
              have z14 : hs_sz T7 14 = hs_sz T 14 := tw_sz cl 14 rfl
              have z13 : hs_sz T7 13 = hs_sz T 13 := tw_sz cl 13 rfl
              have z12 : hs_sz T7 12 = hs_sz T 12 := tw_sz cl 12 rfl
              refine ⟨pq_round k7 (k := 1) (by omega) (by omega), ?_, rfl, ⟨KS_le k7 (by omega) (by omega), (tw_csum cl 6).trans hJ.2.1, cl.trans hJ.2.2⟩, by omega, by omega, Or.inr (by omega)⟩
              rw [ex, fr_1, fq_rn k7 (by omega), cl_ptR cl (t := 14) (i := 1) (p := hs_sz S 14) rfl]
            refine ⟨rfl, pq_frz hJ.1 hc4, (fq_frz hc4).trans tf, pq_round hJ.1 (k := 0) hr (by omega), ?_, pq_round hJ.1 (k := 2) hr (by omega), ?_, ?_, ?_, pq_round hJ.1 (k := 4) hr (by omega), fun q => ?_, fun q => ?_⟩
            · rw [fr_0, eR]; exact t0
            · apply (lg_cmp_eq _ _).mpr
              rw [e1, e3, fr_2, eR]
              obtain ⟨g1, g2, g3⟩ := sG_i h.1 _ (Nat.le_refl _)
              obtain ⟨g4, g5, g6⟩ := sG_i hJ.1 (hs_sz S 13) (by omega)
              apply i64_eq.mpr
              have z2 : (2 : Int64).toInt = 2 := rfl
              rw [i64_sub (by rw [g1, g4]; omega), g1, g4, i64_mul (by rw [z2, i64_of]; have := i32_b (T.1 8 (S.2.1 26 1 c) 6); omega), z2, i64_of, tg]
              omega
            · rw [e4]; exact sD_0 hJ.1 hc4
            · rw [e2]; exact sP_i h.1 hc4
            · rw [fr_4, eR] at q
              obtain ⟨q1, q2, q3, q4⟩ := rd.2 q
              exact ⟨pq_round hJ.1 (k := 1) hr (by omega), by rw [fr_1, eR]; exact q1, by rw [fr_2, eR]; exact q2, pq_round hJ.1 (k := 3) hr (by omega), by rw [fr_3, eR]; exact q3, pq_round hJ.1 (k := 5) hr (by omega), by rw [fr_5, eR]; exact q4, an⟩
            · rw [fr_4, eR] at q
              have q1 := rd.1 q
              refine ⟨pq_round hJ.1 (k := 1) hr (by omega), ?_, an⟩
              rw [fr_1, eR, i32_lt]
              have z0 : (0 : Int32).toInt = 0 := rfl
              omega
          · obtain ⟨j, hj, rfl, _, hn4⟩ := pI_b (n := 6) (by omega) hI4 z4
            exact ⟨pq_due hJ.1 hj hc4, hn4 _ rfl⟩
        · obtain ⟨j, hj, rfl, hn3⟩ := fI_b (by omega) hI3 z3
          exact ⟨pq_got hJ.1 (by omega), hn3 _ rfl⟩
    · obtain ⟨j, hj, rfl, _, hn2⟩ := pI_b (n := 6) (by omega) hI2 z2
      refine ⟨pq_due h.1 hj hc4, fun q => hn2 _ ?_, fun q => hn2 _ ?_⟩
      · unfold sP; rw [if_pos q]
      · unfold sP; rw [if_neg q]
  · obtain ⟨j, hj, rfl, hn1⟩ := fI_b (by omega) hI z1
    exact ⟨pq_got h.1 hj, hn1 _ rfl⟩
