/-! ===== the machine's words ===== -/
def Pu (T T' : hs_S) (b : Nat) (q : List Int32) : Prop := (hs_cl T' = hs_cl T ∧ T'.1 11 1 53 = T.1 11 1 53 ∧ T'.1 11 1 58 = T.1 11 1 58 ∧ T'.1 11 1 55 = nI (b + q.length)) ∧ (T'.1 89 = T.1 89 ∧ T'.1 90 = T.1 90 ∧ T'.1 91 = T.1 91 ∧ T'.1 92 = T.1 92 ∧ T'.1 96 = T.1 96 ∧ T'.1 97 = T.1 97) ∧ (∀ k, k < b → T'.1 94 1 k = T.1 94 1 k) ∧ seg T' b q
theorem puts_ok {T : hs_S} {b : Nat} {p : List Int32} (x : Int64) (ht : T.1 11 1 55 = nI (b + p.length)) (hb : b + p.length ≤ 319) (hs : seg T b p) : (∀ q, lpush x p = .inr q → Pu T (E_puts x T) b q) ∧ ∀ k, lpush x p = .inl k → (E_puts x T).1 11 1 58 = k ∧ hs_cl (E_puts x T) = hs_cl T := by
  have hi : (T.1 11 1 55).toNatClampNeg = b + p.length := by rw [ht]; exact hl_cl (by omega)
  unfold lpush E_puts
  by_cases h1 : lg_cmp x (-1000000000) < 0
  · rw [if_pos h1, if_pos h1]
    exact ⟨fun q h => (nomatch h), fun k h => ⟨Sum.inl.inj h, hs_cl_I rfl⟩⟩
  · rw [if_neg h1, if_neg h1]
    by_cases h2 : lg_cmp x 1000000000 ≤ 0
    · rw [if_pos h2, if_pos h2]
      refine ⟨fun q h => ?_, fun k h => (nomatch h)⟩
      have hq := Sum.inr.inj h
      subst hq
      have h94 : ∀ k, (hs_wI (hs_wI T 94 1 (T.1 11 1 55).toNatClampNeg x.toInt32) 11 1 55 (T.1 11 1 55 + 1)).1 94 1 k = if k = b + p.length then x.toInt32 else T.1 94 1 k := fun k => by
        rw [hi]
        show (if 94 = 94 ∧ 1 = 1 ∧ k = b + p.length then x.toInt32 else T.1 94 1 k) = _
        by_cases w : k = b + p.length
        · rw [if_pos ⟨rfl, rfl, w⟩, if_pos w]
        · rw [if_neg fun z => w z.2.2, if_neg w]
      refine ⟨⟨?_, rfl, rfl, ?_⟩, ⟨rfl, rfl, rfl, rfl, rfl, rfl⟩, fun k hk => ?_, ?_, ?_⟩
      · rw [hs_cl_I rfl, hs_cl_I rfl]
      · show T.1 11 1 55 + 1 = nI (b + (p.length + 1))
        rw [ht]; exact nI_1 _
      · rw [h94, if_neg (by omega)]
      · rw [h94, if_pos rfl]
      · exact seg_fr p (fun j hj => by rw [h94, if_neg (by omega)]) hs
    · rw [if_neg h2, if_neg h2]
      exact ⟨fun q h => (nomatch h), fun k h => ⟨Sum.inl.inj h, hs_cl_I rfl⟩⟩
theorem Pu_pop {T T' : hs_S} {b : Nat} {q : List Int32} {x : Int32} (h : Pu (hs_wI T 11 1 55 x) T' b q) : Pu T T' b q := ⟨⟨h.1.1.trans (hs_cl_I rfl), h.1.2.1, h.1.2.2.1, h.1.2.2.2⟩, h.2.1, h.2.2.1, h.2.2.2⟩
theorem nI_s1 {a : Nat} (h : 1 ≤ a) (ha : a < 2147483648) : nI a - 1 = nI (a - 1) := nI_subI (b := 1) h ha
theorem nI_s2 {a : Nat} (h : 2 ≤ a) (ha : a < 2147483648) : nI a - 2 = nI (a - 2) := nI_subI (b := 2) h ha
theorem nI_s3 {a : Nat} (h : 3 ≤ a) (ha : a < 2147483648) : nI a - 3 = nI (a - 3) := nI_subI (b := 3) h ha
theorem lrk3 {w u l z : Int32} {r : List Int32} (q : w = 14) : lrk w (u :: l :: z :: r) = lpush (if z ≤ 0 then u.toInt64 else l.toInt64) r := if_pos q
theorem lrk2 {w u l : Int32} {r : List Int32} (q : ¬ w = 14) : lrk w (u :: l :: r) = if w = 11 ∧ u = 0 then .inl 3 else lpush (mAr w l.toInt64 u.toInt64) r := if_neg q
theorem reck_ok {T : hs_S} {b : Nat} {p : List Int32} {w : Int32} (ht : T.1 11 1 55 = nI (b + p.length)) (hb : b + p.length ≤ 319) (hs : seg T b p) (h8 : 8 ≤ w) (hp : tkN w ≤ p.length) : (∀ q, lrk w p = .inr q → Pu T (E_reckons w T) b q) ∧ ∀ k, lrk w p = .inl k → (E_reckons w T).1 11 1 58 = k ∧ hs_cl (E_reckons w T) = hs_cl T := by
  have h8' : ¬ w < 8 := by rw [i32_lt]; rw [i32_le] at h8; omega
  have htk : tkN w = if w = 14 then 3 else 2 := by unfold tkN; rw [if_neg h8']
  have hp2 : 2 ≤ p.length := by
    rw [htk] at hp
    by_cases q : w = 14
    · rw [if_pos q] at hp; omega
    · rw [if_neg q] at hp; omega
  match p, hp2 with
  | u :: l :: r, _ =>
    have hl : (u :: l :: r).length = r.length + 2 := rfl
    have e1 : (T.1 11 1 55 - 1).toNatClampNeg = b + (r.length + 1) := by
      rw [ht, nI_s1 (by omega) (by omega), hl_cl (by omega)]; omega
    have e2' : T.1 11 1 55 - 2 = nI (b + r.length) := by
      rw [ht, nI_s2 (by omega) (by omega)]; congr 1
    have e2 : (T.1 11 1 55 - 2).toNatClampNeg = b + r.length := by rw [e2', hl_cl (by omega)]
    have hu : T.1 94 1 (b + (r.length + 1)) = u := hs.1
    have hl2 : T.1 94 1 (b + r.length) = l := hs.2.1
    by_cases q : w = 14
    · have hp3 : 3 ≤ (u :: l :: r).length := by rw [htk, if_pos q] at hp; exact hp
      match r, hp3 with
      | z :: r', _ =>
        have hl3 : (z :: r').length = r'.length + 1 := rfl
        have hl4 : (u :: l :: z :: r').length = r'.length + 3 := rfl
        have e3' : T.1 11 1 55 - 3 = nI (b + r'.length) := by
          rw [ht, nI_s3 (by omega) (by omega)]; congr 1
        have e3 : (T.1 11 1 55 - 3).toNatClampNeg = b + r'.length := by rw [e3', hl_cl (by omega)]
        have hz : T.1 94 1 (b + r'.length) = z := hs.2.2.1
        have h := puts_ok (T := hs_wI T 11 1 55 (T.1 11 1 55 - 3)) (b := b) (p := r') (if z ≤ 0 then u.toInt64 else l.toInt64) e3' (by omega) (seg_fr (T := T) r' (fun _ _ => rfl) hs.2.2.2)
        unfold E_reckons
        rw [lrk3 q, if_pos q, e1, e2, e3, hu, hl2, hz]
        exact ⟨fun k hk => Pu_pop (h.1 k hk), fun k hk => ⟨(h.2 k hk).1, (h.2 k hk).2.trans (hs_cl_I rfl)⟩⟩
    · unfold E_reckons
      rw [lrk2 q, if_neg q, e1, e2, hu, hl2]
      by_cases v : w = 11 ∧ u = 0
      · rw [if_pos v, if_pos v]
        exact ⟨fun k hk => (nomatch hk), fun k hk => ⟨Sum.inl.inj hk, by rw [hs_cl_I rfl, hs_cl_I rfl]⟩⟩
      · rw [if_neg v, if_neg v]
        have h := puts_ok (T := hs_wI T 11 1 55 (T.1 11 1 55 - 2)) (b := b) (p := r) (mAr w l.toInt64 u.toInt64) e2' (by omega) (seg_fr (T := T) r (fun _ _ => rfl) hs.2.2)
        exact ⟨fun k hk => Pu_pop (h.1 k hk), fun k hk => ⟨(h.2 k hk).1, (h.2 k hk).2.trans (hs_cl_I rfl)⟩⟩
theorem lrk_len {w : Int32} {p : List Int32} (hp : tkN w ≤ p.length) (h8 : 8 ≤ w) : (∀ q, lrk w p = .inr q → q.length = p.length + 1 - tkN w ∧ ∀ v ∈ q, rng v ∨ v ∈ p) ∧ ∀ k, lrk w p = .inl k → k ≠ 0 := by
  have h8' : ¬ w < 8 := by rw [i32_lt]; rw [i32_le] at h8; omega
  have htk : tkN w = if w = 14 then 3 else 2 := by unfold tkN; rw [if_neg h8']
  have hp2 : 2 ≤ p.length := by
    rw [htk] at hp
    by_cases q : w = 14
    · rw [if_pos q] at hp; omega
    · rw [if_neg q] at hp; omega
  match p, hp2 with
  | u :: l :: r, _ =>
    have hl : (u :: l :: r).length = r.length + 2 := rfl
    by_cases q : w = 14
    · have hp3 : 3 ≤ (u :: l :: r).length := by rw [htk, if_pos q] at hp; exact hp
      match r, hp3 with
      | z :: r', _ =>
        have hl4 : (u :: l :: z :: r').length = r'.length + 3 := rfl
        rw [lrk3 q]
        refine ⟨fun k hk => ?_, fun k hk => by rw [lpush_f hk]; decide⟩
        obtain ⟨h1, h2⟩ := lpush_in hk
        rw [htk, if_pos q, hl4]
        refine ⟨by rw [h1, List.length_cons]; omega, fun v hv => ?_⟩
        rw [h1] at hv
        rcases List.mem_cons.mp hv with e | e
        · exact Or.inl (e ▸ h2)
        · exact Or.inr (List.mem_cons_of_mem _ (List.mem_cons_of_mem _ (List.mem_cons_of_mem _ e)))
    · rw [lrk2 q]
      by_cases v : w = 11 ∧ u = 0
      · rw [if_pos v]
        exact ⟨fun k hk => (nomatch hk), fun k hk => by rw [← Sum.inl.inj hk]; decide⟩
      · rw [if_neg v]
        refine ⟨fun k hk => ?_, fun k hk => by rw [lpush_f hk]; decide⟩
        obtain ⟨h1, h2⟩ := lpush_in hk
        rw [htk, if_neg q, hl]
        refine ⟨by rw [h1, List.length_cons]; omega, fun v hv => ?_⟩
        rw [h1] at hv
        rcases List.mem_cons.mp hv with e | e
        · exact Or.inl (e ▸ h2)
        · exact Or.inr (List.mem_cons_of_mem _ (List.mem_cons_of_mem _ e))
theorem lstp_len {S : hs_S} {w e : Int32} {p : List Int32} (hp : tkN (S.1 59 1 w.toNatClampNeg) ≤ p.length) : (∀ q, lstp S w e p = .inr q → q.length = p.length + 1 - tkN (S.1 59 1 w.toNatClampNeg) ∧ ∀ v ∈ q, rng v ∨ v ∈ p) ∧ ∀ k, lstp S w e p = .inl k → k ≠ 0 := by
  unfold lstp
  by_cases h8 : 8 ≤ S.1 59 1 w.toNatClampNeg
  · rw [if_pos h8]; exact lrk_len hp h8
  · rw [if_neg h8]
    have h8' : S.1 59 1 w.toNatClampNeg < 8 := by rw [i32_lt]; rw [i32_le] at h8; omega
    have htk : tkN (S.1 59 1 w.toNatClampNeg) = 0 := by unfold tkN; rw [if_pos h8']
    refine ⟨fun k hk => ?_, fun k hk => by rw [lpush_f hk]; decide⟩
    obtain ⟨h1, h2⟩ := lpush_in hk
    refine ⟨by rw [h1, htk, List.length_cons]; rfl, fun v hv => ?_⟩
    rw [h1] at hv
    rcases List.mem_cons.mp hv with q | q
    · exact Or.inl (q ▸ h2)
    · exact Or.inr q
/-- an empty cell is found at once -/
theorem MI_empty {S T T' : hs_S} {e root : Int32} {fs : List Frm} {n : Nat} (h : MI S e root fs T ∨ (fs = [] ∧ root = nI n ∧ hs_cl T = hs_cl S ∧ T.1 11 1 53 = 0 ∧ T.1 11 1 55 = 0 ∧ ∀ k, k < 24 → T.1 96 1 k = 0)) (hn : n < 24)
    (hne : ∀ f ∈ fs, f.1 ≠ nI n) (h0 : T.1 96 1 n = 0) (hsz : mSz S (nI n) e = 0)
    (hc : hs_cl T' = hs_cl T) (h5 : T'.1 11 1 53 = T.1 11 1 53 ∧ T'.1 11 1 55 = T.1 11 1 55) (h9 : T'.1 89 = T.1 89 ∧ T'.1 90 = T.1 90 ∧ T'.1 91 = T.1 91 ∧ T'.1 92 = T.1 92 ∧ T'.1 94 = T.1 94)
    (h96 : ∀ k, T'.1 96 1 k = if k = n then 1 else T.1 96 1 k) (h97 : ∀ k, T'.1 97 1 k = if k = n then 0 else T.1 97 1 k) : MI S e root fs T' ∧ mN T' fs < mN T fs := by
  have hs0 : (hs_cl T = hs_cl S ∧ T.1 11 1 53 = nI fs.length ∧ T.1 11 1 55 = nI (tot fs) ∧ Rs S e T fs) ∧ ((∀ f ∈ fs, Gd S e f) ∧ Lk S e fs ∧ (fs.map (fun f => f.1.toNatClampNeg)).Nodup ∧ (fs ≠ [] → botc fs = root)) ∧ (∀ f ∈ fs, T.1 96 1 f.1.toNatClampNeg = 0) ∧ (∀ n : Nat, n < 24 → T.1 96 1 n ≠ 0 → (∃ m, ev S e m (nI n) 0 [] = some (0, T.1 97 1 n)) ∧ rng (T.1 97 1 n)) ∧ (fs = [] → root = nI n ∨ T.1 96 1 root.toNatClampNeg ≠ 0) := by
    rcases h with ⟨m1, m2, m9, m10, m11⟩ | ⟨rfl, m1, m2, m3, m4, m5⟩
    · exact ⟨m1, m2, m9, m10, fun q => Or.inr (m11 q)⟩
    · exact ⟨⟨m2, m3, m4, True.intro⟩, ⟨fun f hf => (nomatch hf), True.intro, List.nodup_nil, fun q => absurd rfl q⟩, fun f hf => (nomatch hf), fun k hk q => absurd (m5 k hk) q, fun _ => Or.inl m1⟩
  obtain ⟨⟨m1, m2, m3, m4⟩, m5, m9, m10, m11⟩ := hs0
  refine ⟨⟨⟨hc.trans m1, h5.1.trans m2, h5.2.trans m3, Rs_fr fs (fun j _ => by rw [h9.2.2.2.2]) (fun j _ => by rw [h9.1]) (fun j _ => by rw [h9.2.1]) (fun j _ => by rw [h9.2.2.1]) (fun j _ => by rw [h9.2.2.2.1]) m4⟩, m5, fun f hf => ?_, fun k hk hk2 => ?_, fun q => ?_⟩, ?_⟩
  · obtain ⟨k, hk, hk2, hk3⟩ := Gd_cell (m5.1 f hf)
    rw [h96, if_neg (fun q => hne f hf (by rw [hk2, ← hk3, q]))]; exact m9 f hf
  · rw [h96] at hk2
    by_cases w : k = n
    · rw [h97, if_pos w, w]
      exact ⟨⟨1, ev_end hsz.symm⟩, by decide, by decide⟩
    · rw [if_neg w] at hk2
      rw [h97, if_neg w]; exact m10 k hk hk2
  · rw [h96]
    by_cases w : root.toNatClampNeg = n
    · rw [if_pos w]; decide
    · rw [if_neg w]
      rcases m11 q with z | z
      · exact absurd (by rw [z]; exact cl24 hn) w
      · exact z
  · refine sumN_lt 24 (fun k hk => ?_) hn ?_
    · by_cases w : k = n
      · rw [wt_f (by rw [h96, if_pos w]; decide)]; exact Nat.zero_le _
      · exact Nat.le_of_eq (wt_T (by rw [h96, if_neg w]))
    · rw [wt_f (by rw [h96, if_pos rfl]; decide), wt_no h0 hne]; omega
