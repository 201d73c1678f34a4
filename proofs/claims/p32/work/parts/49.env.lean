def hs_fs (t p : Nat) : Bool := t == 29 || (t == 30 || (t == 31 || (t == 34 || (t == 4 && p == 9))))
def FS (S T : hs_S) : Prop := T.2 = S.2 ∧ ∀ t i p, hs_fs t p = false → T.1 t i p = S.1 t i p
theorem FS.rf {S : hs_S} : FS S S := ⟨rfl, fun _ _ _ _ => rfl⟩
theorem FS.tr {S T U : hs_S} (h : FS S T) (k : FS T U) : FS S U := ⟨k.1.trans h.1, fun t i p q => (k.2 t i p q).trans (h.2 t i p q)⟩
theorem FS.w {S T : hs_S} (h : FS S T) {t i p : Nat} {x : Int32} (q : hs_fs t p = true) : FS S (hs_wI T t i p x) := by
  refine ⟨h.1, fun a b c z => ?_⟩
  rw [← h.2 a b c z]
  refine if_neg fun w => ?_
  rw [w.1, w.2.2, q] at z
  exact nomatch z
theorem FS.row {S T : hs_S} (h : FS S T) {t : Nat} (q : ∀ p, hs_fs t p = false) : T.1 t = S.1 t := funext fun i => funext fun p => h.2 t i p (q p)
def cStp (a33 : Nat → Nat → Int32) (w one : Int32) (p : List Int32) : Int32 ⊕ List Int32 := if 8 ≤ w then lrk w p else lpush (if w = 0 then one.toInt64 else (a33 (w.toNatClampNeg + 1) one.toNatClampNeg).toInt64) p
def cEnv0 (a5 a20 a21 a22 a23 a24 a33 : Nat → Nat → Int32) (R : Nat → Nat → Nat → Nat) : gE :=
  (fun c => (a5 (R 28 1 c.toNatClampNeg) 3).toNatClampNeg, (fun c i => a22 (R 28 1 c.toNatClampNeg) i, (fun c i => a23 (R 28 1 c.toNatClampNeg) i * 6 + a24 (R 28 1 c.toNatClampNeg) i, (fun c x => !decide (bI (a20 (R 4 1 2) x.toNatClampNeg = a20 (R 4 1 2) c.toNatClampNeg ∨ (a21 (R 4 1 2) x.toNatClampNeg >>> (a20 (R 4 1 2) c.toNatClampNeg &&& 31)) &&& 1 = 1) = 0), fun c i p => cStp a33 (a22 (R 28 1 c.toNatClampNeg) i) (a23 (R 28 1 c.toNatClampNeg) i) p))))
def cEnv (S : hs_S) : gE := cEnv0 (S.1 5) (S.1 20) (S.1 21) (S.1 22) (S.1 23) (S.1 24) (S.1 33) S.2.1
theorem FS.env {S T : hs_S} (h : FS S T) : cEnv T = cEnv S := by
  unfold cEnv
  rw [h.row (t := 5) (fun _ => rfl), h.row (t := 20) (fun _ => rfl), h.row (t := 21) (fun _ => rfl), h.row (t := 22) (fun _ => rfl), h.row (t := 23) (fun _ => rfl), h.row (t := 24) (fun _ => rfl), h.row (t := 33) (fun _ => rfl), h.1]
/-- heights of a formula -/
def chtR (w : Nat → Int32) : Nat → Nat
  | 0 => 0
  | i + 1 => chtR w i + 1 - tkN (w i)
abbrev cht (S : hs_S) (f : Nat) : Nat → Nat := chtR (S.1 22 f)
theorem cht_le {S : hs_S} {f : Nat} (i : Nat) : cht S f i ≤ i := by
  induction i with
  | zero => exact Nat.le_refl _
  | succ i ih => show cht S f i + 1 - _ ≤ i + 1; omega
theorem cht_eq {S T : hs_S} (h : T.1 22 = S.1 22) {f : Nat} (i : Nat) : cht T f i = cht S f i := by
  induction i with
  | zero => rfl
  | succ i ih => show cht T f i + 1 - tkN (T.1 22 f i) = _; rw [ih, h]; rfl
/-- a formula is as the draft lets it be -/
def fOk (S : hs_S) (f : Nat) : Prop := ∃ g : Nat, g ≤ 12 ∧ S.1 5 f 3 = nI g ∧ ∀ i, i < g → (∃ w : Nat, w < 15 ∧ S.1 22 f i = nI w) ∧ tkN (S.1 22 f i) ≤ cht S f i ∧ (S.1 22 f i = 1 → ∃ a b : Nat, a < 4 ∧ b < 6 ∧ S.1 23 f i = nI a ∧ S.1 24 f i = nI b) ∧ ((1 : Int32) ≤ S.1 22 f i → S.1 22 f i ≤ 7 → 0 ≤ (S.1 23 f i).toInt ∧ (S.1 23 f i).toInt < 4)
theorem fOk_eq {S T : hs_S} (h5 : T.1 5 = S.1 5) (h22 : T.1 22 = S.1 22) (h23 : T.1 23 = S.1 23) (h24 : T.1 24 = S.1 24) {f : Nat} (h : fOk S f) : fOk T f := by
  unfold fOk
  simp only [h5, h22, h23, h24, cht_eq h22]
  exact h
def cWF (S : hs_S) : Prop := S.2.1 4 1 2 ≠ 0 ∧ ∀ n : Nat, n < 24 → S.2.1 28 1 n ≠ 0 ∧ fOk S (S.2.1 28 1 n)
theorem FS.wf {S T : hs_S} (h : FS S T) (k : cWF S) : cWF T := by
  refine ⟨by rw [h.1]; exact k.1, fun n hn => ?_⟩
  rw [h.1]
  exact ⟨(k.2 n hn).1, fOk_eq (h.row fun _ => rfl) (h.row fun _ => rfl) (h.row fun _ => rfl) (h.row fun _ => rfl) (k.2 n hn).2⟩
/-- a stretch of the pile -/
def sg (T : hs_S) (b : Nat) : List Int32 → Prop
  | [] => True
  | v :: p => T.1 34 1 (b + p.length) = v ∧ sg T b p
theorem sg_fr {T T' : hs_S} {b : Nat} (p : List Int32) (h : ∀ j, j < b + p.length → T'.1 34 1 j = T.1 34 1 j) (s : sg T b p) : sg T' b p := by
  induction p with
  | nil => exact True.intro
  | cons v p ih =>
    refine ⟨(h _ (by simp)).trans s.1, ih (fun j hj => h j ?_) s.2⟩
    rw [List.length_cons]; omega
/-- what is known of the cells while some wait -/
def FI (S : hs_S) (fs : List Frm) : Prop := cWF S ∧ ((∀ f ∈ fs, gGd (cEnv S) f) ∧ gLk (cEnv S) fs ∧ (fs.map (fun f => f.1.toNatClampNeg)).Nodup ∧ ∀ f ∈ fs, ∃ n : Nat, n < 24 ∧ f.1 = nI n) ∧ (∀ n : Nat, n < 24 → (S.1 29 1 n = 1 ↔ ∃ f ∈ fs, f.1 = nI n)) ∧ ∀ n : Nat, n < 24 → S.1 29 1 n = 2 → ∃ v, gVal (cEnv S) (nI n) (S.1 31 1 n) v ∧ (S.1 31 1 n = 0 → S.1 30 1 n = v ∧ rng v)
theorem FI_len {S : hs_S} {fs : List Frm} (h : FI S fs) : fs.length ≤ 24 := by
  have h2 := pig 24 _ h.2.1.2.2.1 (by
    intro x hx
    obtain ⟨f, hf, rfl⟩ := List.mem_map.mp hx
    obtain ⟨n, hn, h3⟩ := h.2.1.2.2.2 f hf
    rw [h3, cl24 hn]; exact hn)
  rwa [List.length_map] at h2
/-- nothing of the cells is written -/
theorem FI_fr {S T : hs_S} {fs : List Frm} (hf : FS S T) (h29 : T.1 29 = S.1 29) (h30 : T.1 30 = S.1 30) (h31 : T.1 31 = S.1 31) (h : FI S fs) : FI T fs := by
  obtain ⟨a, b, c, d⟩ := h
  unfold FI
  rw [hf.env, h29, h30, h31]
  exact ⟨hf.wf a, b, c, d⟩
/-- the frame at the top goes on -/
theorem FI_top {S : hs_S} {c : Int32} {i i' : Nat} {p p' : List Int32} {r : List Frm} (h : FI S ((c, (i, p)) :: r)) (hg : gGd (cEnv S) (c, (i', p'))) : FI S ((c, (i', p')) :: r) := by
  obtain ⟨a, ⟨b1, b2, b3, b4⟩, d, e⟩ := h
  refine ⟨a, ⟨fun f hf => ?_, ⟨b2.1, b2.2⟩, b3, fun f hf => ?_⟩, fun n hn => (d n hn).trans ?_, e⟩
  · rcases List.mem_cons.mp hf with w | w
    · rw [w]; exact hg
    · exact b1 f (List.mem_cons_of_mem _ w)
  · rcases List.mem_cons.mp hf with w | w
    · rw [w]; exact b4 (c, (i, p)) (List.mem_cons_self ..)
    · exact b4 f (List.mem_cons_of_mem _ w)
  · constructor
    · rintro ⟨f, hf, e⟩
      rcases List.mem_cons.mp hf with w | w
      · rw [w] at e; exact ⟨_, List.mem_cons_self .., e⟩
      · exact ⟨f, List.mem_cons_of_mem _ w, e⟩
    · rintro ⟨f, hf, e⟩
      rcases List.mem_cons.mp hf with w | w
      · rw [w] at e; exact ⟨_, List.mem_cons_self .., e⟩
      · exact ⟨f, List.mem_cons_of_mem _ w, e⟩
theorem w29 {S : hs_S} {n k : Nat} {x : Int32} : (hs_wI S 29 1 n x).1 29 1 k = if k = n then x else S.1 29 1 k := by
  show (if 29 = 29 ∧ 1 = 1 ∧ k = n then x else S.1 29 1 k) = _
  by_cases w : k = n
  · rw [if_pos ⟨rfl, rfl, w⟩, if_pos w]
  · rw [if_neg fun z => w z.2.2, if_neg w]
theorem w30 {S : hs_S} {n k : Nat} {x : Int32} : (hs_wI S 30 1 n x).1 30 1 k = if k = n then x else S.1 30 1 k := by
  show (if 30 = 30 ∧ 1 = 1 ∧ k = n then x else S.1 30 1 k) = _
  by_cases w : k = n
  · rw [if_pos ⟨rfl, rfl, w⟩, if_pos w]
  · rw [if_neg fun z => w z.2.2, if_neg w]
theorem w31 {S : hs_S} {n k : Nat} {x : Int32} : (hs_wI S 31 1 n x).1 31 1 k = if k = n then x else S.1 31 1 k := by
  show (if 31 = 31 ∧ 1 = 1 ∧ k = n then x else S.1 31 1 k) = _
  by_cases w : k = n
  · rw [if_pos ⟨rfl, rfl, w⟩, if_pos w]
  · rw [if_neg fun z => w z.2.2, if_neg w]
theorem w34 {S : hs_S} {n k : Nat} {x : Int32} : (hs_wI S 34 1 n x).1 34 1 k = if k = n then x else S.1 34 1 k := by
  show (if 34 = 34 ∧ 1 = 1 ∧ k = n then x else S.1 34 1 k) = _
  by_cases w : k = n
  · rw [if_pos ⟨rfl, rfl, w⟩, if_pos w]
  · rw [if_neg fun z => w z.2.2, if_neg w]
/-- a cell is sought -/
theorem FI_push {S T : hs_S} {fs : List Frm} {n : Nat} (hf : FS S T) (h : FI S fs) (hn : n < 24) (h0 : ¬ S.1 29 1 n = 1) (ha : ∀ f r, fs = f :: r → gAsk (cEnv S) f (nI n)) (h29 : ∀ k, T.1 29 1 k = if k = n then 1 else S.1 29 1 k) (h30 : T.1 30 = S.1 30) (h31 : T.1 31 = S.1 31) : FI T ((nI n, (0, [])) :: fs) := by
  obtain ⟨a, ⟨b1, b2, b3, b4⟩, d, e⟩ := h
  have hnot : ¬ ∃ f ∈ fs, f.1 = nI n := fun z => h0 ((d n hn).mpr z)
  unfold FI
  rw [hf.env, h30, h31]
  refine ⟨hf.wf a, ⟨fun f hq => ?_, ⟨fun g r' e => ha g r' e, b2⟩, ?_, fun f hq => ?_⟩, fun k hk => ?_, fun k hk h2 => ?_⟩
  · rcases List.mem_cons.mp hq with w | w
    · rw [w]; exact gGd_0
    · exact b1 f w
  · rw [List.map_cons, List.nodup_cons]
    refine ⟨fun z => ?_, b3⟩
    obtain ⟨g, g1, g2⟩ := List.mem_map.mp z
    obtain ⟨m, hm, g3⟩ := b4 g g1
    have g4 : g.1.toNatClampNeg = (nI n).toNatClampNeg := g2
    rw [g3, cl24 hm, cl24 hn] at g4
    exact hnot ⟨g, g1, by rw [g3, g4]⟩
  · rcases List.mem_cons.mp hq with w | w
    · rw [w]; exact ⟨n, hn, rfl⟩
    · exact b4 f w
  · rw [h29]
    by_cases w : k = n
    · rw [if_pos w, w]
      exact ⟨fun _ => ⟨_, List.mem_cons_self .., rfl⟩, fun _ => rfl⟩
    · rw [if_neg w, d k hk]
      constructor
      · rintro ⟨f, hq, e⟩; exact ⟨f, List.mem_cons_of_mem _ hq, e⟩
      · rintro ⟨f, hq, e⟩
        rcases List.mem_cons.mp hq with v | v
        · rw [v] at e
          exact absurd ((hl_inj (by omega) (by omega)).mp e).symm w
        · exact ⟨f, v, e⟩
  · rw [h29] at h2
    by_cases w : k = n
    · rw [if_pos w] at h2; exact absurd h2 (by decide)
    · rw [if_neg w] at h2; exact e k hk h2
/-- a cell is found -/
theorem FI_pop {S T : hs_S} {fs : List Frm} {n : Nat} {f0 : Frm} (hf : FS S T) (h : FI S (f0 :: fs)) (hn : n < 24) (e0 : f0.1 = nI n) {r v : Int32} (hv : gVal (cEnv S) (nI n) r v) (hr : r = 0 → T.1 30 1 n = v ∧ rng v) (h29 : ∀ k, T.1 29 1 k = if k = n then 2 else S.1 29 1 k) (h30 : ∀ k, k ≠ n → T.1 30 1 k = S.1 30 1 k) (h31 : ∀ k, T.1 31 1 k = if k = n then r else S.1 31 1 k) : FI T fs := by
  obtain ⟨a, ⟨b1, b2, b3, b4⟩, d, e⟩ := h
  unfold FI
  rw [hf.env]
  have hnd : ∀ g ∈ fs, g.1 ≠ nI n := fun g hg w => by
    rw [List.map_cons, List.nodup_cons] at b3
    exact b3.1 (List.mem_map.mpr ⟨g, hg, by rw [w, e0]⟩)
  refine ⟨hf.wf a, ⟨fun f hq => b1 f (List.mem_cons_of_mem _ hq), b2.2, ?_, fun f hq => b4 f (List.mem_cons_of_mem _ hq)⟩, fun k hk => ?_, fun k hk h2 => ?_⟩
  · rw [List.map_cons, List.nodup_cons] at b3; exact b3.2
  · rw [h29]
    by_cases w : k = n
    · rw [if_pos w, w]
      exact ⟨fun z => absurd z (by decide), fun ⟨f, hq, z⟩ => absurd z (hnd f hq)⟩
    · rw [if_neg w, d k hk]
      constructor
      · rintro ⟨f, hq, e⟩
        rcases List.mem_cons.mp hq with v | v
        · rw [v, e0] at e
          exact absurd ((hl_inj (by omega) (by omega)).mp e).symm w
        · exact ⟨f, v, e⟩
      · rintro ⟨f, hq, e⟩; exact ⟨f, List.mem_cons_of_mem _ hq, e⟩
  · rw [h29] at h2
    by_cases w : k = n
    · rw [h31, if_pos w, w]
      exact ⟨v, hv, hr⟩
    · rw [if_neg w] at h2
      rw [h31, if_neg w, h30 k w]
      exact e k hk h2
/-- a word but CELL, over the pile -/
theorem rw_ok {S : hs_S} {b : Nat} {p : List Int32} {w one : Int32} (hs : sg S b p) (hb : b + p.length ≤ 288) (hp : tkN w ≤ p.length) (hw : ∃ k : Nat, k < 15 ∧ w = nI k) (h1 : w ≠ 1) (hj : b + p.length - tkN w < 289) :
    (∀ f, cStp (S.1 33) w one p = .inl f → F_Fnd_reckonWord w one (nI (b + p.length - tkN w)) S = f ∧ f ≠ 0 ∧ E_Fnd_reckonWord w one (nI (b + p.length - tkN w)) S = S) ∧
    ∀ q, cStp (S.1 33) w one p = .inr q → F_Fnd_reckonWord w one (nI (b + p.length - tkN w)) S = 0 ∧ ∃ v q', q = v :: q' ∧ rng v ∧ E_Fnd_reckonWord w one (nI (b + p.length - tkN w)) S = hs_wI S 4 1 9 v ∧ sg S b q' ∧ q'.length = p.length - tkN w ∧ ∀ x ∈ q', x ∈ p := by
  have push : ∀ (n : Int64) (r : List Int32), (∀ f, lpush n r = .inl f → rgF n = f ∧ f ≠ 0 ∧ rgE n S = S) ∧ ∀ q, lpush n r = .inr q → rgF n = 0 ∧ q = n.toInt32 :: r ∧ rng n.toInt32 ∧ rgE n S = hs_wI S 4 1 9 n.toInt32 := by
    intro n r
    constructor
    · intro f h
      have hf := lpush_f h
      unfold lpush at h
      unfold rgE rgF
      by_cases c1 : lg_cmp n (-1000000000) < 0
      · rw [if_pos c1, if_neg (by decide)]; exact ⟨hf.symm, by rw [hf]; decide, rfl⟩
      · rw [if_neg c1] at h ⊢
        by_cases c2 : lg_cmp n 1000000000 ≤ 0
        · rw [if_pos c2] at h; exact nomatch h
        · rw [if_neg c2, if_neg (by decide)]; exact ⟨hf.symm, by rw [hf]; decide, rfl⟩
    · intro q h
      obtain ⟨a1, a2⟩ := lpush_in h
      unfold lpush at h
      have hr : rgF n = 0 := by
        unfold rgF
        by_cases c1 : lg_cmp n (-1000000000) < 0
        · rw [if_pos c1] at h; exact nomatch h
        · rw [if_neg c1] at h ⊢
          by_cases c2 : lg_cmp n 1000000000 ≤ 0
          · rw [if_pos c2]
          · rw [if_neg c2] at h; exact nomatch h
      exact ⟨hr, a1, a2, if_pos hr⟩
  by_cases h8 : 8 ≤ w
  · have h8' : ¬ w < 8 := by rw [i32_lt]; rw [i32_le] at h8; omega
    have n7 : ¬ w ≤ 7 := by
      rw [i32_le] at h8 ⊢
      have a8 : (8 : Int32).toInt = 8 := rfl
      have a7 : (7 : Int32).toInt = 7 := rfl
      omega
    have n0 : w ≠ 0 := fun z => n7 (by rw [z]; decide)
    have htk : tkN w = if w = 14 then 3 else 2 := by unfold tkN; rw [if_neg h8']
    have e : ∀ r, cStp (S.1 33) w one r = lrk w r := fun r => if_pos h8
    rw [e]
    have hp2 : 2 ≤ p.length := by
      rw [htk] at hp
      by_cases q : w = 14
      · rw [if_pos q] at hp; omega
      · rw [if_neg q] at hp; omega
    match p, hp2 with
    | u :: l :: r, _ =>
      have hl : (u :: l :: r).length = r.length + 2 := rfl
      have hu : S.1 34 1 (b + (r.length + 1)) = u := hs.1
      have hl2 : S.1 34 1 (b + r.length) = l := hs.2.1
      by_cases q : w = 14
      · have hp3 : 3 ≤ (u :: l :: r).length := by rw [htk, if_pos q] at hp; exact hp
        match r, hp3 with
        | z :: r', _ =>
          have hl3 : (z :: r').length = r'.length + 1 := rfl
          have hl4 : (u :: l :: z :: r').length = r'.length + 3 := rfl
          have hz : S.1 34 1 (b + r'.length) = z := hs.2.2.1
          have ej : b + (u :: l :: z :: r').length - tkN w = b + r'.length := by rw [htk, if_pos q, hl4]; omega
          have F := FRW (a1 := w) (a2 := one) (j := b + r'.length) (S := S) (fun y => absurd (q.symm.trans y.1) (by decide)) (by omega)
          have ec : cRN w one (b + r'.length) S = if z ≤ 0 then u.toInt64 else l.toInt64 := by
            rw [q, cRN_w, hz]
            have a1 : b + r'.length + 2 = b + ((z :: r').length + 1) := by rw [hl3]; omega
            have a2 : b + r'.length + 1 = b + (z :: r').length := by rw [hl3]; omega
            rw [a1, a2, hu, hl2]
          rw [ec] at F
          rw [ej, F.1, F.2, lrk3 q]
          have P := push (if z ≤ 0 then u.toInt64 else l.toInt64) r'
          refine ⟨P.1, fun k hk => ?_⟩
          obtain ⟨p1, p2, p3, p4⟩ := P.2 k hk
          refine ⟨p1, _, r', p2, p3, p4, hs.2.2.2, ?_, fun x hx => List.mem_cons_of_mem _ (List.mem_cons_of_mem _ (List.mem_cons_of_mem _ hx))⟩
          rw [htk, if_pos q, hl4]; omega
      · have ej : b + (u :: l :: r).length - tkN w = b + r.length := by rw [htk, if_neg q, hl]; omega
        rw [ej, lrk2 q]
        by_cases v : w = 11 ∧ u = 0
        · have v' : w = 11 ∧ S.1 34 1 (b + r.length + 1) = 0 := ⟨v.1, hu.trans v.2⟩
          unfold F_Fnd_reckonWord E_Fnd_reckonWord
          rw [hl_cl (by omega), if_pos v', if_pos v', if_pos v]
          exact ⟨fun k hk => ⟨Sum.inl.inj hk, by rw [← Sum.inl.inj hk]; decide, rfl⟩, fun k hk => nomatch hk⟩
        · have v' : ¬ (w = 11 ∧ S.1 34 1 (b + r.length + 1) = 0) := fun y => v ⟨y.1, hu.symm.trans y.2⟩
          have F := FRW (a1 := w) (a2 := one) (j := b + r.length) (S := S) v' (by omega)
          have ec : cRN w one (b + r.length) S = mAr w l.toInt64 u.toInt64 := by
            rw [cRN_a n7 n0 q, hl2]
            have a1 : b + r.length + 1 = b + (r.length + 1) := by omega
            rw [a1, hu]
          rw [ec] at F
          rw [F.1, F.2, if_neg v]
          have P := push (mAr w l.toInt64 u.toInt64) r
          refine ⟨P.1, fun k hk => ?_⟩
          obtain ⟨p1, p2, p3, p4⟩ := P.2 k hk
          refine ⟨p1, _, r, p2, p3, p4, hs.2.2, ?_, fun x hx => List.mem_cons_of_mem _ (List.mem_cons_of_mem _ hx)⟩
          rw [htk, if_neg q, hl]; omega
  · have h8' : w < 8 := by rw [i32_lt]; rw [i32_le] at h8; omega
    have n11 : ∀ x : Int32, ¬ (w = 11 ∧ x = 0) := fun x z => by rw [z.1] at h8'; exact absurd h8' (by decide)
    have htk : tkN w = 0 := by unfold tkN; rw [if_pos h8']
    have ej : b + p.length - tkN w = b + p.length := by rw [htk]; omega
    have e : cStp (S.1 33) w one p = lpush (cRN w one (b + p.length) S) p := by
      unfold cStp
      rw [if_neg h8]
      congr 1
      by_cases w0 : w = 0
      · rw [if_pos w0, cRN_0 w0]
      · rw [if_neg w0, cRN_f w0 (by
          rw [i32_le]; rw [i32_lt] at h8'
          have a8 : (8 : Int32).toInt = 8 := rfl
          have a7 : (7 : Int32).toInt = 7 := rfl
          omega)]
    have F := FRW (a1 := w) (a2 := one) (j := b + p.length) (S := S) (n11 _) (by omega)
    rw [ej, e, F.1, F.2]
    have P := push (cRN w one (b + p.length) S) p
    refine ⟨P.1, fun k hk => ?_⟩
    obtain ⟨p1, p2, p3, p4⟩ := P.2 k hk
    exact ⟨p1, _, p, p2, p3, p4, hs, by rw [htk]; omega, fun x hx => hx⟩

