/-! ===== the machine's steps ===== -/
def MI (S : hs_S) (e root : Int32) (fs : List Frm) (T : hs_S) : Prop :=
  (hs_cl T = hs_cl S ∧ T.1 11 1 53 = nI fs.length ∧ T.1 11 1 55 = nI (tot fs) ∧ Rs S e T fs) ∧
  ((∀ f ∈ fs, Gd S e f) ∧ Lk S e fs ∧ (fs.map (fun f => f.1.toNatClampNeg)).Nodup ∧ (fs ≠ [] → botc fs = root)) ∧
  ((∀ f ∈ fs, T.1 96 1 f.1.toNatClampNeg = 0) ∧ (∀ n : Nat, n < 24 → T.1 96 1 n ≠ 0 → (∃ m, ev S e m (nI n) 0 [] = some (0, T.1 97 1 n)) ∧ rng (T.1 97 1 n)) ∧ (fs = [] → T.1 96 1 root.toNatClampNeg ≠ 0))
def mN (T : hs_S) (fs : List Frm) : Nat := sumN (wt T fs) 24
theorem cl24 {n : Nat} (h : n < 24) : (nI n).toNatClampNeg = n := hl_cl (by omega)
theorem Gd_cell {S : hs_S} {e : Int32} {f : Frm} (h : Gd S e f) : ∃ n : Nat, n < 24 ∧ f.1 = nI n ∧ f.1.toNatClampNeg = n := by
  obtain ⟨⟨⟨n, hn, h1⟩, _⟩, _⟩ := h
  exact ⟨n, hn, h1, by rw [h1]; exact cl24 hn⟩
theorem MI_len {S T : hs_S} {e root : Int32} {fs : List Frm} (h : MI S e root fs T) : fs.length ≤ 24 := by
  have h2 := pig 24 _ h.2.1.2.2.1 (by
    intro x hx
    obtain ⟨f, hf, rfl⟩ := List.mem_map.mp hx
    obtain ⟨n, hn, _, h3⟩ := Gd_cell (h.2.1.1 f hf)
    rw [h3]; exact hn)
  rwa [List.length_map] at h2
theorem Gd_le {S : hs_S} {e : Int32} {f : Frm} (hw : mWF S e) (h : Gd S e f) : f.2.2.length ≤ 12 ∧ f.2.1 ≤ 12 := by
  obtain ⟨⟨⟨n, hn, h1⟩, h2, h3, h4, _⟩, _⟩ := h
  have h5 := (hw n hn (by rw [← h1]; exact h2)).1
  rw [← h1] at h5
  have := ht_le (S := S) (c := f.1) (e := e) f.2.1
  omega
theorem tot_le {S : hs_S} {e : Int32} (hw : mWF S e) : ∀ fs : List Frm, (∀ f ∈ fs, Gd S e f) → tot fs ≤ 12 * fs.length := by
  intro fs
  induction fs with
  | nil => intro _; exact Nat.le_refl _
  | cons f r ih =>
    intro h
    have h1 := ih fun x hx => h x (List.mem_cons_of_mem _ hx)
    have h2 := (Gd_le hw (h f (List.mem_cons_self ..))).1
    show f.2.2.length + tot r ≤ 12 * (r.length + 1)
    omega
theorem wt_ne {T : hs_S} {f : Frm} {r : List Frm} {k : Nat} (h : f.1 ≠ nI k) : wt T (f :: r) k = wt T r k := by
  unfold wt
  rw [List.find?_cons_of_neg (by simpa using h)]
theorem wt_eq {T : hs_S} {f : Frm} {r : List Frm} {k : Nat} (h : f.1 = nI k) (h0 : T.1 96 1 k = 0) : wt T (f :: r) k = 29 - f.2.1 := by
  unfold wt
  rw [if_pos h0, List.find?_cons_of_pos (by simpa using h)]
theorem wt_T {T T' : hs_S} {fs : List Frm} {k : Nat} (h : T'.1 96 1 k = T.1 96 1 k) : wt T' fs k = wt T fs k := by
  unfold wt
  rw [h]
theorem wt_f {T : hs_S} {fs : List Frm} {k : Nat} (h : ¬ T.1 96 1 k = 0) : wt T fs k = 0 := if_neg h
theorem wt_no {T : hs_S} {fs : List Frm} {k : Nat} (h0 : T.1 96 1 k = 0) (h : ∀ f ∈ fs, f.1 ≠ nI k) : wt T fs k = 30 := by
  unfold wt
  have : fs.find? (fun f => f.1 == nI k) = none := List.find?_eq_none.mpr fun f hf => by simpa using h f hf
  rw [if_pos h0, this]
theorem nI_ne {a b : Nat} (ha : a < 24) (hb : b < 24) (h : a ≠ b) : nI a ≠ nI b := fun w => h ((hl_inj (by omega) (by omega)).mp w)
theorem nodup_ne {f : Frm} {r : List Frm} (h : ((f :: r).map (fun f => f.1.toNatClampNeg)).Nodup) : (∀ g ∈ r, g.1.toNatClampNeg ≠ f.1.toNatClampNeg) ∧ (r.map (fun f => f.1.toNatClampNeg)).Nodup := by
  rw [List.map_cons, List.nodup_cons] at h
  exact ⟨fun g hg w => h.1 (List.mem_map.mpr ⟨g, hg, w⟩), h.2⟩
/-- a cell is through -/
theorem MI_done {S T T' : hs_S} {e root : Int32} {f : Frm} {r : List Frm} (hw : mWF S e) (h : MI S e root (f :: r) T) (ha : f.2.1 = mSz S f.1 e)
    (hc : hs_cl T' = hs_cl T) (h53 : T'.1 11 1 53 = nI r.length) (h55 : T'.1 11 1 55 = nI (tot r)) (h8 : T'.1 89 = T.1 89 ∧ T'.1 90 = T.1 90 ∧ T'.1 91 = T.1 91 ∧ T'.1 92 = T.1 92 ∧ T'.1 94 = T.1 94)
    (h96 : ∀ k, T'.1 96 1 k = if k = f.1.toNatClampNeg then 1 else T.1 96 1 k) (h97 : ∀ k, T'.1 97 1 k = if k = f.1.toNatClampNeg then f.2.2.headD 0 else T.1 97 1 k) : MI S e root r T' ∧ mN T' r < mN T (f :: r) := by
  obtain ⟨⟨m1, m2, m3, m4⟩, ⟨m5, m6, m7, m8⟩, m9, m10, m11⟩ := h
  have hgf := m5 f (List.mem_cons_self ..)
  obtain ⟨n, hn, hfn, hfc⟩ := Gd_cell hgf
  obtain ⟨hne, hnd⟩ := nodup_ne m7
  have hev : ∃ m, ev S e m f.1 0 [] = some (0, f.2.2.headD 0) := hgf.2.2 1 _ (ev_end ha)
  have hrg : rng (f.2.2.headD 0) := by
    cases q : f.2.2 with
    | nil => exact ⟨by decide, by decide⟩
    | cons v p => exact hgf.1.2.2.2.2 v (by rw [q]; exact List.mem_cons_self ..)
  refine ⟨⟨⟨hc.trans m1, h53, h55, Rs_fr r (fun j _ => by rw [h8.2.2.2.2]) (fun j _ => by rw [h8.1]) (fun j _ => by rw [h8.2.1]) (fun j _ => by rw [h8.2.2.1]) (fun j _ => by rw [h8.2.2.2.1]) m4.2.2⟩, ⟨fun x hx => m5 x (List.mem_cons_of_mem _ hx), m6.2, hnd, fun q => ?_⟩, fun x hx => ?_, fun k hk hk2 => ?_, fun q => ?_⟩, ?_⟩
  · have := m8 (by simp)
    cases r with
    | nil => exact absurd rfl q
    | cons g r' => exact this
  · rw [h96, if_neg (hne x hx)]; exact m9 x (List.mem_cons_of_mem _ hx)
  · rw [h96] at hk2
    by_cases w : k = f.1.toNatClampNeg
    · have hkf : nI k = f.1 := by rw [w, hfc, hfn]
      rw [h97, if_pos w, hkf]; exact ⟨hev, hrg⟩
    · rw [if_neg w] at hk2
      rw [h97, if_neg w]; exact m10 k hk hk2
  · subst q
    have : f.1 = root := m8 (by simp)
    rw [h96, this, if_pos rfl]; decide
  · have h0 : T.1 96 1 n = 0 := by have := m9 f (List.mem_cons_self ..); rwa [hfc] at this
    have hle := (Gd_le hw hgf).2
    refine sumN_lt 24 (fun k hk => ?_) hn ?_
    · by_cases w : k = n
      · rw [wt_f (by rw [h96, if_pos (w.trans hfc.symm)]; decide)]; exact Nat.zero_le _
      · rw [wt_ne (by rw [hfn]; exact nI_ne hn hk fun q => w q.symm)]
        exact Nat.le_of_eq (wt_T (by rw [h96, if_neg (by rw [hfc]; exact w)]))
    · rw [wt_f (by rw [h96, if_pos hfc.symm]; decide), wt_eq hfn h0]; omega
/-- a word is through -/
theorem MI_next {S T T' : hs_S} {e root : Int32} {f : Frm} {r : List Frm} {p : List Int32} (hw : mWF S e) (h : MI S e root (f :: r) T) (ha : f.2.1 ≠ mSz S f.1 e)
    (hev : ∀ n q, (ev S e (n + 1) f.1 f.2.1 f.2.2 = some q → ∃ m, m ≤ n + 1 ∧ ev S e m f.1 (f.2.1 + 1) p = some q) ∧ (ev S e n f.1 (f.2.1 + 1) p = some q → ∃ m, ev S e m f.1 f.2.1 f.2.2 = some q))
    (hp : p.length = ht S f.1 e (f.2.1 + 1)) (hr : ∀ v ∈ p, rng v)
    (hc : hs_cl T' = hs_cl T) (h53 : T'.1 11 1 53 = T.1 11 1 53) (h55 : T'.1 11 1 55 = nI (tot r + p.length)) (h8 : T'.1 89 = T.1 89 ∧ T'.1 91 = T.1 91 ∧ T'.1 92 = T.1 92 ∧ T'.1 96 = T.1 96 ∧ T'.1 97 = T.1 97)
    (h90 : ∀ k, T'.1 90 1 k = if k = r.length then nI (f.2.1 + 1) else T.1 90 1 k) (h94 : ∀ k, k < tot r → T'.1 94 1 k = T.1 94 1 k) (hs : seg T' (tot r) p) : MI S e root ((f.1, (f.2.1 + 1, p)) :: r) T' ∧ mN T' ((f.1, (f.2.1 + 1, p)) :: r) < mN T (f :: r) := by
  obtain ⟨⟨m1, m2, m3, m4⟩, ⟨m5, m6, m7, m8⟩, m9, m10, m11⟩ := h
  have hgf := m5 f (List.mem_cons_self ..)
  obtain ⟨n, hn, hfn, hfc⟩ := Gd_cell hgf
  have hlt : f.2.1 < mSz S f.1 e := Nat.lt_of_le_of_ne hgf.1.2.2.1 ha
  have hgn : Gd S e (f.1, (f.2.1 + 1, p)) := by
    refine ⟨⟨hgf.1.1, hgf.1.2.1, hlt, hp, hr⟩, fun n q hq => ?_, fun n q hq => ?_⟩
    · obtain ⟨m, hm, h1⟩ := hgf.2.1 n q hq
      cases m with
      | zero => exact nomatch h1
      | succ m =>
        obtain ⟨m', hm', h2⟩ := (hev m q).1 h1
        exact ⟨m', by omega, h2⟩
    · obtain ⟨m, h1⟩ := (hev n q).2 hq
      exact hgf.2.2 m q h1
  refine ⟨⟨⟨hc.trans m1, h53.trans m2, ?_, ⟨⟨by rw [h8.1]; exact m4.1.1, ?_, by rw [h8.2.1]; exact m4.1.2.2.1, by rw [h8.2.2.1]; exact m4.1.2.2.2⟩, hs, Rs_fr r h94 (fun j _ => by rw [h8.1]) (fun j hj => by rw [h90, if_neg (by omega)]) (fun j _ => by rw [h8.2.1]) (fun j _ => by rw [h8.2.2.1]) m4.2.2⟩⟩, ⟨fun x hx => ?_, ⟨m6.1, m6.2⟩, m7, fun q => ?_⟩, fun x hx => ?_, fun k hk hk2 => ?_, fun q => nomatch q⟩, ?_⟩
  · rw [h55, Nat.add_comm]; rfl
  · rw [h90, if_pos rfl]
  · rcases List.mem_cons.mp hx with q | q
    · rw [q]; exact hgn
    · exact m5 x (List.mem_cons_of_mem _ q)
  · have := m8 (by simp)
    cases r with
    | nil => exact this
    | cons g r' => exact this
  · rw [h8.2.2.2.1]
    rcases List.mem_cons.mp hx with q | q
    · rw [q]; exact m9 f (List.mem_cons_self ..)
    · exact m9 x (List.mem_cons_of_mem _ q)
  · rw [h8.2.2.2.1] at hk2
    rw [h8.2.2.2.2]; exact m10 k hk hk2
  · have h0 : T.1 96 1 n = 0 := by have := m9 f (List.mem_cons_self ..); rwa [hfc] at this
    have hle := (Gd_le hw hgn).2
    have hle2 : f.2.1 + 1 ≤ 12 := hle
    have h96 : ∀ k, T'.1 96 1 k = T.1 96 1 k := fun k => by rw [h8.2.2.2.1]
    refine sumN_lt 24 (fun k hk => ?_) hn ?_
    · by_cases w : k = n
      · subst w
        rw [wt_eq (f := (f.1, (f.2.1 + 1, p))) hfn ((h96 k).trans h0), wt_eq hfn h0]
        show 29 - (f.2.1 + 1) ≤ 29 - f.2.1
        omega
      · have q : f.1 ≠ nI k := by rw [hfn]; exact nI_ne hn hk fun q => w q.symm
        rw [wt_ne (f := (f.1, (f.2.1 + 1, p))) q, wt_ne q]
        exact Nat.le_of_eq (wt_T (h96 k))
    · rw [wt_eq (f := (f.1, (f.2.1 + 1, p))) hfn ((h96 n).trans h0), wt_eq hfn h0]
      show 29 - (f.2.1 + 1) < 29 - f.2.1
      omega
/-- a cell is begun -/
theorem MI_start {S T T' : hs_S} {e root : Int32} {fs : List Frm} {n : Nat} (h : (MI S e root fs T ∧ fs ≠ []) ∨ (fs = [] ∧ root = nI n ∧ hs_cl T = hs_cl S ∧ T.1 11 1 53 = 0 ∧ T.1 11 1 55 = 0 ∧ ∀ k, k < 24 → T.1 96 1 k = 0)) (hn : n < 24)
    (hne : ∀ f ∈ fs, f.1 ≠ nI n) (h0 : T.1 96 1 n = 0) (hsz : 0 < mSz S (nI n) e) (hk : ∀ f r, fs = f :: r → Ask S e f (nI n))
    (hc : hs_cl T' = hs_cl T) (h53 : T'.1 11 1 53 = nI (fs.length + 1)) (h55 : T'.1 11 1 55 = nI (tot fs)) (h9 : T'.1 94 = T.1 94 ∧ T'.1 96 = T.1 96 ∧ T'.1 97 = T.1 97)
    (h89 : ∀ k, T'.1 89 1 k = if k = fs.length then nI n else T.1 89 1 k) (h90 : ∀ k, T'.1 90 1 k = if k = fs.length then 0 else T.1 90 1 k) (h91 : ∀ k, T'.1 91 1 k = if k = fs.length then nI (tot fs) else T.1 91 1 k) (h92 : ∀ k, T'.1 92 1 k = if k = fs.length then F_editAt (nI n) e S else T.1 92 1 k) : MI S e root ((nI n, (0, [])) :: fs) T' ∧ mN T' ((nI n, (0, [])) :: fs) < mN T fs := by
  have hgn : Gd S e (nI n, (0, [])) := ⟨⟨⟨n, hn, rfl⟩, hsz, Nat.zero_le _, rfl, fun v hv => nomatch hv⟩, fun m q hq => ⟨m, Nat.le_refl _, hq⟩, fun m q hq => ⟨m, hq⟩⟩
  have hs0 : (hs_cl T = hs_cl S ∧ Rs S e T fs) ∧ ((∀ f ∈ fs, Gd S e f) ∧ Lk S e fs ∧ (fs.map (fun f => f.1.toNatClampNeg)).Nodup ∧ botc ((nI n, (0, [])) :: fs) = root) ∧ (∀ f ∈ fs, T.1 96 1 f.1.toNatClampNeg = 0) ∧ (∀ n : Nat, n < 24 → T.1 96 1 n ≠ 0 → (∃ m, ev S e m (nI n) 0 [] = some (0, T.1 97 1 n)) ∧ rng (T.1 97 1 n)) := by
    rcases h with ⟨⟨⟨m1, m2, m3, m4⟩, ⟨m5, m6, m7, m8⟩, m9, m10, m11⟩, hfs⟩ | ⟨rfl, m1, m2, m3, m4, m5⟩
    · refine ⟨⟨m1, m4⟩, ⟨m5, m6, m7, ?_⟩, m9, m10⟩
      cases fs with
      | nil => exact absurd rfl hfs
      | cons g r => exact m8 (by simp)
    · exact ⟨⟨m2, True.intro⟩, ⟨fun f hf => (nomatch hf), True.intro, List.nodup_nil, m1.symm⟩, fun f hf => (nomatch hf), fun k hk q => absurd (m5 k hk) q⟩
  obtain ⟨⟨m1, m4⟩, ⟨m5, m6, m7, m8⟩, m9, m10⟩ := hs0
  refine ⟨⟨⟨hc.trans m1, h53, ?_, ⟨⟨?_, ?_, ?_, ?_⟩, True.intro, Rs_fr fs (fun j _ => by rw [h9.1]) (fun j hj => by rw [h89, if_neg (by omega)]) (fun j hj => by rw [h90, if_neg (by omega)]) (fun j hj => by rw [h91, if_neg (by omega)]) (fun j hj => by rw [h92, if_neg (by omega)]) m4⟩⟩, ⟨fun x hx => ?_, ⟨fun g r' hq => hk g r' hq, m6⟩, ?_, fun _ => m8⟩, fun x hx => ?_, fun k hk hk2 => ?_, fun q => nomatch q⟩, ?_⟩
  · rw [h55]; show _ = nI (0 + tot fs); rw [Nat.zero_add]
  · rw [h89, if_pos rfl]
  · rw [h90, if_pos rfl]; rfl
  · rw [h91, if_pos rfl]
  · rw [h92, if_pos rfl]
  · rcases List.mem_cons.mp hx with q | q
    · rw [q]; exact hgn
    · exact m5 x q
  · rw [List.map_cons, List.nodup_cons]
    refine ⟨fun q => ?_, m7⟩
    obtain ⟨g, hg, hq⟩ := List.mem_map.mp q
    obtain ⟨k, hk1, hk2, hk3⟩ := Gd_cell (m5 g hg)
    have hq2 : g.1.toNatClampNeg = (nI n).toNatClampNeg := hq
    rw [hk3, cl24 hn] at hq2
    exact hne g hg (by rw [hk2, hq2])
  · rw [h9.2.1]
    rcases List.mem_cons.mp hx with q | q
    · rw [q]; show T.1 96 1 (nI n).toNatClampNeg = 0; rw [cl24 hn]; exact h0
    · exact m9 x q
  · rw [h9.2.1] at hk2
    rw [h9.2.2]; exact m10 k hk hk2
  · have h96 : ∀ k, T'.1 96 1 k = T.1 96 1 k := fun k => by rw [h9.2.1]
    refine sumN_lt 24 (fun k hk => ?_) hn ?_
    · by_cases w : k = n
      · subst w
        rw [wt_eq rfl ((h96 k).trans h0), wt_no h0 hne]
        show 29 - 0 ≤ 30
        omega
      · rw [wt_ne (by show nI n ≠ nI k; exact nI_ne hn hk fun q => w q.symm)]
        exact Nat.le_of_eq (wt_T (h96 k))
    · rw [wt_eq rfl ((h96 n).trans h0), wt_no h0 hne]
      show 29 - 0 < 30
      omega
