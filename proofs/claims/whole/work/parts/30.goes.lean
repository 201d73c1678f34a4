/-! ===== the machine goes on ===== -/
def mWE (S : hs_S) (e : Int32) : Prop := ∀ n : Nat, n < 24 → F_editAt (nI n) e S = -1 ∨ ∃ k : Nat, k < 60 ∧ F_editAt (nI n) e S = nI k ∧ cN (S.1 57 1 k) 12
theorem mSz_e {S : hs_S} {e : Int32} {n : Nat} (hn : n < 24) (hE : mWE S e) : F_isEmptyAt (nI n) e S = 0 ↔ 0 < mSz S (nI n) e := by
  unfold F_isEmptyAt mSz
  rw [bI_eq0]
  rcases hE n hn with h | ⟨k, hk, h, ⟨g, hg, eg⟩⟩
  · rw [if_pos h]
    exact ⟨fun q => absurd (Or.inl h) q, fun q => absurd q (by omega)⟩
  · have h1 : ¬ F_editAt (nI n) e S = -1 := by
      rw [h]
      intro q
      have a : (nI k).toInt = (-1 : Int32).toInt := congrArg Int32.toInt q
      have b : (nI k).toInt = (k : Int) := nI_toInt (by omega)
      have c : (-1 : Int32).toInt = -1 := rfl
      omega
    rw [if_neg h1, h, hl_cl (by omega), eg, hl_cl (by omega)]
    refine ⟨fun q => Nat.pos_of_ne_zero fun z => q (Or.inr (by rw [z]; rfl)), fun q z => ?_⟩
    rcases z with z | z
    · rw [h] at h1; exact h1 z
    · have := (hl_inj (a := g) (b := 0) (by omega) (by omega)).mp z
      omega
def MI0 (S : hs_S) (e root : Int32) (fs : List Frm) (n : Nat) (T : hs_S) : Prop := fs = [] ∧ root = nI n ∧ hs_cl T = hs_cl S ∧ T.1 11 1 53 = 0 ∧ T.1 11 1 55 = 0 ∧ ∀ k, k < 24 → T.1 96 1 k = 0
theorem starts_ok {S T : hs_S} {e root : Int32} {fs : List Frm} {n : Nat} (hE : mWE S e) (h : (MI S e root fs T ∧ fs ≠ []) ∨ MI0 S e root fs n T) (hn : n < 24)
    (hne : ∀ f ∈ fs, f.1 ≠ nI n) (h0 : T.1 96 1 n = 0) (hk : ∀ f r, fs = f :: r → Ask S e f (nI n)) : (E_starts (nI n) e T).1 11 1 58 = T.1 11 1 58 ∧ ∃ fs', MI S e root fs' (E_starts (nI n) e T) ∧ mN (E_starts (nI n) e T) fs' < mN T fs := by
  have hb : hs_cl T = hs_cl S ∧ T.1 11 1 53 = nI fs.length ∧ T.1 11 1 55 = nI (tot fs) ∧ fs.length ≤ 24 := by
    rcases h with ⟨h, _⟩ | ⟨rfl, _, h2, h3, h4, _⟩
    · exact ⟨h.1.1, h.1.2.1, h.1.2.2.1, MI_len h⟩
    · exact ⟨h2, h3, h4, Nat.zero_le _⟩
  obtain ⟨b1, b2, b3, b4⟩ := hb
  have hi : (T.1 11 1 53).toNatClampNeg = fs.length := by rw [b2]; exact hl_cl (by omega)
  unfold E_starts
  rw [fr_isEmptyAt b1, fr_editAt b1, hi]
  by_cases q : F_isEmptyAt (nI n) e S = 0
  · rw [if_pos q]
    refine ⟨rfl, (nI n, (0, [])) :: fs, MI_start h hn hne h0 ((mSz_e hn hE).mp q) hk ?_ ?_ b3 ⟨rfl, rfl, rfl⟩ (fun k => ?_) (fun k => ?_) (fun k => ?_) (fun k => ?_)⟩
    · rw [hs_cl_I rfl, hs_cl_I rfl, hs_cl_I rfl, hs_cl_I rfl, hs_cl_I rfl]
    · show T.1 11 1 53 + 1 = _
      rw [b2]; exact nI_1 _
    · show (if 89 = 89 ∧ 1 = 1 ∧ k = fs.length then nI n else T.1 89 1 k) = _
      by_cases w : k = fs.length
      · rw [if_pos ⟨rfl, rfl, w⟩, if_pos w]
      · rw [if_neg fun z => w z.2.2, if_neg w]
    · show (if 90 = 90 ∧ 1 = 1 ∧ k = fs.length then 0 else T.1 90 1 k) = _
      by_cases w : k = fs.length
      · rw [if_pos ⟨rfl, rfl, w⟩, if_pos w]
      · rw [if_neg fun z => w z.2.2, if_neg w]
    · show (if 91 = 91 ∧ 1 = 1 ∧ k = fs.length then T.1 11 1 55 else T.1 91 1 k) = _
      by_cases w : k = fs.length
      · rw [if_pos ⟨rfl, rfl, w⟩, if_pos w, b3]
      · rw [if_neg fun z => w z.2.2, if_neg w]
    · show (if 92 = 92 ∧ 1 = 1 ∧ k = fs.length then F_editAt (nI n) e S else T.1 92 1 k) = _
      by_cases w : k = fs.length
      · rw [if_pos ⟨rfl, rfl, w⟩, if_pos w]
      · rw [if_neg fun z => w z.2.2, if_neg w]
  · rw [if_neg q, cl24 hn]
    have hz : mSz S (nI n) e = 0 := by
      have := mt (mSz_e hn hE).mpr q
      omega
    have h' : MI S e root fs T ∨ MI0 S e root fs n T := by
      rcases h with ⟨h, _⟩ | h
      · exact Or.inl h
      · exact Or.inr h
    refine ⟨rfl, fs, MI_empty h' hn hne h0 hz ?_ ⟨rfl, rfl⟩ ⟨rfl, rfl, rfl, rfl, rfl⟩ (fun k => ?_) (fun k => ?_)⟩
    · rw [hs_cl_I rfl, hs_cl_I rfl]
    · show (if 96 = 96 ∧ 1 = 1 ∧ k = n then 1 else T.1 96 1 k) = _
      by_cases w : k = n
      · rw [if_pos ⟨rfl, rfl, w⟩, if_pos w]
      · rw [if_neg fun z => w z.2.2, if_neg w]
    · show (if 97 = 97 ∧ 1 = 1 ∧ k = n then 0 else T.1 97 1 k) = _
      by_cases w : k = n
      · rw [if_pos ⟨rfl, rfl, w⟩, if_pos w]
      · rw [if_neg fun z => w z.2.2, if_neg w]
/-- a word put on the pile ends with the place gone on -/
theorem next_ok {S T T0 : hs_S} {e root : Int32} {f : Frm} {r : List Frm} {p : List Int32} (hw : mWF S e) (h : MI S e root (f :: r) T) (ha : f.2.1 ≠ mSz S f.1 e)
    (hev : ∀ n q, (ev S e (n + 1) f.1 f.2.1 f.2.2 = some q → ∃ m, m ≤ n + 1 ∧ ev S e m f.1 (f.2.1 + 1) p = some q) ∧ (ev S e n f.1 (f.2.1 + 1) p = some q → ∃ m, ev S e m f.1 f.2.1 f.2.2 = some q))
    (hp : p.length = ht S f.1 e (f.2.1 + 1)) (hr : ∀ v ∈ p, rng v) (hu : Pu T T0 (tot r) p) (hr24 : r.length < 25) : MI S e root ((f.1, (f.2.1 + 1, p)) :: r) (mInc (nI r.length) T0) ∧ mN (mInc (nI r.length) T0) ((f.1, (f.2.1 + 1, p)) :: r) < mN T (f :: r) := by
  have hd : (nI r.length).toNatClampNeg = r.length := hl_cl (by omega)
  have h90 := h.1.2.2.2.1.2.1
  obtain ⟨⟨u1, u2, u3, u4⟩, ⟨u5, u6, u7, u8, u9, u10⟩, u11, u12⟩ := hu
  show MI S e root _ (hs_wI T0 90 1 (nI r.length).toNatClampNeg (T0.1 90 1 (nI r.length).toNatClampNeg + 1)) ∧ mN (hs_wI T0 90 1 (nI r.length).toNatClampNeg (T0.1 90 1 (nI r.length).toNatClampNeg + 1)) _ < _
  rw [hd]
  refine MI_next hw h ha hev hp hr ((hs_cl_I rfl).trans u1) u2 u4 ⟨u5, u7, u8, u9, u10⟩ (fun k => ?_) u11 (seg_fr (T := T0) p (fun _ _ => rfl) u12)
  show (if 90 = 90 ∧ 1 = 1 ∧ k = r.length then T0.1 90 1 r.length + 1 else T0.1 90 1 k) = _
  by_cases w : k = r.length
  · rw [if_pos ⟨rfl, rfl, w⟩, if_pos w, u6, h90]; exact nI_1 _
  · rw [if_neg fun z => w z.2.2, if_neg w, u6]
set_option maxHeartbeats 2000000 in
theorem goes_ok {S T : hs_S} {e root : Int32} {f : Frm} {r : List Frm} (hw : mWF S e) (hE : mWE S e) (h : MI S e root (f :: r) T) (h58 : T.1 11 1 58 = 0) (ha : f.2.1 ≠ mSz S f.1 e) :
    ((E_goes (nI r.length) (mWi S f.1 e f.2.1) e T).1 11 1 58 = 0 ∧ ∃ fs', MI S e root fs' (E_goes (nI r.length) (mWi S f.1 e f.2.1) e T) ∧ mN (E_goes (nI r.length) (mWi S f.1 e f.2.1) e T) fs' < mN T (f :: r)) ∨
    ((E_goes (nI r.length) (mWi S f.1 e f.2.1) e T).1 11 1 58 ≠ 0 ∧ hs_cl (E_goes (nI r.length) (mWi S f.1 e f.2.1) e T) = hs_cl S ∧ mVal S e root ((E_goes (nI r.length) (mWi S f.1 e f.2.1) e T).1 11 1 58) 0) := by
  have hT := h.1.1
  have hg := h.2.1.1 f (List.mem_cons_self ..)
  have hlen := MI_len h
  have hlen2 : (f :: r).length = r.length + 1 := rfl
  obtain ⟨n, hn, hfn, hfc⟩ := Gd_cell hg
  have hsz : 0 < mSz S (nI n) e := hfn ▸ hg.1.2.1
  have hlt : f.2.1 < mSz S (nI n) e := by rw [← hfn]; exact Nat.lt_of_le_of_ne hg.1.2.2.1 ha
  obtain ⟨w1, _, _, w4⟩ := hw n hn hsz
  obtain ⟨w5, w6⟩ := w4 f.2.1 hlt
  rw [← hfn] at w5 w6
  have h59 : ∀ x, T.1 59 1 x = S.1 59 1 x := fun x => hs_clI hT rfl
  have hd : (nI r.length).toNatClampNeg = r.length := hl_cl (by omega)
  have h89 : T.1 89 1 r.length = f.1 := h.1.2.2.2.1.1
  have htop : T.1 11 1 55 = nI (tot r + f.2.2.length) := by rw [h.1.2.2.1]; show nI (f.2.2.length + tot r) = _; rw [Nat.add_comm]
  have htot : tot r + f.2.2.length ≤ 319 := by
    have := tot_le hw (f :: r) h.2.1.1
    have h2 : tot (f :: r) = f.2.2.length + tot r := rfl
    omega
  have hseg : seg T (tot r) f.2.2 := h.1.2.2.2.2.1
  have hgc : mGc (mWi S f.1 e f.2.1) T = mGc (mWi S f.1 e f.2.1) S := by
    show 6 * T.1 59 1 _ + T.1 59 1 _ = _
    rw [h59, h59]
  have hgn : mGn (mWi S f.1 e f.2.1) e T = mGn (mWi S f.1 e f.2.1) e S := by
    rw [← cl_mGn, hT, cl_mGn]
  have hbot : botc (f :: r) = root := h.2.1.2.2.2 (by simp)
  have hflt : ∀ k : Int32, k ≠ 0 → (∃ m, ev S e m f.1 f.2.1 f.2.2 = some (k, 0)) → mVal S e root k 0 := fun k hk hm => by
    obtain ⟨m, hm⟩ := hm
    have h1 := bot_fault hk (f :: r) h.2.1.1 h.2.1.2.1 f r rfl (hg.2.2 m _ hm)
    rw [hbot] at h1
    exact Or.inl h1
  unfold E_goes
  rw [hd, h89, hgc, hgn, h59]
  by_cases hwh : mWh S f.1 e f.2.1 = 1
  · rw [if_pos hwh, fr_ownerAt hT, fr_readsAt hT]
    by_cases hr : F_readsAt (F_ownerAt f.1 e S) (mGc (mWi S f.1 e f.2.1) S) e S = 0
    · rw [if_pos hr]
      refine Or.inr ⟨?_, (hs_cl_I rfl).trans hT, hflt 1 (by decide) ⟨1, ev_hid ha hwh hr⟩⟩
      show (1 : Int32) ≠ 0
      decide
    · rw [if_neg hr]
      obtain ⟨m, hm, hcm⟩ := w6 hwh
      have hask : Ask S e f (nI m) := ⟨ha, hwh, hr, hcm⟩
      have hdep : (T.1 11 1 53).toNatClampNeg = (f :: r).length := by rw [h.1.2.1]; exact hl_cl (by omega)
      have hfin : F_isFinding (nI m) T = 0 ↔ ∀ j, j < (f :: r).length → T.1 89 1 j ≠ nI m := by
        unfold F_isFinding
        rw [hdep]; exact mFin_iff _
      rw [hcm, cl24 hm]
      by_cases hfi : F_isFinding (nI m) T = 0
      · rw [if_pos hfi]
        have hnp : ∀ g ∈ f :: r, g.1 ≠ nI m := fun g hg1 q => by
          obtain ⟨j, hj, hj2⟩ := Rs_cells (f :: r) h.1.2.2.2 g hg1
          exact hfin.mp hfi j hj (hj2.trans q)
        by_cases hf : T.1 96 1 m = 0
        · rw [if_pos hf]
          obtain ⟨s1, s2⟩ := starts_ok hE (Or.inl ⟨h, by simp⟩) hm hnp hf (fun g r' q => by injection q with q1 q2; rw [← q1]; exact hask)
          exact Or.inl ⟨s1.trans h58, s2⟩
        · rw [if_neg hf]
          obtain ⟨⟨m0, hm0⟩, hrg⟩ := h.2.2.2.1 m hm hf
          have hu := (puts_ok (T.1 97 1 m).toInt64 htop htot hseg).1 _ (lpush_of hrg)
          have hn2 := next_ok hw h ha (p := T.1 97 1 m :: f.2.2) (fun k q => ⟨fun hk => ?_, fun hk => ?_⟩) ?_ ?_ hu (by omega)
          · refine Or.inl ⟨?_, _, hn2⟩
            exact hu.1.2.2.1.trans h58
          · rw [ev_ask ha hwh hr, hcm] at hk
            cases z : ev S e k (nI m) 0 [] with
            | none => rw [z] at hk; exact nomatch hk
            | some q' =>
              rw [z] at hk
              have z2 := ev_fun z hm0
              subst z2
              exact ⟨k, by omega, by simpa using hk⟩
          · refine ⟨max k m0 + 1, ?_⟩
            rw [ev_ask ha hwh hr, hcm, ev_mono (Nat.le_max_right k m0) hm0]
            show (if (0 : Int32) = 0 then _ else _) = _
            rw [if_pos rfl]
            exact ev_mono (Nat.le_max_left k m0) hk
          · show f.2.2.length + 1 = ht S f.1 e f.2.1 + 1 - tkN (mWh S f.1 e f.2.1)
            rw [hwh, hg.1.2.2.2.1]; rfl
          · intro v hv
            rcases List.mem_cons.mp hv with q | q
            · rw [q]; exact hrg
            · exact hg.1.2.2.2.2 v q
      · rw [if_neg hfi]
        refine Or.inr ⟨?_, (hs_cl_I rfl).trans hT, Or.inr ⟨rfl, rfl, ?_⟩⟩
        · show (2 : Int32) ≠ 0
          decide
        · have hex : ∃ g ∈ f :: r, g.1 = nI m := by
            have := mt hfin.mpr hfi
            obtain ⟨j, hj⟩ := Classical.not_forall.mp this
            obtain ⟨hj1, hj2⟩ := Classical.not_imp.mp hj
            obtain ⟨g, hg1, hg2⟩ := Rs_cells2 (f :: r) h.1.2.2.2 j hj1
            exact ⟨g, hg1, hg2.symm.trans (Classical.not_not.mp hj2)⟩
          obtain ⟨g, hg1, hg2⟩ := hex
          have hall : ∀ x ∈ f :: r, ∃ y ∈ f :: r, Ask S e x y.1 := fun x hx => by
            rcases List.mem_cons.mp hx with q | q
            · exact ⟨g, hg1, by rw [q, hg2]; exact hask⟩
            · exact Lk_ask (f :: r) h.2.1.2.1 x q
          obtain ⟨y, hy, hy2⟩ := botc_mem (f :: r) (by simp)
          intro k
          have := circ h.2.1.1 hall k y hy
          rwa [hy2, hbot] at this
  · rw [if_neg hwh]
    have hp : tkN (S.1 59 1 (mWi S f.1 e f.2.1).toNatClampNeg) ≤ f.2.2.length := by rw [hg.1.2.2.2.1]; exact w5
    obtain ⟨l1, l2⟩ := lstp_len (e := e) hp
    have hst : (∀ q, lstp S (mWi S f.1 e f.2.1) e f.2.2 = .inr q → Pu T (if 8 ≤ S.1 59 1 (mWi S f.1 e f.2.1).toNatClampNeg then E_reckons (S.1 59 1 (mWi S f.1 e f.2.1).toNatClampNeg) T else E_puts (mGn (mWi S f.1 e f.2.1) e S) T) (tot r) q) ∧ ∀ k, lstp S (mWi S f.1 e f.2.1) e f.2.2 = .inl k → (if 8 ≤ S.1 59 1 (mWi S f.1 e f.2.1).toNatClampNeg then E_reckons (S.1 59 1 (mWi S f.1 e f.2.1).toNatClampNeg) T else E_puts (mGn (mWi S f.1 e f.2.1) e S) T).1 11 1 58 = k ∧ hs_cl (if 8 ≤ S.1 59 1 (mWi S f.1 e f.2.1).toNatClampNeg then E_reckons (S.1 59 1 (mWi S f.1 e f.2.1).toNatClampNeg) T else E_puts (mGn (mWi S f.1 e f.2.1) e S) T) = hs_cl T := by
      unfold lstp
      by_cases h8 : 8 ≤ S.1 59 1 (mWi S f.1 e f.2.1).toNatClampNeg
      · rw [if_pos h8, if_pos h8]; exact reck_ok htop htot hseg h8 hp
      · rw [if_neg h8, if_neg h8]; exact puts_ok _ htop htot hseg
    cases z : lstp S (mWi S f.1 e f.2.1) e f.2.2 with
    | inl k =>
      obtain ⟨z1, z2⟩ := hst.2 k z
      have hk0 := l2 k z
      refine Or.inr ⟨?_, (hs_cl_I rfl).trans (z2.trans hT), ?_⟩
      · exact fun q => hk0 (z1.symm.trans q)
      · have z1' : (mInc (nI r.length) (if 8 ≤ S.1 59 1 (mWi S f.1 e f.2.1).toNatClampNeg then E_reckons (S.1 59 1 (mWi S f.1 e f.2.1).toNatClampNeg) T else E_puts (mGn (mWi S f.1 e f.2.1) e S) T)).1 11 1 58 = k := z1
        rw [z1']
        refine hflt k hk0 ⟨1, ?_⟩
        rw [ev_word ha hwh, z]
    | inr p =>
      have hu := hst.1 p z
      obtain ⟨z1, z2⟩ := l1 p z
      have hn2 := next_ok hw h ha (p := p) (fun k q => ⟨fun hk => ?_, fun hk => ?_⟩) ?_ ?_ hu (by omega)
      · exact Or.inl ⟨hu.1.2.2.1.trans h58, _, hn2⟩
      · rw [ev_word ha hwh, z] at hk
        exact ⟨k, by omega, hk⟩
      · refine ⟨k + 1, ?_⟩
        rw [ev_word ha hwh, z]; exact hk
      · rw [z1, hg.1.2.2.2.1]; rfl
      · intro v hv
        rcases z2 v hv with q | q
        · exact q
        · exact hg.1.2.2.2.2 v q
