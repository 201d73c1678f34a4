/-! ===== the reference's reckoning does not look at the clock ===== -/
abbrev hs_c0 (v : Int32) (S : hs_S) : hs_S := hs_wI S 11 1 0 v
section
variable {v : Int32} {S : hs_S} {c e o : Int32}
theorem c0_ed : F_editAt c e (hs_c0 v S) = F_editAt c e S := by rw [ed_r, ed_r]; rfl
theorem c0_own : F_ownerAt c e (hs_c0 v S) = F_ownerAt c e S := by rw [own_r, own_r]; rfl
theorem c0_read : F_readsAt o c e (hs_c0 v S) = F_readsAt o c e S := by rw [read_r, read_r]; rfl
theorem c0_last : F_lastAt c e (hs_c0 v S) = F_lastAt c e S := by rw [last_r, last_r]; rfl
theorem c0_mBA (k : Nat) : mBA (hs_c0 v S) c e k = mBA S c e k := by
  induction k with
  | zero => rfl
  | succ k ih => unfold mBA; rw [ih]; rfl
theorem c0_sz : mSz (hs_c0 v S) c e = mSz S c e := by unfold mSz; rw [c0_ed]; rfl
theorem c0_wi {i : Nat} : mWi (hs_c0 v S) c e i = mWi S c e i := by unfold mWi; rw [c0_ed]
theorem c0_wh {i : Nat} : mWh (hs_c0 v S) c e i = mWh S c e i := by unfold mWh; rw [c0_wi]; rfl
theorem c0_gn {w : Int32} : mGn w e (hs_c0 v S) = mGn w e S := by
  unfold mGn
  rw [c0_last]
  unfold F_bidsAt
  rw [c0_mBA]
  rfl
theorem c0_lstp {w : Int32} {p : List Int32} : lstp (hs_c0 v S) w e p = lstp S w e p := by
  unfold lstp
  rw [c0_gn]
  rfl
theorem c0_rd {x : Int32} : (!decide (F_readsAt (F_ownerAt c e (hs_c0 v S)) x e (hs_c0 v S) = 0)) = (!decide (F_readsAt (F_ownerAt c e S) x e S = 0)) := by rw [c0_own, c0_read]
theorem c0_mgc {i : Nat} : mGc (mWi (hs_c0 v S) c e i) (hs_c0 v S) = mGc (mWi S c e i) S := by rw [c0_wi]; rfl
theorem c0_mE : mE (hs_c0 v S) e = mE S e := by
  unfold mE
  have h1 : (fun c => mSz (hs_c0 v S) c e) = fun c => mSz S c e := funext fun c => c0_sz
  have h2 : (fun c i => mWh (hs_c0 v S) c e i) = fun c i => mWh S c e i := funext fun c => funext fun i => c0_wh
  have h3 : (fun c i => mGc (mWi (hs_c0 v S) c e i) (hs_c0 v S)) = fun c i => mGc (mWi S c e i) S := funext fun c => funext fun i => c0_mgc
  have h4 : (fun c x => !decide (F_readsAt (F_ownerAt c e (hs_c0 v S)) x e (hs_c0 v S) = 0)) = fun c x => !decide (F_readsAt (F_ownerAt c e S) x e S = 0) := funext fun c => funext fun x => c0_rd
  have h5 : (fun c i p => lstp (hs_c0 v S) (mWi (hs_c0 v S) c e i) e p) = fun c i p => lstp S (mWi S c e i) e p := funext fun c => funext fun i => funext fun p => by rw [c0_wi, c0_lstp]
  exact congr (congrArg Prod.mk h1) (congr (congrArg Prod.mk h2) (congr (congrArg Prod.mk h3) (congr (congrArg Prod.mk h4) h5)))
theorem c0_mVal {f x : Int32} : mVal (hs_c0 v S) e c f x ↔ mVal S e c f x := by rw [mVal_g, mVal_g, c0_mE]
theorem c0_empty : F_isEmptyAt c e (hs_c0 v S) = F_isEmptyAt c e S := by unfold F_isEmptyAt; rw [c0_ed]; rfl
theorem c0_mSum {r w : Int32} (k : Nat) : mSum (hs_c0 v S) r w k = mSum S r w k := by
  induction k with
  | zero => rfl
  | succ k ih => unfold mSum; rw [ih]; rfl
theorem c0_ht (i : Nat) : ht (hs_c0 v S) c e i = ht S c e i := by
  induction i with
  | zero => rfl
  | succ i ih => unfold ht; rw [ih, c0_wh]
theorem c0_mOk (h : mOk e (hs_c0 v S)) : mOk e S := by
  obtain ⟨h1, h2, h3⟩ := h
  refine ⟨fun n hn hs => ?_, fun n hn => ?_, h3⟩
  · obtain ⟨a, b, d, f⟩ := h1 n hn (by rw [c0_sz]; exact hs)
    rw [c0_sz] at a d f
    rw [c0_ed] at b
    rw [c0_ht] at d
    refine ⟨a, b, d, fun i hi => ?_⟩
    obtain ⟨f1, f2⟩ := f i hi
    rw [c0_wh, c0_ht] at f1
    rw [c0_wh] at f2
    refine ⟨f1, fun z => ?_⟩
    obtain ⟨m, hm, em⟩ := f2 z
    rw [c0_wi] at em
    exact ⟨m, hm, em⟩
  · have := h2 n hn
    rw [c0_ed] at this
    exact this
theorem c0_P {r : Int32} (h : P_clears r (hs_c0 v S)) : P_clears r S := ⟨h.1, h.2.1, c0_mOk h.2.2.1, h.2.2.2⟩
end
theorem c0_sw {S : hs_S} {v x : Int32} {t p : Nat} (ht : t ≠ 11) : hs_wI (hs_c0 v S) t 1 p x = hs_c0 v (hs_wI S t 1 p x) := by
  refine Prod.ext (funext fun a => funext fun b => funext fun d => ?_) rfl
  show (if a = t ∧ b = 1 ∧ d = p then x else if a = 11 ∧ b = 1 ∧ d = 0 then v else S.1 a b d) = if a = 11 ∧ b = 1 ∧ d = 0 then v else if a = t ∧ b = 1 ∧ d = p then x else S.1 a b d
  by_cases q : a = t ∧ b = 1 ∧ d = p
  · rw [if_pos q, if_neg (by omega), if_pos q]
  · rw [if_neg q, if_neg q]
theorem c0_gt {S : hs_S} {v : Int32} {q : Nat → Int32} : hs_got (hs_c0 v S) q = hs_c0 v (hs_got S q) := by
  refine Prod.ext (funext fun a => funext fun b => funext fun d => ?_) rfl
  show (if a = 74 ∧ b = 1 then q d else if a = 11 ∧ b = 1 ∧ d = 0 then v else S.1 a b d) = if a = 11 ∧ b = 1 ∧ d = 0 then v else if a = 74 ∧ b = 1 then q d else S.1 a b d
  by_cases z : a = 74 ∧ b = 1
  · rw [if_pos z, if_neg (by omega), if_pos z]
  · rw [if_neg z, if_neg z]
theorem c0_cl {S T : hs_S} {v : Int32} (h : hs_cl T = hs_cl S) : hs_cl (hs_c0 v T) = hs_cl (hs_c0 v S) := by
  refine Prod.ext (funext fun t => funext fun i => funext fun p => ?_) (show (hs_cl T).2 = (hs_cl S).2 by rw [h])
  show (if hs_scr t p = true then 0 else (if t = 11 ∧ i = 1 ∧ p = 0 then v else T.1 t i p)) = if hs_scr t p = true then 0 else (if t = 11 ∧ i = 1 ∧ p = 0 then v else S.1 t i p)
  by_cases q : hs_scr t p = true
  · rw [if_pos q, if_pos q]
  · rw [if_neg q, if_neg q, cl_pt h (by cases z : hs_scr t p with | true => exact absurd z q | false => rfl)]
theorem c0_clears {r v : Int32} {V T : hs_S} (h : R_clears r V T) : R_clears r (hs_c0 v V) (hs_c0 v T) := by
  obtain ⟨f1, v1, f2, v2, q, ⟨m1, m2⟩, hcl, hq⟩ := h
  have eY : clY (hs_c0 v V) (clC V r) (clE V r) f1 v1 = clY V (clC V r) (clE V r) f1 v1 := by unfold clY; rw [c0_empty]
  have eU1 : ∀ w p, clU1 (hs_c0 v V) r w p = hs_c0 v (clU1 V r w p) := fun w p => by unfold clU1; rw [c0_sw (by decide), c0_sw (by decide)]
  have eU2 : ∀ w p x, clU2 (hs_c0 v V) r w p x = hs_c0 v (clU2 V r w p x) := fun w p x => by unfold clU2; rw [eU1, c0_sw (by decide)]
  have eVol : ∀ X : hs_S, clVol (hs_c0 v X) r = clVol X r := fun X => by
    have es : ∀ w, F_sumOf r w (hs_c0 v X) = F_sumOf r w X := fun w => c0_mSum _
    unfold clVol; rw [es, es]
  have eU : ∀ w p x, clU (hs_c0 v V) r w p x = hs_c0 v (clU V r w p x) := fun w p x => by unfold clU; rw [eU2, eVol, c0_sw (by decide)]
  have eE : clE (hs_c0 v V) r = clE V r := rfl
  have eC : clC (hs_c0 v V) r = clC V r := rfl
  refine ⟨f1, v1, f2, v2, q, ⟨?_, ?_⟩, ?_, fun g hg eg => ?_⟩
  · rw [c0_mVal]; exact m1
  · rw [eE, eC, eY, eU1, c0_mVal]; exact m2
  · rw [eE, eC, eY, eU, c0_gt]; exact c0_cl hcl
  · rw [eE, eC, eY, eU]
    obtain ⟨a, b, d⟩ := hq g hg eg
    refine ⟨fun k hk h72 => (a k hk h72).trans ?_, b, d⟩
    have es : ∀ (X : hs_S) w, F_sumOf r w (hs_c0 v X) = F_sumOf r w X := fun X w => c0_mSum _
    unfold clG
    rw [es, es]
    rfl
