/-! ===== an edit out of the draft ===== -/
theorem Fml_R {S : hs_S} {t i p : Nat} : (E_Fml_init (S.2.2.2 5 + 1) (hs_nw S 5)).2.1 t i p = if t = 5 ∧ i = S.2.2.2 5 + 1 ∧ p = 2 then S.2.2.2 24 + 1 else if t = 24 ∧ i = S.2.2.2 24 + 1 then 0 else if t = 5 ∧ i = S.2.2.2 5 + 1 ∧ p = 1 then S.2.2.2 23 + 1 else if t = 23 ∧ i = S.2.2.2 23 + 1 then 0 else if t = 5 ∧ i = S.2.2.2 5 + 1 ∧ p = 0 then S.2.2.2 22 + 1 else if t = 22 ∧ i = S.2.2.2 22 + 1 then 0 else if t = 5 ∧ i = S.2.2.2 5 + 1 then 0 else S.2.1 t i p := rfl
theorem Fml_N {S : hs_S} {t : Nat} : (E_Fml_init (S.2.2.2 5 + 1) (hs_nw S 5)).2.2.2 t = if t = 24 then S.2.2.2 24 + 1 else if t = 23 then S.2.2.2 23 + 1 else if t = 22 then S.2.2.2 22 + 1 else if t = 5 then S.2.2.2 5 + 1 else S.2.2.2 t := rfl
theorem Wi_Fml {S : hs_S} (h : hs_Wi S) (h22 : S.2.2.2 22 = S.2.2.2 5) (h23 : S.2.2.2 23 = S.2.2.2 5) (h24 : S.2.2.2 24 = S.2.2.2 5) : hs_Wi (E_Fml_init (S.2.2.2 5 + 1) (hs_nw S 5)) := by
  refine Wi_at h (fun t i j hw hok => ?_) (fun j => ?_) (fun hok => ?_)
  · have hle := ok_le hok
    rw [Fml_N] at hle
    rw [Fml_R]
    by_cases t5 : t = 5
    · subst t5
      rw [if_neg (by decide), if_neg (by decide), if_neg (by decide), if_pos rfl] at hle
      by_cases hi : i = S.2.2.2 5 + 1
      · right
        by_cases q2 : j = 2
        · rw [q2, if_pos ⟨rfl, hi, rfl⟩]
          show _ = i
          omega
        · by_cases q1 : j = 1
          · rw [q1, if_neg (by omega), if_neg (by omega), if_pos ⟨rfl, hi, rfl⟩]
            show _ = i
            omega
          · by_cases q0 : j = 0
            · rw [q0, if_neg (by omega), if_neg (by omega), if_neg (by omega), if_neg (by omega), if_pos ⟨rfl, hi, rfl⟩]
              show _ = i
              omega
            · refine absurd ?_ hw
              show (match j with | 0 => 2 | 1 => 2 | 2 => 2 | _ => 0) = 0
              split
              · exact absurd rfl q0
              · exact absurd rfl q1
              · exact absurd rfl q2
              · rfl
      · left
        refine ⟨ok_of hok (by omega), ?_⟩
        rw [if_neg (by omega), if_neg (by omega), if_neg (by omega), if_neg (by omega), if_neg (by omega), if_neg (by omega), if_neg (by omega)]
    · left
      have t22 : t ≠ 22 := fun z => hw (by rw [z]; rfl)
      have t23 : t ≠ 23 := fun z => hw (by rw [z]; rfl)
      have t24 : t ≠ 24 := fun z => hw (by rw [z]; rfl)
      rw [if_neg t24, if_neg t23, if_neg t22, if_neg t5] at hle
      refine ⟨ok_of hok hle, ?_⟩
      rw [if_neg (by omega), if_neg (by omega), if_neg (by omega), if_neg (by omega), if_neg (by omega), if_neg (by omega), if_neg (by omega)]
  · rw [Fml_R, if_neg (by omega), if_neg (by omega), if_neg (by omega), if_neg (by omega), if_neg (by omega), if_neg (by omega), if_neg (by omega)]
  · have hle := ok_le hok
    rw [Fml_N, if_neg (by omega), if_neg (by omega), if_neg (by omega), if_neg (by omega)] at hle
    exact ok_of hok hle
abbrev fmT (X : hs_S) (d : Nat) : hs_S := E_Fml_init (d + 1) (hs_nw X 5)
theorem fm_old {X : hs_S} {d f : Nat} (h5 : X.2.2.2 5 = d) (h22 : X.2.2.2 22 = d) (h23 : X.2.2.2 23 = d) (h24 : X.2.2.2 24 = d) (h : f ≠ d + 1) : (fmT X d).1 5 f = X.1 5 f ∧ (fmT X d).1 22 f = X.1 22 f ∧ (fmT X d).1 23 f = X.1 23 f ∧ (fmT X d).1 24 f = X.1 24 f :=
  ⟨(wI_ne h).trans ((wI_ne h).trans (nw_ne (by omega))), nw_ne (S := hs_nw X 5) (t := 22) (show f ≠ X.2.2.2 22 + 1 by omega), nw_ne (S := hs_wR (hs_nw (hs_nw X 5) 22) 5 (d + 1) 0 (X.2.2.2 22 + 1)) (t := 23) (show f ≠ X.2.2.2 23 + 1 by omega), nw_ne (S := hs_wR (hs_nw (hs_wR (hs_nw (hs_nw X 5) 22) 5 (d + 1) 0 (X.2.2.2 22 + 1)) 23) 5 (d + 1) 1 (X.2.2.2 23 + 1)) (t := 24) (show f ≠ X.2.2.2 24 + 1 by omega)⟩
theorem fm_new {X : hs_S} {d : Nat} : (fmT X d).1 5 (d + 1) 3 = 0 ∧ (fmT X d).1 5 (d + 1) 4 = 0 := by
  unfold fmT E_Fml_init
  refine ⟨?_, wI_at.trans (if_pos rfl)⟩
  exact wI_at.trans ((if_neg (by decide)).trans (wI_at.trans (if_pos rfl)))
abbrev entT (S : hs_S) (nE d nd : Nat) (k o e m e' : Int32) (q : Nat → Int32) (y : Int64) : hs_S := hs_wI (tellT (E_asks 1 (hs_wL (hs_wI (hs_wR (fmT (edU S nE k o e m d) d) 9 1 4 (d + 1)) 10 1 5 e') 100 1 (0 : Int32).toNatClampNeg y)) nE k o e m (nI nd) e' q) 11 1 10 0
set_option maxRecDepth 100000 in
theorem enter_RR {n : Nat} {S : hs_S} {k o m d : Nat} {q : Nat → Int32} {y : Int64} {ev ng nl nE nB nR nd : Nat} (hX : RX n S S ev ng nl nE nB nR nd) (hL : rL S S) (hQ : rQ S S nB nR) (hM : rM S ng nl nE nB nR) (hk : k < 24) (hm : ev < m ∧ m < ev + 51) (hE60 : nE < 60) (hn : n < 512) (hd : S.2.1 9 1 4 = d) (hp : cht S d nd = 1)
    (hq : ∀ p, q p = if 36 * nE ≤ p ∧ p < 36 * nE + 3 * nd then S.1 51 1 (p - 36 * nE) else S.1 59 1 p) :
    RR (n + 1) (entT S nE d nd (nI k) (nI o) (nI ev) (nI m) (nI (ev + 1)) q y) := by
  subst hd
  obtain ⟨hA, hG, hH, hE, hF, hN, hB, hC⟩ := hX
  obtain ⟨⟨f1, f2, f3⟩, f4, f5, f6, f7⟩ := hF
  have hev := hA.1.1.1
  have hz := hA.2.2.1.1
  have h3 := hA.2.2.1.2.1
  have hnd := hA.1.2.2.2.2
  obtain ⟨_, _, _, q22, q23, q24⟩ := hA.2.2.2
  have hg2 : ∀ r, r < nR → ∃ f : Nat, f < ev ∧ S.1 78 1 r = nI f := fun r hr => by
    obtain ⟨_, _, ⟨f, l, g1, g2, _⟩, _⟩ := hC.1 r hr
    exact ⟨f, by omega, g2⟩
  have hzz : S.1 58 1 nE = 0 := hL.2.2.2.1 nE (by rw [hA.2.1.2.2.2.2.1, hl_cl (by omega)]; exact Nat.le_refl _) hE60
  have ko := fun f (hf : f ≠ S.2.1 9 1 4 + 1) => fm_old (X := edU S nE (nI k) (nI o) (nI ev) (nI m) (S.2.1 9 1 4)) (d := S.2.1 9 1 4) f2.symm (q22.trans f2.symm) (q23.trans f2.symm) (q24.trans f2.symm) hf
  have kn := fm_new (X := edU S nE (nI k) (nI o) (nI ev) (nI m) (S.2.1 9 1 4)) (d := S.2.1 9 1 4)
  have oq : ∀ j i, j < nE → i < 36 → q (36 * j + i) = S.1 59 1 (36 * j + i) := fun j i hj hi => by rw [hq, if_neg (by omega)]
  have nq : ∀ i, i < 3 * nd → q (36 * nE + i) = S.1 51 1 i := fun i hi => by rw [hq, if_pos (by omega), show 36 * nE + i - 36 * nE = i by omega]
  have d0 : S.2.1 9 1 4 ≠ S.2.1 9 1 4 + 1 := by omega
  have t53 : ∀ j, (entT S nE (S.2.1 9 1 4) nd (nI k) (nI o) (nI ev) (nI m) (nI (ev + 1)) q y).1 53 1 j = if j = nE then nI k else S.1 53 1 j := fun j => wI_at (S := S) (t := 53) (i := 1) (j := nE) (x := nI k)
  have t54 : ∀ j, (entT S nE (S.2.1 9 1 4) nd (nI k) (nI o) (nI ev) (nI m) (nI (ev + 1)) q y).1 54 1 j = if j = nE then nI o else S.1 54 1 j := fun j => wI_at (S := S) (t := 54) (i := 1) (j := nE) (x := nI o)
  have t55 : ∀ j, (entT S nE (S.2.1 9 1 4) nd (nI k) (nI o) (nI ev) (nI m) (nI (ev + 1)) q y).1 55 1 j = if j = nE then nI ev else S.1 55 1 j := fun j => wI_at (S := S) (t := 55) (i := 1) (j := nE) (x := nI ev)
  have t56 : ∀ j, (entT S nE (S.2.1 9 1 4) nd (nI k) (nI o) (nI ev) (nI m) (nI (ev + 1)) q y).1 56 1 j = if j = nE then nI m else S.1 56 1 j := fun j => wI_at (S := S) (t := 56) (i := 1) (j := nE) (x := nI m)
  have t57 : ∀ j, (entT S nE (S.2.1 9 1 4) nd (nI k) (nI o) (nI ev) (nI m) (nI (ev + 1)) q y).1 57 1 j = if j = nE then nI nd else S.1 57 1 j := fun j => wI_at (S := S) (t := 57) (i := 1) (j := nE) (x := nI nd)
  refine ⟨ev + 1, ng, nl, nE + 1, nB, nR, 0, ⟨⟨⟨⟨by omega, by omega⟩, by have := hA.1.2; omega⟩, ⟨rfl, rfl, hA.2.1.2.2.1, hA.2.1.2.2.2.1, rfl, hA.2.1.2.2.2.2.2.1, hA.2.1.2.2.2.2.2.2.1, rfl⟩, ⟨?_, ?_, hA.2.2.1.2.2⟩, hA.2.2.2.1, hA.2.2.2.2.1, hA.2.2.2.2.2.1, ?_, ?_, ?_⟩, rG_up hH (by omega) hG, rH_up hH, ?_, ⟨⟨?_, ?_, ?_⟩, kn.1, ⟨0, by omega, kn.1, fun i hi => absurd hi (by omega)⟩, kn.2, fun i hi => absurd hi (by omega)⟩, hN, rB_up hB, rC_up hC⟩, ⟨hL.1, hL.2.1, hL.2.2.1, fun j h1 h2 => ?_, hL.2.2.2.2⟩, hQ, fun r hr => ⟨?_, (hM r hr).2⟩⟩
  · exact congrArg (· + 1) hz
  · exact congrArg (· + 1) h3
  · exact congrArg (· + 1) q22
  · exact congrArg (· + 1) q23
  · exact congrArg (· + 1) q24
  · refine tell_E (U := S) (V := S) (k := k) (o := o) (m := m) (f := S.2.1 9 1 4) hE hk (by omega) (fun i hi => edU_old h3 hi) edU_new (fun j => edU_12 hz j) t53 t54 t55 t56 rfl hzz ?_ (fun j hj hf => ?_)
    · obtain ⟨k5, k22, k23, k24⟩ := ko _ d0
      refine ⟨by omega, Nat.lt_succ_self _, fOk_fr (S := S) k5 k22 k23 k24 f5, nd, hnd, (congrFun k5 3).trans f4, (t57 _).trans (if_pos rfl), fun _ => ?_, fun i hi => ?_⟩
      · exact (chtR_ext nd fun i _ => congrFun k22 i).trans hp
      · obtain ⟨w1, w2, w3⟩ := f7 i hi
        exact ⟨(congrFun k22 i).trans (w1.trans (nq (3 * i) (by omega)).symm), (congrFun k23 i).trans (w2.trans (nq (3 * i + 1) (by omega)).symm), (congrFun k24 i).trans (w3.trans (nq (3 * i + 2) (by omega)).symm)⟩
    · have hlt : S.2.1 3 (j + 1) 5 < S.2.1 9 1 4 := hf.2.1
      obtain ⟨k5, k22, k23, k24⟩ := ko (S.2.1 3 (j + 1) 5) (by omega)
      obtain ⟨g1, g2, g3, g, g4, g5, g6, g7, g8⟩ := hf
      refine ⟨g1, Nat.lt_succ_of_lt hlt, fOk_fr (S := S) k5 k22 k23 k24 g3, g, g4, (congrFun k5 3).trans g5, (t57 _).trans ((if_neg (by omega)).trans g6), fun z => (chtR_ext g fun i _ => congrFun k22 i).trans (g7 z), fun i hi => ?_⟩
      obtain ⟨w1, w2, w3⟩ := g8 i hi
      exact ⟨(congrFun k22 i).trans (w1.trans (oq j (3 * i) hj (by omega)).symm), (congrFun k23 i).trans (w2.trans (oq j (3 * i + 1) hj (by omega)).symm), (congrFun k24 i).trans (w3.trans (oq j (3 * i + 2) hj (by omega)).symm)⟩
  · exact Nat.le_succ_of_le f1
  · exact congrArg (· + 1) f2
  · exact (congrFun (ko 1 (by omega)).1 3).trans f3
  · refine hL.2.2.2.1 j ?_ h2
    have e1 : (nI (nE + 1)).toNatClampNeg ≤ j := h1
    rw [hl_cl (by omega)] at e1
    rw [hA.2.1.2.2.2.2.1, hl_cl (by omega)]
    omega
  · obtain ⟨f, hf, ef⟩ := hg2 r hr
    obtain ⟨_, ⟨c, hc, ec, _⟩, _⟩ := hC.1 r hr
    refine mR_1 (V := S) (hM r hr) hc ec (mX_eq hE (by omega) (fun _ => rfl) (fun _ _ => rfl) (fun c => ?_) (fun j hj => ⟨(t57 _).trans (if_neg (by omega)), fun i hi => oq j i hj hi⟩) (fun _ => rfl) (fun _ => rfl))
    refine edR_old (fun j hj => ⟨(t53 _).trans (if_neg (by omega)), (t56 _).trans (if_neg (by omega)), rfl⟩) (nE + 1) (by omega) fun j g1 g2 => ?_
    have e : j = nE := by omega
    have e2 : S.1 78 1 r < nI m := by rw [ef]; exact nI_lt2 (by omega) (by omega)
    refine Eq.mpr (congrArg (fun z => S.1 78 1 r < z) ((t56 _).trans (if_pos e))) e2
theorem pile_now {S T : hs_S} {nd : Nat} (hF : rF S S nd) (h12 : nd ≤ 12) (h1 : T.1 11 1 10 = nI nd) (h2 : T.1 51 1 = S.1 51 1) : F_pileOfDraft T = S.1 5 (S.2.1 9 1 4) 4 := by
  obtain ⟨_, f4, ⟨g, hg, eg, hok⟩, f6, f7⟩ := hF
  have eg' : g = nd := (hl_inj (by omega) (by omega)).mp (eg.symm.trans f4)
  subst eg'
  unfold F_pileOfDraft
  rw [h1, hl_cl (by omega), f6]
  exact pile_r g hg fun i hi => ⟨(f7 i hi).1.trans (congrFun h2 _).symm, (hok i hi).2.1⟩
theorem M_enter_bad {n : Nat} {S : hs_S} {o c r : Nat} (h : RR n S) (hn : n < 512) (hw : hs_Wi S) (ho : o < 6) (hc : c < 4) (hr : r < 6) (q : ¬ (S.1 20 1 (6 * c + r) = nI o ∧ S.1 62 1 c = -1 ∧ S.1 5 (S.2.1 9 1 4) 4 = 1 ∧ ¬ S.1 11 1 12 = 60)) : m_M_enter (nI o) (nI c) (nI r) S (fun r T => OK n 2 r T) := by
  obtain ⟨ev, ng, nl, nE, nB, nR, nd, ⟨hA, hG, _, _, hF, _⟩, _⟩ := id h
  have hng := hA.1.2.1.1
  have hev := hA.1.1
  have hnd := hA.1.2.2.2.2
  have e10 : S.1 11 1 10 = nI nd := hA.2.1.2.2.2.2.2.2.2
  have own : F_ownerAt (nI (6 * c + r)) (S.1 11 1 0) (E_asks 1 S) = S.1 20 1 (6 * c + r) := by
    have := own_at (T := E_asks 1 S) hG (k := 6 * c + r) (by omega) (by omega) hA.2.1.2.2.1 rfl rfl rfl
    rw [← hA.2.1.2.1] at this
    exact this
  have pil : F_pileOfDraft (E_asks 1 S) = S.1 5 (S.2.1 9 1 4) 4 := pile_now (T := E_asks 1 S) hF hnd e10 rfl
  refine ok_M_enter hw ?_
  unfold vc_M_enter
  rintro x hx
  rw [oc_y ho hc hr] at hx
  subst hx
  refine ⟨Or.inr rfl, ?_⟩
  rintro _ rfl
  rw [nI_6c, hl_cl (by omega)]
  have hb : OK n 2 0 (E_fails 2 (E_asks 1 S)) := OK_g h hn (by decide)
  refine ⟨fun _ => ⟨⟨ng, by omega, hA.2.1.2.2.1⟩, ?_, fun q1 => ⟨hl_ix (by omega) (by omega), ?_, fun q2 => ⟨⟨nd, hnd, e10⟩, ?_, fun q4 => ⟨fun q3 => ?_, ?_⟩⟩⟩⟩, fun z => absurd z (by decide)⟩
  · rintro _ _ rfl; exact hb
  · rintro _ _ rfl; exact hb
  · rintro _ _ rfl; exact hb
  · exact absurd ⟨own.symm.trans q1, q2, pil.symm.trans q4, q3⟩ q
  · rintro _ _ rfl; exact hb
theorem call_enter {n : Nat} {S : hs_S} {a1 a2 a3 : Int32} (h : RR n S) (hn : n < 512) (hw : hs_Wi S) : m_L_enter a1 a2 a3 S (fun k S2 => hs_Wi S2 → m_M_enter a1 a2 a3 S2 (fun r T => OK n k r T)) := by
  obtain ⟨ev, ng, nl, nE, nB, nR, nd, hX, hL, hQ, hM⟩ := id h
  obtain ⟨hA, hG, hH, hE, hF, hN, hB, hC⟩ := id hX
  have hev := hA.1.1
  have hng := hA.1.2.1.1
  have hE60 := hA.1.2.2.1.1
  have hnd := hA.1.2.2.2.2
  have hz := hA.2.2.1.1
  have h3 := hA.2.2.1.2.1
  have e10 : S.1 11 1 10 = nI nd := hA.2.1.2.2.2.2.2.2.2
  obtain ⟨_, _, _, q22, q23, q24⟩ := hA.2.2.2
  obtain ⟨⟨f1, f2, f3⟩, f4, f5, f6, f7⟩ := id hF
  have bad : (F_isOwner a1 = 0 ∨ F_isCell a2 a3 = 0) → hs_Wi S → m_M_enter a1 a2 a3 S (fun r T => OK n 1 r T) := fun e hw2 => by
    refine ok_M_enter hw2 ?_
    rintro x hx
    rw [oc_n e] at hx
    subst hx
    refine ⟨Or.inl rfl, ?_⟩
    rintro _ rfl
    exact ⟨fun z => absurd rfl z, fun _ => OK_f h hn rfl⟩
  refine ok_L_enter hw fun _ => ok_C_enter hw fun _ => t_needOwner hw (fun o ho eo => fun _ => t_cellAt hw (fun c r hc hr e2 e3 => fun _ => ?_) (fun e => Or.inl ⟨rfl, bad (Or.inr e)⟩)) (fun e => Or.inl ⟨rfl, bad (Or.inl e)⟩)
  subst eo e2 e3
  have hk6 : (6 * c + r) / 6 = c := by omega
  have h62 := frz_iff (hC.2.1 c hc) (by omega)
  have e12 : S.1 11 1 12 = 60 ↔ nE = 60 := by rw [hA.2.1.2.2.2.2.1]; exact hl_inj (b := 60) (by omega) (by omega)
  refine t_needEditable hw (by omega) (by rw [hk6]; have := (hC.2.1 c hc).1.1; omega) (by rw [show hs_sz S 12 = nE from hz]; exact hE60) (fun q1 q2 q3 => ?_) (fun q => Or.inr ⟨rfl, fun hw2 => M_enter_bad h hn hw2 ho hc hr fun z => q ⟨z.1, ?_, ?_⟩⟩)
  · rw [hk6] at q2
    rw [show hs_sz S 12 = nE from hz] at q3
    refine ⟨by omega, fun q4 => ?_, fun q4 => Or.inr ⟨rfl, fun hw2 => M_enter_bad h hn hw2 ho hc hr fun z => q4 z.2.2.1⟩⟩
    refine ⟨⟨⟨6 * c + r, by omega, rfl⟩, by rw [show hs_sz S 12 = nE from hz]; omega, by omega⟩, ?_⟩
    rintro _ S8 ⟨rfl, h8⟩ S13 h13
    obtain ⟨m, hm, em1, em2⟩ := ntc (ev := ev) hN hc
    obtain ⟨d, hd⟩ : ∃ d, d = S.2.1 9 1 4 := ⟨_, rfl⟩
    rw [← hd] at h8 f2 f4 f5 f6 f7 q4
    have e8 : S8 = edU S nE (nI (6 * c + r)) (nI o) (nI ev) (nI m) d := by
      rw [h8]
      unfold E_Sht_tell edU
      rw [show hs_sz S 12 = nE from hz, show S.2.2.2 3 = nE from h3, show S.1 10 1 5 = nI ev from hA.2.1.1, nI_div6 (by omega), hk6, hl_cl (by omega), em1]
    have n5 : S8.2.2.2 5 = d := by rw [e8]; exact f2.symm
    have hw8 : hs_Wi S8 := by
      rw [e8]
      exact hs_Wi_add (by intro j; rfl) (by decide) (hs_Wi_R rfl (by decide) (hs_Wi_I (hs_Wi_I (hs_Wi_I (hs_Wi_I (hs_Wi_I (hs_Wi_I (hs_Wi_nw (by intro j; rfl) (by decide) hw))))))))
    have hw14 : hs_Wi (fmT S8 d) := by
      have := Wi_Fml hw8 (by rw [n5, e8]; exact q22.trans f2.symm) (by rw [n5, e8]; exact q23.trans f2.symm) (by rw [n5, e8]; exact q24.trans f2.symm)
      rw [n5] at this
      exact this
    rw [h13, n5]
    refine ok_Fml_init (Nat.succ_ne_zero _) (v_Fml_init ⟨hw14, fun S16 h16 S11 h11 S5 h5 hw2 => ?_⟩)
    have e10' : S16.1 10 1 5 + 1 = nI (ev + 1) := by
      rw [h16, e8]
      show S.1 10 1 5 + 1 = _
      rw [hA.2.1.1]; exact nI_1 ev
    rw [e10', h16, e8] at h11
    rw [h11, show nI (hs_sz S 12) = nI nE from congrArg nI hz] at h5
    refine ok_M_enter hw2 ?_
    unfold vc_M_enter
    rintro x hx
    rw [oc_y ho hc hr] at hx
    subst hx
    refine ⟨Or.inr rfl, ?_⟩
    intro S3 h3'
    rw [h5] at h3'
    have d1 : S3.1 11 1 1 = nI ng := by rw [h3']; exact hA.2.1.2.2.1
    have d0 : S3.1 11 1 0 = nI ev := by rw [h3']; exact hA.2.1.2.1
    have d10 : S3.1 11 1 10 = nI nd := by rw [h3']; exact e10
    have d12 : S3.1 11 1 12 = nI nE := by rw [h3']; exact hA.2.1.2.2.2.2.1
    have d62 : S3.1 62 1 c = -1 := by rw [h3']; exact h62.mpr q2
    have d60 : S3.1 60 1 c = S.1 60 1 c := by rw [h3']; rfl
    have own : F_ownerAt (nI (6 * c + r)) (nI ev) S3 = nI o := (own_at (T := S3) hG (by omega) (by omega) d1 (by rw [h3']; rfl) (by rw [h3']; rfl) (by rw [h3']; rfl)).trans q1
    have pil : F_pileOfDraft S3 = 1 := (pile_now (T := S3) hF hnd d10 (by rw [h3']; rfl)).trans (by rw [← hd]; exact q4)
    have hp : cht S d nd = 1 := by
      have hc1 := cht_le (S := S) (f := d) nd
      rw [f6] at q4
      exact (hl_inj (b := 1) (by omega) (by omega)).mp q4
    rw [nI_6c, hl_cl (by omega), d0, own, d62, d12, pil, d10]
    refine ⟨fun _ => ⟨⟨ng, by omega, d1⟩, fun z => absurd rfl z, fun _ => ⟨hl_ix (by omega) (by omega), fun z => absurd rfl z, fun _ => ⟨⟨nd, hnd, d10⟩, fun z => absurd rfl z, fun _ => ⟨fun _ => ⟨⟨⟨nE, by omega, d12⟩, ⟨6 * c + r, by omega, rfl⟩, nd, hnd, rfl⟩, fun r' S13 hR S19 h19 => ?_⟩, fun z => ?_⟩⟩⟩⟩, fun z => absurd z (by decide)⟩
    · obtain ⟨er, q, eT, hq⟩ := hR
      have eT' : S19 = entT S nE d nd (nI (6 * c + r)) (nI o) (nI ev) (nI m) (nI (ev + 1)) q (nI nE).toInt64 := by
        rw [h19, eT]
        unfold E_tells entT tellT
        rw [d12, d0, hl_cl (by omega), nI_div6 (by omega), hk6, hl_cl (by omega), d60, em2, nI_1, nI_1, h3']
      rw [eT', er, d12]
      refine ⟨enter_RR hX hL hQ hM (by omega) hm q3 hn hd.symm hp fun p => ?_, rfl, fun _ => rfl⟩
      rw [hq nE nd (by omega) d12 hnd rfl p, h3']
      rfl
    · have := (hl_inj (a := nE) (b := 60) (by omega) (by omega)).mp z
      omega
  · rw [hk6]; exact h62.mp z.2.1
  · rw [show hs_sz S 12 = nE from hz]
    have : nE ≠ 60 := fun w => z.2.2.2 (e12.mpr w)
    omega
