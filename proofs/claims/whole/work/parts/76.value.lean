/-! ===== a cell's value, asked of both sides ===== -/
theorem GF_cl {S T : hs_S} (h : GF S T) : hs_cl T = hs_cl S := by
  refine Prod.ext (funext fun t => funext fun i => funext fun p => ?_) (Prod.ext (funext fun t => funext fun i => funext fun p => ?_) h.1)
  · show (if hs_scr t p = true then 0 else T.1 t i p) = if hs_scr t p = true then 0 else S.1 t i p
    by_cases q : hs_scr t p = true
    · rw [if_pos q, if_pos q]
    · rw [if_neg q, if_neg q]
      exact h.2.2 t i p (fun z => q (by rw [z]; rfl)) (fun z => q (by rw [z]; rfl))
  · show (if hs_scR t p = true then 0 else T.2.1 t i p) = if hs_scR t p = true then 0 else S.2.1 t i p
    by_cases q : hs_scR t p = true
    · rw [if_pos q, if_pos q]
    · rw [if_neg q, if_neg q]
      exact h.2.1 t i p (fun z => q (by rw [z]; rfl)) (fun z => q (by rw [z.1, z.2]; rfl))
theorem FS_cl {S T : hs_S} (h : FS S T) : hs_cl T = hs_cl S := by
  refine Prod.ext (funext fun t => funext fun i => funext fun p => ?_) ?_
  · show (if hs_scr t p = true then 0 else T.1 t i p) = if hs_scr t p = true then 0 else S.1 t i p
    by_cases q : hs_scr t p = true
    · rw [if_pos q, if_pos q]
    · rw [if_neg q, if_neg q]
      refine h.2 t i p ?_
      unfold hs_scr at q
      unfold hs_fs
      simp only [Bool.or_eq_true, Bool.and_eq_true, beq_iff_eq, not_or, not_and] at q
      simp only [Bool.or_eq_false_iff, Bool.and_eq_false_iff, beq_eq_false_iff_ne]
      omega
  · show (_, _) = (_, _)
    rw [h.1]
def RS (n : Nat) (S : hs_S) (ev ng nl nE nB nR nd : Nat) : Prop := RX n S S ev ng nl nE nB nR nd ∧ rL S S ∧ rQ S S nB nR ∧ rM S ng nl nE nB nR
theorem RS_cl {n : Nat} {S T : hs_S} {ev ng nl nE nB nR nd : Nat} (h : hs_cl T = hs_cl S) (k : RS n S ev ng nl nE nB nR nd) : RS n T ev ng nl nE nB nR nd := by
  have k1 : RS n (hs_cl S) ev ng nl nE nB nR nd := by
    obtain ⟨⟨a, b, c, d, e, f, g, i⟩, hL, hQ, hM⟩ := k
    exact ⟨⟨a, b, c, d, e, f, g, i⟩, hL, hQ, hM⟩
  rw [← h] at k1
  obtain ⟨⟨a, b, c, d, e, f, g, i⟩, hL, hQ, hM⟩ := k1
  exact ⟨⟨a, b, c, d, e, f, g, i⟩, hL, hQ, hM⟩
theorem RR_cl {n : Nat} {S T : hs_S} (h : hs_cl T = hs_cl S) (k : RR n S) : RR n T := by
  obtain ⟨ev, ng, nl, nE, nB, nR, nd, k⟩ := k
  exact ⟨ev, ng, nl, nE, nB, nR, nd, RS_cl h k⟩
/-- what finding a value needs -/
theorem mOk_of {n : Nat} {U V : hs_S} {ev ng nl nE nB nR nd : Nat} {e : Int32} (hX : RX n U V ev ng nl nE nB nR nd) : mOk e V := by
  obtain ⟨hA, _, _, hE, _, _, hB, _⟩ := hX
  have hev := hA.1.1
  have h60 := hA.1.2.2.1.1
  have h80 := hA.1.2.2.1.2
  have e12 : V.1 11 1 12 = nI nE := hA.2.1.2.2.2.2.1
  have c12 : (V.1 11 1 12).toNatClampNeg = nE := by rw [e12]; exact hl_cl (by omega)
  have eE : ∀ c, F_editAt c e V = edR (V.1 53 1) (V.1 56 1) (V.1 58 1) c e nE := fun c => by rw [ed_r, c12]
  refine ⟨fun c hc hs => ?_, fun c hc => ?_, ⟨ng, by have := hA.1.2.1; omega, hA.2.1.2.2.1⟩, ⟨nl, by have := hA.1.2.1; omega, hA.2.1.2.2.2.1⟩, ⟨nE, h60, e12⟩, ⟨nR, hA.1.2.2.2.1, hA.2.1.2.2.2.2.2.2.1⟩, ⟨nB, h80, hA.2.1.2.2.2.2.2.1, fun b hb => ?_⟩⟩
  · rcases edR_in (a53 := V.1 53 1) (a56 := V.1 56 1) (a58 := V.1 58 1) (c := nI c) (e := e) nE with ek | ⟨k, hk, ek, _⟩
    · unfold mSz at hs
      rw [eE, ek, if_pos rfl] at hs
      omega
    · have ck : (nI k).toNatClampNeg = k := hl_cl (by omega)
      have nk : ¬ nI k = -1 := neg1 (by omega)
      obtain ⟨_, _, ⟨g', hg', eg', hok⟩, g, hg, eg, eg2, hh, hwd⟩ := (hE k hk).2
      have egg : g' = g := (hl_inj (by omega) (by omega)).mp (eg'.symm.trans eg)
      subst egg
      have es : mSz V (nI c) e = g' := by unfold mSz; rw [eE, ek, if_neg nk, ck, eg2, hl_cl (by omega)]
      have ew : ∀ i, i < g' → mWh V (nI c) e i = U.1 22 (U.2.1 3 (k + 1) 5) i ∧ mGc (mWi V (nI c) e i) V = 6 * U.1 23 (U.2.1 3 (k + 1) 5) i + U.1 24 (U.2.1 3 (k + 1) 5) i := fun i hi => by
        have c0 : (nI (36 * k + 3 * i)).toNatClampNeg = 36 * k + 3 * i := hl_cl (by omega)
        have c1 : (nI (36 * k + 3 * i) + 1).toNatClampNeg = 36 * k + 3 * i + 1 := by rw [nI_1]; exact hl_cl (by omega)
        have c2 : (nI (36 * k + 3 * i) + 2).toNatClampNeg = 36 * k + 3 * i + 2 := by rw [show (2 : Int32) = nI 2 from rfl, nI_addI (by omega)]; exact hl_cl (by omega)
        obtain ⟨q1, q2, q3⟩ := hwd i hi
        unfold mWh mGc mWi
        rw [eE, ek, ck, c0, c1, c2, q1, q2, q3]
        exact ⟨rfl, rfl⟩
      have eh : ∀ i, i ≤ g' → ht V (nI c) e i = cht U (U.2.1 3 (k + 1) 5) i := by
        intro i
        induction i with
        | zero => intro _; rfl
        | succ i ih =>
          intro hi
          show ht V (nI c) e i + 1 - tkN (mWh V (nI c) e i) = cht U (U.2.1 3 (k + 1) 5) i + 1 - tkN (U.1 22 (U.2.1 3 (k + 1) 5) i)
          rw [ih (by omega), (ew i (by omega)).1]
      rw [es] at hs
      rw [es]
      refine ⟨hg, ⟨k, by omega, (eE _).trans ek⟩, (eh g' (Nat.le_refl _)).trans (hh hs), fun i hi => ⟨?_, fun z => ?_⟩⟩
      · rw [(ew i hi).1, eh i (by omega)]; exact (hok i hi).2.1
      · rw [(ew i hi).1] at z
        obtain ⟨a, b, ha, hb, ea, eb⟩ := (hok i hi).2.2.1 z
        exact ⟨6 * a + b, by omega, by rw [(ew i hi).2, ea, eb, nI_6c]⟩
  · rw [eE]
    rcases edR_in (a53 := V.1 53 1) (a56 := V.1 56 1) (a58 := V.1 58 1) (c := nI c) (e := e) nE with ek | ⟨k, hk, ek, _⟩
    · exact Or.inl ek
    · obtain ⟨_, _, _, g, hg, _, eg2, _⟩ := (hE k hk).2
      exact Or.inr ⟨k, by omega, ek, g, hg, eg2⟩
  · unfold P_isThere
    rw [hl_cl (by omega)]
    refine ⟨hl_ix (by omega) (by omega), ?_⟩
    obtain ⟨c, hc, _, h⟩ := (hB b hb).2
    rcases h with ⟨h, _⟩ | ⟨r, hr, h, _⟩
    · exact Or.inl h
    · rw [h]
      exact Or.inr (hl_ix (by have := hA.1.2.2.2.1; omega) (by have := hA.1.2.2.2.1; omega))
theorem P_goTo_of {n : Nat} {U V : hs_S} {ev ng nl nE nB nR nd : Nat} {a : Int32} {i : Nat} (hX : RX n U V ev ng nl nE nB nR nd) : P_Fnd_goTo a i U ∧ fOk U 1 ∧ ∀ k, k < hs_sz U 12 → fOk U (U.2.1 3 (ed U k) 5) := by
  obtain ⟨hA, _, _, hE, hF, _, hB, hC⟩ := hX
  have hev := hA.1.1
  have hz12 : hs_sz U 12 = nE := hA.2.2.1.1
  have hz13 : hs_sz U 13 = nB := hA.2.2.1.2.2.1
  have hz14 : hs_sz U 14 = nR := hA.2.2.1.2.2.2.2
  refine ⟨⟨⟨nE, hA.1.2.2.1.1, hz12, fun k hk => ?_⟩, ⟨nB, hA.1.2.2.1.2, hz13, fun k hk => ?_⟩, nR, hA.1.2.2.2.1, hz14, fun k hk => ?_⟩, ⟨0, by omega, hF.1.2.2, fun i hi => absurd hi (by omega)⟩, fun k hk => ?_⟩
  · obtain ⟨⟨⟨e1, _⟩, ⟨x, hx, _, e3⟩, _⟩, hf⟩ := hE k hk
    have e1' : ed U k = k + 1 := e1
    rw [e1']
    exact ⟨Nat.succ_ne_zero _, ⟨x, hx, e3⟩, hf.1⟩
  · obtain ⟨⟨⟨b1, _⟩, _⟩, hB2⟩ := hB k hk
    obtain ⟨j1, c, hc, _, j3, _⟩ := bid_rd (nB := nB) hB2 hC (by omega) hA.1.2.2.2.1
    have eb : bd U k = k + 1 := b1
    have er : br U k = U.2.1 0 (k + 1) 2 := congrArg (fun z => U.2.1 0 z 2) eb
    rw [eb, er]
    exact ⟨Nat.succ_ne_zero _, j1, c, hc, j3⟩
  · obtain ⟨h1, ⟨c, hc, _, h2⟩, _⟩ := hC.1 k hk
    exact ⟨by have := h1.1; show U.2.1 14 1 k ≠ 0; omega, c, hc, h2⟩
  · rw [hz12] at hk
    obtain ⟨⟨⟨e1, _⟩, _⟩, hf⟩ := hE k hk
    have e1' : ed U k = k + 1 := e1
    rw [e1']
    exact hf.2.2.1
theorem mX_cl {S T : hs_S} {ng nl nE nB nR : Nat} {e : Int32} (h : hs_cl T = hs_cl S) : mX T ng nl nE nB nR e = mX S ng nl nE nB nR e := by
  have h1 : mX (hs_cl T) ng nl nE nB nR e = mX (hs_cl S) ng nl nE nB nR e := by rw [h]
  exact h1
theorem RS_as {n : Nat} {S : hs_S} {x : Int32} {ev ng nl nE nB nR nd : Nat} (k : RS n S ev ng nl nE nB nR nd) (hn : n < 512) : RS (n + 1) (E_asks x S) ev ng nl nE nB nR nd := by
  obtain ⟨hX, hL, hQ, hM⟩ := k
  obtain ⟨a, b, c, d, e, f, g, i⟩ := RX_up hX hn
  exact ⟨⟨a, b, c, d, e, f, g, i⟩, hL, hQ, hM⟩
theorem RS_out {n : Nat} {S : hs_S} {y : Int64} {ev ng nl nE nB nR nd : Nat} (k : RS n S ev ng nl nE nB nR nd) : RS n (hs_wL S 100 1 (0 : Int32).toNatClampNeg y) ev ng nl nE nB nR nd := by
  obtain ⟨⟨a, b, c, d, e, f, g, i⟩, hL, hQ, hM⟩ := k
  exact ⟨⟨a, b, c, d, e, f, g, i⟩, hL, hQ, hM⟩
theorem RS.rr {n : Nat} {S : hs_S} {ev ng nl nE nB nR nd : Nat} (k : RS n S ev ng nl nE nB nR nd) : RR n S := ⟨ev, ng, nl, nE, nB, nR, nd, k⟩
theorem M_asked_bad1 {n : Nat} {S : hs_S} {a1 a2 a3 a4 : Int32} (h : RR n S) (hn : n < 512) (hw : hs_Wi S) (e : F_isOwner a1 = 0 ∨ F_isCell a2 a3 = 0) : m_M_asked a1 a2 a3 a4 S (fun r T => OK n 1 r T) := by
  refine ok_M_asked hw ?_
  rintro x hx
  rw [oc_n e] at hx
  subst hx
  refine ⟨Or.inl rfl, ?_⟩
  rintro _ rfl
  exact ⟨fun z => absurd rfl z, fun _ => OK_f h hn rfl⟩
theorem M_asked_bad2 {n : Nat} {S : hs_S} {o c r : Nat} {w : Int32} (h : RR n S) (hn : n < 512) (hw : hs_Wi S) (ho : o < 6) (hc : c < 4) (hr : r < 6) (hcan : F_Rts_canRead 1 (nI o) (nI (6 * c + r)) S = 0) : m_M_asked (nI o) (nI c) (nI r) w S (fun r T => OK n 2 r T) := by
  refine ok_M_asked hw ?_
  rintro x hx
  rw [oc_y ho hc hr] at hx
  subst hx
  refine ⟨Or.inr rfl, ?_⟩
  rintro _ rfl
  rw [nI_6c]
  obtain ⟨ev, ng, nl, nE, nB, nR, nd, hX, _⟩ := RR_as (x := 1) h hn
  refine ⟨fun _ => ⟨pRead hX, ?_⟩, fun z => absurd z (by decide)⟩
  rw [read_now hX (by omega) ho]
  refine ⟨fun z => absurd hcan z, fun _ => ?_⟩
  rintro _ rfl
  exact OK_g h hn (by decide)
theorem M_asked_go {n : Nat} {S : hs_S} {w : Int32} {o c r : Nat} {f v : Int32} {ev ng nl nE nB nR nd : Nat} (k : RS n S ev ng nl nE nB nR nd) (hn : n < 512) (hw : hs_Wi S) (ho : o < 6) (hc : c < 4) (hr : r < 6) (hcan : ¬ F_Rts_canRead 1 (nI o) (nI (6 * c + r)) S = 0) (hv : gVal (mX S ng nl nE nB nR (nI ev)) (nI (6 * c + r)) f v) (hy0 : w = 0 → S.2.2.1 100 1 0 = v.toInt64) (hy1 : ¬ w = 0 → S.2.2.1 100 1 0 = f.toInt64) : m_M_asked (nI o) (nI c) (nI r) w S (fun r T => OK n 0 r T) := by
  have k3 := RS_as (x := 1) k hn
  refine ok_M_asked hw ?_
  rintro x hx
  rw [oc_y ho hc hr] at hx
  subst hx
  refine ⟨Or.inr rfl, ?_⟩
  intro S3 h3
  rw [← h3] at k3
  rw [nI_6c]
  have d0 : S3.1 11 1 0 = nI ev := k3.1.1.2.1.2.1
  have hA := k3.1.1
  refine ⟨fun _ => ⟨pRead k3.1, ?_⟩, fun z => absurd z (by decide)⟩
  rw [read_now k3.1 (by omega) ho]
  have hcan' : ¬ F_Rts_canRead 1 (nI o) (nI (6 * c + r)) S3 = 0 := by rw [h3]; exact hcan
  refine ⟨fun _ => ⟨⟨⟨6 * c + r, by omega, rfl⟩, mOk_of k3.1⟩, fun r9 S8 hR => ?_⟩, fun z => absurd z hcan'⟩
  obtain ⟨hcl, hval⟩ := hR
  rw [d0, mVal_g, mE_r hA.2.1.2.2.1 hA.2.1.2.2.2.1 hA.2.1.2.2.2.2.1 hA.2.1.2.2.2.2.2.1 hA.2.1.2.2.2.2.2.2.1 (by have := hA.1; omega) (by have := hA.1; omega) hA.1.2.2.1.1 hA.1.2.2.1.2 hA.1.2.2.2.1] at hval
  have hv3 : gVal (mX S3 ng nl nE nB nR (nI ev)) (nI (6 * c + r)) f v := by rw [h3]; exact hv
  obtain ⟨ef, evv⟩ := gVal_fun hv3 hval
  have k8 : RR (n + 1) S8 := RR_cl hcl k3.rr
  have e59 : S8.1 11 1 59 = 0 := by
    have := congrArg (fun z : hs_S => z.1 11 1 59) hcl
    refine Eq.trans (show S8.1 11 1 59 = S3.1 11 1 59 from this) ?_
    rw [h3]; rfl
  have e100 : S8.2.2.1 100 1 0 = S.2.2.1 100 1 0 := by
    have := congrArg (fun z : hs_S => z.2.2.1 100 1 0) hcl
    refine Eq.trans (show S8.2.2.1 100 1 0 = S3.2.2.1 100 1 0 from this) ?_
    rw [h3]; rfl
  refine ⟨fun z => ⟨k8, e59, fun _ => ?_⟩, fun z => ⟨k8, e59, fun _ => ?_⟩⟩
  · rw [e100, hy0 z, evv]
  · rw [e100, hy1 z, ef]
/-- going to the present, on the class's side -/
theorem now_eq {n : Nat} {S T : hs_S} {ev ng nl nE nB nR nd : Nat} (k : RS n S ev ng nl nE nB nR nd) (hT : R_Fnd_goTo (nI ev) 1 S T) : gEq (cEnv T) (mX S ng nl nE nB nR (nI ev)) :=
  br_eq k.1 (Nat.le_refl _) k.1.2.1 (fun r hr _ => (k.2.2.1.1 r hr).1) hT
theorem call_value {n : Nat} {S : hs_S} {a1 a2 a3 : Int32} (h : RR n S) (hn : n < 512) (hw : hs_Wi S) : m_L_value a1 a2 a3 S (fun k S2 => hs_Wi S2 → m_M_value a1 a2 a3 S2 (fun r T => OK n k r T)) := by
  obtain ⟨ev, ng, nl, nE, nB, nR, nd, k⟩ := id h
  have e5 : S.1 10 1 5 = nI ev := k.1.1.2.1.1
  refine ok_L_value hw fun _ => ok_C_value hw fun _ => t_needOwner hw (fun o ho eo => fun _ => t_cellAt hw (fun c r hc hr e2 e3 => fun _ => t_needReader hw (by omega) (fun q => ?_) (fun q => Or.inr ⟨rfl, fun hw2 => ok_M_value hw2 fun _ => ?_⟩)) (fun e => Or.inl ⟨rfl, fun hw2 => ok_M_value hw2 fun _ => M_asked_bad1 h hn hw2 (Or.inr e)⟩)) (fun e => Or.inl ⟨rfl, fun hw2 => ok_M_value hw2 fun _ => M_asked_bad1 h hn hw2 (Or.inl e)⟩)
  · subst eo e2 e3
    have hP := P_goTo_of (a := S.1 10 1 5) (i := 1) k.1
    refine ⟨hP.1, fun S8 hT => ⟨⟨FI_goTo (by decide) hT hP.1 hP.2, 6 * c + r, by omega, rfl⟩, fun v S12 hN => ?_⟩⟩
    rintro _ rfl hw2
    obtain ⟨hFS, _, ⟨f, hg⟩, _⟩ := hN
    rw [e5] at hT
    have hcl : hs_cl S12 = hs_cl S := (FS_cl hFS).trans (GF_cl hT.1)
    have hv : gVal (mX S ng nl nE nB nR (nI ev)) (nI (6 * c + r)) f v := (gVal_eq (now_eq k hT) (by omega)).mp hg
    rw [← mX_cl hcl] at hv
    have hcan : F_Rts_canRead 1 (nI o) (nI (6 * c + r)) S12 = F_Rts_canRead 1 (nI o) (nI (6 * c + r)) S := by
      have := congrArg (fun z => F_Rts_canRead 1 (nI o) (nI (6 * c + r)) z) hcl
      exact this
    refine ok_M_value hw2 fun _ => M_asked_go (f := f) (v := v) (RS_out (RS_cl hcl k)) hn hw2 ho hc hr ?_ hv (fun _ => rfl) (fun z => absurd rfl z)
    show ¬ F_Rts_canRead 1 (nI o) (nI (6 * c + r)) S12 = 0
    rw [hcan]; exact q
  · subst eo e2 e3
    exact M_asked_bad2 h hn hw2 ho hc hr q
theorem call_fault {n : Nat} {S : hs_S} {a1 a2 a3 : Int32} (h : RR n S) (hn : n < 512) (hw : hs_Wi S) : m_L_fault a1 a2 a3 S (fun k S2 => hs_Wi S2 → m_M_fault a1 a2 a3 S2 (fun r T => OK n k r T)) := by
  obtain ⟨ev, ng, nl, nE, nB, nR, nd, k⟩ := id h
  have e5 : S.1 10 1 5 = nI ev := k.1.1.2.1.1
  refine ok_L_fault hw fun _ => ok_C_fault hw fun _ => t_needOwner hw (fun o ho eo => fun _ => t_cellAt hw (fun c r hc hr e2 e3 => fun _ => t_needReader hw (by omega) (fun q => ?_) (fun q => Or.inr ⟨rfl, fun hw2 => ok_M_fault hw2 fun _ => ?_⟩)) (fun e => Or.inl ⟨rfl, fun hw2 => ok_M_fault hw2 fun _ => M_asked_bad1 h hn hw2 (Or.inr e)⟩)) (fun e => Or.inl ⟨rfl, fun hw2 => ok_M_fault hw2 fun _ => M_asked_bad1 h hn hw2 (Or.inl e)⟩)
  · subst eo e2 e3
    have hP := P_goTo_of (a := S.1 10 1 5) (i := 1) k.1
    refine ⟨hP.1, fun S8 hT => ⟨⟨FI_goTo (by decide) hT hP.1 hP.2, 6 * c + r, by omega, rfl⟩, fun f S12 hN => ?_⟩⟩
    rintro _ rfl hw2
    obtain ⟨hFS, _, v, hg⟩ := hN
    rw [e5] at hT
    have hcl : hs_cl S12 = hs_cl S := (FS_cl hFS).trans (GF_cl hT.1)
    have hv : gVal (mX S ng nl nE nB nR (nI ev)) (nI (6 * c + r)) f v := (gVal_eq (now_eq k hT) (by omega)).mp hg
    rw [← mX_cl hcl] at hv
    have hcan : F_Rts_canRead 1 (nI o) (nI (6 * c + r)) S12 = F_Rts_canRead 1 (nI o) (nI (6 * c + r)) S := by
      have := congrArg (fun z => F_Rts_canRead 1 (nI o) (nI (6 * c + r)) z) hcl
      exact this
    refine ok_M_fault hw2 fun _ => M_asked_go (f := f) (v := v) (RS_out (RS_cl hcl k)) hn hw2 ho hc hr ?_ hv (fun z => absurd z (by decide)) (fun _ => rfl)
    show ¬ F_Rts_canRead 1 (nI o) (nI (6 * c + r)) S12 = 0
    rw [hcan]; exact q
  · subst eo e2 e3
    exact M_asked_bad2 h hn hw2 ho hc hr q
