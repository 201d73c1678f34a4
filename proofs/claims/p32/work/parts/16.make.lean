/-! ===== making ===== -/
def hs_nw (S : hs_S) (t : Nat) : hs_S := (fun a b c => if a = t ∧ b = S.2.2.2 t + 1 then 0 else S.1 a b c, (fun a b c => if a = t ∧ b = S.2.2.2 t + 1 then 0 else S.2.1 a b c, (fun a b c => if a = t ∧ b = S.2.2.2 t + 1 then 0 else S.2.2.1 a b c, fun a => if a = t then S.2.2.2 t + 1 else S.2.2.2 a)))
def hs_mG (G : hs_G) (t i q : Nat) : hs_G := (fun a b => if a = t ∧ b = i then q else G.1 a b, G.2)
theorem hs_k6 {a : Nat} (h : (hs_k a).1 = 6) : (hs_k (a + 3)).1 = 7 ∧ a < 15 := by
  by_cases ha : a < 102
  · revert h
    exact (by decide +kernel : ∀ a, a < 102 → (hs_k a).1 = 6 → (hs_k (a + 3)).1 = 7 ∧ a < 15) a ha
  · exfalso
    have h0 : (hs_k a).1 = 0 := by
      unfold hs_k
      split <;> first | rfl | omega
    omega
theorem hs_ok_nw {S : hs_S} {t a b : Nat} (h : hs_ok S a b) : hs_ok (hs_nw S t) a b := by
  refine ⟨h.1, h.2.1, h.2.2.1, ?_⟩
  show b ≤ if a = t then S.2.2.2 t + 1 else S.2.2.2 a
  have := h.2.2.2
  by_cases e : a = t
  · subst e; rw [if_pos rfl]; omega
  · rw [if_neg e]; exact this
theorem hs_ok_nw_new {S : hs_S} {t : Nat} (h0 : (hs_k t).1 ≠ 0) (h7 : (hs_k t).1 ≠ 7) : hs_ok (hs_nw S t) t (S.2.2.2 t + 1) := by
  refine ⟨h0, h7, by omega, ?_⟩
  show S.2.2.2 t + 1 ≤ if t = t then S.2.2.2 t + 1 else S.2.2.2 t
  rw [if_pos rfl]; omega
theorem hs_ok_nw_inv {S : hs_S} {t a b : Nat} (h : hs_ok (hs_nw S t) a b) : hs_ok S a b ∨ (a = t ∧ b = S.2.2.2 t + 1) := by
  obtain ⟨h1, h2, h3, h4⟩ := h
  have h4 : b ≤ if a = t then S.2.2.2 t + 1 else S.2.2.2 a := h4
  by_cases e : a = t
  · subst e
    rw [if_pos rfl] at h4
    by_cases e2 : b = S.2.2.2 a + 1
    · exact Or.inr ⟨rfl, e2⟩
    · exact Or.inl ⟨h1, h2, h3, by omega⟩
  · rw [if_neg e] at h4
    exact Or.inl ⟨h1, h2, h3, h4⟩
theorem hs_old_ne {S : hs_S} {t a b : Nat} (h : hs_ok S a b) : ¬ (a = t ∧ b = S.2.2.2 t + 1) := by
  rintro ⟨rfl, rfl⟩
  have := h.2.2.2
  omega
theorem hs_x_nw {G0 G : hs_G} {S0 S : hs_S} {t q : Nat} (h : hs_x G0 S0 G S) : hs_x G0 S0 (hs_mG G t (S.2.2.2 t + 1) q) (hs_nw S t) := fun a b hab => ⟨hs_ok_nw (h a b hab).1, by
  show (if a = t ∧ b = S.2.2.2 t + 1 then q else G.1 a b) = _
  rw [if_neg (hs_old_ne (h a b hab).1)]
  exact (h a b hab).2⟩
theorem hs_nw_c {G : hs_G} {S : hs_S} {t q : Nat} {v : hs_V} (h : hs_vv S v) : hs_c (hs_mG G t (S.2.2.2 t + 1) q).1 v = hs_c G.1 v := (hs_x_nw hs_x.rf).c h
theorem hs_nw_o {G : hs_G} {S : hs_S} {t q b r : Nat} (h : r = 0 ∨ hs_ok S b r) : hs_o (hs_mG G t (S.2.2.2 t + 1) q).1 b r = hs_o G.1 b r := by
  unfold hs_o
  by_cases h0 : r = 0
  · rw [if_pos h0, if_pos h0]
  · rw [if_neg h0, if_neg h0]
    show some (if b = t ∧ r = S.2.2.2 t + 1 then q else G.1 b r) = _
    rw [if_neg (hs_old_ne (h.resolve_left h0))]
theorem hs_nw_1 {S : hs_S} {t a b : Nat} (h : ¬ (a = t ∧ b = S.2.2.2 t + 1)) : (hs_nw S t).1 a b = S.1 a b ∧ (hs_nw S t).2.1 a b = S.2.1 a b ∧ (hs_nw S t).2.2.1 a b = S.2.2.1 a b :=
  ⟨funext fun _ => if_neg h, funext fun _ => if_neg h, funext fun _ => if_neg h⟩
/-- what an old thing holds stays -/
theorem hs_nw_e {DA : hs_DA} {G : hs_G} {S : hs_S} {t q : Nat} (hcl : ∀ t i j c, hs_ok S t i → hs_rt t j = some c → S.2.1 t i j = 0 ∨ hs_ok S c (S.2.1 t i j)) (k6 : (hs_k t).1 ≠ 6) (k7 : (hs_k t).1 ≠ 7) {a b : Nat} (hab : hs_in G S a b) : hs_cell DA (hs_mG G t (S.2.2.2 t + 1) q) (hs_nw S t) (a, b) = hs_cell DA G S (a, b) := by
  have hne : ¬ (a = t ∧ b = S.2.2.2 t + 1) := by
    rcases hab with h | h
    · exact hs_old_ne h.1
    · rintro ⟨rfl, -⟩
      exact k7 h.1
  obtain ⟨e1, e2, e3⟩ := hs_nw_1 hne
  refine Prod.ext (if_neg hne) ?_
  show hs_e DA (hs_mG G t (S.2.2.2 t + 1) q) (hs_nw S t) a b = hs_e DA G S a b
  have hc := hcl a b
  unfold hs_rt at hc
  unfold hs_e
  rcases hab with ⟨hok, h8⟩ | ⟨h7, h⟩
  · split
    · rename_i ci N hk
      rw [hk] at hc
      congr 2
      refine List.map_congr_left fun j _ => ?_
      rw [hs_gv_o e1 e2 e3]
      refine hs_nw_c ?_
      unfold hs_gv
      split
      · trivial
      · trivial
      · rename_i c hs
        refine hc j c hok ?_
        show (match hs_sl a j with | c + 2 => some c | _ => none) = some c
        rw [hs]
    · rw [e1]
    · rw [e1]
    · rw [e3]
    · rename_i n' b' hk
      rw [hk] at hc
      rw [e2]
      congr 7
      funext j
      exact hs_nw_o (hc j b' hok rfl)
    · rename_i z hk
      have h6 : (hs_k a).1 = 6 := by rw [hk]
      have h7 := (hs_k6 h6).1
      have n1 : ¬ (a + 3 = t ∧ (1 : Nat) = S.2.2.2 t + 1) := fun z => k7 (z.1 ▸ h7)
      have n2 : ¬ (a = t ∧ (2 : Nat) = S.2.2.2 t + 1) := fun z => k6 (z.1 ▸ h6)
      have e4 : (hs_mG G t (S.2.2.2 t + 1) q).1 (a + 3) 1 = G.1 (a + 3) 1 := if_neg n1
      have e5 : (hs_nw S t).2.1 a 2 0 = S.2.1 a 2 0 := if_neg n2
      rw [e4, e5]
      rfl
    · rfl
    · rfl
  · split
    · rename_i hk; rw [hk] at h7; exact absurd h7 (by simp)
    · rename_i hk; rw [hk] at h7; exact absurd h7 (by simp)
    · rename_i hk; rw [hk] at h7; exact absurd h7 (by simp)
    · rename_i hk; rw [hk] at h7; exact absurd h7 (by simp)
    · rename_i hk; rw [hk] at h7; exact absurd h7 (by simp)
    · rename_i hk; rw [hk] at h7; exact absurd h7 (by simp)
    · rfl
    · rfl
theorem hs_made {D : va_G} {DA : hs_DA} {n0 : Nat → Prop} {G : hs_G} {S : hs_S} {H1 : Heap} {keys : List (Nat × Nat)} {t q : Nat} {e : va_E} (hkey : ∀ t i, (t, i) ∈ keys ↔ hs_in G S t i) (hcl : ∀ t i j c, hs_ok S t i → hs_rt t j = some c → S.2.1 t i j = 0 ∨ hs_ok S c (S.2.1 t i j)) (hLI : hs_LI DA G S) (hb : G.1 101 1 = DA.2.2.1)
    (k0 : (hs_k t).1 ≠ 0) (k6 : (hs_k t).1 ≠ 6) (k7 : (hs_k t).1 ≠ 7) (k8 : (hs_k t).1 ≠ 8) (he : e = hs_e DA (hs_mG G t (S.2.2.2 t + 1) q) (hs_nw S t) t (S.2.2.2 t + 1)) (hP1 : va_P D hs_cl0 (keys.map (hs_cell DA G S) ++ [(q, e)]) H1) (hD1 : va_D n0 (keys.map (hs_cell DA G S) ++ [(q, e)])) :
    hs_P D DA n0 (hs_mG G t (S.2.2.2 t + 1) q) (hs_nw S t) H1 := by
  have ek : keys.map (hs_cell DA G S) ++ [(q, e)] = (keys ++ [(t, S.2.2.2 t + 1)]).map (hs_cell DA (hs_mG G t (S.2.2.2 t + 1) q) (hs_nw S t)) := by
    rw [List.map_append]
    congr 1
    · refine List.map_congr_left fun k hk => ?_
      obtain ⟨a, b⟩ := k
      exact (hs_nw_e hcl k6 k7 ((hkey a b).mp hk)).symm
    · show [(q, e)] = [hs_cell DA (hs_mG G t (S.2.2.2 t + 1) q) (hs_nw S t) (t, S.2.2.2 t + 1)]
      congr 1
      refine Prod.ext ?_ he
      exact (if_pos ⟨rfl, rfl⟩).symm
  rw [ek] at hP1 hD1
  refine ⟨_, fun a b => ?_, hP1, hD1, fun a b j c h1 h2 => ?_, fun a b z hk hok => ?_, ?_⟩
  · rw [List.mem_append, hkey]
    constructor
    · rintro (h | h)
      · rcases h with h | h
        · exact Or.inl ⟨hs_ok_nw h.1, h.2⟩
        · exact Or.inr h
      · have := List.mem_singleton.mp h
        cases this
        exact Or.inl ⟨hs_ok_nw_new k0 k7, k8⟩
    · rintro (h | h)
      · rcases hs_ok_nw_inv h.1 with h2 | ⟨rfl, rfl⟩
        · exact Or.inl (Or.inl ⟨h2, h.2⟩)
        · exact Or.inr (List.mem_singleton.mpr rfl)
      · exact Or.inl (Or.inr h)
  · rcases hs_ok_nw_inv h1 with h3 | ⟨rfl, rfl⟩
    · have e1 : (hs_nw S t).2.1 a b j = S.2.1 a b j := if_neg (hs_old_ne h3)
      rw [e1]
      exact (hcl a b j c h3 h2).imp id hs_ok_nw
    · exact Or.inl (if_pos ⟨rfl, rfl⟩)
  · have h6 : (hs_k a).1 = 6 := by rw [hk]
    have hat : a ≠ t := fun z => k6 (z ▸ h6)
    have h7 := (hs_k6 h6).1
    have ha3 : a + 3 ≠ t := fun z => k7 (z ▸ h7)
    have hok0 : hs_ok S a 1 := (hs_ok_nw_inv hok).resolve_right fun z => hat z.1
    obtain ⟨l1, l2, l3, l4, l5, l6, l7⟩ := hLI a b z hk hok0
    have e1 : ∀ x y, (hs_nw S t).2.1 a x y = S.2.1 a x y := fun x y => if_neg fun z => hat z.1
    have e2 : ∀ x, (hs_mG G t (S.2.2.2 t + 1) q).1 (a + 3) x = G.1 (a + 3) x := fun x => if_neg fun z => ha3 z.1
    have e3 : (hs_nw S t).2.2.2 a = S.2.2.2 a := if_neg hat
    rw [e1, e2, e3]
    refine ⟨l1, l2, l3, l4, fun j hj => ?_, l6, l7⟩
    obtain ⟨g1, g2⟩ := l5 j hj
    rw [e1]
    refine ⟨?_, hs_ok_nw g2⟩
    have : (hs_mG G t (S.2.2.2 t + 1) q).1 b (S.2.1 a 1 j) = G.1 b (S.2.1 a 1 j) := if_neg (hs_old_ne g2)
    rw [this]
    exact g1
  · have : ¬ ((101 : Nat) = t ∧ (1 : Nat) = S.2.2.2 t + 1) := by
      rintro ⟨rfl, -⟩
      exact k8 rfl
    show (if (101 : Nat) = t ∧ (1 : Nat) = S.2.2.2 t + 1 then q else G.1 101 1) = _
    rw [if_neg this]
    exact hb
theorem hs_vv_nw {S : hs_S} {t : Nat} {v : hs_V} (h : hs_vv S v) : hs_vv (hs_nw S t) v := by
  rcases v with x | x | ⟨a, b⟩
  · trivial
  · trivial
  · exact h.imp id hs_ok_nw
def hs_dv (t j : Nat) : Value := match hs_sl t j with
  | 0 => .int 0
  | 1 => .long 0
  | _ => .null
theorem hs_nw_gv {al : Nat → Nat → Nat} {S : hs_S} {t j : Nat} : hs_c al (hs_gv (hs_nw S t) t (S.2.2.2 t + 1) j) = hs_dv t j := by
  unfold hs_gv hs_dv
  split
  · rename_i h
    show Value.int (if t = t ∧ S.2.2.2 t + 1 = S.2.2.2 t + 1 then 0 else _) = _
    rw [if_pos ⟨rfl, rfl⟩, h]; rfl
  · rename_i h
    show Value.long (if t = t ∧ S.2.2.2 t + 1 = S.2.2.2 t + 1 then 0 else _) = _
    rw [if_pos ⟨rfl, rfl⟩, h]; rfl
  · rename_i h
    show hs_c al (.inr (.inr (_, if t = t ∧ S.2.2.2 t + 1 = S.2.2.2 t + 1 then 0 else _))) = _
    rw [if_pos ⟨rfl, rfl⟩, h]
    rfl
theorem wa_new {Z : hs_Z} {own : String} {cc : ByteArray} {nL : Nat} {R0 : Room} {k n : Nat} {S : hs_S} {pc : Nat} {lv : List (Nat × hs_V)} {st : List hs_V} (X : hs_C Z own cc nL R0) {t ci N ix : Nat} {C : String} {T : u_T} (hk : hs_k t = (1, (ci, N))) (hc : hs_cl0[ci]? = some (C, T, N)) (hin : ∀ w ∈ u_ws C T N, w ∈ hs_ws) (ty0 : Nat → FieldType) (hty : ∀ k, k < N → parseFieldDescriptor (T k).2.2.1 = some (ty0 k)) (hdv : ∀ j, j < N → defaultValue (ty0 j) = hs_dv t j)
    (hcl : Cond.classLink own ix C ∈ hs_ws) (hinst : Cond.instantiable C N ∈ hs_ws) (hini : Cond.initialized C ∈ hs_ws) (hd : decode cc pc = .ok (.new ix, 3)) (hR : k + 1 ≤ R0.cells ∧ n + N ≤ R0.slots) (kk : wa Z (k + 1) (n + N) (hs_nw S t) (pc + 3) lv (.inr (.inr (t, S.2.2.2 t + 1)) :: st)) : wa Z k n S pc lv st := by
  obtain ⟨p, l, e, R, s, m, args, below, meth, c, D, DA, n0, G0, S0, Qw⟩ := Z
  obtain ⟨hx, hb, hml, hown, hts, hlk, hst, hW, rfl⟩ := X
  intro G H locs la a1 a2 a3 a4 a5 a6
  obtain ⟨keys, b1, b2, b3, b4, b5, b6⟩ := id a2
  have hz := hW.2.2.2.2.2.2.2.2.2
  refine va_new hx hb hts hin ty0 hty hown (hts _ hcl) (hts _ hinst) (hts _ hini) hW.1 b2 b3 a5 hz hc (fs := (List.range N).map (hs_dv t)) (fun j hj => ?_) hR.1 hR.2 hd fun q H1 hP1 hD1 hS1 => ?_
  · rw [hdv j hj]
    show _ = ((List.range N).map (hs_dv t)).getD j .null
    rw [List.getD_eq_getElem?_getD, List.getElem?_map, List.getElem?_range hj]; rfl
  · have he : (.inr (ci, (List.range N).map (hs_dv t)) : va_E) = hs_e DA (hs_mG G t (S.2.2.2 t + 1) q) (hs_nw S t) t (S.2.2.2 t + 1) := by
      rw [hs_e1 hk]
      congr 2
      exact List.map_congr_left fun j _ => hs_nw_gv.symm
    have hP2 := hs_made b1 b4 b5 b6 (by rw [hk]; simp) (by rw [hk]; simp) (by rw [hk]; simp) (by rw [hk]; simp) he hP1 hD1
    have k0 : (hs_k t).1 ≠ 0 := by rw [hk]; simp
    have k7 : (hs_k t).1 ≠ 7 := by rw [hk]; simp
    have w := kk _ H1 locs la (hs_x_nw (q := q) a1) hP2 (fun v hv => hs_vv_nw (a3 v hv)) (hs_pu (Or.inr (hs_ok_nw_new k0 k7)) fun v hv => hs_vv_nw (a4 v hv)) hS1 (by rw [(hs_x_nw (q := q) (t := t) (hs_x.rf (G := G) (S := S))).cl a3]; exact a6)
    rw [List.map_cons, (hs_x_nw (q := q) (t := t) (hs_x.rf (G := G) (S := S))).cs a4, hs_c_ref (by omega)] at w
    have eq : (hs_mG G t (S.2.2.2 t + 1) q).1 t (S.2.2.2 t + 1) = q := if_pos ⟨rfl, rfl⟩
    rw [eq] at w
    exact w
/-- a row of numbers is made -/
theorem hs_newa {Z : hs_Z} {own : String} {cc : ByteArray} {nL : Nat} {R0 : Room} {k n : Nat} {S : hs_S} {pc : Nat} {lv : List (Nat × hs_V)} {st : List hs_V} (X : hs_C Z own cc nL R0) {t N x : Nat} {v : Int32} {atype : ArrayType} {ty : FieldType} {a0 : vp_A} (ht : ∀ DA : hs_DA, (hs_tys DA)[x]? = some (DA.1 x, ty)) (hty : newarray.typeOf atype = ty) (hra : ∀ (U : State) (c : ClassId), va_RA U c ty → U.vm.findClass ("[" ++ ty.toString) = some c)
    (ha : ∀ cA : ClassId, vp_cell cA a0 = arrV cA N (fun _ => defaultValue ty)) (hac : Cond.arrayClass (newarray.typeOf atype) ∈ hs_ws) (hn : ¬ v < 0) (hN : v.toNatClampNeg = N) (hby : N * componentBytes ty ≤ 536870912) (k0 : (hs_k t).1 ≠ 0) (k6 : (hs_k t).1 ≠ 6) (k7 : (hs_k t).1 ≠ 7) (k8 : (hs_k t).1 ≠ 8)
    (he : ∀ (DA : hs_DA) (G : hs_G), (.inl (DA.1 x, a0) : va_E) = hs_e DA G (hs_nw S t) t (S.2.2.2 t + 1))
    (hd : decode cc pc = .ok (.newarray atype, 2)) (hR : k + 1 ≤ R0.cells ∧ n + N ≤ R0.slots) (kk : wa Z (k + 1) (n + N) (hs_nw S t) (pc + 2) lv (.inr (.inr (t, S.2.2.2 t + 1)) :: st)) : wa Z k n S pc lv (.inl v :: st) := by
  obtain ⟨p, l, e, R, s, m, args, below, meth, c, D, DA, n0, G0, S0, Qw⟩ := Z
  obtain ⟨hx, hb, hml, hown, hts, hlk, hst, hW, rfl⟩ := X
  intro G H locs la a1 a2 a3 a4 a5 a6
  obtain ⟨keys, b1, b2, b3, b4, b5, b6⟩ := id a2
  have hz := hW.2.2.2.2.2.2.2.2.2
  refine va_newa hx hb (hts _ hac) hty hW.1 b2 b3 a5 hz ha hn hN hby hR.1 hR.2 hd fun q cA H1 hK1 hP1 hD1 hS1 => ?_
  have h1 := hK1.2 (hs_tys DA).length (cA, ty) (by rw [List.getElem?_append_right (Nat.le_refl _), Nat.sub_self]; rfl)
  have h2 := hW.1.2 x (DA.1 x, ty) (ht DA)
  have hcA : cA = DA.1 x := Option.some.inj ((hra s cA h1.2).symm.trans (hra s (DA.1 x) h2.2))
  subst hcA
  have hP2 := hs_made b1 b4 b5 b6 k0 k6 k7 k8 (he DA _) hP1 hD1
  have w := kk _ H1 locs la (hs_x_nw (q := q) a1) hP2 (fun v hv => hs_vv_nw (a3 v hv)) (hs_pu (Or.inr (hs_ok_nw_new k0 k7)) fun v hv => hs_vv_nw (hs_n1 a4 v hv)) hS1 (by rw [(hs_x_nw (q := q) (t := t) (hs_x.rf (G := G) (S := S))).cl a3]; exact a6)
  rw [List.map_cons, (hs_x_nw (q := q) (t := t) (hs_x.rf (G := G) (S := S))).cs (hs_n1 a4), hs_c_ref (by omega)] at w
  have eq : (hs_mG G t (S.2.2.2 t + 1) q).1 t (S.2.2.2 t + 1) = q := if_pos ⟨rfl, rfl⟩
  rw [eq] at w
  exact w
theorem hs_nw_row1 {S : hs_S} {t : Nat} : (hs_nw S t).1 t (S.2.2.2 t + 1) = fun _ => 0 := funext fun _ => if_pos ⟨rfl, rfl⟩
theorem hs_nw_row3 {S : hs_S} {t : Nat} : (hs_nw S t).2.2.1 t (S.2.2.2 t + 1) = fun _ => 0 := funext fun _ => if_pos ⟨rfl, rfl⟩
theorem hs_nw_row2 {S : hs_S} {t : Nat} : (hs_nw S t).2.1 t (S.2.2.2 t + 1) = fun _ => 0 := funext fun _ => if_pos ⟨rfl, rfl⟩
theorem wa_newi {Z : hs_Z} {own : String} {cc : ByteArray} {nL : Nat} {R0 : Room} {k n : Nat} {S : hs_S} {pc : Nat} {lv : List (Nat × hs_V)} {st : List hs_V} (X : hs_C Z own cc nL R0) {t N z : Nat} {v : Int32} (hk : hs_k t = (2, (N, z))) (hac : Cond.arrayClass .int ∈ hs_ws) (hn : ¬ v < 0) (hN : v.toNatClampNeg = N) (hby : N * 4 ≤ 536870912)
    (hd : decode cc pc = .ok (.newarray .int, 2)) (hR : k + 1 ≤ R0.cells ∧ n + N ≤ R0.slots) (kk : wa Z (k + 1) (n + N) (hs_nw S t) (pc + 2) lv (.inr (.inr (t, S.2.2.2 t + 1)) :: st)) : wa Z k n S pc lv (.inl v :: st) :=
  hs_newa X (x := 0) (atype := .int) (ty := .int) (a0 := (N, .inl (fun _ => 0))) (fun _ => rfl) rfl (fun _ _ h => h) (fun _ => rfl) hac hn hN hby (by rw [hk]; simp) (by rw [hk]; simp) (by rw [hk]; simp) (by rw [hk]; simp) (fun DA G => by rw [hs_e2 hk, hs_nw_row1]) hd hR kk
theorem wa_newz {Z : hs_Z} {own : String} {cc : ByteArray} {nL : Nat} {R0 : Room} {k n : Nat} {S : hs_S} {pc : Nat} {lv : List (Nat × hs_V)} {st : List hs_V} (X : hs_C Z own cc nL R0) {t N z : Nat} {v : Int32} (hk : hs_k t = (3, (N, z))) (hac : Cond.arrayClass .boolean ∈ hs_ws) (hn : ¬ v < 0) (hN : v.toNatClampNeg = N) (hby : N * 1 ≤ 536870912)
    (hd : decode cc pc = .ok (.newarray .boolean, 2)) (hR : k + 1 ≤ R0.cells ∧ n + N ≤ R0.slots) (kk : wa Z (k + 1) (n + N) (hs_nw S t) (pc + 2) lv (.inr (.inr (t, S.2.2.2 t + 1)) :: st)) : wa Z k n S pc lv (.inl v :: st) :=
  hs_newa X (x := 1) (atype := .boolean) (ty := .boolean) (a0 := (N, .inl (fun _ => 0))) (fun _ => rfl) rfl (fun _ _ h => h) (fun _ => rfl) hac hn hN hby (by rw [hk]; simp) (by rw [hk]; simp) (by rw [hk]; simp) (by rw [hk]; simp) (fun DA G => by rw [hs_e3 hk, hs_nw_row1]) hd hR kk
/-- a row of references is made -/
theorem wa_newq {Z : hs_Z} {own : String} {cc : ByteArray} {nL : Nat} {R0 : Room} {k n : Nat} {S : hs_S} {pc : Nat} {lv : List (Nat × hs_V)} {st : List hs_V} (X : hs_C Z own cc nL R0) {t N b ix : Nat} {C : String} {v : Int32} (hk : hs_k t = (5, (N, b))) (ht : ∀ DA : hs_DA, (hs_tys DA)[hs_rk b]? = some (DA.1 (hs_rk b), .object C)) (hC : C = RX8 ∨ C = RX5) (hcl : Cond.classLink own ix C ∈ hs_ws) (hn : ¬ v < 0) (hN : v.toNatClampNeg = N) (hby : N * 4 ≤ 536870912)
    (hd : decode cc pc = .ok (.anewarray ix, 3)) (hR : k + 1 ≤ R0.cells ∧ n + N ≤ R0.slots) (kk : wa Z (k + 1) (n + N) (hs_nw S t) (pc + 3) lv (.inr (.inr (t, S.2.2.2 t + 1)) :: st)) : wa Z k n S pc lv (.inl v :: st) := by
  obtain ⟨p, l, e, R, s, m, args, below, meth, c, D, DA, n0, G0, S0, Qw⟩ := Z
  obtain ⟨hx, hb, hml, hown, hts, hlk, hst, hW, rfl⟩ := X
  intro G H locs la a1 a2 a3 a4 a5 a6
  obtain ⟨keys, b1, b2, b3, b4, b5, b6⟩ := id a2
  have hz := hW.2.2.2.2.2.2.2.2.2
  have hAO : va_AO C s := by
    rcases hC with rfl | rfl
    · exact hW.2.2.1.1
    · exact hW.2.2.1.2.1
  refine va_newq hx hb hown (hts _ hcl) hAO hW.1 b2 b3 a5 hz hn hN hby hR.1 hR.2 hd fun q cA H1 hK1 hP1 hD1 hS1 => ?_
  have h1 := hK1.2 (hs_tys DA).length (cA, .object C) (by rw [List.getElem?_append_right (Nat.le_refl _), Nat.sub_self]; rfl)
  have h2 := hW.1.2 (hs_rk b) (DA.1 (hs_rk b), .object C) (ht DA)
  obtain ⟨_, _, -, -, -, f1⟩ := h1.2
  obtain ⟨_, _, -, -, -, f2⟩ := h2.2
  have hcA : cA = DA.1 (hs_rk b) := Option.some.inj (f1.symm.trans f2)
  subst hcA
  have k0 : (hs_k t).1 ≠ 0 := by rw [hk]; simp
  have k7 : (hs_k t).1 ≠ 7 := by rw [hk]; simp
  have he : (.inl (DA.1 (hs_rk b), N, .inr (.inr (.inr (.inr (fun _ => none))))) : va_E) = hs_e DA (hs_mG G t (S.2.2.2 t + 1) q) (hs_nw S t) t (S.2.2.2 t + 1) := by
    rw [hs_e5 hk, hs_nw_row2]
    rfl
  have hP2 := hs_made b1 b4 b5 b6 k0 (by rw [hk]; simp) k7 (by rw [hk]; simp) he hP1 hD1
  have w := kk _ H1 locs la (hs_x_nw (q := q) a1) hP2 (fun v hv => hs_vv_nw (a3 v hv)) (hs_pu (Or.inr (hs_ok_nw_new k0 k7)) fun v hv => hs_vv_nw (hs_n1 a4 v hv)) hS1 (by rw [(hs_x_nw (q := q) (t := t) (hs_x.rf (G := G) (S := S))).cl a3]; exact a6)
  rw [List.map_cons, (hs_x_nw (q := q) (t := t) (hs_x.rf (G := G) (S := S))).cs (hs_n1 a4), hs_c_ref (by omega)] at w
  have eq : (hs_mG G t (S.2.2.2 t + 1) q).1 t (S.2.2.2 t + 1) = q := if_pos ⟨rfl, rfl⟩
  rw [eq] at w
  exact w
theorem wa_aast {Z : hs_Z} {own : String} {cc : ByteArray} {nL : Nat} {R0 : Room} {k n : Nat} {S : hs_S} {pc : Nat} {lv : List (Nat × hs_V)} {st : List hs_V} (X : hs_C Z own cc nL R0) {t i N b r cb Nb : Nat} {x : Int32} {rb : vw_C} (hk : hs_k t = (5, (N, b))) (hkb : hs_k b = (1, (cb, Nb))) (hcb : hs_cl0[cb]? = some rb) (ht : ∀ DA : hs_DA, (hs_tys DA)[hs_rk b]? = some (DA.1 (hs_rk b), .object rb.1)) (hd : decode cc pc = .ok (.aastore, 1)) (hi : i ≠ 0) (hr : 0 ≤ x.toInt ∧ x.toInt < N) (hr0 : r ≠ 0) (kk : wa Z k n (hs_wR S t i x.toNatClampNeg r) (pc + 1) lv st) : wa Z k n S pc lv (.inr (.inr (b, r)) :: .inl x :: .inr (.inr (t, i)) :: st) := by
  obtain ⟨p, l, e, R, s, m, args, below, meth, c, D, DA, n0, G0, S0, Qw⟩ := Z
  obtain ⟨hx, hb, hml, hown, hts, hlk, hst, hW, rfl⟩ := X
  intro G H locs la a1 a2 a3 a4 a5 a6
  obtain ⟨keys, b1, b2, b3, b4, b5, b6⟩ := id a2
  have hok : hs_ok S t i := (hs_h3 a4).resolve_left hi
  have hokr : hs_ok S b r := (hs_h1 a4).resolve_left hr0
  obtain ⟨q0, e1, e2⟩ := hs_key (D := D) (DA := DA) (n0 := n0) (H := H) b1 hok (by rw [hk]; simp)
  obtain ⟨q1, f1, f2⟩ := hs_key (D := D) (DA := DA) (n0 := n0) (H := H) b1 hokr (by rw [hkb]; simp)
  rw [hs_e5 hk] at e1
  rw [hs_e1 hkb] at f1
  rw [List.map_cons, List.map_cons, List.map_cons, hs_c_ref hi, hs_c_ref hr0]
  refine va_astq hx hb hW.1 b2 b3 a5 q0 (hs_rk b) q1 cb e1 (ht DA) f1 hcb (hs_ix hr) hd fun H1 locs1 hP1 hD1 hS1 => ?_
  have he : (.inl (DA.1 (hs_rk b), N, .inr (.inr (.inr (.inr (va_up (fun j => hs_o G.1 b (S.2.1 t i j)) x.toNatClampNeg (some (G.1 b r))))))) : va_E) = hs_e DA G (hs_put S t i x.toNatClampNeg (.inr (.inr (b, r)))) t i := by
    rw [hs_e5 hk]
    congr 7
    funext j
    show va_up (fun j => hs_o G.1 b (S.2.1 t i j)) x.toNatClampNeg (some (G.1 b r)) j = hs_o G.1 b (hs_u3 S.2.1 t i x.toNatClampNeg r t i j)
    rw [hs_u3_s]
    unfold va_up
    by_cases hj : j = x.toNatClampNeg
    · rw [if_pos hj, if_pos hj]
      unfold hs_o
      rw [if_neg hr0]
    · rw [if_neg hj, if_neg hj]
  rw [he] at hP1 hD1
  exact kk G H1 locs1 la (a1.put t i x.toNatClampNeg (.inr (.inr (b, r)))) (hs_written (v := .inr (.inr (b, r))) b1 b3 b4 b5 b6 e2 (by rw [hk]; simp) (hs_h1 a4) (fun q hq => by cases hq; unfold hs_rt; rw [hk]; rfl) hP1 hD1) (hs_put_vl (v := .inr (.inr (b, r))) a3) (hs_put_vv (v := .inr (.inr (b, r))) (hs_n3 a4)) hS1 a6
theorem wa_objInit {Z : hs_Z} {own : String} {cc : ByteArray} {nL : Nat} {R0 : Room} {k n : Nat} {S : hs_S} {pc : Nat} {lv : List (Nat × hs_V)} {st : List hs_V} (X : hs_C Z own cc nL R0) {t i ix : Nat} (hl : Cond.methodLink own ix Lib.objectInit ∈ hs_ws) (h1 : Cond.instanceMethod Lib.objectInit ∈ hs_ws) (h2 : Cond.code Lib.objectInit ⟨#[0xb1]⟩ 1 none ∈ hs_ws) (hd : decode cc pc = .ok (.invokespecial ix, 3)) (hi : i ≠ 0) (hR : 1 ≤ R0.frames ∧ (st.map hs_cat).sum + 12 ≤ R0.locals) (kk : wa Z k n S (pc + 3) lv st) : wa Z k n S pc lv (.inr (.inr (t, i)) :: st) := by
  obtain ⟨p, l, e, R, s, m, args, below, meth, c, D, DA, n0, G0, S0, Qw⟩ := Z
  obtain ⟨hx, hb, hml, hown, hts, hlk, hst, hW, rfl⟩ := X
  intro G H locs la a1 a2 a3 a4 a5 a6
  rw [List.map_cons, hs_c_ref hi]
  refine W.objInit hx hb hown (hts _ hl) (hts _ h1) (hts _ h2) rfl a6.1 rfl hd hR.1 ?_ (kk G H locs la a1 a2 a3 (hs_n1 a4) a5 a6)
  have hcat : ((st.map (hs_c G.1)).map fun v => v.category) = st.map hs_cat := by
    rw [List.map_map]
    exact List.map_congr_left fun v _ => hs_c_cat G.1 v
  rw [hcat]
  show 2 * 0 + _ + 12 ≤ _
  omega
theorem wa_cast {Z : hs_Z} {own : String} {cc : ByteArray} {nL : Nat} {R0 : Room} {k n : Nat} {S : hs_S} {pc : Nat} {lv : List (Nat × hs_V)} {st : List hs_V} (X : hs_C Z own cc nL R0) {t i ix ci N : Nat} {rc : vw_C} (hk : hs_k t = (1, (ci, N))) (hc : hs_cl0[ci]? = some rc) (hl : Cond.classLink own ix rc.1 ∈ hs_ws) (hd : decode cc pc = .ok (.checkcast ix, 3)) (hi : i ≠ 0) (kk : wa Z k n S (pc + 3) lv (.inr (.inr (t, i)) :: st)) : wa Z k n S pc lv (.inr (.inr (t, i)) :: st) := by
  obtain ⟨p, l, e, R, s, m, args, below, meth, c, D, DA, n0, G0, S0, Qw⟩ := Z
  obtain ⟨hx, hb, hml, hown, hts, hlk, hst, hW, rfl⟩ := X
  intro G H locs la a1 a2 a3 a4 a5 a6
  obtain ⟨keys, b1, b2, b3, b4, b5, b6⟩ := id a2
  have hok : hs_ok S t i := (hs_h1 a4).resolve_left hi
  obtain ⟨q0, e1, e2⟩ := hs_key (D := D) (DA := DA) (n0 := n0) (H := H) b1 hok (by rw [hk]; simp)
  rw [hs_e1 hk] at e1
  have w := kk G H locs la a1 a2 a3 a4 a5 a6
  rw [List.map_cons, hs_c_ref hi] at w ⊢
  exact va_castS hx hb hown (hts _ hl) (hW.1.1 ci _ hc).2 (va_recv hW.1 b2 hc e1) hd w
/-- System.arraycopy over two rows of ints -/
theorem wa_copyi {Z : hs_Z} {own : String} {cc : ByteArray} {nL : Nat} {R0 : Room} {k n : Nat} {S : hs_S} {pc : Nat} {lv : List (Nat × hs_V)} {st : List hs_V} (X : hs_C Z own cc nL R0) {t i t' i' N N' z z' ix : Nat} {sp dp w : Int32} (hk : hs_k t = (2, (N, z))) (hk' : hs_k t' = (2, (N', z'))) (hl : Cond.methodLink own ix arraycopyName ∈ hs_ws) (h1 : Cond.native arraycopyName ∈ hs_ws) (h2 : Cond.static arraycopyName ∈ hs_ws) (h3 : Cond.initialized "java/lang/System" ∈ hs_ws)
    (hd : decode cc pc = .ok (.invokestatic ix, 3)) (hi : i ≠ 0) (hi' : i' ≠ 0) (hR : 1 ≤ R0.frames ∧ (st.map hs_cat).sum + (nativeFrameWords "java/lang/System" "arraycopy" 5 + 11) ≤ R0.locals) (g1 : ¬ sp < 0) (g2 : ¬ dp < 0) (g3 : ¬ w < 0) (g4 : sp.toNatClampNeg + w.toNatClampNeg ≤ N) (g5 : dp.toNatClampNeg + w.toNatClampNeg ≤ N')
    (kk : wa Z k n (fun a b c => if a = t' ∧ b = i' then va_cpy (S.1 t i) (S.1 t' i') sp.toNatClampNeg dp.toNatClampNeg w.toNatClampNeg c else S.1 a b c, S.2) (pc + 3) lv st) : wa Z k n S pc lv (.inl w :: .inl dp :: .inr (.inr (t', i')) :: .inl sp :: .inr (.inr (t, i)) :: st) := by
  obtain ⟨p, l, e, R, s, m, args, below, meth, c, D, DA, n0, G0, S0, Qw⟩ := Z
  obtain ⟨hx, hb, hml, hown, hts, hlk, hst, hW, rfl⟩ := X
  intro G H locs la a1 a2 a3 a4 a5 a6
  obtain ⟨keys, b1, b2, b3, b4, b5, b6⟩ := id a2
  have a4' := hs_n2 a4
  have hok' : hs_ok S t' i' := (hs_h1 a4').resolve_left hi'
  have hok : hs_ok S t i := (hs_h3 a4').resolve_left hi
  obtain ⟨q0, e1, e2⟩ := hs_key (D := D) (DA := DA) (n0 := n0) (H := H) b1 hok (by rw [hk]; simp)
  obtain ⟨q1, f1, f2⟩ := hs_key (D := D) (DA := DA) (n0 := n0) (H := H) b1 hok' (by rw [hk']; simp)
  rw [hs_e2 hk] at e1
  rw [hs_e2 hk'] at f1
  rw [List.map_cons, List.map_cons, List.map_cons, List.map_cons, List.map_cons, hs_c_ref hi, hs_c_ref hi']
  have hcat : ((st.map (hs_c G.1)).map fun v => v.category) = st.map hs_cat := by
    rw [List.map_map]
    exact List.map_congr_left fun v _ => hs_c_cat G.1 v
  refine va_copyi hx hb a6.1.symm hown (hts _ hl) (hts _ h1) (hts _ h2) (hts _ h3) hW.1 b2 b3 a5 q0 q1 0 0 e1 f1 rfl rfl rfl g1 g2 g3 g4 g5 (fun j _ => rfl) hR.1 (by rw [hcat]; exact hR.2) hd fun H1 locs1 hP1 hD1 hS1 => ?_
  have eN : ∀ {a b : Nat}, hs_ok (fun a b c => if a = t' ∧ b = i' then va_cpy (S.1 t i) (S.1 t' i') sp.toNatClampNeg dp.toNatClampNeg w.toNatClampNeg c else S.1 a b c, S.2) a b ↔ hs_ok S a b := Iff.rfl
  have he : (.inl (DA.1 0, N', .inl (va_cpy (S.1 t i) (S.1 t' i') sp.toNatClampNeg dp.toNatClampNeg w.toNatClampNeg)) : va_E) = hs_e DA G (fun a b c => if a = t' ∧ b = i' then va_cpy (S.1 t i) (S.1 t' i') sp.toNatClampNeg dp.toNatClampNeg w.toNatClampNeg c else S.1 a b c, S.2) t' i' := by
    rw [hs_e2 hk']
    congr 4
    funext c
    exact (if_pos ⟨rfl, rfl⟩).symm
  rw [he] at hP1 hD1
  have eu := hs_upd (S' := (fun a b c => if a = t' ∧ b = i' then va_cpy (S.1 t i) (S.1 t' i') sp.toNatClampNeg dp.toNatClampNeg w.toNatClampNeg c else S.1 a b c, S.2)) b3 f2 (fun k hk2 hne => by
    obtain ⟨a, b⟩ := k
    refine Prod.ext rfl (hs_e_o (funext fun c => if_neg fun z => hne (Prod.ext z.1 z.2)) rfl rfl fun _ => rfl))
  unfold hs_cell at eu
  unfold hs_cell at hP1 hD1
  rw [eu] at hP1 hD1
  exact kk G H1 locs1 la (fun a b q => a1 a b q) ⟨keys, b1, hP1, hD1, b4, b5, b6⟩ a3 (fun v hv => hs_n2 (hs_n3 a4) v hv) hS1 a6
/-- the script -/
theorem wa_sald {Z : hs_Z} {own : String} {cc : ByteArray} {nL : Nat} {R0 : Room} {k n : Nat} {S : hs_S} {pc : Nat} {lv : List (Nat × hs_V)} {st : List hs_V} (X : hs_C Z own cc nL R0) {i L : Nat} {xs : Nat → Int32} {x : Int32} (hL : ∀ p l e R s m args below meth c D DA n0 G0 S0 Qw, Z = (p, l, e, R, s, m, args, below, meth, c, D, DA, n0, G0, S0, Qw) → DA.2.2.2 = (L, xs)) (hN : S.2.2.2 101 ≤ 1) (hd : decode cc pc = .ok (.iaload, 1)) (hi : i ≠ 0) (hr : 0 ≤ x.toInt ∧ x.toInt < L) (kk : wa Z k n S (pc + 1) lv (.inl (xs x.toNatClampNeg) :: st)) : wa Z k n S pc lv (.inl x :: .inr (.inr (101, i)) :: st) := by
  obtain ⟨p, l, e, R, s, m, args, below, meth, c, D, DA, n0, G0, S0, Qw⟩ := Z
  have hL := hL _ _ _ _ _ _ _ _ _ _ _ _ _ _ _ _ rfl
  obtain ⟨hx, hb, hml, hown, hts, hlk, hst, hW, hR⟩ := X
  intro G H locs la a1 a2 a3 a4 a5 a6
  obtain ⟨keys, b1, b2, b3, b4, b5, b6⟩ := id a2
  have hok : hs_ok S 101 i := (hs_h2 a4).resolve_left hi
  have hi1 : i = 1 := by have := hok.2.2.2; have := hok.2.2.1; omega
  subst hi1
  obtain ⟨⟨c1, c2, c3, c5, c6⟩, c4⟩ := hW.2.2.2.2.2.2.2.2
  rw [hL] at c1
  rw [List.map_cons, List.map_cons, hs_c_ref hi, b6]
  exact va_sld hx hb c1 c5 c2 a5 (hs_ix hr) hd (kk G H locs la a1 a2 a3 (hs_pu trivial (hs_n2 a4)) a5 a6)
theorem wa_slen {Z : hs_Z} {own : String} {cc : ByteArray} {nL : Nat} {R0 : Room} {k n : Nat} {S : hs_S} {pc : Nat} {lv : List (Nat × hs_V)} {st : List hs_V} (X : hs_C Z own cc nL R0) {i L : Nat} {xs : Nat → Int32} (hL : ∀ p l e R s m args below meth c D DA n0 G0 S0 Qw, Z = (p, l, e, R, s, m, args, below, meth, c, D, DA, n0, G0, S0, Qw) → DA.2.2.2 = (L, xs)) (hN : S.2.2.2 101 ≤ 1) (hd : decode cc pc = .ok (.arraylength, 1)) (hi : i ≠ 0) (kk : wa Z k n S (pc + 1) lv (.inl (Int32.ofNat L) :: st)) : wa Z k n S pc lv (.inr (.inr (101, i)) :: st) := by
  obtain ⟨p, l, e, R, s, m, args, below, meth, c, D, DA, n0, G0, S0, Qw⟩ := Z
  have hL := hL _ _ _ _ _ _ _ _ _ _ _ _ _ _ _ _ rfl
  obtain ⟨hx, hb, hml, hown, hts, hlk, hst, hW, hR⟩ := X
  intro G H locs la a1 a2 a3 a4 a5 a6
  obtain ⟨keys, b1, b2, b3, b4, b5, b6⟩ := id a2
  have hok : hs_ok S 101 i := (hs_h1 a4).resolve_left hi
  have hi1 : i = 1 := by have := hok.2.2.2; have := hok.2.2.1; omega
  subst hi1
  obtain ⟨⟨c1, c2, c3, c5, c6⟩, c4⟩ := hW.2.2.2.2.2.2.2.2
  rw [hL] at c1
  rw [List.map_cons, hs_c_ref hi, b6]
  exact va_slen hx hb c1 c5 c2 a5 hd (kk G H locs la a1 a2 a3 (hs_pu trivial (hs_n1 a4)) a5 a6)
