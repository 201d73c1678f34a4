/-! ===== the second sheet is made ===== -/
theorem gi_l {α : Type} {a b : List α} {k : Nat} {x : α} (h : a[k]? = some x) : (a ++ b)[k]? = some x := by
  rw [List.getElem?_append_left (List.getElem?_eq_some_iff.mp h).1]; exact h
theorem gi_r {α : Type} {a b : List α} {k : Nat} {x : α} (h : b[k]? = some x) : (a ++ b)[a.length + k]? = some x := by
  rw [List.getElem?_append_right (by omega), Nat.add_sub_cancel_left]; exact h
theorem gi_c {α : Type} {a b : List α} {k : Nat} {x : α} (h : (a ++ b)[k]? = some x) : (k < a.length ∧ a[k]? = some x) ∨ (a.length ≤ k ∧ b[k - a.length]? = some x) := by
  by_cases q : k < a.length
  · rw [List.getElem?_append_left q] at h; exact Or.inl ⟨q, h⟩
  · rw [List.getElem?_append_right (by omega)] at h; exact Or.inr ⟨by omega, h⟩
theorem wb_new2 {Z : b_Z} {own : String} {cc : ByteArray} {nL : Nat} {R0 : Room} {k n : Nat} {S : b_S} {pc : Nat} {lv : List (Nat × hs_V)} {st : List hs_V} (X : b_C Z own cc nL R0) {t ci N ix : Nat} {C : String} {T : u_T} (hk : hs_k t = (1, (ci, N))) (hc : hs_cl0[ci]? = some (C, T, N)) (hin : ∀ w ∈ u_ws C T N, w ∈ hs_ws) (ty0 : Nat → FieldType) (hty : ∀ k, k < N → parseFieldDescriptor (T k).2.2.1 = some (ty0 k)) (hdv : ∀ j, j < N → defaultValue (ty0 j) = hs_dv t j)
    (hcl : Cond.classLink own ix C ∈ hs_ws) (hinst : Cond.instantiable C N ∈ hs_ws) (hini : Cond.initialized C ∈ hs_ws) (hd : decode cc pc = .ok (.new ix, 3)) (hR : k + 1 ≤ R0.cells ∧ n + N ≤ R0.slots) (kk : wb Z (k + 1) (n + N) (S.1, hs_nw S.2 t) (pc + 3) lv (.inr (.inr (t + 200, S.2.2.2.2 t + 1)) :: st)) : wb Z k n S pc lv st := by
  obtain ⟨p, l, e, R, s, m, args, below, meth, c, D, DA, n0, G0, S0, Qw⟩ := Z
  obtain ⟨hx, hb, hml, hown, hts, hlk, hst, hW, rfl⟩ := X
  intro G H locs la a1 a2 a3 a4 a5 a6
  obtain ⟨B1, B2, c1, c2, c3, p1, p2⟩ := a2
  obtain ⟨keys1, d1, d2, d3, d4⟩ := p1
  obtain ⟨keys2, b1, b2, b3, b4, b5, b6⟩ := p2
  have hz := hW.2.2.2.2.2.2.2.2.2
  have bP := d2.app b2
  have bD : va_D n0 (keys1.map (hs_cell DA G.1 S.1) ++ keys2.map (hs_cell DA G.2 S.2)) := by
    refine ⟨fun i j x y hi hj hxy => ?_, fun i x hi => ?_⟩
    · rcases gi_c hi with ⟨i1, i2⟩ | ⟨i1, i2⟩ <;> rcases gi_c hj with ⟨j1, j2⟩ | ⟨j1, j2⟩
      · exact d3.1 i j x y i2 j2 hxy
      · exact absurd (b3.2 _ y j2) (by rw [← hxy]; exact c3 _ (d3.2 _ x i2))
      · exact absurd (b3.2 _ x i2) (by rw [hxy]; exact c3 _ (d3.2 _ y j2))
      · have := b3.1 _ _ x y i2 j2 hxy
        omega
    · rcases gi_c hi with ⟨_, i2⟩ | ⟨_, i2⟩
      · exact (c1 _ (d3.2 _ x i2)).1
      · exact (c2 _ (b3.2 _ x i2)).1
  refine va_new hx hb hts hin ty0 hty hown (hts _ hcl) (hts _ hinst) (hts _ hini) hW.1 bP bD a5 hz hc (fs := (List.range N).map (hs_dv t)) (fun j hj => ?_) hR.1 hR.2 hd fun q H1 hP1 hD1 hS1 => ?_
  · rw [hdv j hj]
    show _ = ((List.range N).map (hs_dv t)).getD j .null
    rw [List.getD_eq_getElem?_getD, List.getElem?_map, List.getElem?_range hj]; rfl
  · have he : (.inr (ci, (List.range N).map (hs_dv t)) : va_E) = hs_e DA (hs_mG G.2 t (S.2.2.2.2 t + 1) q) (hs_nw S.2 t) t (S.2.2.2.2 t + 1) := by
      rw [hs_e1 hk]
      congr 2
      exact List.map_congr_left fun j _ => hs_nw_gv.symm
    have P1 : va_P D hs_cl0 (keys1.map (hs_cell DA G.1 S.1)) H1 := fun i x hi => hP1 i x (gi_l (gi_l hi))
    have idx : ∀ i x, (keys2.map (hs_cell DA G.2 S.2) ++ [(q, .inr (ci, (List.range N).map (hs_dv t)))])[i]? = some x → ((keys1.map (hs_cell DA G.1 S.1) ++ keys2.map (hs_cell DA G.2 S.2)) ++ [(q, .inr (ci, (List.range N).map (hs_dv t)))])[(keys1.map (hs_cell DA G.1 S.1)).length + i]? = some x := fun i x hi => by
      rw [List.append_assoc]; exact gi_r hi
    have P2 : va_P D hs_cl0 (keys2.map (hs_cell DA G.2 S.2) ++ [(q, .inr (ci, (List.range N).map (hs_dv t)))]) H1 := fun i x hi => hP1 _ x (idx i x hi)
    have hq : ((keys1.map (hs_cell DA G.1 S.1) ++ keys2.map (hs_cell DA G.2 S.2)) ++ [(q, (.inr (ci, (List.range N).map (hs_dv t)) : va_E))])[(keys1.map (hs_cell DA G.1 S.1) ++ keys2.map (hs_cell DA G.2 S.2)).length + 0]? = some (q, .inr (ci, (List.range N).map (hs_dv t))) := gi_r rfl
    have D1 : va_D (fun x => B1 x ∧ x ≠ q ∧ x < H1.size) (keys1.map (hs_cell DA G.1 S.1)) := ⟨d3.1, fun i x hi => ⟨d3.2 i x hi, fun z => by
      have h1 := hD1.1 i _ x _ (gi_l (gi_l hi)) hq z
      have h2 := (List.getElem?_eq_some_iff.mp hi).1
      rw [List.length_append] at h1
      omega, (P1 i x hi).lt⟩⟩
    have D2 : va_D (fun x => (B2 x ∨ x = q) ∧ x < H1.size) (keys2.map (hs_cell DA G.2 S.2) ++ [(q, .inr (ci, (List.range N).map (hs_dv t)))]) := by
      refine ⟨fun i j x y hi hj hxy => ?_, fun i x hi => ⟨?_, (P2 i x hi).lt⟩⟩
      · have := hD1.1 _ _ x y (idx i x hi) (idx j y hj) hxy
        omega
      · rcases gi_c hi with ⟨_, i2⟩ | ⟨i1, i2⟩
        · exact Or.inl (b3.2 _ x i2)
        · have hl := (List.getElem?_eq_some_iff.mp i2).1
          have z0 : i - (keys2.map (hs_cell DA G.2 S.2)).length = 0 := by
            rw [List.length_singleton] at hl; omega
          rw [z0] at i2
          exact Or.inr (congrArg Prod.fst (Option.some.inj i2)).symm
    have hP2 := hs_made (n0 := fun x => (B2 x ∨ x = q) ∧ x < H1.size) b1 b4 b5 b6 (by rw [hk]; simp) (by rw [hk]; simp) (by rw [hk]; simp) (by rw [hk]; simp) he P2 D2
    have k0 : (hs_k t).1 ≠ 0 := by rw [hk]; simp
    have k7 : (hs_k t).1 ≠ 7 := by rw [hk]; simp
    have hx3 : b_x G S (G.1, hs_mG G.2 t (S.2.2.2.2 t + 1) q) (S.1, hs_nw S.2 t) := ⟨hs_x.rf, hs_x_nw hs_x.rf⟩
    have w := kk (G.1, hs_mG G.2 t (S.2.2.2.2 t + 1) q) H1 locs la (a1.tr hx3) ⟨fun x => B1 x ∧ x ≠ q ∧ x < H1.size, fun x => (B2 x ∨ x = q) ∧ x < H1.size, fun x z => ⟨(c1 x z.1).1, z.2.2⟩, fun x z => ⟨z.1.elim (fun y => (c2 x y).1) (fun y => by rw [y]; exact hD1.2 _ _ hq), z.2⟩, fun x z1 z2 => z2.1.elim (fun y => c3 x z1.1 y) z1.2.1, ⟨keys1, d1, P1, D1, d4⟩, hP2⟩ (fun v hv => hx3.vv (a3 v hv)) (fun v hv => (List.mem_cons.mp hv).elim (fun h => by rw [h]; exact Or.inr (Or.inr ⟨by show 200 ≤ t + 200; omega, by show hs_ok (hs_nw S.2 t) (t + 200 - 200) (S.2.2.2.2 t + 1); rw [Nat.add_sub_cancel]; exact hs_ok_nw_new k0 k7⟩)) fun h => hx3.vv (a4 v h)) hS1 (by rw [hx3.cl a3]; exact a6)
    rw [List.map_cons, hx3.cs a4, hs_c_ref (by omega)] at w
    have eq : b_al (G.1, hs_mG G.2 t (S.2.2.2.2 t + 1) q) (t + 200) (S.2.2.2.2 t + 1) = q := by
      show (if t + 200 < 200 then _ else (hs_mG G.2 t (S.2.2.2.2 t + 1) q).1 (t + 200 - 200) (S.2.2.2.2 t + 1)) = q
      rw [if_neg (by omega), Nat.add_sub_cancel]
      exact if_pos ⟨rfl, rfl⟩
    rw [eq] at w
    exact w
theorem wb_callI2 {Z : b_Z} {own : String} {cc : ByteArray} {nL : Nat} {R0 : Room} {k n : Nat} {S : b_S} {pc : Nat} {lv : List (Nat × hs_V)} {st st0 : List hs_V} (X : b_C Z own cc nL R0) {d mc mS ix maxL nA t i : Nat} {y : MethodName} {bytes : ByteArray} {As : List hs_V} {Q : Option hs_V → hs_S → Prop}
    (hM : hs_M d y (.code y bytes maxL none) (.inr (.inr (t, i)) :: As) S.2 mc mS Q hs_nX) (hn : ∀ v S', Q v S' → b_nr v) (hcw : Cond.code y bytes maxL none ∈ hs_ws) (hin : Cond.initialized y.cls ∈ hs_ws) (hlk : Cond.methodLink own ix y ∈ hs_ws) (hinst : Cond.instanceMethod y ∈ hs_ws) (hyn : y.name = "<init>")
    (hdd : y.cls ≠ "java/lang/invoke/MethodHandle" ∧ y.cls ≠ "java/lang/invoke/VarHandle" ∧ (parseMethodDescriptor y.desc).map (fun d => d.parameters.length) = some nA) (hnA : As.length = nA) (hst : st0 = (As.map b_up).reverse ++ (.inr (.inr (t + 200, i)) : hs_V) :: st) (hcat : (st.map hs_cat).sum ≤ 8) (hd : decode cc pc = .ok (.invokespecial ix, 3)) (hi : i ≠ 0)
    (hR : (d + 1 ≤ R0.frames ∧ 8 + (maxL + 11) + 64 * d ≤ R0.locals) ∧ k + mc ≤ R0.cells ∧ n + mS ≤ R0.slots)
    (kk : ∀ v S', Q v S' → wb Z (k + mc) (n + mS) (S.1, S') (pc + 3) lv (v.toList ++ st)) : wb Z k n S pc lv st0 := by
  subst hst
  refine wb_run2 X (Q := Q) ?_ (fun v hv => List.mem_append_right _ (List.mem_cons_of_mem _ hv)) hn kk
  rintro p l e R s m args below meth c D DA n0 G0 S0 Qw rfl A G H locs la hA hB a2 a4 a5 hsz
  obtain ⟨hx, hb, hml, hown, hts, hlk0, hst0, hW, rfl⟩ := X
  have hav0 : ∀ v ∈ As, hs_vv S.2 v := fun v hv => b_up_v (a4 _ (List.mem_append_left _ (List.mem_reverse.mpr (List.mem_map_of_mem (f := b_up) hv))))
  have hAs : ((As.map b_up).map (hs_c (b_al G))) = As.map (hs_c G.2.1) := b_up_cs
  have hvv : hs_vv S.2 (.inr (.inr (t, i))) := b_up_v (v := .inr (.inr (t, i))) (a4 _ (List.mem_append_right _ List.mem_cons_self))
  have hav : ∀ v ∈ (.inr (.inr (t, i)) :: As : List hs_V), hs_vv S.2 v := hs_pu hvv hav0
  have htold := b_told1 (av := .inr (.inr (t, i)) :: As) hW a2 a5 hA hB
  rw [List.map_cons, hs_c_ref hi] at htold
  have hM1 := hM l D DA A G.2 hst0 hav
  have hr0 : hs_c (b_al G) (.inr (.inr (t + 200, i)) : hs_V) = .ref (G.2.1 t i) := by
    rw [hs_c_ref hi]
    show Value.ref (if t + 200 < 200 then _ else _) = _
    rw [if_neg (show ¬ t + 200 < 200 by omega), Nat.add_sub_cancel]
  have hs0 : (((As.map b_up).reverse ++ (.inr (.inr (t + 200, i)) : hs_V) :: st).map (hs_c (b_al G))) = (As.map (hs_c G.2.1)).reverse ++ .ref (G.2.1 t i) :: st.map (hs_c (b_al G)) := by
    rw [List.map_append, List.map_cons, List.map_reverse, hAs, hr0]
  rw [hs0]
  exact ⟨_, vx_runI (Ts := hs_ws) (own := own) (b := G.2.1 t i) (As := As.map (hs_c G.2.1)) ⟨hx, hb, hml, hown, hts⟩ hM1 ⟨hs_callB hts hcw hin hlk hdd hR.1, hyn, hts _ hinst⟩ ⟨hs_blind, htold⟩ rfl (by rw [List.length_map]; exact hnA) (hsz.trans hml) rfl (hs_W8 hcat) hd hR.2⟩
