/-! ===== calls out of both worlds ===== -/
theorem hs_callW {R : Room} {s : State} {args : Array Value} {own : String} {ix maxL d mc mS nA : Nat} {y : MethodName} {bytes : ByteArray} {ret : Option FieldType} {hh : List (Nat × Nat × Nat × Nat)} (hts : ∀ w ∈ hs_ws, w.before args s = true) (hcw : Cond.codeWith y bytes maxL ret hh ∈ hs_ws) (hin : Cond.initialized y.cls ∈ hs_ws) (hlk : Cond.methodLink own ix y ∈ hs_ws) (hstat : Cond.static y ∈ hs_ws)
    (hd : y.cls ≠ "java/lang/invoke/MethodHandle" ∧ y.cls ≠ "java/lang/invoke/VarHandle" ∧ (parseMethodDescriptor y.desc).map (fun d => d.parameters.length) = some nA) (hR : d + 1 ≤ R.frames ∧ 8 + (maxL + 11) + 64 * d ≤ R.locals) :
    vx_CSW R s args own ix y bytes maxL ret hh (Cond.codeWith y bytes maxL ret hh :: hs_ws) (hs_rm d mc mS) mc mS nA := by
  refine ⟨⟨rfl, rfl, hR.1, hR.2, fun w hw a' U hU => ?_, List.mem_cons_self⟩, hts _ hcw, hts _ hin, ⟨hd.1, hd.2.1⟩, fun sig h => ?_, hts _ hlk, hts _ hstat⟩
  · have hw2 : w ∈ hs_ws := (List.mem_cons.mp hw).elim (fun e => e ▸ hcw) id
    exact hs_mv (List.mem_filter.mp hw2).2 hU (hts w hw2)
  · have h2 := hd.2.2
    rw [h] at h2
    exact (Option.some.inj h2).symm
theorem wa_callSW {Z : hs_Z} {own : String} {cc : ByteArray} {nL : Nat} {R0 : Room} {k n : Nat} {S : hs_S} {pc : Nat} {lv : List (Nat × hs_V)} {st st0 : List hs_V} (X : hs_C Z own cc nL R0) {d mc mS ix maxL nA : Nat} {y : MethodName} {bytes : ByteArray} {ret : Option FieldType} {hh : List (Nat × Nat × Nat × Nat)} {As : List hs_V} {Q : Option hs_V → hs_S → Prop} {E : String → hs_S → Prop}
    (hM : hs_M d y (.codeWith y bytes maxL ret hh) As S mc mS Q E) (hcw : Cond.codeWith y bytes maxL ret hh ∈ hs_ws) (hin : Cond.initialized y.cls ∈ hs_ws) (hlk : Cond.methodLink own ix y ∈ hs_ws) (hstat : Cond.static y ∈ hs_ws)
    (hdd : y.cls ≠ "java/lang/invoke/MethodHandle" ∧ y.cls ≠ "java/lang/invoke/VarHandle" ∧ (parseMethodDescriptor y.desc).map (fun d => d.parameters.length) = some nA) (hnA : As.length = nA) (hst : st0 = As.reverse ++ st) (hcat : (st.map hs_cat).sum ≤ 8) (hd : decode cc pc = .ok (.invokestatic ix, 3))
    (hR : (d + 1 ≤ R0.frames ∧ 8 + (maxL + 11) + 64 * d ≤ R0.locals) ∧ k + mc ≤ R0.cells ∧ n + mS ≤ R0.slots)
    (kk : ∀ v S', Q v S' → wa Z (k + mc) (n + mS) S' (pc + 3) lv (v.toList ++ st)) (kx : ∀ Ex S', E Ex S' → wx Z (k + mc) (n + mS) S' pc lv Ex) : wa Z k n S pc lv st0 := by
  subst hst
  refine wa_run X (Q := Q) (E := E) ?_ (fun v hv => List.mem_append_right _ hv) kk kx
  rintro p l e R s m args below meth c D DA n0 G0 S0 Qw rfl G H locs la a2 a4 a5 hsz
  obtain ⟨hx, hb, hml, hown, hts, hlk0, hst0, hW, rfl⟩ := X
  have hav : ∀ v ∈ As, hs_vv S v := fun v hv => a4 v (List.mem_append_left _ (List.mem_reverse.mpr hv))
  have hM1 := hM l D DA n0 G hst0 hav
  have hs0 : ((As.reverse ++ st).map (hs_c G.1)) = (As.map (hs_c G.1)).reverse ++ st.map (hs_c G.1) := by
    rw [List.map_append, List.map_reverse]
  rw [hs0]
  exact ⟨_, vx_runSX (hh := hh) (Ts := hs_ws) (own := own) (As := As.map (hs_c G.1)) ⟨hx, hb, hml, hown, hts⟩ hM1 (hs_callW hts hcw hin hlk hstat hdd hR.1) ⟨hs_blind, hs_told (av := As) hW a2 a5⟩ rfl (by rw [List.length_map]; exact hnA) (hsz.trans hml) rfl (hs_W8 hcat) hd hR.2⟩
theorem wb_run1 {Z : b_Z} {own : String} {cc : ByteArray} {nL : Nat} {R0 : Room} {k n : Nat} {S : b_S} {pc : Nat} {lv : List (Nat × hs_V)} {st st0 : List hs_V} (X : b_C Z own cc nL R0) {mc mS : Nat} {Q : Option hs_V → hs_S → Prop}
    (hr : ∀ p l e R s m args below meth c D DA n0 G0 S0 Qw, Z = (p, l, e, R, s, m, args, below, meth, c, D, DA, n0, G0, S0, Qw) → ∀ (A : Nat → Prop) (G : b_G) (H : Heap) (locs : List Loc) (la : Array Slot), (∀ q, A q → n0 q) → (∀ q : Nat, H.size ≤ q → A q) → hs_P D DA A G.1 S.1 H → (∀ v ∈ st0, b_vv S v) → va_S n0 s.heap H locs → la.size = c.maxLocals →
      ∃ a, vx_Run p l e R s m args below meth c H locs k n mc mS (F0 m pc la (st0.map (hs_c (b_al G)))) (st.map (hs_c (b_al G))) (hs_Qc D DA A G.1 S.1 Q a) (hs_Xc D DA A G.1 S.1 hs_nX) A)
    (hv : ∀ v ∈ st, v ∈ st0) (hn : ∀ v S', Q v S' → b_nr v) (kk : ∀ v S', Q v S' → wb Z (k + mc) (n + mS) (S', S.2) (pc + 3) lv (v.toList ++ st)) : wb Z k n S pc lv st0 := by
  obtain ⟨p, l, e, R, s, m, args, below, meth, c, D, DA, n0, G0, S0, Qw⟩ := Z
  have hW0 := X.2.2.2.2.2.2.2.1.2.2.2.2.2.2.2.2.2
  intro G H locs la a1 a2 a3 a4 a5 a6
  obtain ⟨B1, B2, c1, c2, c3, p1, p2⟩ := a2
  obtain ⟨a, hr⟩ := hr _ _ _ _ _ _ _ _ _ _ _ _ _ _ _ _ rfl (fun q => n0 q ∧ ¬ B2 q) G H locs la (fun q z => z.1) (fun q z => ⟨hW0 q (Nat.le_trans a5.1 z), fun w => absurd (c2 q w).2 (by omega)⟩) (p1.mono fun q z => ⟨(c1 q z).1, c3 q z⟩) a4 a5 a6.1
  intro T hT Xs
  rcases hr T hT Xs with ⟨v, st₀, t, T', L, h0, X', hL, e1, e2, ⟨⟨v', S', G', hv', hq, hx2, hp2, hvv⟩, hF⟩, stp⟩ | ⟨q, st₀, t, T', L, Ex, ce, h0, X', hL, e1, e2, ⟨⟨S', G', hq, hx2, hp2⟩, hF⟩, hce, hcv, hcl, stp⟩
  · cases hv'
    obtain ⟨k1, k2, k3⟩ := vx_keep (A1 := fun q => n0 q ∧ ¬ B2 q) (free := fun q => n0 q ∧ ¬ B2 q) h0 e1 a5 (fun q _ h => h.1) (fun q h => h.1) hL hF
    have hp3 := hp2
    rw [← e1] at hp3
    have hx3 : b_x G S (G', G.2) (S', S.2) := ⟨hx2, hs_x.rf⟩
    have hst : ((v'.toList ++ st).map (hs_c (b_al (G', G.2)))) = (v'.map (hs_c G'.1)).toList ++ st.map (hs_c (b_al G)) := by
      rw [List.map_append, hx3.cs (fun w hw => a4 w (hv w hw)), b_nr_c (hn v' S' hq) (al := G'.1) (al' := b_al (G', G.2))]
      cases v' <;> rfl
    have w := kk v' S' hq (G', G.2) T'.heap (locs ++ L) la (a1.tr hx3) ⟨fun q => (n0 q ∧ ¬ B2 q) ∧ q < T'.heap.size, B2, fun q z => ⟨z.1.1, z.2⟩, fun q z => ⟨(c2 q z).1, Nat.lt_of_lt_of_le (c2 q z).2 k1⟩, fun q z => z.1.2, hp3.dom, p2.keep fun q z1 z2 => k2 q z2 fun z => z.2 z1⟩ (fun w hw => hx3.vv (a3 w hw)) (fun w hw => (List.mem_append.mp hw).elim (fun h => b_nr_v (hn v' S' hq) (by cases v' with | none => cases h | some x => exact congrArg some (List.mem_singleton.mp h).symm)) (fun h => hx3.vv (a4 w (hv w h)))) k3 (by rw [hx3.cl a3]; exact a6)
    rw [hst] at w
    obtain ⟨t2, b1, b2⟩ := w T' rfl X'
    exact ⟨t2, stp t2 b1, b2⟩
  · exact hq.elim
theorem wb_run2 {Z : b_Z} {own : String} {cc : ByteArray} {nL : Nat} {R0 : Room} {k n : Nat} {S : b_S} {pc : Nat} {lv : List (Nat × hs_V)} {st st0 : List hs_V} (X : b_C Z own cc nL R0) {mc mS : Nat} {Q : Option hs_V → hs_S → Prop}
    (hr : ∀ p l e R s m args below meth c D DA n0 G0 S0 Qw, Z = (p, l, e, R, s, m, args, below, meth, c, D, DA, n0, G0, S0, Qw) → ∀ (A : Nat → Prop) (G : b_G) (H : Heap) (locs : List Loc) (la : Array Slot), (∀ q, A q → n0 q) → (∀ q : Nat, H.size ≤ q → A q) → hs_P D DA A G.2 S.2 H → (∀ v ∈ st0, b_vv S v) → va_S n0 s.heap H locs → la.size = c.maxLocals →
      ∃ a, vx_Run p l e R s m args below meth c H locs k n mc mS (F0 m pc la (st0.map (hs_c (b_al G)))) (st.map (hs_c (b_al G))) (hs_Qc D DA A G.2 S.2 Q a) (hs_Xc D DA A G.2 S.2 hs_nX) A)
    (hv : ∀ v ∈ st, v ∈ st0) (hn : ∀ v S', Q v S' → b_nr v) (kk : ∀ v S', Q v S' → wb Z (k + mc) (n + mS) (S.1, S') (pc + 3) lv (v.toList ++ st)) : wb Z k n S pc lv st0 := by
  obtain ⟨p, l, e, R, s, m, args, below, meth, c, D, DA, n0, G0, S0, Qw⟩ := Z
  have hW0 := X.2.2.2.2.2.2.2.1.2.2.2.2.2.2.2.2.2
  intro G H locs la a1 a2 a3 a4 a5 a6
  obtain ⟨B1, B2, c1, c2, c3, p1, p2⟩ := a2
  obtain ⟨a, hr⟩ := hr _ _ _ _ _ _ _ _ _ _ _ _ _ _ _ _ rfl (fun q => n0 q ∧ ¬ B1 q) G H locs la (fun q z => z.1) (fun q z => ⟨hW0 q (Nat.le_trans a5.1 z), fun w => absurd (c1 q w).2 (by omega)⟩) (p2.mono fun q z => ⟨(c2 q z).1, fun w => c3 q w z⟩) a4 a5 a6.1
  intro T hT Xs
  rcases hr T hT Xs with ⟨v, st₀, t, T', L, h0, X', hL, e1, e2, ⟨⟨v', S', G', hv', hq, hx2, hp2, hvv⟩, hF⟩, stp⟩ | ⟨q, st₀, t, T', L, Ex, ce, h0, X', hL, e1, e2, ⟨⟨S', G', hq, hx2, hp2⟩, hF⟩, hce, hcv, hcl, stp⟩
  · cases hv'
    obtain ⟨k1, k2, k3⟩ := vx_keep (A1 := fun q => n0 q ∧ ¬ B1 q) (free := fun q => n0 q ∧ ¬ B1 q) h0 e1 a5 (fun q _ h => h.1) (fun q h => h.1) hL hF
    have hp3 := hp2
    rw [← e1] at hp3
    have hx3 : b_x G S (G.1, G') (S.1, S') := ⟨hs_x.rf, hx2⟩
    have hst : ((v'.toList ++ st).map (hs_c (b_al (G.1, G')))) = (v'.map (hs_c G'.1)).toList ++ st.map (hs_c (b_al G)) := by
      rw [List.map_append, hx3.cs (fun w hw => a4 w (hv w hw)), b_nr_c (hn v' S' hq) (al := G'.1) (al' := b_al (G.1, G'))]
      cases v' <;> rfl
    have w := kk v' S' hq (G.1, G') T'.heap (locs ++ L) la (a1.tr hx3) ⟨B1, fun q => (n0 q ∧ ¬ B1 q) ∧ q < T'.heap.size, fun q z => ⟨(c1 q z).1, Nat.lt_of_lt_of_le (c1 q z).2 k1⟩, fun q z => ⟨z.1.1, z.2⟩, fun q z1 z2 => z2.1.2 z1, p1.keep fun q z1 z2 => k2 q z2 fun z => z.2 z1, hp3.dom⟩ (fun w hw => hx3.vv (a3 w hw)) (fun w hw => (List.mem_append.mp hw).elim (fun h => b_nr_v (hn v' S' hq) (by cases v' with | none => cases h | some x => exact congrArg some (List.mem_singleton.mp h).symm)) (fun h => hx3.vv (a4 w (hv w h)))) k3 (by rw [hx3.cl a3]; exact a6)
    rw [hst] at w
    obtain ⟨t2, b1, b2⟩ := w T' rfl X'
    exact ⟨t2, stp t2 b1, b2⟩
  · exact hq.elim
theorem wb_runB {Z : b_Z} {own : String} {cc : ByteArray} {nL : Nat} {R0 : Room} {k n : Nat} {S : b_S} {pc : Nat} {lv : List (Nat × hs_V)} {st st0 : List hs_V} (X : b_C Z own cc nL R0) {mc mS : Nat} {Q : Option hs_V → b_S → Prop}
    (hr : ∀ p l e R s m args below meth c D DA n0 G0 S0 Qw, Z = (p, l, e, R, s, m, args, below, meth, c, D, DA, n0, G0, S0, Qw) → ∀ (G : b_G) (H : Heap) (locs : List Loc) (la : Array Slot), b_P D DA n0 G S H → (∀ v ∈ st0, b_vv S v) → va_S n0 s.heap H locs → la.size = c.maxLocals →
      ∃ a, vx_Run p l e R s m args below meth c H locs k n mc mS (F0 m pc la (st0.map (hs_c (b_al G)))) (st.map (hs_c (b_al G))) (b_Qc D DA n0 G S Q a) (fun _ _ _ => False) n0)
    (hv : ∀ v ∈ st, v ∈ st0) (kk : ∀ v S', Q v S' → wb Z (k + mc) (n + mS) S' (pc + 3) lv (v.toList ++ st)) : wb Z k n S pc lv st0 := by
  obtain ⟨p, l, e, R, s, m, args, below, meth, c, D, DA, n0, G0, S0, Qw⟩ := Z
  intro G H locs la a1 a2 a3 a4 a5 a6
  obtain ⟨a, hr⟩ := hr _ _ _ _ _ _ _ _ _ _ _ _ _ _ _ _ rfl G H locs la a2 a4 a5 a6.1
  intro T hT Xs
  rcases hr T hT Xs with ⟨v, st₀, t, T', L, h0, X', hL, e1, e2, ⟨⟨v', S', G', hv', hq, hx2, hp2, hvv⟩, hF⟩, stp⟩ | ⟨q, st₀, t, T', L, Ex, ce, h0, X', hL, e1, e2, hq, hce⟩
  · cases hv'
    obtain ⟨k1, k2, k3⟩ := vx_keep h0 e1 a5 (fun q _ h => h) (fun q h => h) hL hF
    have hst : ((v'.toList ++ st).map (hs_c (b_al G'))) = (v'.map (hs_c (b_al G'))).toList ++ st.map (hs_c (b_al G)) := by
      rw [List.map_append, hx2.cs (fun w hw => a4 w (hv w hw))]
      cases v' <;> rfl
    have w := kk v' S' hq G' T'.heap (locs ++ L) la (a1.tr hx2) (by rw [e1]; exact hp2) (fun w hw => hx2.vv (a3 w hw)) (fun w hw => (List.mem_append.mp hw).elim (fun h => by cases v' with | none => cases h | some x => exact (List.mem_singleton.mp h) ▸ hvv x rfl) (fun h => hx2.vv (a4 w (hv w h)))) k3 (by rw [hx2.cl a3]; exact a6)
    rw [hst] at w
    obtain ⟨t2, b1, b2⟩ := w T' rfl X'
    exact ⟨t2, stp t2 b1, b2⟩
  · exact hq.elim
theorem b_W8 {al : Nat → Nat → Nat} {st : List hs_V} (h : (st.map hs_cat).sum ≤ 8) : 2 * (F0 (default : MethodId) 0 #[] []).monitorRoom + ((st.map (hs_c al)).map fun v => v.category).sum ≤ 8 := hs_W8 h
theorem wb_callS1 {Z : b_Z} {own : String} {cc : ByteArray} {nL : Nat} {R0 : Room} {k n : Nat} {S : b_S} {pc : Nat} {lv : List (Nat × hs_V)} {st st0 : List hs_V} (X : b_C Z own cc nL R0) {d mc mS ix maxL nA : Nat} {y : MethodName} {bytes : ByteArray} {ret : Option FieldType} {As : List hs_V} {Q : Option hs_V → hs_S → Prop}
    (hM : hs_M d y (.code y bytes maxL ret) (As) S.1 mc mS Q hs_nX) (hlo : As.all b_lo = true) (hn : ∀ v S', Q v S' → b_nr v) (hcw : Cond.code y bytes maxL ret ∈ hs_ws) (hin : Cond.initialized y.cls ∈ hs_ws) (hlk : Cond.methodLink own ix y ∈ hs_ws) (hstat : Cond.static y ∈ hs_ws) (hdd : y.cls ≠ "java/lang/invoke/MethodHandle" ∧ y.cls ≠ "java/lang/invoke/VarHandle" ∧ (parseMethodDescriptor y.desc).map (fun d => d.parameters.length) = some nA) (hnA : As.length = nA) (hst : st0 = (As).reverse ++ st) (hcat : (st.map hs_cat).sum ≤ 8) (hd : decode cc pc = .ok (.invokestatic ix, 3)) (hR : (d + 1 ≤ R0.frames ∧ 8 + (maxL + 11) + 64 * d ≤ R0.locals) ∧ k + mc ≤ R0.cells ∧ n + mS ≤ R0.slots)
    (kk : ∀ v S', Q v S' → wb Z (k + mc) (n + mS) (S', S.2) (pc + 3) lv (v.toList ++ st)) : wb Z k n S pc lv st0 := by
  subst hst
  refine wb_run1 X (Q := Q) ?_ (fun v hv => List.mem_append_right _ hv) hn kk
  rintro p l e R s m args below meth c D DA n0 G0 S0 Qw rfl A G H locs la hA hB a2 a4 a5 hsz
  obtain ⟨hx, hb, hml, hown, hts, hlk0, hst0, hW, rfl⟩ := X
  have hav0 : ∀ v ∈ As, hs_vv S.1 v := fun v hv => b_lo_v (List.all_eq_true.mp hlo v hv) (a4 v (List.mem_append_left _ (List.mem_reverse.mpr hv)))
  have hAs : ((As).map (hs_c (b_al G))) = As.map (hs_c G.1.1) := b_lo_cs hlo
  have hM1 := hM l D DA A G.1 hst0 hav0
  have hs0 : (((As).reverse ++ st).map (hs_c (b_al G))) = (As.map (hs_c G.1.1)).reverse ++ st.map (hs_c (b_al G)) := by
    rw [List.map_append, List.map_reverse, hAs]
  rw [hs0]
  exact ⟨_, vx_runS (Ts := hs_ws) (own := own) (As := As.map (hs_c G.1.1)) ⟨hx, hb, hml, hown, hts⟩ hM1 ⟨hs_callB hts hcw hin hlk hdd hR.1, hts _ hstat⟩ ⟨hs_blind, b_told1 (av := As) hW a2 a5 hA hB⟩ rfl (by rw [List.length_map]; exact hnA) (hsz.trans hml) rfl (hs_W8 hcat) hd hR.2⟩
theorem wb_callW1 {Z : b_Z} {own : String} {cc : ByteArray} {nL : Nat} {R0 : Room} {k n : Nat} {S : b_S} {pc : Nat} {lv : List (Nat × hs_V)} {st st0 : List hs_V} (X : b_C Z own cc nL R0) {d mc mS ix maxL nA : Nat} {y : MethodName} {bytes : ByteArray} {ret : Option FieldType} {hh : List (Nat × Nat × Nat × Nat)} {As : List hs_V} {Q : Option hs_V → hs_S → Prop}
    (hM : hs_M d y (.codeWith y bytes maxL ret hh) (As) S.1 mc mS Q hs_nX) (hlo : As.all b_lo = true) (hn : ∀ v S', Q v S' → b_nr v) (hcw : Cond.codeWith y bytes maxL ret hh ∈ hs_ws) (hin : Cond.initialized y.cls ∈ hs_ws) (hlk : Cond.methodLink own ix y ∈ hs_ws) (hstat : Cond.static y ∈ hs_ws) (hdd : y.cls ≠ "java/lang/invoke/MethodHandle" ∧ y.cls ≠ "java/lang/invoke/VarHandle" ∧ (parseMethodDescriptor y.desc).map (fun d => d.parameters.length) = some nA) (hnA : As.length = nA) (hst : st0 = (As).reverse ++ st) (hcat : (st.map hs_cat).sum ≤ 8) (hd : decode cc pc = .ok (.invokestatic ix, 3)) (hR : (d + 1 ≤ R0.frames ∧ 8 + (maxL + 11) + 64 * d ≤ R0.locals) ∧ k + mc ≤ R0.cells ∧ n + mS ≤ R0.slots)
    (kk : ∀ v S', Q v S' → wb Z (k + mc) (n + mS) (S', S.2) (pc + 3) lv (v.toList ++ st)) : wb Z k n S pc lv st0 := by
  subst hst
  refine wb_run1 X (Q := Q) ?_ (fun v hv => List.mem_append_right _ hv) hn kk
  rintro p l e R s m args below meth c D DA n0 G0 S0 Qw rfl A G H locs la hA hB a2 a4 a5 hsz
  obtain ⟨hx, hb, hml, hown, hts, hlk0, hst0, hW, rfl⟩ := X
  have hav0 : ∀ v ∈ As, hs_vv S.1 v := fun v hv => b_lo_v (List.all_eq_true.mp hlo v hv) (a4 v (List.mem_append_left _ (List.mem_reverse.mpr hv)))
  have hAs : ((As).map (hs_c (b_al G))) = As.map (hs_c G.1.1) := b_lo_cs hlo
  have hM1 := hM l D DA A G.1 hst0 hav0
  have hs0 : (((As).reverse ++ st).map (hs_c (b_al G))) = (As.map (hs_c G.1.1)).reverse ++ st.map (hs_c (b_al G)) := by
    rw [List.map_append, List.map_reverse, hAs]
  rw [hs0]
  exact ⟨_, vx_runSX (hh := hh) (Ts := hs_ws) (own := own) (As := As.map (hs_c G.1.1)) ⟨hx, hb, hml, hown, hts⟩ hM1 (hs_callW hts hcw hin hlk hstat hdd hR.1) ⟨hs_blind, b_told1 (av := As) hW a2 a5 hA hB⟩ rfl (by rw [List.length_map]; exact hnA) (hsz.trans hml) rfl (hs_W8 hcat) hd hR.2⟩
theorem wb_callV1 {Z : b_Z} {own : String} {cc : ByteArray} {nL : Nat} {R0 : Room} {k n : Nat} {S : b_S} {pc : Nat} {lv : List (Nat × hs_V)} {st st0 : List hs_V} (X : b_C Z own cc nL R0) {d mc mS ix maxL nA : Nat} {y : MethodName} {bytes : ByteArray} {ret : Option FieldType} {t i ci N : Nat} {rc : vw_C} {As : List hs_V} {Q : Option hs_V → hs_S → Prop}
    (hM : hs_M d y (.code y bytes maxL ret) (.inr (.inr (t, i)) :: As) S.1 mc mS Q hs_nX) (hlo : As.all b_lo = true) (hn : ∀ v S', Q v S' → b_nr v) (hk : hs_k t = (1, (ci, N))) (hc : hs_cl0[ci]? = some rc) (hrc : rc.1 = y.cls) (hcw : Cond.code y bytes maxL ret ∈ hs_ws) (hin : Cond.initialized y.cls ∈ hs_ws) (hlk : Cond.methodLink own ix y ∈ hs_ws) (hinst : Cond.instanceMethod y ∈ hs_ws) (hsel : Cond.selects y.cls y y ∈ hs_ws) (hdd : y.cls ≠ "java/lang/invoke/MethodHandle" ∧ y.cls ≠ "java/lang/invoke/VarHandle" ∧ (parseMethodDescriptor y.desc).map (fun d => d.parameters.length) = some nA) (hnA : As.length = nA) (hst : st0 = (As).reverse ++ (.inr (.inr (t, i)) : hs_V) :: st) (hcat : (st.map hs_cat).sum ≤ 8) (hd : decode cc pc = .ok (.invokevirtual ix, 3)) (hi : i ≠ 0) (ht : t < 200) (hR : (d + 1 ≤ R0.frames ∧ 8 + (maxL + 11) + 64 * d ≤ R0.locals) ∧ k + mc ≤ R0.cells ∧ n + mS ≤ R0.slots)
    (kk : ∀ v S', Q v S' → wb Z (k + mc) (n + mS) (S', S.2) (pc + 3) lv (v.toList ++ st)) : wb Z k n S pc lv st0 := by
  subst hst
  refine wb_run1 X (Q := Q) ?_ (fun v hv => List.mem_append_right _ (List.mem_cons_of_mem _ hv)) hn kk
  rintro p l e R s m args below meth c D DA n0 G0 S0 Qw rfl A G H locs la hA hB a2 a4 a5 hsz
  obtain ⟨hx, hb, hml, hown, hts, hlk0, hst0, hW, rfl⟩ := X
  have hav0 : ∀ v ∈ As, hs_vv S.1 v := fun v hv => b_lo_v (List.all_eq_true.mp hlo v hv) (a4 v (List.mem_append_left _ (List.mem_reverse.mpr hv)))
  have hAs : ((As).map (hs_c (b_al G))) = As.map (hs_c G.1.1) := b_lo_cs hlo
  have hvv : hs_vv S.1 (.inr (.inr (t, i))) := b_lo_v (decide_eq_true ht) (a4 _ (List.mem_append_right _ List.mem_cons_self))
  have hok : hs_ok S.1 t i := hvv.resolve_left hi
  obtain ⟨keys, b1, b2, b3, b4, b5, b6⟩ := id a2
  obtain ⟨q0, e1, e2⟩ := hs_key (D := D) (DA := DA) (n0 := A) (H := H) b1 hok (by rw [hk]; simp)
  rw [hs_e1 hk] at e1
  have hrecv := va_recv hW.1 b2 hc e1
  rw [hrc] at hrecv
  have hav : ∀ v ∈ (.inr (.inr (t, i)) :: As : List hs_V), hs_vv S.1 v := hs_pu hvv hav0
  have htold := b_told1 (av := .inr (.inr (t, i)) :: As) hW a2 a5 hA hB
  rw [List.map_cons, hs_c_ref hi] at htold
  have hM1 := hM l D DA A G.1 hst0 hav
  have hr0 : hs_c (b_al G) (.inr (.inr (t, i)) : hs_V) = .ref (G.1.1 t i) := by
    rw [hs_c_ref hi]
    show Value.ref (if t < 200 then _ else _) = _
    rw [if_pos ht]
  have hs0 : (((As).reverse ++ (.inr (.inr (t, i)) : hs_V) :: st).map (hs_c (b_al G))) = (As.map (hs_c G.1.1)).reverse ++ .ref (G.1.1 t i) :: st.map (hs_c (b_al G)) := by
    rw [List.map_append, List.map_cons, List.map_reverse, hAs, hr0]
  rw [hs0]
  exact ⟨_, vx_runV (Ts := hs_ws) (own := own) (C := y.cls) (b := G.1.1 t i) (As := As.map (hs_c G.1.1)) ⟨hx, hb, hml, hown, hts⟩ hM1 ⟨hs_callB hts hcw hin hlk hdd hR.1, hts _ hinst, hts _ hsel⟩ ⟨hs_blind, hrecv, htold⟩ rfl (by rw [List.length_map]; exact hnA) (hsz.trans hml) rfl (hs_W8 hcat) hd hR.2⟩
theorem wb_callS2 {Z : b_Z} {own : String} {cc : ByteArray} {nL : Nat} {R0 : Room} {k n : Nat} {S : b_S} {pc : Nat} {lv : List (Nat × hs_V)} {st st0 : List hs_V} (X : b_C Z own cc nL R0) {d mc mS ix maxL nA : Nat} {y : MethodName} {bytes : ByteArray} {ret : Option FieldType} {As : List hs_V} {Q : Option hs_V → hs_S → Prop}
    (hM : hs_M d y (.code y bytes maxL ret) (As) S.2 mc mS Q hs_nX) (hn : ∀ v S', Q v S' → b_nr v) (hcw : Cond.code y bytes maxL ret ∈ hs_ws) (hin : Cond.initialized y.cls ∈ hs_ws) (hlk : Cond.methodLink own ix y ∈ hs_ws) (hstat : Cond.static y ∈ hs_ws) (hdd : y.cls ≠ "java/lang/invoke/MethodHandle" ∧ y.cls ≠ "java/lang/invoke/VarHandle" ∧ (parseMethodDescriptor y.desc).map (fun d => d.parameters.length) = some nA) (hnA : As.length = nA) (hst : st0 = (As.map b_up).reverse ++ st) (hcat : (st.map hs_cat).sum ≤ 8) (hd : decode cc pc = .ok (.invokestatic ix, 3)) (hR : (d + 1 ≤ R0.frames ∧ 8 + (maxL + 11) + 64 * d ≤ R0.locals) ∧ k + mc ≤ R0.cells ∧ n + mS ≤ R0.slots)
    (kk : ∀ v S', Q v S' → wb Z (k + mc) (n + mS) (S.1, S') (pc + 3) lv (v.toList ++ st)) : wb Z k n S pc lv st0 := by
  subst hst
  refine wb_run2 X (Q := Q) ?_ (fun v hv => List.mem_append_right _ hv) hn kk
  rintro p l e R s m args below meth c D DA n0 G0 S0 Qw rfl A G H locs la hA hB a2 a4 a5 hsz
  obtain ⟨hx, hb, hml, hown, hts, hlk0, hst0, hW, rfl⟩ := X
  have hav0 : ∀ v ∈ As, hs_vv S.2 v := fun v hv => b_up_v (a4 _ (List.mem_append_left _ (List.mem_reverse.mpr (List.mem_map_of_mem (f := b_up) hv))))
  have hAs : ((As.map b_up).map (hs_c (b_al G))) = As.map (hs_c G.2.1) := b_up_cs
  have hM1 := hM l D DA A G.2 hst0 hav0
  have hs0 : (((As.map b_up).reverse ++ st).map (hs_c (b_al G))) = (As.map (hs_c G.2.1)).reverse ++ st.map (hs_c (b_al G)) := by
    rw [List.map_append, List.map_reverse, hAs]
  rw [hs0]
  exact ⟨_, vx_runS (Ts := hs_ws) (own := own) (As := As.map (hs_c G.2.1)) ⟨hx, hb, hml, hown, hts⟩ hM1 ⟨hs_callB hts hcw hin hlk hdd hR.1, hts _ hstat⟩ ⟨hs_blind, b_told1 (av := As) hW a2 a5 hA hB⟩ rfl (by rw [List.length_map]; exact hnA) (hsz.trans hml) rfl (hs_W8 hcat) hd hR.2⟩
theorem wb_callW2 {Z : b_Z} {own : String} {cc : ByteArray} {nL : Nat} {R0 : Room} {k n : Nat} {S : b_S} {pc : Nat} {lv : List (Nat × hs_V)} {st st0 : List hs_V} (X : b_C Z own cc nL R0) {d mc mS ix maxL nA : Nat} {y : MethodName} {bytes : ByteArray} {ret : Option FieldType} {hh : List (Nat × Nat × Nat × Nat)} {As : List hs_V} {Q : Option hs_V → hs_S → Prop}
    (hM : hs_M d y (.codeWith y bytes maxL ret hh) (As) S.2 mc mS Q hs_nX) (hn : ∀ v S', Q v S' → b_nr v) (hcw : Cond.codeWith y bytes maxL ret hh ∈ hs_ws) (hin : Cond.initialized y.cls ∈ hs_ws) (hlk : Cond.methodLink own ix y ∈ hs_ws) (hstat : Cond.static y ∈ hs_ws) (hdd : y.cls ≠ "java/lang/invoke/MethodHandle" ∧ y.cls ≠ "java/lang/invoke/VarHandle" ∧ (parseMethodDescriptor y.desc).map (fun d => d.parameters.length) = some nA) (hnA : As.length = nA) (hst : st0 = (As.map b_up).reverse ++ st) (hcat : (st.map hs_cat).sum ≤ 8) (hd : decode cc pc = .ok (.invokestatic ix, 3)) (hR : (d + 1 ≤ R0.frames ∧ 8 + (maxL + 11) + 64 * d ≤ R0.locals) ∧ k + mc ≤ R0.cells ∧ n + mS ≤ R0.slots)
    (kk : ∀ v S', Q v S' → wb Z (k + mc) (n + mS) (S.1, S') (pc + 3) lv (v.toList ++ st)) : wb Z k n S pc lv st0 := by
  subst hst
  refine wb_run2 X (Q := Q) ?_ (fun v hv => List.mem_append_right _ hv) hn kk
  rintro p l e R s m args below meth c D DA n0 G0 S0 Qw rfl A G H locs la hA hB a2 a4 a5 hsz
  obtain ⟨hx, hb, hml, hown, hts, hlk0, hst0, hW, rfl⟩ := X
  have hav0 : ∀ v ∈ As, hs_vv S.2 v := fun v hv => b_up_v (a4 _ (List.mem_append_left _ (List.mem_reverse.mpr (List.mem_map_of_mem (f := b_up) hv))))
  have hAs : ((As.map b_up).map (hs_c (b_al G))) = As.map (hs_c G.2.1) := b_up_cs
  have hM1 := hM l D DA A G.2 hst0 hav0
  have hs0 : (((As.map b_up).reverse ++ st).map (hs_c (b_al G))) = (As.map (hs_c G.2.1)).reverse ++ st.map (hs_c (b_al G)) := by
    rw [List.map_append, List.map_reverse, hAs]
  rw [hs0]
  exact ⟨_, vx_runSX (hh := hh) (Ts := hs_ws) (own := own) (As := As.map (hs_c G.2.1)) ⟨hx, hb, hml, hown, hts⟩ hM1 (hs_callW hts hcw hin hlk hstat hdd hR.1) ⟨hs_blind, b_told1 (av := As) hW a2 a5 hA hB⟩ rfl (by rw [List.length_map]; exact hnA) (hsz.trans hml) rfl (hs_W8 hcat) hd hR.2⟩
theorem wb_callV2 {Z : b_Z} {own : String} {cc : ByteArray} {nL : Nat} {R0 : Room} {k n : Nat} {S : b_S} {pc : Nat} {lv : List (Nat × hs_V)} {st st0 : List hs_V} (X : b_C Z own cc nL R0) {d mc mS ix maxL nA : Nat} {y : MethodName} {bytes : ByteArray} {ret : Option FieldType} {t i ci N : Nat} {rc : vw_C} {As : List hs_V} {Q : Option hs_V → hs_S → Prop}
    (hM : hs_M d y (.code y bytes maxL ret) (.inr (.inr (t, i)) :: As) S.2 mc mS Q hs_nX) (hn : ∀ v S', Q v S' → b_nr v) (hk : hs_k t = (1, (ci, N))) (hc : hs_cl0[ci]? = some rc) (hrc : rc.1 = y.cls) (hcw : Cond.code y bytes maxL ret ∈ hs_ws) (hin : Cond.initialized y.cls ∈ hs_ws) (hlk : Cond.methodLink own ix y ∈ hs_ws) (hinst : Cond.instanceMethod y ∈ hs_ws) (hsel : Cond.selects y.cls y y ∈ hs_ws) (hdd : y.cls ≠ "java/lang/invoke/MethodHandle" ∧ y.cls ≠ "java/lang/invoke/VarHandle" ∧ (parseMethodDescriptor y.desc).map (fun d => d.parameters.length) = some nA) (hnA : As.length = nA) (hst : st0 = (As.map b_up).reverse ++ (.inr (.inr (t + 200, i)) : hs_V) :: st) (hcat : (st.map hs_cat).sum ≤ 8) (hd : decode cc pc = .ok (.invokevirtual ix, 3)) (hi : i ≠ 0) (hR : (d + 1 ≤ R0.frames ∧ 8 + (maxL + 11) + 64 * d ≤ R0.locals) ∧ k + mc ≤ R0.cells ∧ n + mS ≤ R0.slots)
    (kk : ∀ v S', Q v S' → wb Z (k + mc) (n + mS) (S.1, S') (pc + 3) lv (v.toList ++ st)) : wb Z k n S pc lv st0 := by
  subst hst
  refine wb_run2 X (Q := Q) ?_ (fun v hv => List.mem_append_right _ (List.mem_cons_of_mem _ hv)) hn kk
  rintro p l e R s m args below meth c D DA n0 G0 S0 Qw rfl A G H locs la hA hB a2 a4 a5 hsz
  obtain ⟨hx, hb, hml, hown, hts, hlk0, hst0, hW, rfl⟩ := X
  have hav0 : ∀ v ∈ As, hs_vv S.2 v := fun v hv => b_up_v (a4 _ (List.mem_append_left _ (List.mem_reverse.mpr (List.mem_map_of_mem (f := b_up) hv))))
  have hAs : ((As.map b_up).map (hs_c (b_al G))) = As.map (hs_c G.2.1) := b_up_cs
  have hvv : hs_vv S.2 (.inr (.inr (t, i))) := b_up_v (v := .inr (.inr (t, i))) (a4 _ (List.mem_append_right _ List.mem_cons_self))
  have hok : hs_ok S.2 t i := hvv.resolve_left hi
  obtain ⟨keys, b1, b2, b3, b4, b5, b6⟩ := id a2
  obtain ⟨q0, e1, e2⟩ := hs_key (D := D) (DA := DA) (n0 := A) (H := H) b1 hok (by rw [hk]; simp)
  rw [hs_e1 hk] at e1
  have hrecv := va_recv hW.1 b2 hc e1
  rw [hrc] at hrecv
  have hav : ∀ v ∈ (.inr (.inr (t, i)) :: As : List hs_V), hs_vv S.2 v := hs_pu hvv hav0
  have htold := b_told1 (av := .inr (.inr (t, i)) :: As) hW a2 a5 hA hB
  rw [List.map_cons, hs_c_ref hi] at htold
  have hM1 := hM l D DA A G.2 hst0 hav
  have hr0 : hs_c (b_al G) (.inr (.inr (t + 200, i)) : hs_V) = .ref (G.2.1 t i) := by
    rw [hs_c_ref hi]
    show Value.ref (if t + 200 < 200 then _ else _) = _
    rw [if_neg (show ¬ t + 200 < 200 by omega), Nat.add_sub_cancel]
  have hs0 : (((As.map b_up).reverse ++ (.inr (.inr (t + 200, i)) : hs_V) :: st).map (hs_c (b_al G))) = (As.map (hs_c G.2.1)).reverse ++ .ref (G.2.1 t i) :: st.map (hs_c (b_al G)) := by
    rw [List.map_append, List.map_cons, List.map_reverse, hAs, hr0]
  rw [hs0]
  exact ⟨_, vx_runV (Ts := hs_ws) (own := own) (C := y.cls) (b := G.2.1 t i) (As := As.map (hs_c G.2.1)) ⟨hx, hb, hml, hown, hts⟩ hM1 ⟨hs_callB hts hcw hin hlk hdd hR.1, hts _ hinst, hts _ hsel⟩ ⟨hs_blind, hrecv, htold⟩ rfl (by rw [List.length_map]; exact hnA) (hsz.trans hml) rfl (hs_W8 hcat) hd hR.2⟩
theorem wb_callB {Z : b_Z} {own : String} {cc : ByteArray} {nL : Nat} {R0 : Room} {k n : Nat} {S : b_S} {pc : Nat} {lv : List (Nat × hs_V)} {st st0 : List hs_V} (X : b_C Z own cc nL R0) {d mc mS ix maxL nA : Nat} {y : MethodName} {bytes : ByteArray} {ret : Option FieldType} {As : List hs_V} {Q : Option hs_V → b_S → Prop}
    (hM : b_M d y (.code y bytes maxL ret) As S mc mS Q) (hcw : Cond.code y bytes maxL ret ∈ hs_ws) (hin : Cond.initialized y.cls ∈ hs_ws) (hlk : Cond.methodLink own ix y ∈ hs_ws) (hstat : Cond.static y ∈ hs_ws)
    (hdd : y.cls ≠ "java/lang/invoke/MethodHandle" ∧ y.cls ≠ "java/lang/invoke/VarHandle" ∧ (parseMethodDescriptor y.desc).map (fun d => d.parameters.length) = some nA) (hnA : As.length = nA) (hst : st0 = As.reverse ++ st) (hcat : (st.map hs_cat).sum ≤ 8) (hd : decode cc pc = .ok (.invokestatic ix, 3)) (hR : (d + 1 ≤ R0.frames ∧ 8 + (maxL + 11) + 64 * d ≤ R0.locals) ∧ k + mc ≤ R0.cells ∧ n + mS ≤ R0.slots)
    (kk : ∀ v S', Q v S' → wb Z (k + mc) (n + mS) S' (pc + 3) lv (v.toList ++ st)) : wb Z k n S pc lv st0 := by
  subst hst
  refine wb_runB X (Q := Q) ?_ (fun v hv => List.mem_append_right _ hv) kk
  rintro p l e R s m args below meth c D DA n0 G0 S0 Qw rfl G H locs la a2 a4 a5 hsz
  obtain ⟨hx, hb, hml, hown, hts, hlk0, hst0, hW, rfl⟩ := X
  have hav : ∀ v ∈ As, b_vv S v := fun v hv => a4 v (List.mem_append_left _ (List.mem_reverse.mpr hv))
  have hM1 := hM l D DA n0 G hst0 hav
  have hs0 : ((As.reverse ++ st).map (hs_c (b_al G))) = (As.map (hs_c (b_al G))).reverse ++ st.map (hs_c (b_al G)) := by
    rw [List.map_append, List.map_reverse]
  rw [hs0]
  exact ⟨_, vx_runS (Ts := hs_ws) (own := own) (As := As.map (hs_c (b_al G))) ⟨hx, hb, hml, hown, hts⟩ hM1 ⟨hs_callB hts hcw hin hlk hdd hR.1, hts _ hstat⟩ ⟨b_blind, b_told (av := As) hW a2 a5⟩ rfl (by rw [List.length_map]; exact hnA) (hsz.trans hml) rfl (hs_W8 hcat) hd hR.2⟩
theorem b_nr_I {Q : Int32 → hs_S → Prop} : ∀ v S', hs_qI Q v S' → b_nr v := by
  rintro v S' ⟨_, r, rfl, _⟩ x hx q rfl
  cases hx
theorem b_nr_L {Q : Int64 → hs_S → Prop} : ∀ v S', hs_qL Q v S' → b_nr v := by
  rintro v S' ⟨_, r, rfl, _⟩ x hx q rfl
  cases hx
theorem b_nr_pI {r : Int32} {S : hs_S} : ∀ v S', hs_pd (some (.inl r)) S v S' → b_nr v := by
  rintro v S' ⟨rfl, _⟩ x hx q rfl
  cases hx
theorem b_nr_pL {r : Int64} {S : hs_S} : ∀ v S', hs_pd (some (.inr (.inl r))) S v S' → b_nr v := by
  rintro v S' ⟨rfl, _⟩ x hx q rfl
  cases hx
theorem b_pdk1 {Z : b_Z} {k n : Nat} {S U : hs_S} {pc : Nat} {lv : List (Nat × hs_V)} {st : List hs_V} {w : Option hs_V} (kk : wb Z k n (S, U) pc lv (w.toList ++ st)) : ∀ v S', hs_pd w (S, U).1 v S' → wb Z k n (S', (S, U).2) pc lv (v.toList ++ st) := by
  rintro _ S' ⟨rfl, rfl, _⟩
  exact kk
theorem b_pdk2 {Z : b_Z} {k n : Nat} {S U : hs_S} {pc : Nat} {lv : List (Nat × hs_V)} {st : List hs_V} {w : Option hs_V} (kk : wb Z k n (S, U) pc lv (w.toList ++ st)) : ∀ v S', hs_pd w (S, U).2 v S' → wb Z k n ((S, U).1, S') pc lv (v.toList ++ st) := by
  rintro _ S' ⟨rfl, rfl, _⟩
  exact kk
