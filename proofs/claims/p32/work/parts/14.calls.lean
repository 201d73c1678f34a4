/-! ===== calls, ends, bodies ===== -/
theorem hs_callB {R : Room} {s : State} {args : Array Value} {own : String} {ix maxL d mc mS nA : Nat} {y : MethodName} {bytes : ByteArray} {ret : Option FieldType} (hts : ∀ w ∈ hs_ws, w.before args s = true) (hcw : Cond.code y bytes maxL ret ∈ hs_ws) (hin : Cond.initialized y.cls ∈ hs_ws) (hlk : Cond.methodLink own ix y ∈ hs_ws)
    (hd : y.cls ≠ "java/lang/invoke/MethodHandle" ∧ y.cls ≠ "java/lang/invoke/VarHandle" ∧ (parseMethodDescriptor y.desc).map (fun d => d.parameters.length) = some nA) (hR : d + 1 ≤ R.frames ∧ 8 + (maxL + 11) + 64 * d ≤ R.locals) :
    CallB R s args own ix y bytes maxL ret (Cond.code y bytes maxL ret :: hs_ws) (hs_rm d mc mS) mc mS nA := by
  refine ⟨rfl, rfl, hR.1, hR.2, fun w hw a' U hU => ?_, List.mem_cons_self, hts _ hcw, hts _ hin, ⟨hd.1, hd.2.1⟩, fun sig h => ?_, hts _ hlk⟩
  · have hw2 : w ∈ hs_ws := (List.mem_cons.mp hw).elim (fun e => e ▸ hcw) id
    exact hs_mv (List.mem_filter.mp hw2).2 hU (hts w hw2)
  · have h2 := hd.2.2
    rw [h] at h2
    exact (Option.some.inj h2).symm
theorem hs_callN {R : Room} {s : State} {args : Array Value} {own host : String} {ix maxL d mc mS nA : Nat} {y : MethodName} {bytes : ByteArray} {ret : Option FieldType} (hts : ∀ w ∈ hs_ws, w.before args s = true) (hcw : Cond.code y bytes maxL ret ∈ hs_ws) (hin : Cond.initialized y.cls ∈ hs_ws) (hlk : Cond.methodLinkNest own ix y host ∈ hs_ws)
    (hd : y.cls ≠ "java/lang/invoke/MethodHandle" ∧ y.cls ≠ "java/lang/invoke/VarHandle" ∧ (parseMethodDescriptor y.desc).map (fun d => d.parameters.length) = some nA) (hR : d + 1 ≤ R.frames ∧ 8 + (maxL + 11) + 64 * d ≤ R.locals) :
    va_CN R s args own ix y host bytes maxL ret (Cond.code y bytes maxL ret :: hs_ws) (hs_rm d mc mS) mc mS nA := by
  refine ⟨⟨rfl, rfl, hR.1, hR.2, fun w hw a' U hU => ?_, List.mem_cons_self⟩, hts _ hcw, hts _ hin, ⟨hd.1, hd.2.1⟩, fun sig h => ?_, hts _ hlk⟩
  · have hw2 : w ∈ hs_ws := (List.mem_cons.mp hw).elim (fun e => e ▸ hcw) id
    exact hs_mv (List.mem_filter.mp hw2).2 hU (hts w hw2)
  · have h2 := hd.2.2
    rw [h] at h2
    exact (Option.some.inj h2).symm
/-- what a callee is told -/
def hs_Pc (D : va_G) (DA : hs_DA) (n0 : Nat → Prop) (G : hs_G) (S : hs_S) (av : List hs_V) : Array Value → State → Prop := va_Pc (av.map (hs_c G.1)) (fun U => hs_W D DA n0 U U.heap ∧ hs_P D DA n0 G S U.heap)
theorem hs_blind {D : va_G} {DA : hs_DA} {n0 : Nat → Prop} {G : hs_G} {S : hs_S} {av : List hs_V} : FrameBlind (hs_Pc D DA n0 G S av) := by
  intro a U g mk h
  refine ⟨h.1, ?_, ?_⟩
  · exact hs_W.go (s := U) (U := U.calling g mk a) (State.WarmedH.refl U) (Nat.le_refl _) (fun _ _ _ => rfl) h.2.1
  · exact h.2.2
theorem hs_told {D : va_G} {DA : hs_DA} {n0 : Nat → Prop} {G : hs_G} {S : hs_S} {av : List hs_V} {s : State} {H : Heap} {locs : List Loc} (hW : hs_W D DA n0 s s.heap) (hP : hs_P D DA n0 G S H) (hS : va_S n0 s.heap H locs) : ∀ U : State, U.heap = H → s.WarmedH U.vm → hs_Pc D DA n0 G S av (av.map (hs_c G.1)).toArray U := by
  intro U hU hw
  refine ⟨rfl, ?_, by rw [hU]; exact hP⟩
  rw [hU]
  exact hs_W.go hw hS.1 hS.2.1 hW
theorem hs_revmap {al : Nat → Nat → Nat} (a b : List hs_V) : (a ++ b).map (hs_c al) = a.map (hs_c al) ++ b.map (hs_c al) := List.map_append
theorem wa_run {Z : hs_Z} {own : String} {cc : ByteArray} {nL : Nat} {R0 : Room} {k n : Nat} {S : hs_S} {pc : Nat} {lv : List (Nat × hs_V)} {st st0 : List hs_V} (X : hs_C Z own cc nL R0) {mc mS : Nat} {Q : Option hs_V → hs_S → Prop} {E : String → hs_S → Prop}
    (hr : ∀ p l e R s m args below meth c D DA n0 G0 S0 Qw, Z = (p, l, e, R, s, m, args, below, meth, c, D, DA, n0, G0, S0, Qw) → ∀ (G : hs_G) (H : Heap) (locs : List Loc) (la : Array Slot), hs_P D DA n0 G S H → (∀ v ∈ st0, hs_vv S v) → va_S n0 s.heap H locs → la.size = c.maxLocals →
      ∃ a, vx_Run p l e R s m args below meth c H locs k n mc mS (F0 m pc la (st0.map (hs_c G.1))) (st.map (hs_c G.1)) (hs_Qc D DA n0 G S Q a) (hs_Xc D DA n0 G S E) n0)
    (hv : ∀ v ∈ st, v ∈ st0) (kk : ∀ v S', Q v S' → wa Z (k + mc) (n + mS) S' (pc + 3) lv (v.toList ++ st)) (kx : ∀ Ex S', E Ex S' → wx Z (k + mc) (n + mS) S' pc lv Ex) : wa Z k n S pc lv st0 := by
  obtain ⟨p, l, e, R, s, m, args, below, meth, c, D, DA, n0, G0, S0, Qw⟩ := Z
  intro G H locs la a1 a2 a3 a4 a5 a6
  obtain ⟨a, hr⟩ := hr _ _ _ _ _ _ _ _ _ _ _ _ _ _ _ _ rfl G H locs la a2 a4 a5 a6.1
  intro T hT Xs
  rcases hr T hT Xs with ⟨v, st₀, t, T', L, h0, X', hL, e1, e2, ⟨⟨v', S', G', hv', hq, hx2, hp2, hvv⟩, hF⟩, stp⟩ | ⟨q, st₀, t, T', L, Ex, ce, h0, X', hL, e1, e2, ⟨⟨S', G', hq, hx2, hp2⟩, hF⟩, hce, hcv, hcl, stp⟩
  · cases hv'
    obtain ⟨k1, k2, k3⟩ := vx_keep h0 e1 a5 (fun q _ h => h) (fun q h => h) hL hF
    have hst : ((v'.toList ++ st).map (hs_c G'.1)) = (v'.map (hs_c G'.1)).toList ++ st.map (hs_c G.1) := by
      rw [List.map_append, hx2.cs (fun w hw => a4 w (hv w hw))]
      cases v' <;> rfl
    have w := kk v' S' hq G' T'.heap (locs ++ L) la (a1.tr hx2) (by rw [e1]; exact hp2) (fun w hw => hx2.vv (a3 w hw)) (fun w hw => (List.mem_append.mp hw).elim (fun h => by cases v' with | none => cases h | some x => exact (List.mem_singleton.mp h) ▸ hvv x rfl) (fun h => hx2.vv (a4 w (hv w h)))) k3 (by rw [hx2.cl a3]; exact a6)
    rw [hst] at w
    obtain ⟨t2, b1, b2⟩ := w T' rfl X'
    exact ⟨t2, stp t2 b1, b2⟩
  · obtain ⟨k1, k2, k3⟩ := vx_keep h0 e1 a5 (fun q _ h => h) (fun q h => h) hL hF
    obtain ⟨t2, b1, b2⟩ := kx Ex S' hq G' T'.heap (locs ++ L) la (st.map (hs_c G.1)) ce q (a1.tr hx2) (by rw [e1]; exact hp2) (fun w hw => hx2.vv (a3 w hw)) k3 (by rw [hx2.cl a3]; exact a6) (by rw [e1]; exact hce) hcv hcl T' rfl X'
    exact ⟨t2, stp.trans b1, b2⟩
theorem hs_W8 {al : Nat → Nat → Nat} {st : List hs_V} (h : (st.map hs_cat).sum ≤ 8) : 2 * (F0 (default : MethodId) 0 #[] []).monitorRoom + ((st.map (hs_c al)).map fun v => v.category).sum ≤ 8 := by
  have e : (st.map (hs_c al)).map (fun v => v.category) = st.map hs_cat := by
    rw [List.map_map]
    exact List.map_congr_left fun v _ => hs_c_cat al v
  rw [e]
  show 2 * 0 + _ ≤ 8
  omega
theorem wa_callV {Z : hs_Z} {own : String} {cc : ByteArray} {nL : Nat} {R0 : Room} {k n : Nat} {S : hs_S} {pc : Nat} {lv : List (Nat × hs_V)} {st st0 : List hs_V} (X : hs_C Z own cc nL R0) {d mc mS ix maxL nA t i ci N : Nat} {y : MethodName} {bytes : ByteArray} {ret : Option FieldType} {As : List hs_V} {Q : Option hs_V → hs_S → Prop} {E : String → hs_S → Prop} {rc : vw_C}
    (hM : hs_M d y (.code y bytes maxL ret) (.inr (.inr (t, i)) :: As) S mc mS Q E) (hk : hs_k t = (1, (ci, N))) (hc : hs_cl0[ci]? = some rc) (hrc : rc.1 = y.cls) (hcw : Cond.code y bytes maxL ret ∈ hs_ws) (hin : Cond.initialized y.cls ∈ hs_ws) (hlk : Cond.methodLink own ix y ∈ hs_ws) (hinst : Cond.instanceMethod y ∈ hs_ws) (hsel : Cond.selects y.cls y y ∈ hs_ws)
    (hdd : y.cls ≠ "java/lang/invoke/MethodHandle" ∧ y.cls ≠ "java/lang/invoke/VarHandle" ∧ (parseMethodDescriptor y.desc).map (fun d => d.parameters.length) = some nA) (hnA : As.length = nA) (hst : st0 = As.reverse ++ .inr (.inr (t, i)) :: st) (hcat : (st.map hs_cat).sum ≤ 8) (hd : decode cc pc = .ok (.invokevirtual ix, 3)) (hi : i ≠ 0)
    (hR : (d + 1 ≤ R0.frames ∧ 8 + (maxL + 11) + 64 * d ≤ R0.locals) ∧ k + mc ≤ R0.cells ∧ n + mS ≤ R0.slots)
    (kk : ∀ v S', Q v S' → wa Z (k + mc) (n + mS) S' (pc + 3) lv (v.toList ++ st)) (kx : ∀ Ex S', E Ex S' → wx Z (k + mc) (n + mS) S' pc lv Ex) : wa Z k n S pc lv st0 := by
  subst hst
  refine wa_run X (Q := Q) (E := E) ?_ (fun v hv => List.mem_append_right _ (List.mem_cons_of_mem _ hv)) kk kx
  rintro p l e R s m args below meth c D DA n0 G0 S0 Qw rfl G H locs la a2 a4 a5 hsz
  obtain ⟨hx, hb, hml, hown, hts, hlk0, hst0, hW, rfl⟩ := X
  have hvv : hs_vv S (.inr (.inr (t, i))) := a4 _ (List.mem_append_right _ List.mem_cons_self)
  have hok : hs_ok S t i := hvv.resolve_left hi
  obtain ⟨keys, b1, b2, b3, b4, b5, b6⟩ := id a2
  obtain ⟨q0, e1, e2⟩ := hs_key (D := D) (DA := DA) (n0 := n0) (H := H) b1 hok (by rw [hk]; simp)
  rw [hs_e1 hk] at e1
  have hrecv := va_recv hW.1 b2 hc e1
  rw [hrc] at hrecv
  have hav : ∀ v ∈ (.inr (.inr (t, i)) :: As : List hs_V), hs_vv S v := hs_pu hvv fun v hv => a4 v (List.mem_append_left _ (List.mem_reverse.mpr hv))
  have htold := hs_told (av := .inr (.inr (t, i)) :: As) hW a2 a5
  rw [List.map_cons, hs_c_ref hi] at htold
  have hM1 := hM l D DA n0 G hst0 hav
  have hs0 : ((As.reverse ++ Sum.inr (Sum.inr (t, i)) :: st).map (hs_c G.1)) = (As.map (hs_c G.1)).reverse ++ .ref (G.1 t i) :: st.map (hs_c G.1) := by
    rw [List.map_append, List.map_cons, hs_c_ref hi, List.map_reverse]
  rw [hs0]
  exact ⟨_, vx_runV (Ts := hs_ws) (own := own) (C := y.cls) (b := G.1 t i) (As := As.map (hs_c G.1)) ⟨hx, hb, hml, hown, hts⟩ hM1 ⟨hs_callB hts hcw hin hlk hdd hR.1, hts _ hinst, hts _ hsel⟩ ⟨hs_blind, hrecv, htold⟩ rfl (by rw [List.length_map]; exact hnA) (hsz.trans hml) rfl (hs_W8 hcat) hd hR.2⟩
theorem wa_callS {Z : hs_Z} {own : String} {cc : ByteArray} {nL : Nat} {R0 : Room} {k n : Nat} {S : hs_S} {pc : Nat} {lv : List (Nat × hs_V)} {st st0 : List hs_V} (X : hs_C Z own cc nL R0) {d mc mS ix maxL nA : Nat} {y : MethodName} {bytes : ByteArray} {ret : Option FieldType} {As : List hs_V} {Q : Option hs_V → hs_S → Prop} {E : String → hs_S → Prop}
    (hM : hs_M d y (.code y bytes maxL ret) As S mc mS Q E) (hcw : Cond.code y bytes maxL ret ∈ hs_ws) (hin : Cond.initialized y.cls ∈ hs_ws) (hlk : Cond.methodLink own ix y ∈ hs_ws) (hstat : Cond.static y ∈ hs_ws)
    (hdd : y.cls ≠ "java/lang/invoke/MethodHandle" ∧ y.cls ≠ "java/lang/invoke/VarHandle" ∧ (parseMethodDescriptor y.desc).map (fun d => d.parameters.length) = some nA) (hnA : As.length = nA) (hst : st0 = As.reverse ++ st) (hcat : (st.map hs_cat).sum ≤ 8) (hd : decode cc pc = .ok (.invokestatic ix, 3))
    (hR : (d + 1 ≤ R0.frames ∧ 8 + (maxL + 11) + 64 * d ≤ R0.locals) ∧ k + mc ≤ R0.cells ∧ n + mS ≤ R0.slots)
    (kk : ∀ v S', Q v S' → wa Z (k + mc) (n + mS) S' (pc + 3) lv (v.toList ++ st)) (kx : ∀ Ex S', E Ex S' → wx Z (k + mc) (n + mS) S' pc lv Ex) : wa Z k n S pc lv st0 := by
  subst hst
  refine wa_run X (Q := Q) (E := E) ?_ (fun v hv => List.mem_append_right _ hv) kk kx
  rintro p l e R s m args below meth c D DA n0 G0 S0 Qw rfl G H locs la a2 a4 a5 hsz
  obtain ⟨hx, hb, hml, hown, hts, hlk0, hst0, hW, rfl⟩ := X
  have hav : ∀ v ∈ As, hs_vv S v := fun v hv => a4 v (List.mem_append_left _ (List.mem_reverse.mpr hv))
  have hM1 := hM l D DA n0 G hst0 hav
  have hs0 : ((As.reverse ++ st).map (hs_c G.1)) = (As.map (hs_c G.1)).reverse ++ st.map (hs_c G.1) := by
    rw [List.map_append, List.map_reverse]
  rw [hs0]
  exact ⟨_, vx_runS (Ts := hs_ws) (own := own) (As := As.map (hs_c G.1)) ⟨hx, hb, hml, hown, hts⟩ hM1 ⟨hs_callB hts hcw hin hlk hdd hR.1, hts _ hstat⟩ ⟨hs_blind, hs_told (av := As) hW a2 a5⟩ rfl (by rw [List.length_map]; exact hnA) (hsz.trans hml) rfl (hs_W8 hcat) hd hR.2⟩
theorem wa_callSN {Z : hs_Z} {own host : String} {cc : ByteArray} {nL : Nat} {R0 : Room} {k n : Nat} {S : hs_S} {pc : Nat} {lv : List (Nat × hs_V)} {st st0 : List hs_V} (X : hs_C Z own cc nL R0) {d mc mS ix maxL nA : Nat} {y : MethodName} {bytes : ByteArray} {ret : Option FieldType} {As : List hs_V} {Q : Option hs_V → hs_S → Prop} {E : String → hs_S → Prop}
    (hM : hs_M d y (.code y bytes maxL ret) As S mc mS Q E) (hcw : Cond.code y bytes maxL ret ∈ hs_ws) (hin : Cond.initialized y.cls ∈ hs_ws) (hlk : Cond.methodLinkNest own ix y host ∈ hs_ws) (hstat : Cond.static y ∈ hs_ws)
    (hdd : y.cls ≠ "java/lang/invoke/MethodHandle" ∧ y.cls ≠ "java/lang/invoke/VarHandle" ∧ (parseMethodDescriptor y.desc).map (fun d => d.parameters.length) = some nA) (hnA : As.length = nA) (hst : st0 = As.reverse ++ st) (hcat : (st.map hs_cat).sum ≤ 8) (hd : decode cc pc = .ok (.invokestatic ix, 3))
    (hR : (d + 1 ≤ R0.frames ∧ 8 + (maxL + 11) + 64 * d ≤ R0.locals) ∧ k + mc ≤ R0.cells ∧ n + mS ≤ R0.slots)
    (kk : ∀ v S', Q v S' → wa Z (k + mc) (n + mS) S' (pc + 3) lv (v.toList ++ st)) (kx : ∀ Ex S', E Ex S' → wx Z (k + mc) (n + mS) S' pc lv Ex) : wa Z k n S pc lv st0 := by
  subst hst
  refine wa_run X (Q := Q) (E := E) ?_ (fun v hv => List.mem_append_right _ hv) kk kx
  rintro p l e R s m args below meth c D DA n0 G0 S0 Qw rfl G H locs la a2 a4 a5 hsz
  obtain ⟨hx, hb, hml, hown, hts, hlk0, hst0, hW, rfl⟩ := X
  have hav : ∀ v ∈ As, hs_vv S v := fun v hv => a4 v (List.mem_append_left _ (List.mem_reverse.mpr hv))
  have hM1 := hM l D DA n0 G hst0 hav
  have hs0 : ((As.reverse ++ st).map (hs_c G.1)) = (As.map (hs_c G.1)).reverse ++ st.map (hs_c G.1) := by
    rw [List.map_append, List.map_reverse]
  rw [hs0]
  exact ⟨_, vx_runSN (Ts := hs_ws) (own := own) (host := host) (As := As.map (hs_c G.1)) ⟨hx, hb, hml, hown, hts⟩ hM1 ⟨hs_callN hts hcw hin hlk hdd hR.1, hts _ hstat, trivial⟩ ⟨hs_blind, hs_told (av := As) hW a2 a5⟩ rfl (by rw [List.length_map]; exact hnA) (hsz.trans hml) rfl (hs_W8 hcat) hd hR.2⟩
theorem wa_callI {Z : hs_Z} {own : String} {cc : ByteArray} {nL : Nat} {R0 : Room} {k n : Nat} {S : hs_S} {pc : Nat} {lv : List (Nat × hs_V)} {st st0 : List hs_V} (X : hs_C Z own cc nL R0) {d mc mS ix maxL nA t i : Nat} {y : MethodName} {bytes : ByteArray} {As : List hs_V} {Q : Option hs_V → hs_S → Prop} {E : String → hs_S → Prop}
    (hM : hs_M d y (.code y bytes maxL none) (.inr (.inr (t, i)) :: As) S mc mS Q E) (hcw : Cond.code y bytes maxL none ∈ hs_ws) (hin : Cond.initialized y.cls ∈ hs_ws) (hlk : Cond.methodLink own ix y ∈ hs_ws) (hinst : Cond.instanceMethod y ∈ hs_ws) (hyn : y.name = "<init>")
    (hdd : y.cls ≠ "java/lang/invoke/MethodHandle" ∧ y.cls ≠ "java/lang/invoke/VarHandle" ∧ (parseMethodDescriptor y.desc).map (fun d => d.parameters.length) = some nA) (hnA : As.length = nA) (hst : st0 = As.reverse ++ .inr (.inr (t, i)) :: st) (hcat : (st.map hs_cat).sum ≤ 8) (hd : decode cc pc = .ok (.invokespecial ix, 3)) (hi : i ≠ 0)
    (hR : (d + 1 ≤ R0.frames ∧ 8 + (maxL + 11) + 64 * d ≤ R0.locals) ∧ k + mc ≤ R0.cells ∧ n + mS ≤ R0.slots)
    (kk : ∀ v S', Q v S' → wa Z (k + mc) (n + mS) S' (pc + 3) lv (v.toList ++ st)) (kx : ∀ Ex S', E Ex S' → wx Z (k + mc) (n + mS) S' pc lv Ex) : wa Z k n S pc lv st0 := by
  subst hst
  refine wa_run X (Q := Q) (E := E) ?_ (fun v hv => List.mem_append_right _ (List.mem_cons_of_mem _ hv)) kk kx
  rintro p l e R s m args below meth c D DA n0 G0 S0 Qw rfl G H locs la a2 a4 a5 hsz
  obtain ⟨hx, hb, hml, hown, hts, hlk0, hst0, hW, rfl⟩ := X
  have hvv : hs_vv S (.inr (.inr (t, i))) := a4 _ (List.mem_append_right _ List.mem_cons_self)
  have hav : ∀ v ∈ (.inr (.inr (t, i)) :: As : List hs_V), hs_vv S v := hs_pu hvv fun v hv => a4 v (List.mem_append_left _ (List.mem_reverse.mpr hv))
  have htold := hs_told (av := .inr (.inr (t, i)) :: As) hW a2 a5
  rw [List.map_cons, hs_c_ref hi] at htold
  have hM1 := hM l D DA n0 G hst0 hav
  have hs0 : ((As.reverse ++ Sum.inr (Sum.inr (t, i)) :: st).map (hs_c G.1)) = (As.map (hs_c G.1)).reverse ++ .ref (G.1 t i) :: st.map (hs_c G.1) := by
    rw [List.map_append, List.map_cons, hs_c_ref hi, List.map_reverse]
  rw [hs0]
  exact ⟨_, vx_runI (Ts := hs_ws) (own := own) (b := G.1 t i) (As := As.map (hs_c G.1)) ⟨hx, hb, hml, hown, hts⟩ hM1 ⟨hs_callB hts hcw hin hlk hdd hR.1, hyn, hts _ hinst⟩ ⟨hs_blind, htold⟩ rfl (by rw [List.length_map]; exact hnA) (hsz.trans hml) rfl (hs_W8 hcat) hd hR.2⟩
theorem wa_callIN {Z : hs_Z} {own host : String} {cc : ByteArray} {nL : Nat} {R0 : Room} {k n : Nat} {S : hs_S} {pc : Nat} {lv : List (Nat × hs_V)} {st st0 : List hs_V} (X : hs_C Z own cc nL R0) {d mc mS ix maxL nA t i : Nat} {y : MethodName} {bytes : ByteArray} {As : List hs_V} {Q : Option hs_V → hs_S → Prop} {E : String → hs_S → Prop}
    (hM : hs_M d y (.code y bytes maxL none) (.inr (.inr (t, i)) :: As) S mc mS Q E) (hcw : Cond.code y bytes maxL none ∈ hs_ws) (hin : Cond.initialized y.cls ∈ hs_ws) (hlk : Cond.methodLinkNest own ix y host ∈ hs_ws) (hinst : Cond.instanceMethod y ∈ hs_ws) (hyn : y.name = "<init>")
    (hdd : y.cls ≠ "java/lang/invoke/MethodHandle" ∧ y.cls ≠ "java/lang/invoke/VarHandle" ∧ (parseMethodDescriptor y.desc).map (fun d => d.parameters.length) = some nA) (hnA : As.length = nA) (hst : st0 = As.reverse ++ .inr (.inr (t, i)) :: st) (hcat : (st.map hs_cat).sum ≤ 8) (hd : decode cc pc = .ok (.invokespecial ix, 3)) (hi : i ≠ 0)
    (hR : (d + 1 ≤ R0.frames ∧ 8 + (maxL + 11) + 64 * d ≤ R0.locals) ∧ k + mc ≤ R0.cells ∧ n + mS ≤ R0.slots)
    (kk : ∀ v S', Q v S' → wa Z (k + mc) (n + mS) S' (pc + 3) lv (v.toList ++ st)) (kx : ∀ Ex S', E Ex S' → wx Z (k + mc) (n + mS) S' pc lv Ex) : wa Z k n S pc lv st0 := by
  subst hst
  refine wa_run X (Q := Q) (E := E) ?_ (fun v hv => List.mem_append_right _ (List.mem_cons_of_mem _ hv)) kk kx
  rintro p l e R s m args below meth c D DA n0 G0 S0 Qw rfl G H locs la a2 a4 a5 hsz
  obtain ⟨hx, hb, hml, hown, hts, hlk0, hst0, hW, rfl⟩ := X
  have hvv : hs_vv S (.inr (.inr (t, i))) := a4 _ (List.mem_append_right _ List.mem_cons_self)
  have hav : ∀ v ∈ (.inr (.inr (t, i)) :: As : List hs_V), hs_vv S v := hs_pu hvv fun v hv => a4 v (List.mem_append_left _ (List.mem_reverse.mpr hv))
  have htold := hs_told (av := .inr (.inr (t, i)) :: As) hW a2 a5
  rw [List.map_cons, hs_c_ref hi] at htold
  have hM1 := hM l D DA n0 G hst0 hav
  have hs0 : ((As.reverse ++ Sum.inr (Sum.inr (t, i)) :: st).map (hs_c G.1)) = (As.map (hs_c G.1)).reverse ++ .ref (G.1 t i) :: st.map (hs_c G.1) := by
    rw [List.map_append, List.map_cons, hs_c_ref hi, List.map_reverse]
  rw [hs0]
  exact ⟨_, vx_runIN (Ts := hs_ws) (own := own) (host := host) (b := G.1 t i) (As := As.map (hs_c G.1)) ⟨hx, hb, hml, hown, hts⟩ hM1 ⟨hs_callN hts hcw hin hlk hdd hR.1, hyn, hts _ hinst⟩ ⟨hs_blind, htold⟩ rfl (by rw [List.length_map]; exact hnA) (hsz.trans hml) rfl (hs_W8 hcat) hd hR.2⟩
