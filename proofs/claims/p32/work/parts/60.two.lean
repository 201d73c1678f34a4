/-! ===== two worlds: both sheets ===== -/
abbrev b_G : Type := hs_G × hs_G
abbrev b_S : Type := hs_S × hs_S
def b_al (G : b_G) : Nat → Nat → Nat := fun t i => if t < 200 then G.1.1 t i else G.2.1 (t - 200) i
def b_vv (S : b_S) (v : hs_V) : Prop := match v with
  | .inr (.inr q) => q.2 = 0 ∨ ((q.1 < 200 ∧ hs_ok S.1 q.1 q.2) ∨ (200 ≤ q.1 ∧ hs_ok S.2 (q.1 - 200) q.2))
  | _ => True
def b_x (G0 : b_G) (S0 : b_S) (G : b_G) (S : b_S) : Prop := hs_x G0.1 S0.1 G.1 S.1 ∧ hs_x G0.2 S0.2 G.2 S.2
theorem b_x.rf {G : b_G} {S : b_S} : b_x G S G S := ⟨hs_x.rf, hs_x.rf⟩
theorem b_x.tr {G0 G1 G2 : b_G} {S0 S1 S2 : b_S} (h : b_x G0 S0 G1 S1) (k : b_x G1 S1 G2 S2) : b_x G0 S0 G2 S2 := ⟨h.1.tr k.1, h.2.tr k.2⟩
theorem b_x.c {G0 G : b_G} {S0 S : b_S} (h : b_x G0 S0 G S) {v : hs_V} (hv : b_vv S0 v) : hs_c (b_al G) v = hs_c (b_al G0) v := by
  rcases v with x | x | ⟨t, i⟩
  · rfl
  · rfl
  · rcases hv with hv | ⟨h1, hv⟩ | ⟨h1, hv⟩
    · have hv : i = 0 := hv
      subst hv; rfl
    · have h1 : t < 200 := h1
      show (if i = 0 then Value.null else Value.ref (if t < 200 then G.1.1 t i else _)) = (if i = 0 then Value.null else Value.ref (if t < 200 then G0.1.1 t i else _))
      rw [if_pos h1, if_pos h1, (h.1 t i hv).2]
    · have h1 : 200 ≤ t := h1
      show (if i = 0 then Value.null else Value.ref (if t < 200 then _ else G.2.1 (t - 200) i)) = (if i = 0 then Value.null else Value.ref (if t < 200 then _ else G0.2.1 (t - 200) i))
      rw [if_neg (show ¬ t < 200 by omega), if_neg (show ¬ t < 200 by omega), (h.2 (t - 200) i hv).2]
theorem b_x.vv {G0 G : b_G} {S0 S : b_S} (h : b_x G0 S0 G S) {v : hs_V} (hv : b_vv S0 v) : b_vv S v := by
  rcases v with x | x | ⟨t, i⟩
  · trivial
  · trivial
  · rcases hv with hv | ⟨h1, hv⟩ | ⟨h1, hv⟩
    · exact Or.inl hv
    · exact Or.inr (Or.inl ⟨h1, (h.1 t i hv).1⟩)
    · exact Or.inr (Or.inr ⟨h1, (h.2 (t - 200) i hv).1⟩)
theorem b_x.cs {G0 G : b_G} {S0 S : b_S} (h : b_x G0 S0 G S) {vs : List hs_V} (hv : ∀ v ∈ vs, b_vv S0 v) : vs.map (hs_c (b_al G)) = vs.map (hs_c (b_al G0)) := List.map_congr_left fun v q => h.c (hv v q)
theorem b_x.cl {G0 G : b_G} {S0 S : b_S} (h : b_x G0 S0 G S) {vs : List (Nat × hs_V)} (hv : ∀ v ∈ vs, b_vv S0 v.2) : vs.map (fun q => (q.1, hs_c (b_al G) q.2)) = vs.map (fun q => (q.1, hs_c (b_al G0) q.2)) := List.map_congr_left fun v q => by rw [h.c (hv v q)]
theorem b_lvv {S : b_S} {lv : List (Nat × hs_V)} (h : ∀ q ∈ lv, b_vv S q.2) {q i : Nat} {v : hs_V} (hq : lv[q]? = some (i, v)) : b_vv S v := h _ (List.mem_of_getElem? hq)
theorem b_st1_v {S : b_S} {i : Nat} {v : hs_V} {lv : List (Nat × hs_V)} (h : ∀ q ∈ lv, b_vv S q.2) (hv : b_vv S v) : ∀ q ∈ hs_st1 i v lv, b_vv S q.2 := fun q hq => (List.mem_cons.mp hq).elim (fun e => by rw [e]; exact hv) (fun h2 => h q (List.mem_filter.mp h2).1)
theorem b_st2_v {S : b_S} {i : Nat} {v : hs_V} {lv : List (Nat × hs_V)} (h : ∀ q ∈ lv, b_vv S q.2) (hv : b_vv S v) : ∀ q ∈ hs_st2 i v lv, b_vv S q.2 := fun q hq => (List.mem_cons.mp hq).elim (fun e => by rw [e]; exact hv) (fun h2 => h q (List.mem_filter.mp h2).1)
/-- a world's own cells -/
theorem hs_P.dom {D : va_G} {DA : hs_DA} {A : Nat → Prop} {G : hs_G} {S : hs_S} {H : Heap} (h : hs_P D DA A G S H) : hs_P D DA (fun q => A q ∧ q < H.size) G S H := by
  obtain ⟨keys, b1, b2, b3, b4⟩ := h
  exact ⟨keys, b1, b2, ⟨b3.1, fun k q hk => ⟨b3.2 k q hk, (b2 k q hk).lt⟩⟩, b4⟩
theorem hs_P.mono {D : va_G} {DA : hs_DA} {A B : Nat → Prop} {G : hs_G} {S : hs_S} {H : Heap} (h : hs_P D DA A G S H) (hAB : ∀ q, A q → B q) : hs_P D DA B G S H := by
  obtain ⟨keys, b1, b2, b3, b4⟩ := h
  exact ⟨keys, b1, b2, ⟨b3.1, fun k q hk => hAB _ (b3.2 k q hk)⟩, b4⟩
theorem hs_P.keep {D : va_G} {DA : hs_DA} {A : Nat → Prop} {G : hs_G} {S : hs_S} {H H1 : Heap} (h : hs_P D DA A G S H) (hq : ∀ q, A q → q < H.size → H1[q]? = H[q]?) : hs_P D DA A G S H1 := by
  obtain ⟨keys, b1, b2, b3, b4⟩ := h
  exact ⟨keys, b1, b2.kept fun k q hk => hq q.1 (b3.2 k q hk) (b2 k q hk).lt, b3, b4⟩
theorem hs_W.narrow {D : va_G} {DA : hs_DA} {A B : Nat → Prop} {U : State} {H : Heap} (h : hs_W D DA A U H) (hAB : ∀ q, B q → A q) (hB : ∀ q : Nat, H.size ≤ q → B q) : hs_W D DA B U H := by
  obtain ⟨h1, h2, h3, h4, ⟨h9, h10⟩, ⟨h11, h12⟩, h13, h14, ⟨h15, h16, h17, h19⟩, h18⟩ := h
  exact ⟨h1, h2, h3, h4, ⟨h9.narrow hAB, h10.narrow hAB⟩, ⟨h11.narrow hAB, h12.narrow hAB⟩, h13, h14, ⟨h15, fun z => h16 (hAB _ z), fun z => h17 (hAB _ z), h19⟩, hB⟩
def b_P (D : va_G) (DA : hs_DA) (n0 : Nat → Prop) (G : b_G) (S : b_S) (H : Heap) : Prop :=
  ∃ B1 B2 : Nat → Prop, (∀ q, B1 q → n0 q ∧ q < H.size) ∧ (∀ q, B2 q → n0 q ∧ q < H.size) ∧ (∀ q, B1 q → ¬ B2 q) ∧ hs_P D DA B1 G.1 S.1 H ∧ hs_P D DA B2 G.2 S.2 H
/-! ===== the judgement over both ===== -/
abbrev b_Z : Type := Program × Launch × Env × Room × State × MethodId × Array Value × List Frame × Method × Code × va_G × hs_DA × (Nat → Prop) × b_G × b_S × (State → Prop)
def wb (Z : b_Z) (k n : Nat) (S : b_S) (pc : Nat) (lv : List (Nat × hs_V)) (st : List hs_V) : Prop := match Z with
  | (p, l, e, R, s, m, args, below, meth, c, D, DA, n0, G0, S0, Qw) => ∀ (G : b_G) (H : Heap) (locs : List Loc) (la : Array Slot), b_x G0 S0 G S → b_P D DA n0 G S H → (∀ v ∈ lv, b_vv S v.2) → (∀ v ∈ st, b_vv S v) → va_S n0 s.heap H locs →
    lv_has la c.maxLocals (lv.map fun q => (q.1, hs_c (b_al G) q.2)) → W p l e R s m args below meth c H locs k n Qw (F0 m pc la (st.map (hs_c (b_al G))))
def b_C (Z : b_Z) (own : String) (cc : ByteArray) (nL : Nat) (R0 : Room) : Prop := match Z with
  | (p, l, e, R, s, m, args, below, meth, c, D, DA, n0, G0, S0, Qw) => p.tables.exec = Jvm.exec ∧ c.code = cc ∧ c.maxLocals = nL ∧ s.vm.findClass own = some m.cls ∧ (∀ w ∈ hs_ws, w.before args s = true) ∧ meth.locks = false ∧ l.stackTraces = false ∧ hs_W D DA n0 s s.heap ∧ R = R0
def b_Qc (D : va_G) (DA : hs_DA) (n0 : Nat → Prop) (G : b_G) (S : b_S) (Q : Option hs_V → b_S → Prop) : Array Value → State → Outcome → State → Prop := fun _ st o t =>
  (∃ v S' G', o = .returned (v.map (hs_c (b_al G'))) ∧ Q v S' ∧ b_x G S G' S' ∧ b_P D DA n0 G' S' t.heap ∧ ∀ x, v = some x → b_vv S' x) ∧ va_F n0 st t
def b_E (Z : b_Z) (ret : Option FieldType) (mc mS : Nat) (Q : Option hs_V → b_S → Prop) : Prop := match Z with
  | (p, l, e, R, s, m, args, below, meth, c, D, DA, n0, G0, S0, Qw) => Qw = vx_MQ below (b_Qc D DA n0 G0 S0 Q) (fun _ _ _ => False) args s mc mS n0 ∧ meth.sig.returnType = ret
def b_Pc (D : va_G) (DA : hs_DA) (n0 : Nat → Prop) (G : b_G) (S : b_S) (av : List hs_V) : Array Value → State → Prop := va_Pc (av.map (hs_c (b_al G))) (fun U => hs_W D DA n0 U U.heap ∧ b_P D DA n0 G S U.heap)
/-- a method over both sheets -/
def b_M (d : Nat) (y : MethodName) (w : Cond) (av : List hs_V) (S : b_S) (mc mS : Nat) (Q : Option hs_V → b_S → Prop) : Prop :=
  ∀ (l : Launch) (D : va_G) (DA : hs_DA) (n0 : Nat → Prop) (G : b_G), l.stackTraces = false → (∀ v ∈ av, b_vv S v) →
    vx_Met l y (w :: hs_ws) (hs_rm d mc mS) (b_Pc D DA n0 G S av) (b_Qc D DA n0 G S Q) (fun _ _ _ => False) mc mS n0
theorem wb_lv {Z : b_Z} {k n : Nat} {S : b_S} {pc : Nat} {lv lv' : List (Nat × hs_V)} {st : List hs_V} (ks : List Nat) (hl : ks.filterMap (fun q => lv[q]?) = lv') (kk : wb Z k n S pc lv' st) : wb Z k n S pc lv st := by
  obtain ⟨p, l, e, R, s, m, args, below, meth, c, D, DA, n0, G0, S0, Qw⟩ := Z
  intro G H locs la h1 h2 h3 h4 h5 h6
  refine kk G H locs la h1 h2 (fun v hv => ?_) h4 h5 (lv_sub h6 ks ?_)
  · rw [← hl] at hv
    obtain ⟨q, -, hq⟩ := List.mem_filterMap.mp hv
    exact h3 v (List.mem_of_getElem? hq)
  · unfold lv_pick
    rw [← hl, List.map_filterMap]
    exact congrArg (fun f => List.filterMap f ks) (funext fun q => List.getElem?_map)
theorem wb_wid {Z : b_Z} {k n k' n' : Nat} {S : b_S} {pc : Nat} {lv : List (Nat × hs_V)} {st : List hs_V} (h1 : k ≤ k') (h2 : n ≤ n') (kk : wb Z k' n' S pc lv st) : wb Z k n S pc lv st := by
  obtain ⟨p, l, e, R, s, m, args, below, meth, c, D, DA, n0, G0, S0, Qw⟩ := Z
  intro G H locs la a1 a2 a3 a4 a5 a6
  exact W.widen h1 h2 (kk G H locs la a1 a2 a3 a4 a5 a6)
/-! ===== ends, bodies ===== -/
theorem b_endQ {D : va_G} {DA : hs_DA} {n0 : Nat → Prop} {G0 G : b_G} {S0 S : b_S} {Q : Option hs_V → b_S → Prop} {v : Option hs_V} {s : State} {args : Array Value} {H : Heap} {locs : List Loc} (a1 : b_x G0 S0 G S) (a2 : b_P D DA n0 G S H) (a5 : va_S n0 s.heap H locs) (hq : Q v S) (hv : ∀ x, v = some x → b_vv S x) :
    ∀ t : State, t.heap = H → s.WarmedH t.vm → b_Qc D DA n0 G0 S0 Q args s (.returned (v.map (hs_c (b_al G)))) t := fun t ht _ => ⟨⟨v, S, G, rfl, hq, a1, by rw [ht]; exact a2, hv⟩, a5.F ht⟩
theorem wb_ireturn {Z : b_Z} {own : String} {cc : ByteArray} {nL : Nat} {R0 : Room} {k n : Nat} {S : b_S} {pc : Nat} {lv : List (Nat × hs_V)} (X : b_C Z own cc nL R0) {ret : FieldType} {mc mS : Nat} {Q : Option hs_V → b_S → Prop} (E : b_E Z (some ret) mc mS Q) {v : Int32} (hd : decode cc pc = .ok (.ireturn, 1)) (hk : k ≤ mc) (hn : n ≤ mS) (hr : ret = .int ∨ (ret = .boolean ∧ (v = 0 ∨ v = 1))) (hq : Q (some (.inl v)) S) : wb Z k n S pc lv [.inl v] := by
  obtain ⟨p, l, e, R, s, m, args, below, meth, c, D, DA, n0, G0, S0, Qw⟩ := Z
  obtain ⟨hx, hb, hml, hown, hts, hlk, hst, hW, hR⟩ := X
  obtain ⟨rfl, hret⟩ := E
  intro G H locs la a1 a2 a3 a4 a5 a6
  refine W.widen hk hn (vx_ret (W.zret hx hb hret ?_ (b_endQ (v := some (.inl v)) a1 a2 a5 hq (fun x h => by cases h; trivial)) a5.2.2 hd hlk))
  rcases hr with rfl | ⟨rfl, rfl | rfl⟩
  · rfl
  · decide
  · decide
theorem b_argv {S : b_S} (av : List hs_V) (h : ∀ v ∈ av, b_vv S v) : ∀ k, ∀ q ∈ hs_args k av, b_vv S q.2 := by
  induction av with
  | nil => intro k q hq; cases hq
  | cons v vs ih =>
    intro k q hq
    rcases List.mem_cons.mp hq with rfl | hq
    · exact hs_h1 h
    · exact ih (hs_n1 h) _ q hq
theorem b_entry {p : Program} {l : Launch} {e : Env} {R : Room} {s : State} {m : MethodId} {args : Array Value} {below : List Frame} {meth : Method} {c : Code} {D : va_G} {DA : hs_DA} {n0 : Nat → Prop} {G : b_G} {S : b_S} {Qw : State → Prop} {nL : Nat} {av : List hs_V} (hml : c.maxLocals = nL) (hn : (av.map hs_cat).sum ≤ nL) (hav : ∀ v ∈ av, b_vv S v) (hP : b_P D DA n0 G S s.heap)
    (kk : wb (p, l, e, R, s, m, args, below, meth, c, D, DA, n0, G, S, Qw) 0 0 S 0 (hs_args 0 av) []) : W p l e R s m args below meth c s.heap [] 0 0 Qw (entryFrame m (av.map (hs_c (b_al G))).toArray nL) := by
  rw [lg_entry_eq]
  have hl := lv_entry (av.map (hs_c (b_al G))) (n := nL) (by rw [hs_slen]; exact hn)
  rw [hs_largs] at hl
  exact kk G s.heap [] _ b_x.rf hP (b_argv av hav 0) (fun v hv => by cases hv) va_S.rf (by rw [hml]; exact hl)
theorem b_body {own : String} {cc : ByteArray} {nL d mc mS : Nat} {ret : Option FieldType} {y : MethodName} {av : List hs_V} {S : b_S} {Q : Option hs_V → b_S → Prop} (hy : plainName y.cls = true) (ho : y.cls = own) (hn : (av.map hs_cat).sum ≤ nL)
    (kk : ∀ Z : b_Z, b_C Z own cc nL (hs_rm d mc mS) → b_E Z ret mc mS Q → wb Z 0 0 S 0 (hs_args 0 av) []) : b_M d y (.code y cc nL ret) av S mc mS Q := by
  intro l D DA n0 G hst hav
  refine vx_ofW (cc := cc) (maxL := nL) (ret := ret) hy rfl fun p e s m args below meth c s₁ B hml hN hv => ?_
  obtain ⟨rfl, hW, hP⟩ := hv
  have hts := atoms_spec B.pre
  refine b_entry hml hn hav hP (kk _ ⟨B.exec, B.bytes, hml, ?_, fun w hw => hts w (List.mem_cons_of_mem _ hw), B.notSynchronized, hst, hW, rfl⟩ ⟨rfl, B.returns⟩)
  rw [← ho]; exact findClass_of_methodNamed B.named
theorem b_M.mono {d : Nat} {y : MethodName} {w : Cond} {av : List hs_V} {S : b_S} {mc mS : Nat} {Q Q' : Option hs_V → b_S → Prop} (h : b_M d y w av S mc mS Q) (hQ : ∀ v S', Q v S' → Q' v S') : b_M d y w av S mc mS Q' := by
  intro l D DA n0 G hl hav
  have hm := h l D DA n0 G hl hav
  refine MetFree.mono hm (fun _ _ h => h) (fun _ _ _ _ _ h => h) (fun a st o t _ hq => ?_)
  rcases hq with ⟨⟨⟨v, S', G', e1, e2, e3⟩, e4⟩, e5⟩ | ⟨q, e1, E, ce, L, e2, e5⟩
  · exact Or.inl ⟨⟨⟨v, S', G', e1, hQ v S' e2, e3⟩, e4⟩, e5⟩
  · exact e2.elim
/-! ===== calls ===== -/
def b_up (v : hs_V) : hs_V := match v with
  | .inr (.inr q) => .inr (.inr (q.1 + 200, q.2))
  | v => v
def b_lo (v : hs_V) : Bool := match v with
  | .inr (.inr q) => decide (q.1 < 200)
  | _ => true
theorem b_lo_c {G : b_G} {v : hs_V} (h : b_lo v = true) : hs_c (b_al G) v = hs_c G.1.1 v := by
  rcases v with x | x | ⟨t, i⟩
  · rfl
  · rfl
  · have h : t < 200 := of_decide_eq_true h
    show (if i = 0 then Value.null else Value.ref (if t < 200 then G.1.1 t i else _)) = (if i = 0 then Value.null else Value.ref (G.1.1 t i))
    rw [if_pos h]
theorem b_lo_cs {G : b_G} {vs : List hs_V} (h : vs.all b_lo = true) : vs.map (hs_c (b_al G)) = vs.map (hs_c G.1.1) := List.map_congr_left fun v q => b_lo_c (List.all_eq_true.mp h v q)
theorem b_lo_v {S : b_S} {v : hs_V} (h : b_lo v = true) (hv : b_vv S v) : hs_vv S.1 v := by
  rcases v with x | x | ⟨t, i⟩
  · trivial
  · trivial
  · have h : t < 200 := of_decide_eq_true h
    rcases hv with hv | hv | hv
    · exact Or.inl hv
    · exact Or.inr hv.2
    · have := hv.1; omega
theorem b_up_cs {G : b_G} {vs : List hs_V} : (vs.map b_up).map (hs_c (b_al G)) = vs.map (hs_c G.2.1) := by
  rw [List.map_map]
  refine List.map_congr_left fun v _ => ?_
  rcases v with x | x | ⟨t, i⟩
  · rfl
  · rfl
  · show (if i = 0 then Value.null else Value.ref (if t + 200 < 200 then _ else G.2.1 (t + 200 - 200) i)) = (if i = 0 then Value.null else Value.ref (G.2.1 t i))
    rw [if_neg (show ¬ t + 200 < 200 by omega), Nat.add_sub_cancel]
theorem b_up_v {S : b_S} {v : hs_V} (hv : b_vv S (b_up v)) : hs_vv S.2 v := by
  rcases v with x | x | ⟨t, i⟩
  · trivial
  · trivial
  · rcases hv with hv | hv | hv
    · exact Or.inl hv
    · have : t + 200 < 200 := hv.1; omega
    · have h2 : hs_ok S.2 (t + 200 - 200) i := hv.2
      rw [Nat.add_sub_cancel] at h2
      exact Or.inr h2
theorem b_blind {D : va_G} {DA : hs_DA} {n0 : Nat → Prop} {G : b_G} {S : b_S} {av : List hs_V} : FrameBlind (b_Pc D DA n0 G S av) := by
  intro a U g mk h
  refine ⟨h.1, ?_, ?_⟩
  · exact hs_W.go (s := U) (U := U.calling g mk a) (State.WarmedH.refl U) (Nat.le_refl _) (fun _ _ _ => rfl) h.2.1
  · exact h.2.2
theorem b_told {D : va_G} {DA : hs_DA} {n0 : Nat → Prop} {G : b_G} {S : b_S} {av : List hs_V} {s : State} {H : Heap} {locs : List Loc} (hW : hs_W D DA n0 s s.heap) (hP : b_P D DA n0 G S H) (hS : va_S n0 s.heap H locs) : ∀ U : State, U.heap = H → s.WarmedH U.vm → b_Pc D DA n0 G S av (av.map (hs_c (b_al G))).toArray U := by
  intro U hU hw
  refine ⟨rfl, ?_, by rw [hU]; exact hP⟩
  rw [hU]
  exact hs_W.go hw hS.1 hS.2.1 hW
theorem b_told1 {D : va_G} {DA : hs_DA} {n0 A : Nat → Prop} {G : hs_G} {S : hs_S} {av : List hs_V} {s : State} {H : Heap} {locs : List Loc} (hW : hs_W D DA n0 s s.heap) (hP : hs_P D DA A G S H) (hS : va_S n0 s.heap H locs) (hA : ∀ q, A q → n0 q) (hB : ∀ q : Nat, H.size ≤ q → A q) : ∀ U : State, U.heap = H → s.WarmedH U.vm → hs_Pc D DA A G S av (av.map (hs_c G.1)).toArray U := by
  intro U hU hw
  refine ⟨rfl, ?_, by rw [hU]; exact hP⟩
  rw [hU]
  exact (hs_W.go hw hS.1 hS.2.1 hW).narrow hA hB
/-- a value that is no reference -/
def b_nr (v : Option hs_V) : Prop := ∀ x, v = some x → ∀ q, x ≠ .inr (.inr q)
theorem b_nr_v {v : Option hs_V} (h : b_nr v) {S : b_S} {x : hs_V} (hx : v = some x) : b_vv S x := by
  rcases x with y | y | q
  · trivial
  · trivial
  · exact absurd rfl (h _ hx q)
theorem b_nr_c {v : Option hs_V} (h : b_nr v) {al al' : Nat → Nat → Nat} : v.map (hs_c al) = v.map (hs_c al') := by
  cases v with
  | none => rfl
  | some x =>
    rcases x with y | y | q
    · rfl
    · rfl
    · exact absurd rfl (h _ rfl q)
def b_qI (Q : Int32 → hs_S → hs_S → Prop) : Option hs_V → b_S → Prop := fun v S => hs_Wi S.1 ∧ hs_Wi S.2 ∧ ∃ r, v = some (.inl r) ∧ Q r S.1 S.2
