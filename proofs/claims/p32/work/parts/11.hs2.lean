/-! ===== words that move along, the world's constants ===== -/
def hs_mvw : Cond → Bool
  | .castable _ _ => true
  | .declares _ => true
  | .methodLinkNest _ _ _ _ => true
  | w => goodWord w
theorem hs_mv {w : Cond} (h : hs_mvw w = true) {s U : State} (hW : s.WarmedH U.vm) {A B : Array Value} (hb : w.before A s = true) : w.before B U = true := by
  unfold hs_mvw at h
  split at h
  · exact va_Nw.use rfl (va_Nw.warmC hW (va_Nw.of rfl hb))
  · exact va_Nw.use rfl (va_Nw.warmD hW (va_Nw.of rfl hb))
  · exact va_Nw.use rfl (va_Nw.warmM hW (va_Nw.of rfl hb))
  · exact word_at hW (good_of_word h) hb
def hs_ws : List Cond := lw_tbl.filter hs_mvw
theorem hs_w {w : Cond} (i : Nat) (h : lw_tbl[i]? = some w) (g : hs_mvw w = true) : w ∈ hs_ws := List.mem_filter.mpr ⟨List.mem_of_getElem? h, g⟩
theorem va_AOA.moved {ty : FieldType} {u U : State} (hvm : u.vm.Alike U.vm) (h : va_AOA ty u) : va_AOA ty U := by
  obtain ⟨comp, c, k, h1, h2, h3, h4, h5⟩ := arrayOver_specB h
  obtain ⟨k', hk', he⟩ := hvm.2.2 _ _ h3
  have hi : (U.vm.classes.findIdx? fun (x : Class) => match x.kind with | .array component _ => component == comp | _ => false) = some c := by
    refine (va_idx_bare U.vm comp).symm.trans ?_
    first | rw [hvm.bare_eq] | rw [← hvm.bare_eq]
    exact (va_idx_bare _ comp).trans h2
  have hkind : k'.kind = .array comp (.array ty) := by rw [he]; exact h4
  have f1 : U.vm.findClass (FieldType.array ty).toString = some comp := by rw [hvm.findClass]; exact h1
  have f2 : U.vm.findClass ("[" ++ (FieldType.array ty).toString) = some c := by rw [hvm.findClass]; exact h5
  unfold va_AOA Cond.before Cond.holds
  simp only [Cond.value]
  rw [f1, Option.bind_some]
  refine (congrArg (fun o : Option Nat => (o.bind (fun c => (U.vm.classes[c]?).map fun (k : Class) => match k.kind with | .array _ ty' => decide (ty' = FieldType.array ty) && decide (U.vm.findClass ("[" ++ (FieldType.array ty).toString) = some c) | _ => false) == some true)) hi).trans ?_
  simp [hk', hkind, f2]
def hs_fw : List (String × (MethodName × MethodName)) := [(RJx4a65c, (⟨"java/util/List", "size", "()I"⟩, yJx4a65c_size_8abf5)), (RJx4a65c, (⟨"java/util/List", "get", "(I)Ljava/lang/Object;"⟩, yJx4a65c_get_915e3)), (RJx4a65c, (⟨"java/util/List", "add", "(Ljava/lang/Object;)Z"⟩, yJx4a65c_add_9ea2d))]
def hs_nc : List (String × String) := [("java/lang/IllegalStateException", "java/lang/IndexOutOfBoundsException"), ("java/lang/IllegalArgumentException", "java/lang/IndexOutOfBoundsException"), ("java/lang/IllegalStateException", "java/lang/IllegalArgumentException")]
def hs_str : List (String × (Nat × String)) := [("Cellmarket", (103, "no such column")), ("Cellmarket", (105, "no such row")), ("Cellmarket", (353, "no such owner")), ("Cellmarket", (355, "it is not the owner's cell")), ("Cellmarket", (82, "both owners are the same")), ("Cellmarket", (87, "to is below from")), ("Cellmarket", (97, "no such word")), ("Cellmarket", (101, "the number is out of range")), ("Cellmarket", (118, "the draft is full")), ("Cellmarket", (127, "there is not enough on the pile")), ("Cellmarket", (222, "the column is frozen")), ("Cellmarket", (359, "no more edits are told")), ("Cellmarket", (139, "the draft does not leave just one number")), ("Cellmarket", (152, "the notice is out of range")), ("Cellmarket", (357, "the owner does not read it")), ("Cellmarket", (179, "no such place")), ("Cellmarket", (206, "what is out of range")), ("Cellmarket", (208, "many is out of range")), ("Cellmarket", (210, "the limit is out of range")), ("Cellmarket", (234, "no more bids are made")), ("Cellmarket", (242, "the owner's limit refuses the bid")), ("Cellmarket", (361, "no such bid")), ("Cellmarket", (259, "it is not the owner's bid")), ("Cellmarket", (265, "it was withdrawn")), ("Cellmarket", (274, "its column is frozen")), ("Cellmarket", (279, "its round was cleared")), ("Cellmarket", (293, "no more rounds are cleared")), ("Cellmarket", (363, "no such round")), ("Cellmarket", (340, "its round was not cleared")), ("Cellmarket", (343, "it is struck")), ("Cellmarket", (351, "no such edit"))]
/-- the world's constants -/
def hs_W (D : va_G) (DA : hs_DA) (n0 : Nat → Prop) (U : State) (H : Heap) : Prop :=
  va_K D hs_cl0 (hs_tys DA) U ∧ (∀ q ∈ hs_fw, va_Fw q.1 q.2.1 q.2.2 U) ∧ (va_AO RX8 U ∧ va_AO RX5 U ∧ va_AO "java/lang/Object" U ∧ va_AOA .int U) ∧ (va_Dc U ∧ ∃ mi, va_Mi "[Ljava/lang/Object;" mi U) ∧
  (va_Z "java/util/ArrayList" "DEFAULTCAPACITY_EMPTY_ELEMENTDATA" "[Ljava/lang/Object;" (.ref DA.2.1) n0 U H ∧ va_T (.object "java/lang/Object") DA.2.1 0 (fun _ => .null) n0 U H) ∧
  (vx_Zq Bundle.tN "UNASSIGNED_STACK" Bundle.steD n0 U H ∧ vx_Zq Bundle.tN "SUPPRESSED_SENTINEL" Bundle.listD n0 U H) ∧
  (∀ q ∈ hs_str, ∃ a, vk_R q.1 q.2.1 q.2.2 a U) ∧ (∀ q ∈ hs_nc, va_Nc q.1 q.2 U) ∧ (va_X DA.2.2.1 DA.2.2.2.1 DA.2.2.2.2 U H ∧ ¬ n0 DA.2.2.1 ∧ ¬ n0 DA.2.1 ∧ DA.2.2.1 < H.size ∧ DA.2.1 < H.size) ∧ ∀ q : Nat, H.size ≤ q → n0 q
theorem hs_W.go {D : va_G} {DA : hs_DA} {n0 : Nat → Prop} {s U : State} {H H1 : Heap} (hW : s.WarmedH U.vm) (hz : H.size ≤ H1.size) (hq : ∀ a : Nat, a < H.size → ¬ n0 a → H1[a]? = H[a]?) (h : hs_W D DA n0 s H) : hs_W D DA n0 U H1 := by
  obtain ⟨h1, h2, ⟨h3, h4, h5, h6⟩, ⟨h7, mi, h8⟩, ⟨h9, h10⟩, ⟨h11, h12⟩, h13, h14, ⟨h15, h16, h17, h19, h20⟩, h18⟩ := h
  have hvm := hW.alike
  refine ⟨va_K.moved hvm h1, fun q hq => (h2 q hq).moved ?_ hvm, ⟨h3.moved hvm, h4.moved hvm, h5.moved hvm, h6.moved hvm⟩, ⟨h7.moved hvm, mi, h8.moved hvm⟩, ⟨(h9.moved hvm).kept hq, (h10.moved hvm).kept hq⟩, ⟨(h11.moved hvm).kept hq, (h12.moved hvm).kept hq⟩, fun q hq => ?_, fun q hq => (h14 q hq).moved hvm, ⟨(h15.moved hvm).kept (hq _ h19 h16), h16, h17, Nat.lt_of_lt_of_le h19 hz, Nat.lt_of_lt_of_le h20 hz⟩, fun q hq2 => h18 q (Nat.le_trans hz hq2)⟩
  · simp only [hs_fw, List.mem_cons, List.not_mem_nil, or_false] at hq
    rcases hq with rfl | rfl | rfl <;> exact ⟨by decide, by decide⟩
  · obtain ⟨a, ha⟩ := h13 q hq
    exact ⟨a, ha.warm hW⟩
/-! ===== the judgement ===== -/
abbrev hs_Z : Type := Program × Launch × Env × Room × State × MethodId × Array Value × List Frame × Method × Code × va_G × hs_DA × (Nat → Prop) × hs_G × hs_S × (State → Prop)
def wa (Z : hs_Z) (k n : Nat) (S : hs_S) (pc : Nat) (lv : List (Nat × hs_V)) (st : List hs_V) : Prop := match Z with
  | (p, l, e, R, s, m, args, below, meth, c, D, DA, n0, G0, S0, Qw) => ∀ (G : hs_G) (H : Heap) (locs : List Loc) (la : Array Slot), hs_x G0 S0 G S → hs_P D DA n0 G S H → (∀ v ∈ lv, hs_vv S v.2) → (∀ v ∈ st, hs_vv S v) → va_S n0 s.heap H locs →
    lv_has la c.maxLocals (lv.map fun q => (q.1, hs_c G.1 q.2)) → W p l e R s m args below meth c H locs k n Qw (F0 m pc la (st.map (hs_c G.1)))
/-- thrown here, an exception of class E -/
def wx (Z : hs_Z) (k n : Nat) (S : hs_S) (pc : Nat) (lv : List (Nat × hs_V)) (E : String) : Prop := match Z with
  | (p, l, e, R, s, m, args, below, meth, c, D, DA, n0, G0, S0, Qw) => ∀ (G : hs_G) (H : Heap) (locs : List Loc) (la : Array Slot) (st : List Value) (ce : Cell) (q : Addr), hs_x G0 S0 G S → hs_P D DA n0 G S H → (∀ v ∈ lv, hs_vv S v.2) → va_S n0 s.heap H locs →
    lv_has la c.maxLocals (lv.map fun q => (q.1, hs_c G.1 q.2)) → H[q]? = some ce → ce.vm = .none → s.vm.findClass E = some ce.cls → vx_W p l e R s m args below meth c H locs k n Qw (F0 m pc la st) q
/-- what holds all through a method -/
def hs_C (Z : hs_Z) (own : String) (cc : ByteArray) (nL : Nat) (R0 : Room) : Prop := match Z with
  | (p, l, e, R, s, m, args, below, meth, c, D, DA, n0, G0, S0, Qw) => p.tables.exec = Jvm.exec ∧ c.code = cc ∧ c.maxLocals = nL ∧ s.vm.findClass own = some m.cls ∧ (∀ w ∈ hs_ws, w.before args s = true) ∧ meth.locks = false ∧ l.stackTraces = false ∧ hs_W D DA n0 s s.heap ∧ R = R0
def hs_Qc (D : va_G) (DA : hs_DA) (n0 : Nat → Prop) (G : hs_G) (S : hs_S) (Q : Option hs_V → hs_S → Prop) : Array Value → State → Outcome → State → Prop := fun _ st o t =>
  (∃ v S' G', o = .returned (v.map (hs_c G'.1)) ∧ Q v S' ∧ hs_x G S G' S' ∧ hs_P D DA n0 G' S' t.heap ∧ ∀ x, v = some x → hs_vv S' x) ∧ va_F n0 st t
def hs_Xc (D : va_G) (DA : hs_DA) (n0 : Nat → Prop) (G : hs_G) (S : hs_S) (X : String → hs_S → Prop) : String → State → State → Prop := fun E st t =>
  (∃ S' G', X E S' ∧ hs_x G S G' S' ∧ hs_P D DA n0 G' S' t.heap) ∧ va_F n0 st t
/-- how a method that is called ends -/
def hs_E (Z : hs_Z) (ret : Option FieldType) (mc mS : Nat) (Q : Option hs_V → hs_S → Prop) (X : String → hs_S → Prop) : Prop := match Z with
  | (p, l, e, R, s, m, args, below, meth, c, D, DA, n0, G0, S0, Qw) => Qw = vx_MQ below (hs_Qc D DA n0 G0 S0 Q) (hs_Xc D DA n0 G0 S0 X) args s mc mS n0 ∧ meth.sig.returnType = ret
def hs_rm (d mc mS : Nat) : Room := { frames := d, cells := mc, slots := mS, locals := 64 * d }
/-- a method, by what it does to a state -/
def hs_M (d : Nat) (y : MethodName) (w : Cond) (av : List hs_V) (S : hs_S) (mc mS : Nat) (Q : Option hs_V → hs_S → Prop) (X : String → hs_S → Prop) : Prop :=
  ∀ (l : Launch) (D : va_G) (DA : hs_DA) (n0 : Nat → Prop) (G : hs_G), l.stackTraces = false → (∀ v ∈ av, hs_vv S v) →
    vx_Met l y (w :: hs_ws) (hs_rm d mc mS) (va_Pc (av.map (hs_c G.1)) (fun U => hs_W D DA n0 U U.heap ∧ hs_P D DA n0 G S U.heap)) (hs_Qc D DA n0 G S Q) (hs_Xc D DA n0 G S X) mc mS n0
def hs_args : Nat → List hs_V → List (Nat × hs_V)
  | _, [] => []
  | k, v :: vs => (k, v) :: hs_args (k + hs_cat v) vs
theorem hs_n1 {P : hs_V → Prop} {a : hs_V} {st : List hs_V} (h : ∀ v ∈ a :: st, P v) : ∀ v ∈ st, P v := fun v q => h v (List.mem_cons_of_mem _ q)
theorem hs_n2 {P : hs_V → Prop} {a b : hs_V} {st : List hs_V} (h : ∀ v ∈ a :: b :: st, P v) : ∀ v ∈ st, P v := hs_n1 (hs_n1 h)
theorem hs_n3 {P : hs_V → Prop} {a b c : hs_V} {st : List hs_V} (h : ∀ v ∈ a :: b :: c :: st, P v) : ∀ v ∈ st, P v := hs_n1 (hs_n1 (hs_n1 h))
theorem hs_pu {P : hs_V → Prop} {a : hs_V} {st : List hs_V} (h : P a) (k : ∀ v ∈ st, P v) : ∀ v ∈ a :: st, P v := fun v q => (List.mem_cons.mp q).elim (fun e => e ▸ h) (k v)
theorem hs_h1 {P : hs_V → Prop} {a : hs_V} {st : List hs_V} (h : ∀ v ∈ a :: st, P v) : P a := h a List.mem_cons_self
theorem hs_h2 {P : hs_V → Prop} {a b : hs_V} {st : List hs_V} (h : ∀ v ∈ a :: b :: st, P v) : P b := h b (List.mem_cons_of_mem _ List.mem_cons_self)
theorem hs_h3 {P : hs_V → Prop} {a b c : hs_V} {st : List hs_V} (h : ∀ v ∈ a :: b :: c :: st, P v) : P c := h c (List.mem_cons_of_mem _ (List.mem_cons_of_mem _ List.mem_cons_self))
/-- a store into the locals -/
def hs_st1 (i : Nat) (v : hs_V) (lv : List (Nat × hs_V)) : List (Nat × hs_V) := (i, v) :: lv.filter (fun q => !(q.1 == i) && !(q.1 + 1 == i && hs_cat q.2 == 2))
def hs_st2 (i : Nat) (v : hs_V) (lv : List (Nat × hs_V)) : List (Nat × hs_V) := (i, v) :: lv.filter (fun q => !(q.1 == i) && (!(q.1 == i + 1) && !(q.1 + 1 == i && hs_cat q.2 == 2)))
theorem hs_st1_map (al : Nat → Nat → Nat) (i : Nat) (v : hs_V) (lv : List (Nat × hs_V)) : (i, hs_c al v) :: (lv.map fun q => (q.1, hs_c al q.2)).filter (fun q => !(q.1 == i) && !(q.1 + 1 == i && q.2.category == 2)) = (hs_st1 i v lv).map fun q => (q.1, hs_c al q.2) := by
  unfold hs_st1
  rw [List.map_cons, List.filter_map]
  congr 2
  apply List.filter_congr
  intro q _
  show (!(q.1 == i) && !(q.1 + 1 == i && (hs_c al q.2).category == 2)) = _
  rw [hs_c_cat]
theorem hs_st2_map (al : Nat → Nat → Nat) (i : Nat) (v : hs_V) (lv : List (Nat × hs_V)) : (i, hs_c al v) :: (lv.map fun q => (q.1, hs_c al q.2)).filter (fun q => !(q.1 == i) && (!(q.1 == i + 1) && !(q.1 + 1 == i && q.2.category == 2))) = (hs_st2 i v lv).map fun q => (q.1, hs_c al q.2) := by
  unfold hs_st2
  rw [List.map_cons, List.filter_map]
  congr 2
  apply List.filter_congr
  intro q _
  show (!(q.1 == i) && (!(q.1 == i + 1) && !(q.1 + 1 == i && (hs_c al q.2).category == 2))) = _
  rw [hs_c_cat]
theorem hs_st1_v {S : hs_S} {i : Nat} {v : hs_V} {lv : List (Nat × hs_V)} (h : ∀ q ∈ lv, hs_vv S q.2) (hv : hs_vv S v) : ∀ q ∈ hs_st1 i v lv, hs_vv S q.2 := fun q hq => (List.mem_cons.mp hq).elim (fun e => by rw [e]; exact hv) (fun h2 => h q (List.mem_filter.mp h2).1)
theorem hs_st2_v {S : hs_S} {i : Nat} {v : hs_V} {lv : List (Nat × hs_V)} (h : ∀ q ∈ lv, hs_vv S q.2) (hv : hs_vv S v) : ∀ q ∈ hs_st2 i v lv, hs_vv S q.2 := fun q hq => (List.mem_cons.mp hq).elim (fun e => by rw [e]; exact hv) (fun h2 => h q (List.mem_filter.mp h2).1)
theorem hs_lat {al : Nat → Nat → Nat} {la : Array Slot} {nL : Nat} {lv : List (Nat × hs_V)} (h : lv_has la nL (lv.map fun q => (q.1, hs_c al q.2))) (q : Nat) {i : Nat} {v : hs_V} (hq : lv[q]? = some (i, v)) : la[i]? = some (.val (hs_c al v)) := lv_at h q (by rw [List.getElem?_map, hq]; rfl)
theorem hs_lvv {S : hs_S} {lv : List (Nat × hs_V)} (h : ∀ q ∈ lv, hs_vv S q.2) {q i : Nat} {v : hs_V} (hq : lv[q]? = some (i, v)) : hs_vv S v := h _ (List.mem_of_getElem? hq)
/-- fewer locals, in any order -/
theorem wa_lv {Z : hs_Z} {k n : Nat} {S : hs_S} {pc : Nat} {lv lv' : List (Nat × hs_V)} {st : List hs_V} (ks : List Nat) (hl : ks.filterMap (fun q => lv[q]?) = lv') (kk : wa Z k n S pc lv' st) : wa Z k n S pc lv st := by
  obtain ⟨p, l, e, R, s, m, args, below, meth, c, D, DA, n0, G0, S0, Qw⟩ := Z
  intro G H locs la h1 h2 h3 h4 h5 h6
  refine kk G H locs la h1 h2 (fun v hv => ?_) h4 h5 (lv_sub h6 ks ?_)
  · rw [← hl] at hv
    obtain ⟨q, -, hq⟩ := List.mem_filterMap.mp hv
    exact h3 v (List.mem_of_getElem? hq)
  · unfold lv_pick
    rw [← hl, List.map_filterMap]
    exact congrArg (fun f => List.filterMap f ks) (funext fun q => List.getElem?_map)
theorem wa_wid {Z : hs_Z} {k n k' n' : Nat} {S : hs_S} {pc : Nat} {lv : List (Nat × hs_V)} {st : List hs_V} (h1 : k ≤ k') (h2 : n ≤ n') (kk : wa Z k' n' S pc lv st) : wa Z k n S pc lv st := by
  obtain ⟨p, l, e, R, s, m, args, below, meth, c, D, DA, n0, G0, S0, Qw⟩ := Z
  intro G H locs la a1 a2 a3 a4 a5 a6
  exact W.widen h1 h2 (kk G H locs la a1 a2 a3 a4 a5 a6)
