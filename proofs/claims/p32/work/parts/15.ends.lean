/-! ===== ends ===== -/
def hs_N (Z : hs_Z) : Prop := match Z with
  | (p, l, e, R, s, m, args, below, meth, c, D, DA, n0, G0, S0, Qw) => ∀ x ∈ c.exceptionTable.toList, False
theorem hs_endQ {D : va_G} {DA : hs_DA} {n0 : Nat → Prop} {G0 G : hs_G} {S0 S : hs_S} {Q : Option hs_V → hs_S → Prop} {v : Option hs_V} {s : State} {args : Array Value} {H : Heap} {locs : List Loc} (a1 : hs_x G0 S0 G S) (a2 : hs_P D DA n0 G S H) (a5 : va_S n0 s.heap H locs) (hq : Q v S) (hv : ∀ x, v = some x → hs_vv S x) :
    ∀ t : State, t.heap = H → s.WarmedH t.vm → hs_Qc D DA n0 G0 S0 Q args s (.returned (v.map (hs_c G.1))) t := fun t ht _ => ⟨⟨v, S, G, rfl, hq, a1, by rw [ht]; exact a2, hv⟩, a5.F ht⟩
theorem wa_ireturn {Z : hs_Z} {own : String} {cc : ByteArray} {nL : Nat} {R0 : Room} {k n : Nat} {S : hs_S} {pc : Nat} {lv : List (Nat × hs_V)} (X : hs_C Z own cc nL R0) {ret : FieldType} {mc mS : Nat} {Q : Option hs_V → hs_S → Prop} {Ex : String → hs_S → Prop} (E : hs_E Z (some ret) mc mS Q Ex) {v : Int32} (hd : decode cc pc = .ok (.ireturn, 1)) (hk : k ≤ mc) (hn : n ≤ mS) (hr : ret = .int ∨ (ret = .boolean ∧ (v = 0 ∨ v = 1))) (hq : Q (some (.inl v)) S) : wa Z k n S pc lv [.inl v] := by
  obtain ⟨p, l, e, R, s, m, args, below, meth, c, D, DA, n0, G0, S0, Qw⟩ := Z
  obtain ⟨hx, hb, hml, hown, hts, hlk, hst, hW, hR⟩ := X
  obtain ⟨rfl, hret⟩ := E
  intro G H locs la a1 a2 a3 a4 a5 a6
  refine W.widen hk hn (vx_ret (W.zret hx hb hret ?_ (hs_endQ (v := some (.inl v)) a1 a2 a5 hq (fun x h => by cases h; trivial)) a5.2.2 hd hlk))
  rcases hr with rfl | ⟨rfl, rfl | rfl⟩
  · rfl
  · decide
  · decide
theorem wa_lreturn {Z : hs_Z} {own : String} {cc : ByteArray} {nL : Nat} {R0 : Room} {k n : Nat} {S : hs_S} {pc : Nat} {lv : List (Nat × hs_V)} (X : hs_C Z own cc nL R0) {mc mS : Nat} {Q : Option hs_V → hs_S → Prop} {Ex : String → hs_S → Prop} (E : hs_E Z (some .long) mc mS Q Ex) {v : Int64} (hd : decode cc pc = .ok (.lreturn, 1)) (hk : k ≤ mc) (hn : n ≤ mS) (hq : Q (some (.inr (.inl v))) S) : wa Z k n S pc lv [.inr (.inl v)] := by
  obtain ⟨p, l, e, R, s, m, args, below, meth, c, D, DA, n0, G0, S0, Qw⟩ := Z
  obtain ⟨hx, hb, hml, hown, hts, hlk, hst, hW, hR⟩ := X
  obtain ⟨rfl, hret⟩ := E
  intro G H locs la a1 a2 a3 a4 a5 a6
  exact W.widen hk hn (vx_ret (W.lret hx hb hret (hs_endQ (v := some (.inr (.inl v))) a1 a2 a5 hq (fun x h => by cases h; trivial)) a5.2.2 hd hlk))
theorem wa_return {Z : hs_Z} {own : String} {cc : ByteArray} {nL : Nat} {R0 : Room} {k n : Nat} {S : hs_S} {pc : Nat} {lv : List (Nat × hs_V)} (X : hs_C Z own cc nL R0) {mc mS : Nat} {Q : Option hs_V → hs_S → Prop} {Ex : String → hs_S → Prop} (E : hs_E Z none mc mS Q Ex) (hd : decode cc pc = .ok (.return_, 1)) (hk : k ≤ mc) (hn : n ≤ mS) (hq : Q none S) : wa Z k n S pc lv [] := by
  obtain ⟨p, l, e, R, s, m, args, below, meth, c, D, DA, n0, G0, S0, Qw⟩ := Z
  obtain ⟨hx, hb, hml, hown, hts, hlk, hst, hW, hR⟩ := X
  obtain ⟨rfl, hret⟩ := E
  intro G H locs la a1 a2 a3 a4 a5 a6
  exact W.widen hk hn (vx_ret (W.vret hx hb hret (hs_endQ (v := none) a1 a2 a5 hq (fun x h => by cases h)) a5.2.2 hd hlk))
theorem wa_areturn {Z : hs_Z} {own : String} {cc : ByteArray} {nL : Nat} {R0 : Room} {k n : Nat} {S : hs_S} {pc : Nat} {lv : List (Nat × hs_V)} (X : hs_C Z own cc nL R0) {mc mS : Nat} {C : String} {Q : Option hs_V → hs_S → Prop} {Ex : String → hs_S → Prop} (E : hs_E Z (some (.object C)) mc mS Q Ex) {t i : Nat} (hd : decode cc pc = .ok (.areturn, 1)) (hk : k ≤ mc) (hn : n ≤ mS) (hq : Q (some (.inr (.inr (t, i)))) S) : wa Z k n S pc lv [.inr (.inr (t, i))] := by
  obtain ⟨p, l, e, R, s, m, args, below, meth, c, D, DA, n0, G0, S0, Qw⟩ := Z
  obtain ⟨hx, hb, hml, hown, hts, hlk, hst, hW, hR⟩ := X
  obtain ⟨rfl, hret⟩ := E
  intro G H locs la a1 a2 a3 a4 a5 a6
  refine W.widen hk hn (vx_ret (W.aret hx hb hret (Or.inl ⟨C, rfl⟩) ?_ (hs_endQ (v := some (.inr (.inr (t, i)))) a1 a2 a5 hq (fun x h => by cases h; exact hs_h1 a4)) a5.2.2 hd hlk))
  by_cases h0 : i = 0
  · subst h0; exact Or.inl rfl
  · exact Or.inr ⟨_, hs_c_ref h0⟩
theorem wx_out {Z : hs_Z} {own : String} {cc : ByteArray} {nL : Nat} {R0 : Room} {k n : Nat} {S : hs_S} {pc : Nat} {lv : List (Nat × hs_V)} (X : hs_C Z own cc nL R0) {ret : Option FieldType} {mc mS : Nat} {Q : Option hs_V → hs_S → Prop} {Ex : String → hs_S → Prop} (E : hs_E Z ret mc mS Q Ex) (hN : hs_N Z) {T : String} (hk : k ≤ mc) (hn : n ≤ mS) (hq : Ex T S) : wx Z k n S pc lv T := by
  obtain ⟨p, l, e, R, s, m, args, below, meth, c, D, DA, n0, G0, S0, Qw⟩ := Z
  obtain ⟨hx, hb, hml, hown, hts, hlk, hst, hW, hR⟩ := X
  obtain ⟨rfl, hret⟩ := E
  intro G H locs la st ce q a1 a2 a3 a5 a6 hc hv hf
  exact vx_out (fun x hx => (hN x hx).elim) hlk hc hv hf (fun t ht _ => ⟨⟨S, G, hq, a1, by rw [ht]; exact a2⟩, a5.F ht⟩) a5.2.2 hk hn
theorem hs_P.kept {D : va_G} {DA : hs_DA} {n0 : Nat → Prop} {G : hs_G} {S : hs_S} {H H1 : Heap} (h : hs_P D DA n0 G S H) (hq : ∀ q : Nat, q < H.size → H1[q]? = H[q]?) : hs_P D DA n0 G S H1 := by
  obtain ⟨keys, b1, b2, b3⟩ := h
  exact ⟨keys, b1, b2.kept fun k q hk => hq q.1 (b2 k q hk).lt, b3⟩
theorem wa_throw {Z : hs_Z} {own : String} {cc : ByteArray} {nL : Nat} {R0 : Room} {k n : Nat} {S : hs_S} {pc : Nat} {lv : List (Nat × hs_V)} {st : List hs_V} (X : hs_C Z own cc nL R0) {ret : Option FieldType} {mc mS : Nat} {Q : Option hs_V → hs_S → Prop} {Ex : String → hs_S → Prop} (E : hs_E Z ret mc mS Q Ex) (hN : hs_N Z) {T text : String} {ik is ic : Nat} {names : List String}
    (hcls : Bundle.fit T = true) (hnames : ∀ n ∈ names, Bundle.fit n = true) (hk0 : Cond.classLink own ik T ∈ hs_ws) (hini : Cond.initialized T ∈ hs_ws) (hstr : (own, (is, text)) ∈ hs_str) (hat : ∀ w ∈ vx_atS own ic T names, w ∈ hs_ws) (hgood : ∀ w ∈ Cond.classLink own ik T :: Cond.initialized T :: vx_atS own ic T names, vx_ot w = true)
    (d0 : decode cc pc = .ok (.new ik, 3)) (d3 : decode cc (pc + 3) = .ok (.dup, 1)) (d4 : decode cc (pc + 4) = .ok (.ldc is, 2)) (d6 : decode cc (pc + 6) = .ok (.invokespecial ic, 3)) (d9 : decode cc (pc + 9) = .ok (.athrow, 1))
    (hR : names.length + 3 < R0.frames ∧ (st.map hs_cat).sum + (13 * (names.length + 1) + 43) ≤ R0.locals ∧ k + 1 ≤ R0.cells ∧ n + 6 ≤ R0.slots) (hk : k + 1 ≤ mc) (hn : n + 6 ≤ mS) (hq : Ex T S) : wa Z k n S pc lv st := by
  obtain ⟨p, l, e, R, s, m, args, below, meth, c, D, DA, n0, G0, S0, Qw⟩ := Z
  obtain ⟨hx, hb, hml, hown, hts, hlk, hst, hW, rfl⟩ := X
  obtain ⟨rfl, hret⟩ := E
  intro G H locs la a1 a2 a3 a4 a5 a6
  obtain ⟨sa, hsa⟩ := hW.2.2.2.2.2.2.1 _ hstr
  have hcat : ((st.map (hs_c G.1)).map fun v => v.category) = st.map hs_cat := by
    rw [List.map_map]
    exact List.map_congr_left fun v _ => hs_c_cat G.1 v
  refine vx_throwS hx hb hst hown hcls hnames (hts _ hk0) (hts _ hini) hsa (fun w hw => hts w (hat w hw)) hgood hW.2.2.2.2.2.1.1 hW.2.2.2.2.2.1.2 a5 a6.1 d0 d3 d4 d6 d9 (fun x hx => (hN x hx).elim) hR.1 (by rw [hcat]; exact hR.2.1) hR.2.2.1 hR.2.2.2 hlk (fun t hv hz hqq => ?_) a5.2.2 hk hn
  refine ⟨⟨S, G, hq, a1, a2.kept hqq⟩, Nat.le_trans a5.1 hz, fun q h1 h2 => (hqq q (Nat.lt_of_lt_of_le h1 a5.1)).trans (a5.2.1 q h1 h2)⟩
/-- .. with the text by a wide index -/
theorem wa_throwW {Z : hs_Z} {own : String} {cc : ByteArray} {nL : Nat} {R0 : Room} {k n : Nat} {S : hs_S} {pc : Nat} {lv : List (Nat × hs_V)} {st : List hs_V} (X : hs_C Z own cc nL R0) {ret : Option FieldType} {mc mS : Nat} {Q : Option hs_V → hs_S → Prop} {Ex : String → hs_S → Prop} (E : hs_E Z ret mc mS Q Ex) (hN : hs_N Z) {T text : String} {ik is ic : Nat} {names : List String}
    (hcls : Bundle.fit T = true) (hnames : ∀ n ∈ names, Bundle.fit n = true) (hk0 : Cond.classLink own ik T ∈ hs_ws) (hini : Cond.initialized T ∈ hs_ws) (hstr : (own, (is, text)) ∈ hs_str) (hat : ∀ w ∈ vx_atS own ic T names, w ∈ hs_ws) (hgood : ∀ w ∈ Cond.classLink own ik T :: Cond.initialized T :: vx_atS own ic T names, vx_ot w = true)
    (d0 : decode cc pc = .ok (.new ik, 3)) (d3 : decode cc (pc + 3) = .ok (.dup, 1)) (d4 : decode cc (pc + 4) = .ok (.ldc_w is, 3)) (d6 : decode cc (pc + 7) = .ok (.invokespecial ic, 3)) (d9 : decode cc (pc + 10) = .ok (.athrow, 1))
    (hR : names.length + 3 < R0.frames ∧ (st.map hs_cat).sum + (13 * (names.length + 1) + 43) ≤ R0.locals ∧ k + 1 ≤ R0.cells ∧ n + 6 ≤ R0.slots) (hk : k + 1 ≤ mc) (hn : n + 6 ≤ mS) (hq : Ex T S) : wa Z k n S pc lv st := by
  obtain ⟨p, l, e, R, s, m, args, below, meth, c, D, DA, n0, G0, S0, Qw⟩ := Z
  obtain ⟨hx, hb, hml, hown, hts, hlk, hst, hW, rfl⟩ := X
  obtain ⟨rfl, hret⟩ := E
  intro G H locs la a1 a2 a3 a4 a5 a6
  obtain ⟨sa, hsa⟩ := hW.2.2.2.2.2.2.1 _ hstr
  have hcat : ((st.map (hs_c G.1)).map fun v => v.category) = st.map hs_cat := by
    rw [List.map_map]
    exact List.map_congr_left fun v _ => hs_c_cat G.1 v
  refine vx_throwSW hx hb hst hown hcls hnames (hts _ hk0) (hts _ hini) hsa (fun w hw => hts w (hat w hw)) hgood hW.2.2.2.2.2.1.1 hW.2.2.2.2.2.1.2 a5 a6.1 d0 d3 d4 d6 d9 (fun x hx => (hN x hx).elim) hR.1 (by rw [hcat]; exact hR.2.1) hR.2.2.1 hR.2.2.2 hlk (fun t hv hz hqq => ?_) a5.2.2 hk hn
  refine ⟨⟨S, G, hq, a1, a2.kept hqq⟩, Nat.le_trans a5.1 hz, fun q h1 h2 => (hqq q (Nat.lt_of_lt_of_le h1 a5.1)).trans (a5.2.1 q h1 h2)⟩
/-! ===== bodies ===== -/
theorem hs_slen {al : Nat → Nat → Nat} (av : List hs_V) : (lg_sl (av.map (hs_c al))).length = (av.map hs_cat).sum := by
  induction av with
  | nil => rfl
  | cons v vs ih =>
    have h : lg_sl (hs_c al v :: vs.map (hs_c al)) = (if (hs_c al v).category = 2 then [Slot.val (hs_c al v), .second] else [Slot.val (hs_c al v)]) ++ lg_sl (vs.map (hs_c al)) := rfl
    rw [List.map_cons, h, List.length_append, ih, List.map_cons, List.sum_cons, hs_c_cat]
    rcases v with x | x | x
    · rfl
    · rfl
    · rfl
theorem hs_largs {al : Nat → Nat → Nat} (av : List hs_V) : ∀ k : Nat, lv_args k (av.map (hs_c al)) = (hs_args k av).map fun q => (q.1, hs_c al q.2) := by
  induction av with
  | nil => intro k; rfl
  | cons v vs ih =>
    intro k
    have h : lv_args k (hs_c al v :: vs.map (hs_c al)) = (k, hs_c al v) :: lv_args (if (hs_c al v).category = 2 then k + 2 else k + 1) (vs.map (hs_c al)) := rfl
    rw [List.map_cons, h, ih, hs_c_cat]
    rcases v with x | x | x
    · rfl
    · rfl
    · rfl
theorem hs_argv {S : hs_S} (av : List hs_V) (h : ∀ v ∈ av, hs_vv S v) : ∀ k, ∀ q ∈ hs_args k av, hs_vv S q.2 := by
  induction av with
  | nil => intro k q hq; cases hq
  | cons v vs ih =>
    intro k q hq
    rcases List.mem_cons.mp hq with rfl | hq
    · exact hs_h1 h
    · exact ih (hs_n1 h) _ q hq
theorem hs_entry {p : Program} {l : Launch} {e : Env} {R : Room} {s : State} {m : MethodId} {args : Array Value} {below : List Frame} {meth : Method} {c : Code} {D : va_G} {DA : hs_DA} {n0 : Nat → Prop} {G : hs_G} {S : hs_S} {Qw : State → Prop} {nL : Nat} {av : List hs_V} (hml : c.maxLocals = nL) (hn : (av.map hs_cat).sum ≤ nL) (hav : ∀ v ∈ av, hs_vv S v) (hP : hs_P D DA n0 G S s.heap)
    (kk : wa (p, l, e, R, s, m, args, below, meth, c, D, DA, n0, G, S, Qw) 0 0 S 0 (hs_args 0 av) []) : W p l e R s m args below meth c s.heap [] 0 0 Qw (entryFrame m (av.map (hs_c G.1)).toArray nL) := by
  rw [lg_entry_eq]
  have hl := lv_entry (av.map (hs_c G.1)) (n := nL) (by rw [hs_slen]; exact hn)
  rw [hs_largs] at hl
  exact kk G s.heap [] _ hs_x.rf hP (hs_argv av hav 0) (fun v hv => by cases hv) va_S.rf (by rw [hml]; exact hl)
theorem hs_body {own : String} {cc : ByteArray} {nL d mc mS : Nat} {ret : Option FieldType} {y : MethodName} {av : List hs_V} {S : hs_S} {Q : Option hs_V → hs_S → Prop} {Ex : String → hs_S → Prop} (hy : plainName y.cls = true) (ho : y.cls = own) (hn : (av.map hs_cat).sum ≤ nL)
    (kk : ∀ Z : hs_Z, hs_C Z own cc nL (hs_rm d mc mS) → hs_E Z ret mc mS Q Ex → hs_N Z → (∀ p l e R s m args below meth c D DA n0 G0 S0 Qw, Z = (p, l, e, R, s, m, args, below, meth, c, D, DA, n0, G0, S0, Qw) → meth.name = y.name) → wa Z 0 0 S 0 (hs_args 0 av) []) : hs_M d y (.code y cc nL ret) av S mc mS Q Ex := by
  intro l D DA n0 G hst hav
  refine vx_ofW (cc := cc) (maxL := nL) (ret := ret) hy rfl fun p e s m args below meth c s₁ B hml hN hv => ?_
  obtain ⟨rfl, hW, hP⟩ := hv
  have hts := atoms_spec B.pre
  refine hs_entry hml hn hav hP (kk _ ⟨B.exec, B.bytes, hml, ?_, fun w hw => hts w (List.mem_cons_of_mem _ hw), B.notSynchronized, hst, hW, rfl⟩ ⟨rfl, B.returns⟩ hN ?_)
  · rw [← ho]; exact findClass_of_methodNamed B.named
  · intro p' l' e' R' s' m' args' below' meth' c' D' DA' n0' G0' S0' Qw' hZ
    cases hZ
    exact (name_of_methodNamed B.named B.method).1
def hs_H (Z : hs_Z) (hh : List (Nat × Nat × Nat × Nat)) : Prop := match Z with
  | (p, l, e, R, s, m, args, below, meth, c, D, DA, n0, G0, S0, Qw) => c.exceptionTable.toList = tableOf hh
theorem hs_bodyH {own : String} {cc : ByteArray} {nL d mc mS : Nat} {ret : Option FieldType} {y : MethodName} {av : List hs_V} {S : hs_S} {Q : Option hs_V → hs_S → Prop} {Ex : String → hs_S → Prop} {hh : List (Nat × Nat × Nat × Nat)} (hy : plainName y.cls = true) (ho : y.cls = own) (hn : (av.map hs_cat).sum ≤ nL)
    (kk : ∀ Z : hs_Z, hs_C Z own cc nL (hs_rm d mc mS) → hs_E Z ret mc mS Q Ex → hs_H Z hh → wa Z 0 0 S 0 (hs_args 0 av) []) : hs_M d y (.codeWith y cc nL ret hh) av S mc mS Q Ex := by
  intro l D DA n0 G hst hav
  refine vx_ofWH (cc := cc) (maxL := nL) (ret := ret) (hh := hh) hy rfl fun p e s m args below meth c s₁ B hml hv => ?_
  obtain ⟨rfl, hW, hP⟩ := hv
  have hts := atoms_spec B.pre
  refine hs_entry hml hn hav hP (kk _ ⟨B.exec, B.bytes, hml, ?_, fun w hw => hts w (List.mem_cons_of_mem _ hw), B.notSynchronized, hst, hW, rfl⟩ ⟨rfl, B.returns⟩ (vx_table (x := y) B (hts _ List.mem_cons_self)))
  rw [← ho]; exact findClass_of_methodNamed B.named
theorem hs_idl {α : Type} (L : List α) : (List.range L.length).filterMap (fun k => L[k]?) = L := by
  induction L with
  | nil => rfl
  | cons z zs ih =>
    rw [List.length_cons, List.range_succ_eq_map, List.filterMap_cons]
    show z :: List.filterMap (fun k => (z :: zs)[k]?) (List.map Nat.succ (List.range zs.length)) = _
    rw [List.filterMap_map]
    exact congrArg (z :: ·) ih
/-- caught by the row x of the table, and the exception laid away -/
theorem wx_catch {Z : hs_Z} {own : String} {cc : ByteArray} {nL : Nat} {R0 : Room} {k n : Nat} {S : hs_S} {pc : Nat} {lv : List (Nat × hs_V)} (X : hs_C Z own cc nL R0) {hh : List (Nat × Nat × Nat × Nat)} (hH : hs_H Z hh) {T : String} (pre : List ExceptionTableEntry) (x : ExceptionTableEntry) (suf : List ExceptionTableEntry) (hsplit : tableOf hh = pre ++ x :: suf)
    (hpass : ∀ z ∈ pre, z.catchType ≠ 0 ∧ ∃ nm : String, Cond.classLink own z.catchType nm ∈ hs_ws ∧ (T, nm) ∈ hs_nc) (hx : covers x pc = true) (h0 : x.catchType ≠ 0) (hl : Cond.classLink own x.catchType T ∈ hs_ws) (hc : Cond.castable T T ∈ hs_ws) {i : Nat} (hd : decode cc x.handlerPc = .ok (.astore i, 2)) (hn : i < nL)
    (kk : wa Z k n S (x.handlerPc + 2) (lv.filter (fun q => !(q.1 == i) && !(q.1 + 1 == i && hs_cat q.2 == 2))) []) : wx Z k n S pc lv T := by
  obtain ⟨p, l, e, R, s, m, args, below, meth, c, D, DA, n0, G0, S0, Qw⟩ := Z
  obtain ⟨hx0, hb, hml, hown, hts, hlk, hst, hW, rfl⟩ := X
  intro G H locs la st ce q a1 a2 a3 a5 a6 hce hv hf
  refine vx_catch (name := T) hown pre x suf ((show c.exceptionTable.toList = tableOf hh from hH).trans hsplit) (fun z hz => ?_) hx h0 (hts _ hl) (hts _ hc) hce hv hf ?_
  · obtain ⟨h1, nm, h2, h3⟩ := hpass z hz
    exact Or.inr ⟨h1, nm, hts _ h2, hW.2.2.2.2.2.2.2.1 _ h3⟩
  · refine lv_astore hx0 hb hd a6 (hml ▸ hn) rfl fun la2 b6 => ?_
    refine kk G H locs la2 a1 a2 (fun v hv => a3 v (List.mem_filter.mp hv).1) (fun v hv => by cases hv) a5 ?_
    refine lv_sub b6 ((List.range ((lv.map fun q => (q.1, hs_c G.1 q.2)).filter (fun q => !(q.1 == i) && !(q.1 + 1 == i && q.2.category == 2))).length).map (· + 1)) ?_
    have e1 : (lv.map fun q => (q.1, hs_c G.1 q.2)).filter (fun q => !(q.1 == i) && !(q.1 + 1 == i && q.2.category == 2)) = (lv.filter (fun q => !(q.1 == i) && !(q.1 + 1 == i && hs_cat q.2 == 2))).map fun q => (q.1, hs_c G.1 q.2) := by
      rw [List.filter_map]
      congr 1
      apply List.filter_congr
      intro q _
      show (!(q.1 == i) && !(q.1 + 1 == i && (hs_c G.1 q.2).category == 2)) = _
      rw [hs_c_cat]
    rw [e1]
    generalize (lv.filter (fun q => !(q.1 == i) && !(q.1 + 1 == i && hs_cat q.2 == 2))).map (fun q => (q.1, hs_c G.1 q.2)) = L
    unfold lv_pick
    rw [List.filterMap_map]
    have e2 : (fun (k : Nat) => ((i, Value.ref q) :: L)[k]?) ∘ (fun x => x + 1) = fun k => L[k]? := by
      funext k; rfl
    rw [e2]
    exact hs_idl L
