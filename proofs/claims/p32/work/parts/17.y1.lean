/-! ===== Math ===== -/
theorem wa_mmax {Z : hs_Z} {own : String} {cc : ByteArray} {nL : Nat} {R0 : Room} {k n : Nat} {S : hs_S} {pc : Nat} {lv : List (Nat × hs_V)} {st : List hs_V} (X : hs_C Z own cc nL R0) {ix : Nat} {x y : Int32} (hl : Cond.methodLink own ix Lib.Math.max.name ∈ hs_ws) (h1 : Cond.static Lib.Math.max.name ∈ hs_ws) (h2 : Cond.initialized "java/lang/Math" ∈ hs_ws) (h3 : Cond.code Lib.Math.max.name Lib.Math.max.code 2 (some .int) ∈ hs_ws) (hcat : (st.map hs_cat).sum ≤ 8) (hd : decode cc pc = .ok (.invokestatic ix, 3)) (hR : (1 ≤ R0.frames ∧ 21 ≤ R0.locals) ∧ k ≤ R0.cells ∧ n ≤ R0.slots)
    (kk : wa Z k n S (pc + 3) lv (.inl (if x < y then y else x) :: st)) : wa Z k n S pc lv (.inl y :: .inl x :: st) := by
  obtain ⟨p, l, e, R, s, m, args, below, meth, c, D, DA, n0, G0, S0, Qw⟩ := Z
  obtain ⟨hx, hb, hml, hown, hts, hlk, hst, hW, rfl⟩ := X
  intro G H locs la a1 a2 a3 a4 a5 a6
  have hc : ((st.map (hs_c G.1)).map fun v => v.category).sum = (st.map hs_cat).sum := by
    rw [List.map_map]
    exact congrArg List.sum (List.map_congr_left fun v _ => hs_c_cat G.1 v)
  rw [List.map_cons, List.map_cons]
  exact va_mmax hx hb a6.1.symm hown (hts _ hl) (hts _ h1) (hts _ h2) (hts _ h3) hR.1.1 (by rw [hc]; omega) hR.2.1 hR.2.2 hd (kk G H locs la a1 a2 a3 (hs_pu trivial (hs_n2 a4)) a5 a6)
theorem wa_mmin {Z : hs_Z} {own : String} {cc : ByteArray} {nL : Nat} {R0 : Room} {k n : Nat} {S : hs_S} {pc : Nat} {lv : List (Nat × hs_V)} {st : List hs_V} (X : hs_C Z own cc nL R0) {ix : Nat} {x y : Int32} (hl : Cond.methodLink own ix Lib.Math.min.name ∈ hs_ws) (h1 : Cond.static Lib.Math.min.name ∈ hs_ws) (h2 : Cond.initialized "java/lang/Math" ∈ hs_ws) (h3 : Cond.code Lib.Math.min.name Lib.Math.min.code 2 (some .int) ∈ hs_ws) (hcat : (st.map hs_cat).sum ≤ 8) (hd : decode cc pc = .ok (.invokestatic ix, 3)) (hR : (1 ≤ R0.frames ∧ 21 ≤ R0.locals) ∧ k ≤ R0.cells ∧ n ≤ R0.slots)
    (kk : wa Z k n S (pc + 3) lv (.inl (if y < x then y else x) :: st)) : wa Z k n S pc lv (.inl y :: .inl x :: st) := by
  obtain ⟨p, l, e, R, s, m, args, below, meth, c, D, DA, n0, G0, S0, Qw⟩ := Z
  obtain ⟨hx, hb, hml, hown, hts, hlk, hst, hW, rfl⟩ := X
  intro G H locs la a1 a2 a3 a4 a5 a6
  have hc : ((st.map (hs_c G.1)).map fun v => v.category).sum = (st.map hs_cat).sum := by
    rw [List.map_map]
    exact congrArg List.sum (List.map_congr_left fun v _ => hs_c_cat G.1 v)
  rw [List.map_cons, List.map_cons]
  exact va_mmin hx hb a6.1.symm hown (hts _ hl) (hts _ h1) (hts _ h2) (hts _ h3) hR.1.1 (by rw [hc]; omega) hR.2.1 hR.2.2 hd (kk G H locs la a1 a2 a3 (hs_pu trivial (hs_n2 a4)) a5 a6)
/-- a method of a class that has entries of the machine's, without one of its own -/
theorem hs_ofWF {l : Launch} {y : MethodName} {ws ws' : List Cond} {rm : Room} {Pc : Array Value → State → Prop} {Qc : Array Value → State → Outcome → State → Prop} {XC : String → State → State → Prop} {mc ms : Nat} {free : Addr → Prop} {cc : ByteArray} {maxL : Nat} {ret : Option FieldType}
    (hy : plainFor y = true) (hw : ws = Cond.code y cc maxL ret :: ws')
    (body : ∀ p e s m args below meth c s₁, BodyLoose p l y (headSpec ws rm) cc maxL ret e s m args below meth c s₁ → c.maxLocals = maxL → (∀ x ∈ c.exceptionTable.toList, False) → Pc args s →
      W p l e (headSpec ws rm).room s m args below meth c s.heap [] 0 0 (vx_MQ below Qc XC args s mc ms free) (entryFrame m args maxL)) : vx_Met l y ws rm Pc Qc XC mc ms free := by
  refine MetFree.of_bodySF (code := cc) (maxLocals := maxL) (ret := ret) hy (fun args s m h hn => ?_) (fun p e s m args below meth c s₁ B hml hP _ => ?_)
  · obtain ⟨meth, c, h1, h2, h3, h4, h5, h6, -, -⟩ := Cond.code_spec hn (atoms_spec (ws := ws) h _ (by rw [hw]; exact List.mem_cons_self))
    exact ⟨meth, c, h1, h2, h3, h4, h5, h6⟩
  · have ht : ∀ x ∈ c.exceptionTable.toList, False := by
      obtain ⟨meth9, c9, h1, h2, -, -, -, -, h7, -⟩ := Cond.code_spec B.named (atoms_spec (ws := ws) B.pre _ (by rw [hw]; exact List.mem_cons_self))
      cases Option.some.inj (h1.symm.trans B.method)
      cases Option.some.inj (h2.symm.trans (Stand.of_body B).code)
      intro x hx
      rw [Array.isEmpty_iff.mp h7] at hx
      cases hx
    obtain ⟨t, a1, o, b1, b2, b3⟩ := body p e s m args below meth c s₁ B hml ht hP s₁ (by rw [B.state]; rfl) (Stand.of_body B)
    exact ⟨t, o, a1, b1, b2, b3⟩
theorem hs_bodyF {own : String} {cc : ByteArray} {nL d mc mS : Nat} {ret : Option FieldType} {y : MethodName} {av : List hs_V} {S : hs_S} {Q : Option hs_V → hs_S → Prop} {Ex : String → hs_S → Prop} (hy : plainFor y = true) (ho : y.cls = own) (hn : (av.map hs_cat).sum ≤ nL)
    (kk : ∀ Z : hs_Z, hs_C Z own cc nL (hs_rm d mc mS) → hs_E Z ret mc mS Q Ex → hs_N Z → (∀ p l e R s m args below meth c D DA n0 G0 S0 Qw, Z = (p, l, e, R, s, m, args, below, meth, c, D, DA, n0, G0, S0, Qw) → meth.name = y.name) → wa Z 0 0 S 0 (hs_args 0 av) []) : hs_M d y (.code y cc nL ret) av S mc mS Q Ex := by
  intro l D DA n0 G hst hav
  refine hs_ofWF (cc := cc) (maxL := nL) (ret := ret) hy rfl fun p e s m args below meth c s₁ B hml hN hv => ?_
  obtain ⟨rfl, hW, hP⟩ := hv
  have hts := atoms_spec B.pre
  refine hs_entry hml hn hav hP (kk _ ⟨B.exec, B.bytes, hml, ?_, fun w hw => hts w (List.mem_cons_of_mem _ hw), B.notSynchronized, hst, hW, rfl⟩ ⟨rfl, B.returns⟩ hN ?_)
  · rw [← ho]; exact findClass_of_methodNamed B.named
  · intro p' l' e' R' s' m' args' below' meth' c' D' DA' n0' G0' S0' Qw' hZ
    cases hZ
    exact (name_of_methodNamed B.named B.method).1
/-- a reference by another name -/
theorem hs_stR {Z : hs_Z} {k n : Nat} {S : hs_S} {pc : Nat} {lv : List (Nat × hs_V)} {st : List hs_V} {t a b : Nat} (h : a = b) (kk : wa Z k n S pc lv (.inr (.inr (t, b)) :: st)) : wa Z k n S pc lv (.inr (.inr (t, a)) :: st) := h ▸ kk
/-- caught by the row x of the table, and laid away by a short instruction -/
theorem wx_catchN {Z : hs_Z} {own : String} {cc : ByteArray} {nL : Nat} {R0 : Room} {k n : Nat} {S : hs_S} {pc : Nat} {lv : List (Nat × hs_V)} (X : hs_C Z own cc nL R0) {hh : List (Nat × Nat × Nat × Nat)} (hH : hs_H Z hh) {T : String} (pre : List ExceptionTableEntry) (x : ExceptionTableEntry) (suf : List ExceptionTableEntry) (hsplit : tableOf hh = pre ++ x :: suf)
    (hpass : ∀ z ∈ pre, z.catchType ≠ 0 ∧ ∃ nm : String, Cond.classLink own z.catchType nm ∈ hs_ws ∧ (T, nm) ∈ hs_nc) (hx : covers x pc = true) (h0 : x.catchType ≠ 0) (hl : Cond.classLink own x.catchType T ∈ hs_ws) (hc : Cond.castable T T ∈ hs_ws) {z : Fin 4} {i : Nat} (hd : decode cc x.handlerPc = .ok (.astore_n z, 1)) (hz : (z : Nat) = i) (hn : i < nL)
    (kk : wa Z k n S (x.handlerPc + 1) (lv.filter (fun q => !(q.1 == i) && !(q.1 + 1 == i && hs_cat q.2 == 2))) []) : wx Z k n S pc lv T := by
  obtain ⟨p, l, e, R, s, m, args, below, meth, c, D, DA, n0, G0, S0, Qw⟩ := Z
  obtain ⟨hx0, hb, hml, hown, hts, hlk, hst, hW, rfl⟩ := X
  intro G H locs la st ce q a1 a2 a3 a5 a6 hce hv hf
  refine vx_catch (name := T) hown pre x suf ((show c.exceptionTable.toList = tableOf hh from hH).trans hsplit) (fun z hz => ?_) hx h0 (hts _ hl) (hts _ hc) hce hv hf ?_
  · obtain ⟨h1, nm, h2, h3⟩ := hpass z hz
    exact Or.inr ⟨h1, nm, hts _ h2, hW.2.2.2.2.2.2.2.1 _ h3⟩
  · refine lv_astore_n hx0 hb hd hz a6 (hml ▸ hn) rfl fun la2 b6 => ?_
    refine kk G H locs la2 a1 a2 (fun v hv => a3 v (List.mem_filter.mp hv).1) (fun v hv => by cases hv) a5 ?_
    refine lv_sub b6 ((List.range ((lv.map fun q => (q.1, hs_c G.1 q.2)).filter (fun q => !(q.1 == i) && !(q.1 + 1 == i && q.2.category == 2))).length).map (· + 1)) ?_
    have e1 : (lv.map fun q => (q.1, hs_c G.1 q.2)).filter (fun q => !(q.1 == i) && !(q.1 + 1 == i && q.2.category == 2)) = (lv.filter (fun q => !(q.1 == i) && !(q.1 + 1 == i && hs_cat q.2 == 2))).map fun q => (q.1, hs_c G.1 q.2) := by
      rw [List.filter_map]
      congr 1
      apply List.filter_congr
      intro q _
      show (!(q.1 == i) && !(q.1 + 1 == i && (hs_c G.1 q.2).category == 2)) = _
      rw [hs_c_cat]
    rw [e1]
    generalize (lv.filter (fun q => !(q.1 == i) && !(q.1 + 1 == i && hs_cat q.2 == 2))).map (fun q => (q.1, hs_c G.1 q.2)) = L
    unfold lv_pick
    rw [List.filterMap_map]
    have e2 : (fun (k : Nat) => ((i, Value.ref q) :: L)[k]?) ∘ (fun x => x + 1) = fun k => L[k]? := by
      funext k; rfl
    rw [e2]
    exact hs_idl L
