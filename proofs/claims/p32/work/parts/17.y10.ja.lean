theorem jk_3 : Cond.selects "java/util/ArrayList" yJx4a65c_add_72be8 yJx4a65c_add_72be8 ∈ hs_ws := hs_w 3 (by decide +kernel) rfl
theorem jk_4 : Cond.selects "java/util/ArrayList" yJx4a65c_grow_d5877 yJx4a65c_grow_d5877 ∈ hs_ws := hs_w 4 (by decide +kernel) rfl
theorem jk_5 : Cond.selects "java/util/ArrayList" yJx4a65c_grow_92f84 yJx4a65c_grow_92f84 ∈ hs_ws := hs_w 5 (by decide +kernel) rfl
theorem jk_24 : Cond.initialized "java/util/AbstractCollection" ∈ hs_ws := hs_w 24 (by decide +kernel) rfl
theorem jk_25 : Cond.initialized "java/util/AbstractList" ∈ hs_ws := hs_w 25 (by decide +kernel) rfl
theorem jk_26 : Cond.initialized "java/util/ArrayList" ∈ hs_ws := hs_w 26 (by decide +kernel) rfl
theorem jk_37 : Cond.initialized "java/util/Objects" ∈ hs_ws := hs_w 37 (by decide +kernel) rfl
theorem jk_38 : Cond.initialized "jdk/internal/util/Preconditions" ∈ hs_ws := hs_w 38 (by decide +kernel) rfl
theorem jk_39 : Cond.initialized "java/lang/Math" ∈ hs_ws := hs_w 39 (by decide +kernel) rfl
theorem jk_43 : Cond.initialized "jdk/internal/util/ArraysSupport" ∈ hs_ws := hs_w 43 (by decide +kernel) rfl
theorem jk_44 : Cond.initialized "java/util/Arrays" ∈ hs_ws := hs_w 44 (by decide +kernel) rfl
theorem jk_45 : Cond.initialized "java/lang/System" ∈ hs_ws := hs_w 45 (by decide +kernel) rfl
theorem jk_53 : Cond.instanceMethod Lib.objectInit ∈ hs_ws := hs_w 53 (by decide +kernel) rfl
theorem jk_54 : Cond.code Lib.objectInit ⟨#[0xb1]⟩ 1 none ∈ hs_ws := hs_w 54 (by decide +kernel) rfl
theorem jk_79 : Cond.instantiable "java/util/ArrayList" 3 ∈ hs_ws := hs_w 79 (by decide +kernel) rfl
theorem jk_81 : Cond.instanceMethod yJx4a65c_init_da8c8 ∈ hs_ws := hs_w 81 (by decide +kernel) rfl
theorem jk_82 : Cond.code yJx4a65c_init_da8c8 cJx4a65c_init_da8c8 1 none ∈ hs_ws := hs_w 82 (by decide +kernel) rfl
theorem jk_83 : Cond.methodLink "java/util/ArrayList" 1 yJxc12de_init_da8c8 ∈ hs_ws := hs_w 83 (by decide +kernel) rfl
theorem jk_84 : Cond.instanceMethod yJxc12de_init_da8c8 ∈ hs_ws := hs_w 84 (by decide +kernel) rfl
theorem jk_85 : Cond.code yJxc12de_init_da8c8 cJxc12de_init_da8c8 1 none ∈ hs_ws := hs_w 85 (by decide +kernel) rfl
theorem jk_86 : Cond.methodLink "java/util/AbstractList" 1 yJxa1e45_init_da8c8 ∈ hs_ws := hs_w 86 (by decide +kernel) rfl
theorem jk_87 : Cond.instanceMethod yJxa1e45_init_da8c8 ∈ hs_ws := hs_w 87 (by decide +kernel) rfl
theorem jk_88 : Cond.code yJxa1e45_init_da8c8 cJxa1e45_init_da8c8 1 none ∈ hs_ws := hs_w 88 (by decide +kernel) rfl
theorem jk_89 : Cond.methodLink "java/util/AbstractCollection" 1 Lib.objectInit ∈ hs_ws := hs_w 89 (by decide +kernel) rfl
theorem jk_90 : Cond.fieldLink "java/util/ArrayList" 39 "java/util/ArrayList" "DEFAULTCAPACITY_EMPTY_ELEMENTDATA" "[Ljava/lang/Object;" ∈ hs_ws := hs_w 90 (by decide +kernel) rfl
theorem jk_92 : Cond.fieldLink "java/util/ArrayList" 9 "java/util/ArrayList" "elementData" "[Ljava/lang/Object;" ∈ hs_ws := hs_w 92 (by decide +kernel) rfl
theorem jk_93 : Cond.fieldLink "java/util/ArrayList" 48 "java/util/ArrayList" "size" "I" ∈ hs_ws := hs_w 93 (by decide +kernel) rfl
theorem jk_94 : Cond.fieldLink "java/util/AbstractList" 7 "java/util/AbstractList" "modCount" "I" ∈ hs_ws := hs_w 94 (by decide +kernel) rfl
theorem jk_95 : Cond.fieldLink "java/util/ArrayList" 63 "java/util/ArrayList" "modCount" "I" ∈ hs_ws := hs_w 95 (by decide +kernel) rfl
theorem jk_96 : Cond.sameField "java/util/ArrayList" "java/util/AbstractList" "modCount" "I" ∈ hs_ws := hs_w 96 (by decide +kernel) rfl
theorem jk_97 : Cond.lays "java/util/ArrayList" "java/util/ArrayList" "elementData" "[Ljava/lang/Object;" ∈ hs_ws := hs_w 97 (by decide +kernel) rfl
theorem jk_99 : Cond.lays "java/util/ArrayList" "java/util/ArrayList" "size" "I" ∈ hs_ws := hs_w 99 (by decide +kernel) rfl
theorem jk_101 : Cond.lays "java/util/ArrayList" "java/util/AbstractList" "modCount" "I" ∈ hs_ws := hs_w 101 (by decide +kernel) rfl
theorem jk_434 : Cond.selects "java/util/ArrayList" ⟨"java/util/List", "size", "()I"⟩ yJx4a65c_size_8abf5 ∈ hs_ws := hs_w 434 (by decide +kernel) rfl
theorem jk_436 : Cond.instanceMethod yJx4a65c_size_8abf5 ∈ hs_ws := hs_w 436 (by decide +kernel) rfl
theorem jk_438 : Cond.code yJx4a65c_size_8abf5 cJx4a65c_size_8abf5 1 (some FieldType.int) ∈ hs_ws := hs_w 438 (by decide +kernel) rfl
theorem jk_443 : Cond.selects "java/util/ArrayList" ⟨"java/util/List", "get", "(I)Ljava/lang/Object;"⟩ yJx4a65c_get_915e3 ∈ hs_ws := hs_w 443 (by decide +kernel) rfl
theorem jk_445 : Cond.instanceMethod yJx4a65c_get_915e3 ∈ hs_ws := hs_w 445 (by decide +kernel) rfl
theorem jk_447 : Cond.code yJx4a65c_get_915e3 cJx4a65c_get_915e3 2 (some (FieldType.object "java/lang/Object")) ∈ hs_ws := hs_w 447 (by decide +kernel) rfl
theorem jk_448 : Cond.methodLink "java/util/ArrayList" 118 yJ15_checkIndex_7cf53 ∈ hs_ws := hs_w 448 (by decide +kernel) rfl
theorem jk_449 : Cond.static yJ15_checkIndex_7cf53 ∈ hs_ws := hs_w 449 (by decide +kernel) rfl
theorem jk_450 : Cond.code yJ15_checkIndex_7cf53 cJ15_checkIndex_7cf53 2 (some FieldType.int) ∈ hs_ws := hs_w 450 (by decide +kernel) rfl
theorem jk_451 : Cond.methodLink "java/util/Objects" 105 yJ3_checkIndex_8e157 ∈ hs_ws := hs_w 451 (by decide +kernel) rfl
theorem jk_452 : Cond.static yJ3_checkIndex_8e157 ∈ hs_ws := hs_w 452 (by decide +kernel) rfl
theorem jk_453 : Cond.code yJ3_checkIndex_8e157 cJ3_checkIndex_8e157 3 (some FieldType.int) ∈ hs_ws := hs_w 453 (by decide +kernel) rfl
theorem jk_454 : Cond.methodLink "java/util/ArrayList" 123 yJx4a65c_elementData_915e3 ∈ hs_ws := hs_w 454 (by decide +kernel) rfl
theorem jk_455 : Cond.instanceMethod yJx4a65c_elementData_915e3 ∈ hs_ws := hs_w 455 (by decide +kernel) rfl
theorem jk_456 : Cond.selects "java/util/ArrayList" yJx4a65c_elementData_915e3 yJx4a65c_elementData_915e3 ∈ hs_ws := hs_w 456 (by decide +kernel) rfl
theorem jk_457 : Cond.code yJx4a65c_elementData_915e3 cJx4a65c_elementData_915e3 2 (some (FieldType.object "java/lang/Object")) ∈ hs_ws := hs_w 457 (by decide +kernel) rfl
theorem jk_607 : Cond.static yJ9_max_7cf53 ∈ hs_ws := hs_w 607 (by decide +kernel) rfl
theorem jk_608 : Cond.code yJ9_max_7cf53 cJ9_max_7cf53 2 (some FieldType.int) ∈ hs_ws := hs_w 608 (by decide +kernel) rfl
theorem jk_649 : Cond.selects "java/util/ArrayList" ⟨"java/util/List", "add", "(Ljava/lang/Object;)Z"⟩ yJx4a65c_add_9ea2d ∈ hs_ws := hs_w 649 (by decide +kernel) rfl
theorem jk_651 : Cond.instanceMethod yJx4a65c_add_9ea2d ∈ hs_ws := hs_w 651 (by decide +kernel) rfl
theorem jk_653 : Cond.code yJx4a65c_add_9ea2d cJx4a65c_add_9ea2d 2 (some FieldType.boolean) ∈ hs_ws := hs_w 653 (by decide +kernel) rfl
theorem jk_654 : Cond.methodLink "java/util/ArrayList" 131 yJx4a65c_add_72be8 ∈ hs_ws := hs_w 654 (by decide +kernel) rfl
theorem jk_656 : Cond.instanceMethod yJx4a65c_add_72be8 ∈ hs_ws := hs_w 656 (by decide +kernel) rfl
theorem jk_657 : Cond.code yJx4a65c_add_72be8 cJx4a65c_add_72be8 4 none ∈ hs_ws := hs_w 657 (by decide +kernel) rfl
theorem jk_658 : Cond.methodLink "java/util/ArrayList" 129 yJx4a65c_grow_d5877 ∈ hs_ws := hs_w 658 (by decide +kernel) rfl
theorem jk_660 : Cond.instanceMethod yJx4a65c_grow_d5877 ∈ hs_ws := hs_w 660 (by decide +kernel) rfl
theorem jk_661 : Cond.code yJx4a65c_grow_d5877 cJx4a65c_grow_d5877 1 (some (FieldType.array (FieldType.object "java/lang/Object"))) ∈ hs_ws := hs_w 661 (by decide +kernel) rfl
theorem jk_662 : Cond.methodLink "java/util/ArrayList" 69 yJx4a65c_grow_92f84 ∈ hs_ws := hs_w 662 (by decide +kernel) rfl
theorem jk_664 : Cond.instanceMethod yJx4a65c_grow_92f84 ∈ hs_ws := hs_w 664 (by decide +kernel) rfl
theorem jk_665 : Cond.code yJx4a65c_grow_92f84 cJx4a65c_grow_92f84 4 (some (FieldType.array (FieldType.object "java/lang/Object"))) ∈ hs_ws := hs_w 665 (by decide +kernel) rfl
theorem jk_666 : Cond.methodLink "java/util/ArrayList" 73 yJ8_newLength_cabcc ∈ hs_ws := hs_w 666 (by decide +kernel) rfl
theorem jk_667 : Cond.static yJ8_newLength_cabcc ∈ hs_ws := hs_w 667 (by decide +kernel) rfl
theorem jk_668 : Cond.code yJ8_newLength_cabcc cJ8_newLength_cabcc 4 (some FieldType.int) ∈ hs_ws := hs_w 668 (by decide +kernel) rfl
theorem jk_669 : Cond.methodLink "jdk/internal/util/ArraysSupport" 194 yJ9_max_7cf53 ∈ hs_ws := hs_w 669 (by decide +kernel) rfl
theorem jk_670 : Cond.constant "jdk/internal/util/ArraysSupport" 200 2147483639 ∈ hs_ws := hs_w 670 (by decide +kernel) rfl
theorem jk_674 : Cond.methodLink "java/util/ArrayList" 66 yJ7_copyOf_1904c ∈ hs_ws := hs_w 674 (by decide +kernel) rfl
theorem jk_675 : Cond.static yJ7_copyOf_1904c ∈ hs_ws := hs_w 675 (by decide +kernel) rfl
theorem jk_676 : Cond.code yJ7_copyOf_1904c cJ7_copyOf_1904c 2 (some (FieldType.array (FieldType.object "java/lang/Object"))) ∈ hs_ws := hs_w 676 (by decide +kernel) rfl
theorem jk_677 : Cond.methodLink "java/util/Arrays" 86 ⟨"java/lang/Object", "getClass", "()Ljava/lang/Class;"⟩ ∈ hs_ws := hs_w 677 (by decide +kernel) rfl
theorem jk_678 : Cond.instanceMethod ⟨"java/lang/Object", "getClass", "()Ljava/lang/Class;"⟩ ∈ hs_ws := hs_w 678 (by decide +kernel) rfl
theorem jk_695 : Cond.native ⟨"java/lang/Object", "getClass", "()Ljava/lang/Class;"⟩ ∈ hs_ws := hs_w 695 (by decide +kernel) rfl
theorem jk_696 : Cond.methodLink "java/util/Arrays" 300 yJ7_copyOf_6403c ∈ hs_ws := hs_w 696 (by decide +kernel) rfl
theorem jk_697 : Cond.static yJ7_copyOf_6403c ∈ hs_ws := hs_w 697 (by decide +kernel) rfl
theorem jk_698 : Cond.code yJ7_copyOf_6403c cJ7_copyOf_6403c 4 (some (FieldType.array (FieldType.object "java/lang/Object"))) ∈ hs_ws := hs_w 698 (by decide +kernel) rfl
theorem jk_699 : Cond.classLink "java/util/Arrays" 110 "[Ljava/lang/Object;" ∈ hs_ws := hs_w 699 (by decide +kernel) rfl
theorem jk_701 : Cond.classLink "java/util/Arrays" 2 "java/lang/Object" ∈ hs_ws := hs_w 701 (by decide +kernel) rfl
theorem jk_702 : Cond.methodLink "java/util/Arrays" 304 yJ9_min_7cf53 ∈ hs_ws := hs_w 702 (by decide +kernel) rfl
theorem jk_703 : Cond.static yJ9_min_7cf53 ∈ hs_ws := hs_w 703 (by decide +kernel) rfl
theorem jk_704 : Cond.code yJ9_min_7cf53 cJ9_min_7cf53 2 (some FieldType.int) ∈ hs_ws := hs_w 704 (by decide +kernel) rfl
theorem jk_705 : Cond.methodLink "java/util/Arrays" 150 arraycopyName ∈ hs_ws := hs_w 705 (by decide +kernel) rfl
theorem jk_706 : Cond.static arraycopyName ∈ hs_ws := hs_w 706 (by decide +kernel) rfl
theorem jk_707 : Cond.native arraycopyName ∈ hs_ws := hs_w 707 (by decide +kernel) rfl
theorem jk_708 : Cond.methodLink "java/util/ArrayList" 79 yJ9_max_7cf53 ∈ hs_ws := hs_w 708 (by decide +kernel) rfl
theorem jk_709 : Cond.classLink "java/util/ArrayList" 7 "java/lang/Object" ∈ hs_ws := hs_w 709 (by decide +kernel) rfl
theorem jk_1130 : Cond.selects "[Ljava/lang/Object;" ⟨"java/lang/Object", "getClass", "()Ljava/lang/Class;"⟩ ⟨"java/lang/Object", "getClass", "()Ljava/lang/Class;"⟩ ∈ hs_ws := hs_w 1130 (by decide +kernel) rfl
/-! ===== a raw judgement: a list of cells, as it lies ===== -/
abbrev j_Z : Type := Program × Launch × Env × Room × State × MethodId × Array Value × List Frame × Method × Code × (State → Prop)
def ja (D : va_G) (DA : hs_DA) (n0 : Nat → Prop) (Z : j_Z) (k n : Nat) (ws : va_W) (pc : Nat) (lv : List (Nat × Value)) (st : List Value) : Prop := match Z with
  | (p, l, e, R, s, m, args, below, meth, c, Qw) => ∀ (H : Heap) (locs : List Loc) (la : Array Slot), va_P D hs_cl0 ws H → va_D n0 ws → va_S n0 s.heap H locs → lv_has la c.maxLocals lv → W p l e R s m args below meth c H locs k n Qw (F0 m pc la st)
def j_W (D : va_G) (DA : hs_DA) (n0 : Nat → Prop) (mi : Nat) (U : State) (H : Heap) : Prop := hs_W D DA n0 U H ∧ va_Mi "[Ljava/lang/Object;" mi U
def j_C (D : va_G) (DA : hs_DA) (n0 : Nat → Prop) (mi : Nat) (Z : j_Z) (own : String) (cc : ByteArray) (nL : Nat) (R0 : Room) : Prop := match Z with
  | (p, l, e, R, s, m, args, below, meth, c, Qw) => p.tables.exec = Jvm.exec ∧ c.code = cc ∧ c.maxLocals = nL ∧ s.vm.findClass own = some m.cls ∧ (∀ w ∈ hs_ws, w.before args s = true) ∧ meth.locks = false ∧ j_W D DA n0 mi s s.heap ∧ R = R0
def j_Q (D : va_G) (n0 : Nat → Prop) (Post : Option Value → va_W → Prop) : Array Value → State → Outcome → State → Prop := fun _ st o t =>
  (∃ v ws', o = .returned v ∧ Post v ws' ∧ va_P D hs_cl0 ws' t.heap ∧ va_D n0 ws') ∧ va_F n0 st t
def j_E (D : va_G) (n0 : Nat → Prop) (Z : j_Z) (ret : Option FieldType) (mc mS : Nat) (Post : Option Value → va_W → Prop) : Prop := match Z with
  | (p, l, e, R, s, m, args, below, meth, c, Qw) => Qw = MQ below (j_Q D n0 Post) args s mc mS n0 ∧ meth.sig.returnType = ret
def j_Pc (D : va_G) (DA : hs_DA) (n0 : Nat → Prop) (mi : Nat) (ws : va_W) (av : List Value) : Array Value → State → Prop := va_Pc av (fun U => j_W D DA n0 mi U U.heap ∧ va_P D hs_cl0 ws U.heap ∧ va_D n0 ws)
def j_M (D : va_G) (DA : hs_DA) (n0 : Nat → Prop) (mi d : Nat) (y : MethodName) (w : Cond) (av : List Value) (ws : va_W) (mc mS : Nat) (Post : Option Value → va_W → Prop) : Prop :=
  ∀ l : Launch, Met l y (w :: hs_ws) (hs_rm d mc mS) (j_Pc D DA n0 mi ws av) (j_Q D n0 Post) mc mS n0
theorem j_ofW {l : Launch} {y : MethodName} {ws ws' : List Cond} {rm : Room} {Pc : Array Value → State → Prop} {Qc : Array Value → State → Outcome → State → Prop} {mc ms : Nat} {free : Addr → Prop} {cc : ByteArray} {maxL : Nat} {ret : Option FieldType}
    (hy : plainFor y = true) (hw : ws = Cond.code y cc maxL ret :: ws')
    (body : ∀ p e s m args below meth c s₁, BodyLoose p l y (headSpec ws rm) cc maxL ret e s m args below meth c s₁ → c.maxLocals = maxL → Pc args s →
      W p l e (headSpec ws rm).room s m args below meth c s.heap [] 0 0 (MQ below Qc args s mc ms free) (entryFrame m args maxL)) : Met l y ws rm Pc Qc mc ms free := by
  refine MetFree.of_bodySF (code := cc) (maxLocals := maxL) (ret := ret) hy (fun args s m h hn => ?_) (fun p e s m args below meth c s₁ B hml hP _ => ?_)
  · obtain ⟨meth, c, h1, h2, h3, h4, h5, h6, -, -⟩ := Cond.code_spec hn (atoms_spec (ws := ws) h _ (by rw [hw]; exact List.mem_cons_self))
    exact ⟨meth, c, h1, h2, h3, h4, h5, h6⟩
  · obtain ⟨t, a1, o, b1, b2, b3⟩ := body p e s m args below meth c s₁ B hml hP s₁ (by rw [B.state]; rfl) (Stand.of_body B)
    exact ⟨t, o, a1, b1, b2, b3⟩
theorem j_body {D : va_G} {DA : hs_DA} {n0 : Nat → Prop} {mi : Nat} {own : String} {cc : ByteArray} {nL d mc mS : Nat} {ret : Option FieldType} {y : MethodName} {av : List Value} {ws : va_W} {Post : Option Value → va_W → Prop} (hy : plainFor y = true) (ho : y.cls = own) (hn : (lg_sl av).length ≤ nL)
    (kk : ∀ Z : j_Z, j_C D DA n0 mi Z own cc nL (hs_rm d mc mS) → j_E D n0 Z ret mc mS Post → ja D DA n0 Z 0 0 ws 0 (lv_args 0 av) []) : j_M D DA n0 mi d y (.code y cc nL ret) av ws mc mS Post := by
  intro l
  refine j_ofW (cc := cc) (maxL := nL) (ret := ret) hy rfl fun p e s m args below meth c s₁ B hml hv => ?_
  obtain ⟨rfl, hW, hP, hD⟩ := hv
  have hts := atoms_spec B.pre
  have hl := lv_entry av (n := nL) hn
  rw [lg_entry_eq]
  refine kk (p, l, e, hs_rm d mc mS, s, m, av.toArray, below, meth, c, _) ⟨B.exec, B.bytes, hml, ?_, fun w hw => hts w (List.mem_cons_of_mem _ hw), B.notSynchronized, hW, rfl⟩ ⟨rfl, B.returns⟩ s.heap [] _ hP hD va_S.rf (by rw [hml]; exact hl)
  rw [← ho]; exact findClass_of_methodNamed B.named
theorem ja_lv {D : va_G} {DA : hs_DA} {n0 : Nat → Prop} {Z : j_Z} {k n : Nat} {ws : va_W} {pc : Nat} {lv lv' : List (Nat × Value)} {st : List Value} (ks : List Nat) (hl : lv_pick lv ks = lv') (kk : ja D DA n0 Z k n ws pc lv' st) : ja D DA n0 Z k n ws pc lv st := by
  obtain ⟨p, l, e, R, s, m, args, below, meth, c, Qw⟩ := Z
  intro H locs la a2 a3 a5 a6
  exact kk H locs la a2 a3 a5 (lv_sub a6 ks hl)
theorem ja_wid {D : va_G} {DA : hs_DA} {n0 : Nat → Prop} {Z : j_Z} {k n k' n' : Nat} {ws : va_W} {pc : Nat} {lv : List (Nat × Value)} {st : List Value} (h1 : k ≤ k') (h2 : n ≤ n') (kk : ja D DA n0 Z k' n' ws pc lv st) : ja D DA n0 Z k n ws pc lv st := by
  obtain ⟨p, l, e, R, s, m, args, below, meth, c, Qw⟩ := Z
  intro H locs la a2 a3 a5 a6
  exact W.widen h1 h2 (kk H locs la a2 a3 a5 a6)
theorem ja_iconst {D : va_G} {DA : hs_DA} {n0 : Nat → Prop} {mi : Nat} {Z : j_Z} {own : String} {cc : ByteArray} {nL : Nat} {R0 : Room} {k n : Nat} {ws : va_W} {pc : Nat} {lv : List (Nat × Value)} {st : List Value} (X : j_C D DA n0 mi Z own cc nL R0) {z : Int} {v : Int32} (hd : decode cc pc = .ok (.iconst z, 1)) (hv : Int32.ofInt z = v) (kk : ja D DA n0 Z (k) (n) (ws) (pc + 1) lv (.int v :: st)) : ja D DA n0 Z k n ws pc lv (st) := by
  obtain ⟨p, l, e, R, s, m, args, below, meth, c, Qw⟩ := Z
  obtain ⟨hx, hb, hml, hown, hts, hlk0, ⟨hW, hmi⟩, rfl⟩ := X
  intro H locs la a2 a3 a5 a6
  exact lv_iconst hx hb hd hv (kk H locs la a2 a3 a5 a6)
theorem ja_bipush {D : va_G} {DA : hs_DA} {n0 : Nat → Prop} {mi : Nat} {Z : j_Z} {own : String} {cc : ByteArray} {nL : Nat} {R0 : Room} {k n : Nat} {ws : va_W} {pc : Nat} {lv : List (Nat × Value)} {st : List Value} (X : j_C D DA n0 mi Z own cc nL R0) {z : Int} {v : Int32} (hd : decode cc pc = .ok (.bipush z, 2)) (hv : (Int8.ofInt z).toInt32 = v) (kk : ja D DA n0 Z (k) (n) (ws) (pc + 2) lv (.int v :: st)) : ja D DA n0 Z k n ws pc lv (st) := by
  obtain ⟨p, l, e, R, s, m, args, below, meth, c, Qw⟩ := Z
  obtain ⟨hx, hb, hml, hown, hts, hlk0, ⟨hW, hmi⟩, rfl⟩ := X
  intro H locs la a2 a3 a5 a6
  exact lv_bipush hx hb hd hv (kk H locs la a2 a3 a5 a6)
theorem ja_ldc {D : va_G} {DA : hs_DA} {n0 : Nat → Prop} {mi : Nat} {Z : j_Z} {own : String} {cc : ByteArray} {nL : Nat} {R0 : Room} {k n : Nat} {ws : va_W} {pc : Nat} {lv : List (Nat × Value)} {st : List Value} (X : j_C D DA n0 mi Z own cc nL R0) {ix : Nat} {v : Int32} (hc : Cond.constant own ix v ∈ hs_ws) (hd : decode cc pc = .ok (.ldc ix, 2)) (kk : ja D DA n0 Z (k) (n) (ws) (pc + 2) lv (.int v :: st)) : ja D DA n0 Z k n ws pc lv (st) := by
  obtain ⟨p, l, e, R, s, m, args, below, meth, c, Qw⟩ := Z
  obtain ⟨hx, hb, hml, hown, hts, hlk0, ⟨hW, hmi⟩, rfl⟩ := X
  intro H locs la a2 a3 a5 a6
  exact lv_ldc hx hb hown (hts _ hc) hd (kk H locs la a2 a3 a5 a6)
theorem ja_null {D : va_G} {DA : hs_DA} {n0 : Nat → Prop} {mi : Nat} {Z : j_Z} {own : String} {cc : ByteArray} {nL : Nat} {R0 : Room} {k n : Nat} {ws : va_W} {pc : Nat} {lv : List (Nat × Value)} {st : List Value} (X : j_C D DA n0 mi Z own cc nL R0) (hd : decode cc pc = .ok (.aconst_null, 1)) (kk : ja D DA n0 Z (k) (n) (ws) (pc + 1) lv (.null :: st)) : ja D DA n0 Z k n ws pc lv (st) := by
  obtain ⟨p, l, e, R, s, m, args, below, meth, c, Qw⟩ := Z
  obtain ⟨hx, hb, hml, hown, hts, hlk0, ⟨hW, hmi⟩, rfl⟩ := X
  intro H locs la a2 a3 a5 a6
  exact lv_null hx hb hd (kk H locs la a2 a3 a5 a6)
theorem ja_iload_n {D : va_G} {DA : hs_DA} {n0 : Nat → Prop} {mi : Nat} {Z : j_Z} {own : String} {cc : ByteArray} {nL : Nat} {R0 : Room} {k n : Nat} {ws : va_W} {pc : Nat} {lv : List (Nat × Value)} {st : List Value} (X : j_C D DA n0 mi Z own cc nL R0) {z : Fin 4} {i : Nat} {x : Int32} (q : Nat) (hq : lv[q]? = some (i, .int x)) (hd : decode cc pc = .ok (.iload_n z, 1)) (hi : (z : Nat) = i) (kk : ja D DA n0 Z (k) (n) (ws) (pc + 1) lv (.int x :: st)) : ja D DA n0 Z k n ws pc lv (st) := by
  obtain ⟨p, l, e, R, s, m, args, below, meth, c, Qw⟩ := Z
  obtain ⟨hx, hb, hml, hown, hts, hlk0, ⟨hW, hmi⟩, rfl⟩ := X
  intro H locs la a2 a3 a5 a6
  exact lv_iload_n hx hb hd hi (lv_at a6 q hq) (kk H locs la a2 a3 a5 a6)
theorem ja_aload_n {D : va_G} {DA : hs_DA} {n0 : Nat → Prop} {mi : Nat} {Z : j_Z} {own : String} {cc : ByteArray} {nL : Nat} {R0 : Room} {k n : Nat} {ws : va_W} {pc : Nat} {lv : List (Nat × Value)} {st : List Value} (X : j_C D DA n0 mi Z own cc nL R0) {z : Fin 4} {i r : Nat} (q : Nat) (hq : lv[q]? = some (i, .ref r)) (hd : decode cc pc = .ok (.aload_n z, 1)) (hi : (z : Nat) = i) (kk : ja D DA n0 Z (k) (n) (ws) (pc + 1) lv (.ref r :: st)) : ja D DA n0 Z k n ws pc lv (st) := by
  obtain ⟨p, l, e, R, s, m, args, below, meth, c, Qw⟩ := Z
  obtain ⟨hx, hb, hml, hown, hts, hlk0, ⟨hW, hmi⟩, rfl⟩ := X
  intro H locs la a2 a3 a5 a6
  exact lv_aload_n hx hb hd hi (lv_at a6 q hq) (kk H locs la a2 a3 a5 a6)
theorem ja_istore_n {D : va_G} {DA : hs_DA} {n0 : Nat → Prop} {mi : Nat} {Z : j_Z} {own : String} {cc : ByteArray} {nL : Nat} {R0 : Room} {k n : Nat} {ws : va_W} {pc : Nat} {lv : List (Nat × Value)} {st : List Value} (X : j_C D DA n0 mi Z own cc nL R0) {z : Fin 4} {i : Nat} {x : Int32} {lv' : List (Nat × Value)} (hd : decode cc pc = .ok (.istore_n z, 1)) (hi : (z : Nat) = i) (hn : i < nL) (hl : (i, .int x) :: lv.filter (fun q => !(q.1 == i) && !(q.1 + 1 == i && q.2.category == 2)) = lv') (kk : ja D DA n0 Z (k) (n) (ws) (pc + 1) lv' (st)) : ja D DA n0 Z k n ws pc lv (.int x :: st) := by
  obtain ⟨p, l, e, R, s, m, args, below, meth, c, Qw⟩ := Z
  obtain ⟨hx, hb, hml, hown, hts, hlk0, ⟨hW, hmi⟩, rfl⟩ := X
  intro H locs la a2 a3 a5 a6
  exact lv_istore_n hx hb hd hi a6 (hml ▸ hn) hl (fun la2 b6 => kk H locs la2 a2 a3 a5 b6)
theorem ja_astore_n {D : va_G} {DA : hs_DA} {n0 : Nat → Prop} {mi : Nat} {Z : j_Z} {own : String} {cc : ByteArray} {nL : Nat} {R0 : Room} {k n : Nat} {ws : va_W} {pc : Nat} {lv : List (Nat × Value)} {st : List Value} (X : j_C D DA n0 mi Z own cc nL R0) {z : Fin 4} {i : Nat} {x : Nat} {lv' : List (Nat × Value)} (hd : decode cc pc = .ok (.astore_n z, 1)) (hi : (z : Nat) = i) (hn : i < nL) (hl : (i, .ref x) :: lv.filter (fun q => !(q.1 == i) && !(q.1 + 1 == i && q.2.category == 2)) = lv') (kk : ja D DA n0 Z (k) (n) (ws) (pc + 1) lv' (st)) : ja D DA n0 Z k n ws pc lv (.ref x :: st) := by
  obtain ⟨p, l, e, R, s, m, args, below, meth, c, Qw⟩ := Z
  obtain ⟨hx, hb, hml, hown, hts, hlk0, ⟨hW, hmi⟩, rfl⟩ := X
  intro H locs la a2 a3 a5 a6
  exact lv_astore_n hx hb hd hi a6 (hml ▸ hn) hl (fun la2 b6 => kk H locs la2 a2 a3 a5 b6)
theorem ja_iadd {D : va_G} {DA : hs_DA} {n0 : Nat → Prop} {mi : Nat} {Z : j_Z} {own : String} {cc : ByteArray} {nL : Nat} {R0 : Room} {k n : Nat} {ws : va_W} {pc : Nat} {lv : List (Nat × Value)} {st : List Value} (X : j_C D DA n0 mi Z own cc nL R0) {x y : Int32} (hd : decode cc pc = .ok (.iadd, 1)) (kk : ja D DA n0 Z (k) (n) (ws) (pc + 1) lv (.int (x + y) :: st)) : ja D DA n0 Z k n ws pc lv (.int y :: .int x :: st) := by
  obtain ⟨p, l, e, R, s, m, args, below, meth, c, Qw⟩ := Z
  obtain ⟨hx, hb, hml, hown, hts, hlk0, ⟨hW, hmi⟩, rfl⟩ := X
  intro H locs la a2 a3 a5 a6
  exact lv_iadd hx hb hd (kk H locs la a2 a3 a5 a6)
theorem ja_isub {D : va_G} {DA : hs_DA} {n0 : Nat → Prop} {mi : Nat} {Z : j_Z} {own : String} {cc : ByteArray} {nL : Nat} {R0 : Room} {k n : Nat} {ws : va_W} {pc : Nat} {lv : List (Nat × Value)} {st : List Value} (X : j_C D DA n0 mi Z own cc nL R0) {x y : Int32} (hd : decode cc pc = .ok (.isub, 1)) (kk : ja D DA n0 Z (k) (n) (ws) (pc + 1) lv (.int (x - y) :: st)) : ja D DA n0 Z k n ws pc lv (.int y :: .int x :: st) := by
  obtain ⟨p, l, e, R, s, m, args, below, meth, c, Qw⟩ := Z
  obtain ⟨hx, hb, hml, hown, hts, hlk0, ⟨hW, hmi⟩, rfl⟩ := X
  intro H locs la a2 a3 a5 a6
  exact lv_isub hx hb hd (kk H locs la a2 a3 a5 a6)
theorem ja_ishr {D : va_G} {DA : hs_DA} {n0 : Nat → Prop} {mi : Nat} {Z : j_Z} {own : String} {cc : ByteArray} {nL : Nat} {R0 : Room} {k n : Nat} {ws : va_W} {pc : Nat} {lv : List (Nat × Value)} {st : List Value} (X : j_C D DA n0 mi Z own cc nL R0) {x y : Int32} (hd : decode cc pc = .ok (.ishr, 1)) (kk : ja D DA n0 Z (k) (n) (ws) (pc + 1) lv (.int (x >>> (y &&& 31)) :: st)) : ja D DA n0 Z k n ws pc lv (.int y :: .int x :: st) := by
  obtain ⟨p, l, e, R, s, m, args, below, meth, c, Qw⟩ := Z
  obtain ⟨hx, hb, hml, hown, hts, hlk0, ⟨hW, hmi⟩, rfl⟩ := X
  intro H locs la a2 a3 a5 a6
  exact lv_ishr hx hb hd (kk H locs la a2 a3 a5 a6)
theorem ja_pop {D : va_G} {DA : hs_DA} {n0 : Nat → Prop} {mi : Nat} {Z : j_Z} {own : String} {cc : ByteArray} {nL : Nat} {R0 : Room} {k n : Nat} {ws : va_W} {pc : Nat} {lv : List (Nat × Value)} {st : List Value} (X : j_C D DA n0 mi Z own cc nL R0) {v : Value} (hd : decode cc pc = .ok (.pop, 1)) (hv : v.category = 1) (kk : ja D DA n0 Z (k) (n) (ws) (pc + 1) lv (st)) : ja D DA n0 Z k n ws pc lv (v :: st) := by
  obtain ⟨p, l, e, R, s, m, args, below, meth, c, Qw⟩ := Z
  obtain ⟨hx, hb, hml, hown, hts, hlk0, ⟨hW, hmi⟩, rfl⟩ := X
  intro H locs la a2 a3 a5 a6
  exact lv_pop hx hb hd hv (kk H locs la a2 a3 a5 a6)
theorem ja_dup {D : va_G} {DA : hs_DA} {n0 : Nat → Prop} {mi : Nat} {Z : j_Z} {own : String} {cc : ByteArray} {nL : Nat} {R0 : Room} {k n : Nat} {ws : va_W} {pc : Nat} {lv : List (Nat × Value)} {st : List Value} (X : j_C D DA n0 mi Z own cc nL R0) {v : Value} (hd : decode cc pc = .ok (.dup, 1)) (hv : v.category = 1) (kk : ja D DA n0 Z (k) (n) (ws) (pc + 1) lv (v :: v :: st)) : ja D DA n0 Z k n ws pc lv (v :: st) := by
  obtain ⟨p, l, e, R, s, m, args, below, meth, c, Qw⟩ := Z
  obtain ⟨hx, hb, hml, hown, hts, hlk0, ⟨hW, hmi⟩, rfl⟩ := X
  intro H locs la a2 a3 a5 a6
  exact lv_dup hx hb hd hv (kk H locs la a2 a3 a5 a6)
theorem ja_dup_x1 {D : va_G} {DA : hs_DA} {n0 : Nat → Prop} {mi : Nat} {Z : j_Z} {own : String} {cc : ByteArray} {nL : Nat} {R0 : Room} {k n : Nat} {ws : va_W} {pc : Nat} {lv : List (Nat × Value)} {st : List Value} (X : j_C D DA n0 mi Z own cc nL R0) {v w : Value} (hd : decode cc pc = .ok (.dup_x1, 1)) (hv : v.category = 1) (hw : w.category = 1) (kk : ja D DA n0 Z (k) (n) (ws) (pc + 1) lv (v :: w :: v :: st)) : ja D DA n0 Z k n ws pc lv (v :: w :: st) := by
  obtain ⟨p, l, e, R, s, m, args, below, meth, c, Qw⟩ := Z
  obtain ⟨hx, hb, hml, hown, hts, hlk0, ⟨hW, hmi⟩, rfl⟩ := X
  intro H locs la a2 a3 a5 a6
  exact lv_dup_x1 hx hb hd hv hw (kk H locs la a2 a3 a5 a6)
theorem ja_goto {D : va_G} {DA : hs_DA} {n0 : Nat → Prop} {mi : Nat} {Z : j_Z} {own : String} {cc : ByteArray} {nL : Nat} {R0 : Room} {k n : Nat} {ws : va_W} {pc : Nat} {lv : List (Nat × Value)} {st : List Value} (X : j_C D DA n0 mi Z own cc nL R0) {off : Int} {tgt : Nat} (hd : decode cc pc = .ok (.goto off, 3)) (ht : (pc : Int) + off = (tgt : Int)) (kk : ja D DA n0 Z k n ws tgt lv st) : ja D DA n0 Z k n ws pc lv (st) := by
  obtain ⟨p, l, e, R, s, m, args, below, meth, c, Qw⟩ := Z
  obtain ⟨hx, hb, hml, hown, hts, hlk0, ⟨hW, hmi⟩, rfl⟩ := X
  intro H locs la a2 a3 a5 a6
  exact lv_goto hx hb hd ht (kk H locs la a2 a3 a5 a6)
theorem ja_if_gt {D : va_G} {DA : hs_DA} {n0 : Nat → Prop} {mi : Nat} {Z : j_Z} {own : String} {cc : ByteArray} {nL : Nat} {R0 : Room} {k n : Nat} {ws : va_W} {pc : Nat} {lv : List (Nat × Value)} {st : List Value} (X : j_C D DA n0 mi Z own cc nL R0) {x : Int32} {off : Int} {tgt : Nat} (hd : decode cc pc = .ok (.ifCond .gt off, 3)) (ht : (pc : Int) + off = (tgt : Int)) (kt : 0 < x → ja D DA n0 Z k n ws tgt lv st) (kf : ¬ 0 < x → ja D DA n0 Z k n ws (pc + 3) lv st) : ja D DA n0 Z k n ws pc lv (.int x :: st) := by
  obtain ⟨p, l, e, R, s, m, args, below, meth, c, Qw⟩ := Z
  obtain ⟨hx, hb, hml, hown, hts, hlk0, ⟨hW, hmi⟩, rfl⟩ := X
  intro H locs la a2 a3 a5 a6
  exact lv_if_gt hx hb hd ht (fun z => kt z H locs la a2 a3 a5 a6) (fun z => kf z H locs la a2 a3 a5 a6)
theorem ja_if_lt {D : va_G} {DA : hs_DA} {n0 : Nat → Prop} {mi : Nat} {Z : j_Z} {own : String} {cc : ByteArray} {nL : Nat} {R0 : Room} {k n : Nat} {ws : va_W} {pc : Nat} {lv : List (Nat × Value)} {st : List Value} (X : j_C D DA n0 mi Z own cc nL R0) {x : Int32} {off : Int} {tgt : Nat} (hd : decode cc pc = .ok (.ifCond .lt off, 3)) (ht : (pc : Int) + off = (tgt : Int)) (kt : x < 0 → ja D DA n0 Z k n ws tgt lv st) (kf : ¬ x < 0 → ja D DA n0 Z k n ws (pc + 3) lv st) : ja D DA n0 Z k n ws pc lv (.int x :: st) := by
  obtain ⟨p, l, e, R, s, m, args, below, meth, c, Qw⟩ := Z
  obtain ⟨hx, hb, hml, hown, hts, hlk0, ⟨hW, hmi⟩, rfl⟩ := X
  intro H locs la a2 a3 a5 a6
  exact lv_if_lt hx hb hd ht (fun z => kt z H locs la a2 a3 a5 a6) (fun z => kf z H locs la a2 a3 a5 a6)
theorem ja_icmp_ne {D : va_G} {DA : hs_DA} {n0 : Nat → Prop} {mi : Nat} {Z : j_Z} {own : String} {cc : ByteArray} {nL : Nat} {R0 : Room} {k n : Nat} {ws : va_W} {pc : Nat} {lv : List (Nat × Value)} {st : List Value} (X : j_C D DA n0 mi Z own cc nL R0) {x y : Int32} {off : Int} {tgt : Nat} (hd : decode cc pc = .ok (.if_icmp .ne off, 3)) (ht : (pc : Int) + off = (tgt : Int)) (kt : ¬ x = y → ja D DA n0 Z k n ws tgt lv st) (kf : x = y → ja D DA n0 Z k n ws (pc + 3) lv st) : ja D DA n0 Z k n ws pc lv (.int y :: .int x :: st) := by
  obtain ⟨p, l, e, R, s, m, args, below, meth, c, Qw⟩ := Z
  obtain ⟨hx, hb, hml, hown, hts, hlk0, ⟨hW, hmi⟩, rfl⟩ := X
  intro H locs la a2 a3 a5 a6
  exact lv_icmp_ne hx hb hd ht (fun z => kt z H locs la a2 a3 a5 a6) (fun z => kf z H locs la a2 a3 a5 a6)
theorem ja_icmp_lt {D : va_G} {DA : hs_DA} {n0 : Nat → Prop} {mi : Nat} {Z : j_Z} {own : String} {cc : ByteArray} {nL : Nat} {R0 : Room} {k n : Nat} {ws : va_W} {pc : Nat} {lv : List (Nat × Value)} {st : List Value} (X : j_C D DA n0 mi Z own cc nL R0) {x y : Int32} {off : Int} {tgt : Nat} (hd : decode cc pc = .ok (.if_icmp .lt off, 3)) (ht : (pc : Int) + off = (tgt : Int)) (kt : x < y → ja D DA n0 Z k n ws tgt lv st) (kf : ¬ x < y → ja D DA n0 Z k n ws (pc + 3) lv st) : ja D DA n0 Z k n ws pc lv (.int y :: .int x :: st) := by
  obtain ⟨p, l, e, R, s, m, args, below, meth, c, Qw⟩ := Z
  obtain ⟨hx, hb, hml, hown, hts, hlk0, ⟨hW, hmi⟩, rfl⟩ := X
  intro H locs la a2 a3 a5 a6
  exact lv_icmp_lt hx hb hd ht (fun z => kt z H locs la a2 a3 a5 a6) (fun z => kf z H locs la a2 a3 a5 a6)
theorem ja_icmp_ge {D : va_G} {DA : hs_DA} {n0 : Nat → Prop} {mi : Nat} {Z : j_Z} {own : String} {cc : ByteArray} {nL : Nat} {R0 : Room} {k n : Nat} {ws : va_W} {pc : Nat} {lv : List (Nat × Value)} {st : List Value} (X : j_C D DA n0 mi Z own cc nL R0) {x y : Int32} {off : Int} {tgt : Nat} (hd : decode cc pc = .ok (.if_icmp .ge off, 3)) (ht : (pc : Int) + off = (tgt : Int)) (kt : y ≤ x → ja D DA n0 Z k n ws tgt lv st) (kf : ¬ y ≤ x → ja D DA n0 Z k n ws (pc + 3) lv st) : ja D DA n0 Z k n ws pc lv (.int y :: .int x :: st) := by
  obtain ⟨p, l, e, R, s, m, args, below, meth, c, Qw⟩ := Z
  obtain ⟨hx, hb, hml, hown, hts, hlk0, ⟨hW, hmi⟩, rfl⟩ := X
  intro H locs la a2 a3 a5 a6
  exact lv_icmp_ge hx hb hd ht (fun z => kt z H locs la a2 a3 a5 a6) (fun z => kf z H locs la a2 a3 a5 a6)
theorem ja_icmp_gt {D : va_G} {DA : hs_DA} {n0 : Nat → Prop} {mi : Nat} {Z : j_Z} {own : String} {cc : ByteArray} {nL : Nat} {R0 : Room} {k n : Nat} {ws : va_W} {pc : Nat} {lv : List (Nat × Value)} {st : List Value} (X : j_C D DA n0 mi Z own cc nL R0) {x y : Int32} {off : Int} {tgt : Nat} (hd : decode cc pc = .ok (.if_icmp .gt off, 3)) (ht : (pc : Int) + off = (tgt : Int)) (kt : y < x → ja D DA n0 Z k n ws tgt lv st) (kf : ¬ y < x → ja D DA n0 Z k n ws (pc + 3) lv st) : ja D DA n0 Z k n ws pc lv (.int y :: .int x :: st) := by
  obtain ⟨p, l, e, R, s, m, args, below, meth, c, Qw⟩ := Z
  obtain ⟨hx, hb, hml, hown, hts, hlk0, ⟨hW, hmi⟩, rfl⟩ := X
  intro H locs la a2 a3 a5 a6
  exact lv_icmp_gt hx hb hd ht (fun z => kt z H locs la a2 a3 a5 a6) (fun z => kf z H locs la a2 a3 a5 a6)
theorem ja_acmp_eq {D : va_G} {DA : hs_DA} {n0 : Nat → Prop} {mi : Nat} {Z : j_Z} {own : String} {cc : ByteArray} {nL : Nat} {R0 : Room} {k n : Nat} {ws : va_W} {pc : Nat} {lv : List (Nat × Value)} {st : List Value} (X : j_C D DA n0 mi Z own cc nL R0) {x y : Nat} {off : Int} {tgt : Nat} (hd : decode cc pc = .ok (.if_acmp .eq off, 3)) (ht : (pc : Int) + off = (tgt : Int)) (kt : x = y → ja D DA n0 Z k n ws tgt lv st) (kf : ¬ x = y → ja D DA n0 Z k n ws (pc + 3) lv st) : ja D DA n0 Z k n ws pc lv (.ref y :: .ref x :: st) := by
  obtain ⟨p, l, e, R, s, m, args, below, meth, c, Qw⟩ := Z
  obtain ⟨hx, hb, hml, hown, hts, hlk0, ⟨hW, hmi⟩, rfl⟩ := X
  intro H locs la a2 a3 a5 a6
  exact lv_acmp_eq (rx := some x) (ry := some y) hx hb hd ht (fun z => kt (Option.some.inj z) H locs la a2 a3 a5 a6) (fun z => kf (fun w => z (congrArg some w)) H locs la a2 a3 a5 a6)
theorem ja_acmp_ne {D : va_G} {DA : hs_DA} {n0 : Nat → Prop} {mi : Nat} {Z : j_Z} {own : String} {cc : ByteArray} {nL : Nat} {R0 : Room} {k n : Nat} {ws : va_W} {pc : Nat} {lv : List (Nat × Value)} {st : List Value} (X : j_C D DA n0 mi Z own cc nL R0) {x y : Nat} {off : Int} {tgt : Nat} (hd : decode cc pc = .ok (.if_acmp .ne off, 3)) (ht : (pc : Int) + off = (tgt : Int)) (kt : ¬ x = y → ja D DA n0 Z k n ws tgt lv st) (kf : x = y → ja D DA n0 Z k n ws (pc + 3) lv st) : ja D DA n0 Z k n ws pc lv (.ref y :: .ref x :: st) := by
  obtain ⟨p, l, e, R, s, m, args, below, meth, c, Qw⟩ := Z
  obtain ⟨hx, hb, hml, hown, hts, hlk0, ⟨hW, hmi⟩, rfl⟩ := X
  intro H locs la a2 a3 a5 a6
  exact lv_acmp_ne (rx := some x) (ry := some y) hx hb hd ht (fun z => kt (fun w => z (congrArg some w)) H locs la a2 a3 a5 a6) (fun z => kf (Option.some.inj z) H locs la a2 a3 a5 a6)
theorem i_AL : ∀ w ∈ u_ws RJx4a65c TJx4a65c 3, w ∈ hs_ws := List.forall_mem_cons.mpr ⟨jk_101, List.forall_mem_cons.mpr ⟨jk_97, List.forall_mem_cons.mpr ⟨jk_99, fun _ h => nomatch h⟩⟩⟩
theorem ty_AL : ∀ k, k < 3 → parseFieldDescriptor (TJx4a65c k).2.2.1 = some (tyJx4a65c k) := by decide +kernel
theorem nm_AL : ∀ a, a < 3 → ∀ b, b < 3 → a ≠ b → (TJx4a65c a).2.1 ≠ (TJx4a65c b).2.1 := by decide +kernel
theorem j_same {s : State} {args : Array Value} {ref : String} {j : Nat} (hts : ∀ w ∈ hs_ws, w.before args s = true) (hs : ref = (TJx4a65c j).1 ∨ (j = 0 ∧ ref = "java/util/ArrayList")) : ∀ x, s.fieldFound? (TJx4a65c j).1 (TJx4a65c j).2.1 (TJx4a65c j).2.2.1 = some x → s.fieldFound? ref (TJx4a65c j).2.1 (TJx4a65c j).2.2.1 = some x := by
  rcases hs with rfl | ⟨rfl, rfl⟩
  · exact fun _ h => h
  · exact fun x h => u_same (hts _ jk_96) x h
theorem ja_get {D : va_G} {DA : hs_DA} {n0 : Nat → Prop} {mi : Nat} {Z : j_Z} {own : String} {cc : ByteArray} {nL : Nat} {R0 : Room} {k n : Nat} {ws : va_W} {pc : Nat} {lv : List (Nat × Value)} {st : List Value} (X : j_C D DA n0 mi Z own cc nL R0) {ref : String} {ix : Nat} {v : Value} {qL a j : Nat} {fs : List Value} (hL : ws[qL]? = some (a, .inr (12, fs))) (hj : j < 3) (hl : Cond.fieldLink own ix ref (TJx4a65c j).2.1 (TJx4a65c j).2.2.1 ∈ hs_ws) (hs : ref = (TJx4a65c j).1 ∨ (j = 0 ∧ ref = "java/util/ArrayList")) (hv : fs[j]? = some v) (hd : decode cc pc = .ok (.getfield ix, 3)) (kk : ja D DA n0 Z (k) (n) (ws) (pc + 3) lv (v :: st)) : ja D DA n0 Z k n ws pc lv (.ref a :: st) := by
  obtain ⟨p, l, e, R, s, m, args, below, meth, c, Qw⟩ := Z
  obtain ⟨hx, hb, hml, hown, hts, hlk0, ⟨hW, hmi⟩, rfl⟩ := X
  intro H locs la a2 a3 a5 a6
  exact va_get (C := RJx4a65c) (T := TJx4a65c) (N := 3) hx hb hts i_AL hown hW.1 a2 qL hL rfl j hj (hts _ hl) (j_same hts hs) hv hd (kk H locs la a2 a3 a5 a6)
theorem ja_put {D : va_G} {DA : hs_DA} {n0 : Nat → Prop} {mi : Nat} {Z : j_Z} {own : String} {cc : ByteArray} {nL : Nat} {R0 : Room} {k n : Nat} {ws : va_W} {pc : Nat} {lv : List (Nat × Value)} {st : List Value} (X : j_C D DA n0 mi Z own cc nL R0) {ref : String} {ix : Nat} {v : Value} {ty : FieldType} {qL a j : Nat} {fs : List Value} (hL : ws[qL]? = some (a, .inr (12, fs))) (hj : j < 3) (hl : Cond.fieldLink own ix ref (TJx4a65c j).2.1 (TJx4a65c j).2.2.1 ∈ hs_ws) (hs : ref = (TJx4a65c j).1 ∨ (j = 0 ∧ ref = "java/util/ArrayList")) (hf : (TJx4a65c j).2.2.2 = false) (ht : parseFieldDescriptor (TJx4a65c j).2.2.1 = some ty) (hn : narrow ty v = v) (hfit : fits ty v = true) (h3 : fs.length = 3) (hd : decode cc pc = .ok (.putfield ix, 3)) (kk : ja D DA n0 Z (k) (n) (ws.set qL (a, .inr (12, fs.set j v))) (pc + 3) lv (st)) : ja D DA n0 Z k n ws pc lv (v :: .ref a :: st) := by
  obtain ⟨p, l, e, R, s, m, args, below, meth, c, Qw⟩ := Z
  obtain ⟨hx, hb, hml, hown, hts, hlk0, ⟨hW, hmi⟩, rfl⟩ := X
  intro H locs la a2 a3 a5 a6
  exact va_put (C := RJx4a65c) (T := TJx4a65c) (N := 3) hx hb hts i_AL tyJx4a65c ty_AL nm_AL hown hW.1 a2 a3 a5 qL hL rfl j hj (hts _ hl) (j_same hts hs) hf ht hn hfit (by omega) hd (fun H1 locs1 b2 b3 b5 => kk H1 locs1 la b2 b3 b5 a6)
theorem ja_dcee {D : va_G} {DA : hs_DA} {n0 : Nat → Prop} {mi : Nat} {Z : j_Z} {own : String} {cc : ByteArray} {nL : Nat} {R0 : Room} {k n : Nat} {ws : va_W} {pc : Nat} {lv : List (Nat × Value)} {st : List Value} (X : j_C D DA n0 mi Z own cc nL R0) {ix : Nat} (hl : Cond.fieldLink own ix "java/util/ArrayList" "DEFAULTCAPACITY_EMPTY_ELEMENTDATA" "[Ljava/lang/Object;" ∈ hs_ws) (hd : decode cc pc = .ok (.getstatic ix, 3)) (kk : ja D DA n0 Z (k) (n) (ws) (pc + 3) lv (.ref DA.2.1 :: st)) : ja D DA n0 Z k n ws pc lv (st) := by
  obtain ⟨p, l, e, R, s, m, args, below, meth, c, Qw⟩ := Z
  obtain ⟨hx, hb, hml, hown, hts, hlk0, ⟨hW, hmi⟩, rfl⟩ := X
  intro H locs la a2 a3 a5 a6
  exact va_gets hx hb hW.2.2.2.2.1.1 a5 hown (hts _ hl) (fun _ h => h) hd (kk H locs la a2 a3 a5 a6)
theorem ja_alen {D : va_G} {DA : hs_DA} {n0 : Nat → Prop} {mi : Nat} {Z : j_Z} {own : String} {cc : ByteArray} {nL : Nat} {R0 : Room} {k n : Nat} {ws : va_W} {pc : Nat} {lv : List (Nat × Value)} {st : List Value} (X : j_C D DA n0 mi Z own cc nL R0) {qA b cap : Nat} {f : Nat → Option Nat} (hA : ws[qA]? = some (b, .inl (DA.1 6, cap, .inr (.inr (.inr (.inr f)))))) (hd : decode cc pc = .ok (.arraylength, 1)) (kk : ja D DA n0 Z (k) (n) (ws) (pc + 1) lv (.int (nI cap) :: st)) : ja D DA n0 Z k n ws pc lv (.ref b :: st) := by
  obtain ⟨p, l, e, R, s, m, args, below, meth, c, Qw⟩ := Z
  obtain ⟨hx, hb, hml, hown, hts, hlk0, ⟨hW, hmi⟩, rfl⟩ := X
  intro H locs la a2 a3 a5 a6
  exact va_alen hx hb hW.1 a2 qA 6 hA rfl rfl hd (kk H locs la a2 a3 a5 a6)
theorem ja_alen0 {D : va_G} {DA : hs_DA} {n0 : Nat → Prop} {mi : Nat} {Z : j_Z} {own : String} {cc : ByteArray} {nL : Nat} {R0 : Room} {k n : Nat} {ws : va_W} {pc : Nat} {lv : List (Nat × Value)} {st : List Value} (X : j_C D DA n0 mi Z own cc nL R0) (hd : decode cc pc = .ok (.arraylength, 1)) (kk : ja D DA n0 Z (k) (n) (ws) (pc + 1) lv (.int 0 :: st)) : ja D DA n0 Z k n ws pc lv (.ref DA.2.1 :: st) := by
  obtain ⟨p, l, e, R, s, m, args, below, meth, c, Qw⟩ := Z
  obtain ⟨hx, hb, hml, hown, hts, hlk0, ⟨hW, hmi⟩, rfl⟩ := X
  intro H locs la a2 a3 a5 a6
  exact va_tlen hx hb hW.2.2.2.2.1.2 a5 rfl hd (kk H locs la a2 a3 a5 a6)
theorem ja_aald {D : va_G} {DA : hs_DA} {n0 : Nat → Prop} {mi : Nat} {Z : j_Z} {own : String} {cc : ByteArray} {nL : Nat} {R0 : Room} {k n : Nat} {ws : va_W} {pc : Nat} {lv : List (Nat × Value)} {st : List Value} (X : j_C D DA n0 mi Z own cc nL R0) {qA b cap : Nat} {f : Nat → Option Nat} (hA : ws[qA]? = some (b, .inl (DA.1 6, cap, .inr (.inr (.inr (.inr f)))))) {i : Int32} {v : Nat} (hi : vp_in i cap) (hv : f i.toNatClampNeg = some v) (hd : decode cc pc = .ok (.aaload, 1)) (kk : ja D DA n0 Z (k) (n) (ws) (pc + 1) lv (.ref v :: st)) : ja D DA n0 Z k n ws pc lv (.int i :: .ref b :: st) := by
  obtain ⟨p, l, e, R, s, m, args, below, meth, c, Qw⟩ := Z
  obtain ⟨hx, hb, hml, hown, hts, hlk0, ⟨hW, hmi⟩, rfl⟩ := X
  intro H locs la a2 a3 a5 a6
  refine va_aldq hx hb hW.1 a2 qA 6 hA rfl hi hd ?_
  rw [hv]
  exact kk H locs la a2 a3 a5 a6
theorem ja_aast {D : va_G} {DA : hs_DA} {n0 : Nat → Prop} {mi : Nat} {Z : j_Z} {own : String} {cc : ByteArray} {nL : Nat} {R0 : Room} {k n : Nat} {ws : va_W} {pc : Nat} {lv : List (Nat × Value)} {st : List Value} (X : j_C D DA n0 mi Z own cc nL R0) {qA b cap : Nat} {f : Nat → Option Nat} (hA : ws[qA]? = some (b, .inl (DA.1 6, cap, .inr (.inr (.inr (.inr f)))))) {i : Int32} {qk v ci : Nat} {vs : List Value} {r : vw_C} (hi : vp_in i cap) (hv : ws[qk]? = some (v, .inr (ci, vs))) (hc : hs_cl0[ci]? = some r) (hca : Cond.castable r.1 "java/lang/Object" ∈ hs_ws) (hd : decode cc pc = .ok (.aastore, 1)) (kk : ja D DA n0 Z (k) (n) (ws.set qA (b, .inl (DA.1 6, cap, .inr (.inr (.inr (.inr (va_up f i.toNatClampNeg (some v)))))))) (pc + 1) lv (st)) : ja D DA n0 Z k n ws pc lv (.ref v :: .int i :: .ref b :: st) := by
  obtain ⟨p, l, e, R, s, m, args, below, meth, c, Qw⟩ := Z
  obtain ⟨hx, hb, hml, hown, hts, hlk0, ⟨hW, hmi⟩, rfl⟩ := X
  intro H locs la a2 a3 a5 a6
  exact va_astqO hx hb hW.1 a2 a3 a5 qA 6 qk ci hA rfl (va_Nw.of rfl (hts _ hca)) hv hc hi hd (fun H1 locs1 b2 b3 b5 => kk H1 locs1 la b2 b3 b5 a6)
theorem ja_newq {D : va_G} {DA : hs_DA} {n0 : Nat → Prop} {mi : Nat} {Z : j_Z} {own : String} {cc : ByteArray} {nL : Nat} {R0 : Room} {k n : Nat} {ws : va_W} {pc : Nat} {lv : List (Nat × Value)} {st : List Value} (X : j_C D DA n0 mi Z own cc nL R0) {ix N : Nat} {v : Int32} (hcl : Cond.classLink own ix "java/lang/Object" ∈ hs_ws) (hn : ¬ v < 0) (hN : v.toNatClampNeg = N) (hby : N * 4 ≤ 536870912) (hd : decode cc pc = .ok (.anewarray ix, 3)) (hR : k + 1 ≤ R0.cells ∧ n + N ≤ R0.slots) (kk : ∀ q : Nat, ja D DA n0 Z (k + 1) (n + N) (ws ++ [(q, .inl (DA.1 6, N, .inr (.inr (.inr (.inr (fun _ => none))))))]) (pc + 3) lv (.ref q :: st)) : ja D DA n0 Z k n ws pc lv (.int v :: st) := by
  obtain ⟨p, l, e, R, s, m, args, below, meth, c, Qw⟩ := Z
  obtain ⟨hx, hb, hml, hown, hts, hlk0, ⟨hW, hmi⟩, rfl⟩ := X
  intro H locs la a2 a3 a5 a6
  refine va_newq hx hb hown (hts _ hcl) hW.2.2.1.2.2.1 hW.1 a2 a3 a5 hW.2.2.2.2.2.2.2.2.2 hn hN hby hR.1 hR.2 hd fun q cA H1 hK1 hP1 hD1 hS1 => ?_
  have h1 := hK1.2 (hs_tys DA).length (cA, .object "java/lang/Object") (by rw [List.getElem?_append_right (Nat.le_refl _), Nat.sub_self]; rfl)
  have h2 := hW.1.2 6 (DA.1 6, .object "java/lang/Object") rfl
  obtain ⟨_, _, -, -, -, f1⟩ := h1.2
  obtain ⟨_, _, -, -, -, f2⟩ := h2.2
  have hcA : cA = DA.1 6 := Option.some.inj (f1.symm.trans f2)
  subst hcA
  exact kk q H1 locs la hP1 hD1 hS1 a6
theorem ja_ldcM {D : va_G} {DA : hs_DA} {n0 : Nat → Prop} {mi : Nat} {Z : j_Z} {own : String} {cc : ByteArray} {nL : Nat} {R0 : Room} {k n : Nat} {ws : va_W} {pc : Nat} {lv : List (Nat × Value)} {st : List Value} (X : j_C D DA n0 mi Z own cc nL R0) {ix : Nat} (hcl : Cond.classLink own ix "[Ljava/lang/Object;" ∈ hs_ws) (hd : decode cc pc = .ok (.ldc ix, 2)) (kk : ja D DA n0 Z (k) (n) (ws) (pc + 2) lv (.ref mi :: st)) : ja D DA n0 Z k n ws pc lv (st) := by
  obtain ⟨p, l, e, R, s, m, args, below, meth, c, Qw⟩ := Z
  obtain ⟨hx, hb, hml, hown, hts, hlk0, ⟨hW, hmi⟩, rfl⟩ := X
  intro H locs la a2 a3 a5 a6
  exact va_ldcM hx hb hown (hts _ hcl) hmi hd (kk H locs la a2 a3 a5 a6)
theorem ja_getC {D : va_G} {DA : hs_DA} {n0 : Nat → Prop} {mi : Nat} {Z : j_Z} {own : String} {cc : ByteArray} {nL : Nat} {R0 : Room} {k n : Nat} {ws : va_W} {pc : Nat} {lv : List (Nat × Value)} {st : List Value} (X : j_C D DA n0 mi Z own cc nL R0) {qA b cap : Nat} {f : Nat → Option Nat} (hA : ws[qA]? = some (b, .inl (DA.1 6, cap, .inr (.inr (.inr (.inr f)))))) {ix : Nat} (hl : Cond.methodLink own ix ⟨"java/lang/Object", "getClass", "()Ljava/lang/Class;"⟩ ∈ hs_ws) (hd : decode cc pc = .ok (.invokevirtual ix, 3)) (hR : 1 ≤ R0.frames ∧ (st.map fun v => v.category).sum + 14 ≤ R0.locals) (kk : ja D DA n0 Z (k) (n) (ws) (pc + 3) lv (.ref mi :: st)) : ja D DA n0 Z k n ws pc lv (.ref b :: st) := by
  obtain ⟨p, l, e, R, s, m, args, below, meth, c, Qw⟩ := Z
  obtain ⟨hx, hb, hml, hown, hts, hlk0, ⟨hW, hmi⟩, rfl⟩ := X
  intro H locs la a2 a3 a5 a6
  have h2 := hW.1.2 6 (DA.1 6, .object "java/lang/Object") rfl
  obtain ⟨_, _, -, -, -, f2⟩ := h2.2
  have hcell : H[b]? = some (vp_cell (DA.1 6) (cap, .inr (.inr (.inr (.inr f))))) := a2 qA _ hA
  exact va_getC hx hb (hml.trans (a6.1.trans hml).symm) hown (hts _ hl) hW.2.2.2.1.1.use (hts _ jk_1130) (hts _ jk_678) (hts _ jk_695) hmi ⟨_, hcell, rfl, f2⟩ hR.1 hR.2 hd (kk H locs la a2 a3 a5 a6)
theorem ja_copy {D : va_G} {DA : hs_DA} {n0 : Nat → Prop} {mi : Nat} {Z : j_Z} {own : String} {cc : ByteArray} {nL : Nat} {R0 : Room} {k n : Nat} {ws : va_W} {pc : Nat} {lv : List (Nat × Value)} {st : List Value} (X : j_C D DA n0 mi Z own cc nL R0) {q0 q1 a0 a1 c0 c1 ci ix : Nat} {f g : Nat → Option Nat} {rc : vw_C} {N : Nat} (h0 : ws[q0]? = some (a0, .inl (DA.1 6, c0, .inr (.inr (.inr (.inr f)))))) (h1 : ws[q1]? = some (a1, .inl (DA.1 6, c1, .inr (.inr (.inr (.inr g)))))) (hc : hs_cl0[ci]? = some rc) (hca : Cond.castable rc.1 "java/lang/Object" ∈ hs_ws) (hel : ∀ (i y : Nat), i < N → f i = some y → ∃ (qk : Nat) (vs : List Value), ws[qk]? = some (y, .inr (ci, vs))) (hN0 : N ≤ c0) (hN1 : N ≤ c1) (hN : N < 2147483648) (hl : Cond.methodLink own ix arraycopyName ∈ hs_ws) (hd : decode cc pc = .ok (.invokestatic ix, 3)) (hR : 1 ≤ R0.frames ∧ (st.map fun v => v.category).sum + (nativeFrameWords "java/lang/System" "arraycopy" 5 + 11) ≤ R0.locals) (kk : ja D DA n0 Z (k) (n) (ws.set q1 (a1, .inl (DA.1 6, c1, .inr (.inr (.inr (.inr (va_cpy f g 0 0 N))))))) (pc + 3) lv (st)) : ja D DA n0 Z k n ws pc lv (.int (nI N) :: .int 0 :: .ref a1 :: .int 0 :: .ref a0 :: st) := by
  obtain ⟨p, l, e, R, s, m, args, below, meth, c, Qw⟩ := Z
  obtain ⟨hx, hb, hml, hown, hts, hlk0, ⟨hW, hmi⟩, rfl⟩ := X
  intro H locs la a2 a3 a5 a6
  have e0 : (0 : Int32).toNatClampNeg = 0 := rfl
  have eN : (nI N).toNatClampNeg = N := nI_clamp (by omega)
  refine va_copyq hx hb (hml.trans (a6.1.trans hml).symm) hown (hts _ hl) (hts _ jk_707) (hts _ jk_706) (hts _ jk_45) hW.1 a2 a3 a5 q0 q1 6 6 (C := rc.1) h0 h1 rfl rfl (by decide) (by decide) (nI_pos (by omega)) (by rw [e0, eN]; omega) (by rw [e0, eN]; omega) (fun i hi y hy => ?_) (fun comp c2 g1 g2 => ?_) hR.1 hR.2 hd (fun H1 locs1 b2 b3 b5 => ?_)
  · rw [eN] at hi
    rw [e0, Nat.zero_add] at hy
    obtain ⟨qk, vs, hk⟩ := hel i y hi hy
    exact va_recv hW.1 a2 hc hk
  · obtain ⟨c0, t1, f1, f2, f3⟩ := Cond.castable_spec (hts _ hca)
    cases f1.symm.trans g2
    cases f2.symm.trans g1
    exact f3
  · rw [e0, eN] at b2 b3
    exact kk H1 locs1 la b2 b3 b5 a6
theorem ja_mmax {D : va_G} {DA : hs_DA} {n0 : Nat → Prop} {mi : Nat} {Z : j_Z} {own : String} {cc : ByteArray} {nL : Nat} {R0 : Room} {k n : Nat} {ws : va_W} {pc : Nat} {lv : List (Nat × Value)} {st : List Value} (X : j_C D DA n0 mi Z own cc nL R0) {ix : Nat} {x y : Int32} (hl : Cond.methodLink own ix Lib.Math.max.name ∈ hs_ws) (h1 : Cond.static Lib.Math.max.name ∈ hs_ws) (h2 : Cond.initialized "java/lang/Math" ∈ hs_ws) (h3 : Cond.code Lib.Math.max.name Lib.Math.max.code 2 (some .int) ∈ hs_ws) (hcat : (st.map fun v => v.category).sum ≤ 8) (hd : decode cc pc = .ok (.invokestatic ix, 3)) (hR : (1 ≤ R0.frames ∧ 21 ≤ R0.locals) ∧ k ≤ R0.cells ∧ n ≤ R0.slots) (kk : ja D DA n0 Z (k) (n) (ws) (pc + 3) lv (.int (if x < y then y else x) :: st)) : ja D DA n0 Z k n ws pc lv (.int y :: .int x :: st) := by
  obtain ⟨p, l, e, R, s, m, args, below, meth, c, Qw⟩ := Z
  obtain ⟨hx, hb, hml, hown, hts, hlk0, ⟨hW, hmi⟩, rfl⟩ := X
  intro H locs la a2 a3 a5 a6
  exact va_mmax hx hb (hml.trans (a6.1.trans hml).symm) hown (hts _ hl) (hts _ h1) (hts _ h2) (hts _ h3) hR.1.1 (by omega) hR.2.1 hR.2.2 hd (kk H locs la a2 a3 a5 a6)
theorem ja_mmin {D : va_G} {DA : hs_DA} {n0 : Nat → Prop} {mi : Nat} {Z : j_Z} {own : String} {cc : ByteArray} {nL : Nat} {R0 : Room} {k n : Nat} {ws : va_W} {pc : Nat} {lv : List (Nat × Value)} {st : List Value} (X : j_C D DA n0 mi Z own cc nL R0) {ix : Nat} {x y : Int32} (hl : Cond.methodLink own ix Lib.Math.min.name ∈ hs_ws) (h1 : Cond.static Lib.Math.min.name ∈ hs_ws) (h2 : Cond.initialized "java/lang/Math" ∈ hs_ws) (h3 : Cond.code Lib.Math.min.name Lib.Math.min.code 2 (some .int) ∈ hs_ws) (hcat : (st.map fun v => v.category).sum ≤ 8) (hd : decode cc pc = .ok (.invokestatic ix, 3)) (hR : (1 ≤ R0.frames ∧ 21 ≤ R0.locals) ∧ k ≤ R0.cells ∧ n ≤ R0.slots) (kk : ja D DA n0 Z (k) (n) (ws) (pc + 3) lv (.int (if y < x then y else x) :: st)) : ja D DA n0 Z k n ws pc lv (.int y :: .int x :: st) := by
  obtain ⟨p, l, e, R, s, m, args, below, meth, c, Qw⟩ := Z
  obtain ⟨hx, hb, hml, hown, hts, hlk0, ⟨hW, hmi⟩, rfl⟩ := X
  intro H locs la a2 a3 a5 a6
  exact va_mmin hx hb (hml.trans (a6.1.trans hml).symm) hown (hts _ hl) (hts _ h1) (hts _ h2) (hts _ h3) hR.1.1 (by omega) hR.2.1 hR.2.2 hd (kk H locs la a2 a3 a5 a6)
theorem j_endQ {D : va_G} {n0 : Nat → Prop} {ws : va_W} {Post : Option Value → va_W → Prop} {v : Option Value} {s : State} {args : Array Value} {H : Heap} {locs : List Loc} (a2 : va_P D hs_cl0 ws H) (a3 : va_D n0 ws) (a5 : va_S n0 s.heap H locs) (hq : Post v ws) :
    ∀ t : State, t.heap = H → s.WarmedH t.vm → j_Q D n0 Post args s (.returned v) t := fun t ht _ => ⟨⟨v, ws, rfl, hq, by rw [ht]; exact a2, a3⟩, a5.F ht⟩
theorem ja_ireturn {D : va_G} {DA : hs_DA} {n0 : Nat → Prop} {mi : Nat} {Z : j_Z} {own : String} {cc : ByteArray} {nL : Nat} {R0 : Room} {k n : Nat} {ws : va_W} {pc : Nat} {lv : List (Nat × Value)} (X : j_C D DA n0 mi Z own cc nL R0) {mc mS : Nat} {Post : Option Value → va_W → Prop} {ret : FieldType} (E : j_E D n0 Z (some ret) mc mS Post) {v : Int32} (hd : decode cc pc = .ok (.ireturn, 1)) (hk : k ≤ mc) (hn : n ≤ mS) (hr : ret = .int ∨ (ret = .boolean ∧ (v = 0 ∨ v = 1))) (hq : Post (some (.int v)) ws) : ja D DA n0 Z k n ws pc lv [.int v] := by
  obtain ⟨p, l, e, R, s, m, args, below, meth, c, Qw⟩ := Z
  obtain ⟨hx, hb, hml, hown, hts, hlk, ⟨hW, hmi⟩, rfl⟩ := X
  obtain ⟨rfl, hret⟩ := E
  intro H locs la a2 a3 a5 a6
  refine W.widen hk hn (W.zret hx hb hret ?_ (j_endQ a2 a3 a5 hq) a5.2.2 hd hlk)
  rcases hr with rfl | ⟨rfl, rfl | rfl⟩
  · rfl
  · decide
  · decide
theorem ja_areturn {D : va_G} {DA : hs_DA} {n0 : Nat → Prop} {mi : Nat} {Z : j_Z} {own : String} {cc : ByteArray} {nL : Nat} {R0 : Room} {k n : Nat} {ws : va_W} {pc : Nat} {lv : List (Nat × Value)} (X : j_C D DA n0 mi Z own cc nL R0) {mc mS : Nat} {Post : Option Value → va_W → Prop} {ret : FieldType} (E : j_E D n0 Z (some ret) mc mS Post) (hrt : (∃ C, ret = .object C) ∨ ∃ u, ret = .array u) {v : Nat} (hd : decode cc pc = .ok (.areturn, 1)) (hk : k ≤ mc) (hn : n ≤ mS) (hq : Post (some (.ref v)) ws) : ja D DA n0 Z k n ws pc lv [.ref v] := by
  obtain ⟨p, l, e, R, s, m, args, below, meth, c, Qw⟩ := Z
  obtain ⟨hx, hb, hml, hown, hts, hlk, ⟨hW, hmi⟩, rfl⟩ := X
  obtain ⟨rfl, hret⟩ := E
  intro H locs la a2 a3 a5 a6
  exact W.widen hk hn (W.aret hx hb hret hrt (Or.inr ⟨_, rfl⟩) (j_endQ a2 a3 a5 hq) a5.2.2 hd hlk)
theorem ja_return {D : va_G} {DA : hs_DA} {n0 : Nat → Prop} {mi : Nat} {Z : j_Z} {own : String} {cc : ByteArray} {nL : Nat} {R0 : Room} {k n : Nat} {ws : va_W} {pc : Nat} {lv : List (Nat × Value)} (X : j_C D DA n0 mi Z own cc nL R0) {mc mS : Nat} {Post : Option Value → va_W → Prop} (E : j_E D n0 Z none mc mS Post) (hd : decode cc pc = .ok (.return_, 1)) (hk : k ≤ mc) (hn : n ≤ mS) (hq : Post none ws) : ja D DA n0 Z k n ws pc lv [] := by
  obtain ⟨p, l, e, R, s, m, args, below, meth, c, Qw⟩ := Z
  obtain ⟨hx, hb, hml, hown, hts, hlk, ⟨hW, hmi⟩, rfl⟩ := X
  obtain ⟨rfl, hret⟩ := E
  intro H locs la a2 a3 a5 a6
  exact W.widen hk hn (W.vret hx hb hret (j_endQ a2 a3 a5 hq) a5.2.2 hd hlk)
theorem j_W.go {D : va_G} {DA : hs_DA} {n0 : Nat → Prop} {mi : Nat} {s U : State} {H H1 : Heap} (hW : s.WarmedH U.vm) (hz : H.size ≤ H1.size) (hq : ∀ a : Nat, a < H.size → ¬ n0 a → H1[a]? = H[a]?) (h : j_W D DA n0 mi s H) : j_W D DA n0 mi U H1 := ⟨hs_W.go hW hz hq h.1, va_Mi.moved hW.alike h.2⟩
theorem j_blind {D : va_G} {DA : hs_DA} {n0 : Nat → Prop} {mi : Nat} {ws : va_W} {av : List Value} : FrameBlind (j_Pc D DA n0 mi ws av) := by
  intro a U g mk h
  exact ⟨h.1, j_W.go (s := U) (U := U.calling g mk a) (State.WarmedH.refl U) (Nat.le_refl _) (fun _ _ _ => rfl) h.2.1, h.2.2⟩
theorem j_told {D : va_G} {DA : hs_DA} {n0 : Nat → Prop} {mi : Nat} {ws : va_W} {av : List Value} {s : State} {H : Heap} {locs : List Loc} (hW : j_W D DA n0 mi s s.heap) (a2 : va_P D hs_cl0 ws H) (a3 : va_D n0 ws) (hS : va_S n0 s.heap H locs) : ∀ U : State, U.heap = H → s.WarmedH U.vm → j_Pc D DA n0 mi ws av av.toArray U := by
  intro U hU hw
  refine ⟨rfl, ?_, by rw [hU]; exact a2, a3⟩
  rw [hU]
  exact j_W.go hw hS.1 hS.2.1 hW
theorem j_run {p : Program} {l : Launch} {e : Env} {R : Room} {s : State} {m : MethodId} {args : Array Value} {below : List Frame} {meth : Method} {c : Code} {H : Heap} {locs : List Loc} {la : Array Slot} {k n mc mS pc : Nat} {n0 : Nat → Prop} {D : va_G} {st0 st : List Value} {Qw : State → Prop} {Post : Option Value → va_W → Prop} {a : Array Value}
    (hr : va_Run p l e R s m args below meth c H locs k n mc mS (F0 m pc la st0) st (j_Q D n0 Post a) n0) (hS : va_S n0 s.heap H locs)
    (kk : ∀ v ws' H1 locs1, Post v ws' → va_P D hs_cl0 ws' H1 → va_D n0 ws' → va_S n0 s.heap H1 locs1 → W p l e R s m args below meth c H1 locs1 (k + mc) (n + mS) Qw (F0 m (pc + 3) la (v.toList ++ st))) : W p l e R s m args below meth c H locs k n Qw (F0 m pc la st0) := by
  intro T hT Xs
  obtain ⟨v, st₀, t, T', L, h0, X', hL, e1, e2, ⟨⟨v', ws', hv', hq, hp2, hd2⟩, hF⟩, stp⟩ := hr T hT Xs
  cases hv'
  obtain ⟨k1, k2, k3⟩ := vx_keep h0 e1 hS (fun q _ h => h) (fun q h => h) hL hF
  obtain ⟨t2, b1, b2⟩ := kk v ws' T'.heap (locs ++ L) hq (by rw [e1]; exact hp2) hd2 k3 T' rfl X'
  exact ⟨t2, stp t2 b1, b2⟩
theorem j_run5 {p : Program} {l : Launch} {e : Env} {R : Room} {s : State} {m : MethodId} {args : Array Value} {below : List Frame} {meth : Method} {c : Code} {H : Heap} {locs : List Loc} {la : Array Slot} {k n mc mS pc : Nat} {n0 : Nat → Prop} {D : va_G} {st0 st : List Value} {Qw : State → Prop} {Post : Option Value → va_W → Prop} {a : Array Value}
    (hr : va_Run5 p l e R s m args below meth c H locs k n mc mS (F0 m pc la st0) st (j_Q D n0 Post a) n0) (hS : va_S n0 s.heap H locs)
    (kk : ∀ v ws' H1 locs1, Post v ws' → va_P D hs_cl0 ws' H1 → va_D n0 ws' → va_S n0 s.heap H1 locs1 → W p l e R s m args below meth c H1 locs1 (k + mc) (n + mS) Qw (F0 m (pc + 5) la (v.toList ++ st))) : W p l e R s m args below meth c H locs k n Qw (F0 m pc la st0) := by
  intro T hT Xs
  obtain ⟨v, st₀, t, T', L, h0, X', hL, e1, e2, ⟨⟨v', ws', hv', hq, hp2, hd2⟩, hF⟩, stp⟩ := hr T hT Xs
  cases hv'
  obtain ⟨k1, k2, k3⟩ := vx_keep h0 e1 hS (fun q _ h => h) (fun q h => h) hL hF
  obtain ⟨t2, b1, b2⟩ := kk v ws' T'.heap (locs ++ L) hq (by rw [e1]; exact hp2) hd2 k3 T' rfl X'
  exact ⟨t2, stp t2 b1, b2⟩
theorem ja_callS {D : va_G} {DA : hs_DA} {n0 : Nat → Prop} {mi : Nat} {Z : j_Z} {own : String} {cc : ByteArray} {nL : Nat} {R0 : Room} {k n : Nat} {ws : va_W} {pc : Nat} {lv : List (Nat × Value)} {st : List Value} (X : j_C D DA n0 mi Z own cc nL R0) {d mc mS ix maxL nA : Nat} {y : MethodName} {bytes : ByteArray} {As : List Value} {Post : Option Value → va_W → Prop} {st0 : List Value} {ret : Option FieldType} (hM : j_M D DA n0 mi d y (.code y bytes maxL ret) As ws mc mS Post) (hcw : Cond.code y bytes maxL ret ∈ hs_ws) (hin : Cond.initialized y.cls ∈ hs_ws) (hlk : Cond.methodLink own ix y ∈ hs_ws) (hstat : Cond.static y ∈ hs_ws) (hdd : y.cls ≠ "java/lang/invoke/MethodHandle" ∧ y.cls ≠ "java/lang/invoke/VarHandle" ∧ (parseMethodDescriptor y.desc).map (fun d => d.parameters.length) = some nA) (hnA : As.length = nA) (hst : st0 = As.reverse ++ st) (hcat : (st.map fun v => v.category).sum ≤ 8) (hd : decode cc pc = .ok (.invokestatic ix, 3)) (hR : (d + 1 ≤ R0.frames ∧ 8 + (maxL + 11) + 64 * d ≤ R0.locals) ∧ k + mc ≤ R0.cells ∧ n + mS ≤ R0.slots) (kk : ∀ v ws', Post v ws' → ja D DA n0 Z (k + mc) (n + mS) ws' (pc + 3) lv (v.toList ++ st)) : ja D DA n0 Z k n ws pc lv (st0) := by
  obtain ⟨p, l, e, R, s, m, args, below, meth, c, Qw⟩ := Z
  obtain ⟨hx, hb, hml, hown, hts, hlk0, ⟨hW, hmi⟩, rfl⟩ := X
  intro H locs la a2 a3 a5 a6
  subst hst
  exact j_run (va_runS (Ts := hs_ws) (own := own) (As := As) ⟨hx, hb, hml, hown, hts⟩ (hM l) ⟨hs_callB hts hcw hin hlk hdd hR.1, hts _ hstat⟩ ⟨j_blind, j_told ⟨hW, hmi⟩ a2 a3 a5⟩ rfl hnA (a6.1.trans hml) rfl (by show 2 * 0 + _ ≤ 8; omega) hd hR.2) a5 (fun v ws' H1 locs1 hq b2 b3 b5 => kk v ws' hq H1 locs1 la b2 b3 b5 a6)
theorem ja_callV {D : va_G} {DA : hs_DA} {n0 : Nat → Prop} {mi : Nat} {Z : j_Z} {own : String} {cc : ByteArray} {nL : Nat} {R0 : Room} {k n : Nat} {ws : va_W} {pc : Nat} {lv : List (Nat × Value)} {st : List Value} (X : j_C D DA n0 mi Z own cc nL R0) {d mc mS ix maxL nA : Nat} {y : MethodName} {bytes : ByteArray} {As : List Value} {Post : Option Value → va_W → Prop} {st0 : List Value} {ret : Option FieldType} {qL a : Nat} {fs : List Value} (hM : j_M D DA n0 mi d y (.code y bytes maxL ret) (.ref a :: As) ws mc mS Post) (hL : ws[qL]? = some (a, .inr (12, fs))) (hyc : y.cls = RJx4a65c) (hcw : Cond.code y bytes maxL ret ∈ hs_ws) (hin : Cond.initialized y.cls ∈ hs_ws) (hlk : Cond.methodLink own ix y ∈ hs_ws) (hinst : Cond.instanceMethod y ∈ hs_ws) (hsel : Cond.selects y.cls y y ∈ hs_ws) (hdd : y.cls ≠ "java/lang/invoke/MethodHandle" ∧ y.cls ≠ "java/lang/invoke/VarHandle" ∧ (parseMethodDescriptor y.desc).map (fun d => d.parameters.length) = some nA) (hnA : As.length = nA) (hst : st0 = As.reverse ++ .ref a :: st) (hcat : (st.map fun v => v.category).sum ≤ 8) (hd : decode cc pc = .ok (.invokevirtual ix, 3)) (hR : (d + 1 ≤ R0.frames ∧ 8 + (maxL + 11) + 64 * d ≤ R0.locals) ∧ k + mc ≤ R0.cells ∧ n + mS ≤ R0.slots) (kk : ∀ v ws', Post v ws' → ja D DA n0 Z (k + mc) (n + mS) ws' (pc + 3) lv (v.toList ++ st)) : ja D DA n0 Z k n ws pc lv (st0) := by
  obtain ⟨p, l, e, R, s, m, args, below, meth, c, Qw⟩ := Z
  obtain ⟨hx, hb, hml, hown, hts, hlk0, ⟨hW, hmi⟩, rfl⟩ := X
  intro H locs la a2 a3 a5 a6
  subst hst
  have hrecv := va_recv hW.1 a2 (q := (RJx4a65c, TJx4a65c, 3)) rfl hL
  rw [← show y.cls = RJx4a65c from hyc] at hrecv
  exact j_run (va_runV (Ts := hs_ws) (own := own) (C := y.cls) (b := a) (As := As) ⟨hx, hb, hml, hown, hts⟩ (hM l) ⟨hs_callB hts hcw hin hlk hdd hR.1, hts _ hinst, hts _ hsel⟩ ⟨j_blind, hrecv, j_told ⟨hW, hmi⟩ a2 a3 a5⟩ rfl hnA (a6.1.trans hml) rfl (by show 2 * 0 + _ ≤ 8; omega) hd hR.2) a5 (fun v ws' H1 locs1 hq b2 b3 b5 => kk v ws' hq H1 locs1 la b2 b3 b5 a6)
theorem ja_callI {D : va_G} {DA : hs_DA} {n0 : Nat → Prop} {mi : Nat} {Z : j_Z} {own : String} {cc : ByteArray} {nL : Nat} {R0 : Room} {k n : Nat} {ws : va_W} {pc : Nat} {lv : List (Nat × Value)} {st : List Value} (X : j_C D DA n0 mi Z own cc nL R0) {d mc mS ix maxL nA : Nat} {y : MethodName} {bytes : ByteArray} {As : List Value} {Post : Option Value → va_W → Prop} {st0 : List Value} {a : Nat} (hM : j_M D DA n0 mi d y (.code y bytes maxL none) (.ref a :: As) ws mc mS Post) (hcw : Cond.code y bytes maxL none ∈ hs_ws) (hin : Cond.initialized y.cls ∈ hs_ws) (hlk : Cond.methodLink own ix y ∈ hs_ws) (hinst : Cond.instanceMethod y ∈ hs_ws) (hyn : y.name = "<init>") (hdd : y.cls ≠ "java/lang/invoke/MethodHandle" ∧ y.cls ≠ "java/lang/invoke/VarHandle" ∧ (parseMethodDescriptor y.desc).map (fun d => d.parameters.length) = some nA) (hnA : As.length = nA) (hst : st0 = As.reverse ++ .ref a :: st) (hcat : (st.map fun v => v.category).sum ≤ 8) (hd : decode cc pc = .ok (.invokespecial ix, 3)) (hR : (d + 1 ≤ R0.frames ∧ 8 + (maxL + 11) + 64 * d ≤ R0.locals) ∧ k + mc ≤ R0.cells ∧ n + mS ≤ R0.slots) (kk : ∀ v ws', Post v ws' → ja D DA n0 Z (k + mc) (n + mS) ws' (pc + 3) lv (v.toList ++ st)) : ja D DA n0 Z k n ws pc lv (st0) := by
  obtain ⟨p, l, e, R, s, m, args, below, meth, c, Qw⟩ := Z
  obtain ⟨hx, hb, hml, hown, hts, hlk0, ⟨hW, hmi⟩, rfl⟩ := X
  intro H locs la a2 a3 a5 a6
  subst hst
  exact j_run (va_runI (Ts := hs_ws) (own := own) (b := a) (As := As) ⟨hx, hb, hml, hown, hts⟩ (hM l) ⟨hs_callB hts hcw hin hlk hdd hR.1, hyn, hts _ hinst⟩ ⟨j_blind, j_told ⟨hW, hmi⟩ a2 a3 a5⟩ rfl hnA (a6.1.trans hml) rfl (by show 2 * 0 + _ ≤ 8; omega) hd hR.2) a5 (fun v ws' H1 locs1 hq b2 b3 b5 => kk v ws' hq H1 locs1 la b2 b3 b5 a6)
theorem ja_objInit {D : va_G} {DA : hs_DA} {n0 : Nat → Prop} {mi : Nat} {Z : j_Z} {own : String} {cc : ByteArray} {nL : Nat} {R0 : Room} {k n : Nat} {ws : va_W} {pc : Nat} {lv : List (Nat × Value)} {st : List Value} (X : j_C D DA n0 mi Z own cc nL R0) {a ix : Nat} (hl : Cond.methodLink own ix Lib.objectInit ∈ hs_ws) (h1 : Cond.instanceMethod Lib.objectInit ∈ hs_ws) (h2 : Cond.code Lib.objectInit ⟨#[0xb1]⟩ 1 none ∈ hs_ws) (hd : decode cc pc = .ok (.invokespecial ix, 3)) (hR : 1 ≤ R0.frames ∧ (st.map fun v => v.category).sum + 12 ≤ R0.locals) (kk : ja D DA n0 Z (k) (n) (ws) (pc + 3) lv (st)) : ja D DA n0 Z k n ws pc lv (.ref a :: st) := by
  obtain ⟨p, l, e, R, s, m, args, below, meth, c, Qw⟩ := Z
  obtain ⟨hx, hb, hml, hown, hts, hlk0, ⟨hW, hmi⟩, rfl⟩ := X
  intro H locs la a2 a3 a5 a6
  exact W.objInit hx hb hown (hts _ hl) (hts _ h1) (hts _ h2) rfl a6.1 rfl hd hR.1 (by show 2 * 0 + _ + 12 ≤ _; omega) (kk H locs la a2 a3 a5 a6)
/-- a call by the list's face -/
theorem j_callF {p : Program} {l : Launch} {e : Env} {R : Room} {s : State} {m : MethodId} {args : Array Value} {below : List Frame} {meth : Method} {c : Code} {D : va_G} {DA : hs_DA} {n0 : Nat → Prop} {mi : Nat} {own : String} {cc : ByteArray} {nL : Nat} {Qw : State → Prop} (hx : p.tables.exec = Jvm.exec) (hb : c.code = cc) (hml : c.maxLocals = nL) (hown : s.vm.findClass own = some m.cls) (hts : ∀ w ∈ hs_ws, w.before args s = true) (hW : hs_W D DA n0 s s.heap) (hmi : va_Mi "[Ljava/lang/Object;" mi s)
    {k n pc : Nat} {ws : va_W} {H : Heap} {locs : List Loc} {la : Array Slot} {st : List Value} (a2 : va_P D hs_cl0 ws H) (a3 : va_D n0 ws) (a5 : va_S n0 s.heap H locs) (hla : la.size = c.maxLocals)
    {d mc mS ix cnt maxL nA qL a : Nat} {fs : List Value} {x y : MethodName} {bytes : ByteArray} {ret : Option FieldType} {As : List Value} {Post : Option Value → va_W → Prop} (hM : j_M D DA n0 mi d y (.code y bytes maxL ret) (.ref a :: As) ws mc mS Post) (hL : ws[qL]? = some (a, .inr (12, fs)))
    (hF : va_Fw RJx4a65c x y s) (hcw : Cond.code y bytes maxL ret ∈ hs_ws) (hin : Cond.initialized y.cls ∈ hs_ws) (hlk : Cond.methodLink own ix x ∈ hs_ws) (hinst : Cond.instanceMethod y ∈ hs_ws) (hsel : Cond.selects RJx4a65c x y ∈ hs_ws)
    (hdd : x.cls ≠ "java/lang/invoke/MethodHandle" ∧ x.cls ≠ "java/lang/invoke/VarHandle" ∧ (parseMethodDescriptor x.desc).map (fun d => d.parameters.length) = some nA) (hnA : As.length = nA) (hcat : (st.map fun v => v.category).sum ≤ 8) (hd : decode cc pc = .ok (.invokeinterface ix cnt, 5)) (hR : (d + 1 ≤ R.frames ∧ 8 + (maxL + 11) + 64 * d ≤ R.locals) ∧ k + mc ≤ R.cells ∧ n + mS ≤ R.slots)
    (kk : ∀ v ws' H1 locs1, Post v ws' → va_P D hs_cl0 ws' H1 → va_D n0 ws' → va_S n0 s.heap H1 locs1 → W p l e R s m args below meth c H1 locs1 (k + mc) (n + mS) Qw (F0 m (pc + 5) la (v.toList ++ st))) : W p l e R s m args below meth c H locs k n Qw (F0 m pc la (As.reverse ++ .ref a :: st)) := by
  have hrecv := va_recv hW.1 a2 (q := (RJx4a65c, TJx4a65c, 3)) rfl hL
  have hat := (hW.1.1 12 (RJx4a65c, TJx4a65c, 3) rfl).2
  refine j_run5 (va_runF (Ts := hs_ws) (own := own) (C := RJx4a65c) (x := x) (As := As) hat ⟨hx, hb, hml, hown, hts⟩ (hM l) ⟨⟨rfl, rfl, hR.1.1, hR.1.2, fun w hw a' U hU => ?_, List.mem_cons_self⟩, hts _ hlk, va_any rfl hF.1, va_any rfl hF.2.1, hts _ hsel, hts _ hinst, va_any rfl hF.2.2.1, va_any rfl hF.2.2.2.1, va_any rfl hF.2.2.2.2, hts _ hin, hts _ hcw, ⟨hdd.1, hdd.2.1⟩, fun sig h => ?_⟩ ⟨j_blind, hrecv, j_told ⟨hW, hmi⟩ a2 a3 a5⟩ rfl hnA (hla.trans hml) rfl (by show 2 * 0 + _ ≤ 8; omega) hd hR.2) a5 kk
  · have hw2 : w ∈ hs_ws := (List.mem_cons.mp hw).elim (fun e => e ▸ hcw) id
    exact hs_mv (List.mem_filter.mp hw2).2 hU (hts w hw2)
  · have h2 := hdd.2.2
    rw [h] at h2
    exact (Option.some.inj h2).symm
