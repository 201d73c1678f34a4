/-! ===== the start ===== -/
theorem lt_26 : Cond.initialized "java/util/ArrayList" ∈ lw_tbl := List.mem_of_getElem? (i := 26) (by decide +kernel)
theorem lt_33 : Cond.initialized Bundle.tN ∈ lw_tbl := List.mem_of_getElem? (i := 33) (by decide +kernel)
theorem lt_91 : Cond.laysStatic "java/util/ArrayList" "DEFAULTCAPACITY_EMPTY_ELEMENTDATA" "[Ljava/lang/Object;" ∈ lw_tbl := List.mem_of_getElem? (i := 91) (by decide +kernel)
theorem lt_165 : Cond.arrayOver (.object RX8) ∈ lw_tbl := List.mem_of_getElem? (i := 165) (by decide +kernel)
theorem lt_252 : Cond.arrayOver (.object RX5) ∈ lw_tbl := List.mem_of_getElem? (i := 252) (by decide +kernel)
theorem lt_254 : Cond.arrayOver (.array .int) ∈ lw_tbl := List.mem_of_getElem? (i := 254) (by decide +kernel)
theorem lt_383 : Cond.laysStatic Bundle.tN "UNASSIGNED_STACK" Bundle.steD ∈ lw_tbl := List.mem_of_getElem? (i := 383) (by decide +kernel)
theorem lt_385 : Cond.laysStatic Bundle.tN "SUPPRESSED_SENTINEL" Bundle.listD ∈ lw_tbl := List.mem_of_getElem? (i := 385) (by decide +kernel)
theorem lt_397 : Cond.stringRef "Cellmarket" 103 "no such column" ∈ lw_tbl := List.mem_of_getElem? (i := 397) (by decide +kernel)
theorem lt_424 : Cond.stringRef "Cellmarket" 105 "no such row" ∈ lw_tbl := List.mem_of_getElem? (i := 424) (by decide +kernel)
theorem lt_431 : Cond.interfaceMethod "java/util/List" "java/util/List" "size" "()I" ∈ lw_tbl := List.mem_of_getElem? (i := 431) (by decide +kernel)
theorem lt_432 : Cond.declares ⟨"java/util/List", "size", "()I"⟩ ∈ lw_tbl := List.mem_of_getElem? (i := 432) (by decide +kernel)
theorem lt_433 : Cond.castable RJx4a65c "java/util/List" ∈ lw_tbl := List.mem_of_getElem? (i := 433) (by decide +kernel)
theorem lt_435 : Cond.unhidden RJx4a65c "size" "()I" ∈ lw_tbl := List.mem_of_getElem? (i := 435) (by decide +kernel)
theorem lt_437 : Cond.publicMethod yJx4a65c_size_8abf5 ∈ lw_tbl := List.mem_of_getElem? (i := 437) (by decide +kernel)
theorem lt_441 : Cond.interfaceMethod "java/util/List" "java/util/List" "get" "(I)Ljava/lang/Object;" ∈ lw_tbl := List.mem_of_getElem? (i := 441) (by decide +kernel)
theorem lt_442 : Cond.declares ⟨"java/util/List", "get", "(I)Ljava/lang/Object;"⟩ ∈ lw_tbl := List.mem_of_getElem? (i := 442) (by decide +kernel)
theorem lt_444 : Cond.unhidden RJx4a65c "get" "(I)Ljava/lang/Object;" ∈ lw_tbl := List.mem_of_getElem? (i := 444) (by decide +kernel)
theorem lt_446 : Cond.publicMethod yJx4a65c_get_915e3 ∈ lw_tbl := List.mem_of_getElem? (i := 446) (by decide +kernel)
theorem lt_466 : Cond.stringRef "Cellmarket" 353 "no such owner" ∈ lw_tbl := List.mem_of_getElem? (i := 466) (by decide +kernel)
theorem lt_531 : Cond.stringRef "Cellmarket" 355 "it is not the owner's cell" ∈ lw_tbl := List.mem_of_getElem? (i := 531) (by decide +kernel)
theorem lt_555 : Cond.stringRef "Cellmarket" 82 "both owners are the same" ∈ lw_tbl := List.mem_of_getElem? (i := 555) (by decide +kernel)
theorem lt_562 : Cond.stringRef "Cellmarket" 87 "to is below from" ∈ lw_tbl := List.mem_of_getElem? (i := 562) (by decide +kernel)
theorem lt_571 : Cond.stringRef "Cellmarket" 97 "no such word" ∈ lw_tbl := List.mem_of_getElem? (i := 571) (by decide +kernel)
theorem lt_574 : Cond.stringRef "Cellmarket" 101 "the number is out of range" ∈ lw_tbl := List.mem_of_getElem? (i := 574) (by decide +kernel)
theorem lt_575 : Cond.stringRef "Cellmarket" 118 "the draft is full" ∈ lw_tbl := List.mem_of_getElem? (i := 575) (by decide +kernel)
theorem lt_579 : Cond.stringRef "Cellmarket" 127 "there is not enough on the pile" ∈ lw_tbl := List.mem_of_getElem? (i := 579) (by decide +kernel)
theorem lt_597 : Cond.stringRef "Cellmarket" 222 "the column is frozen" ∈ lw_tbl := List.mem_of_getElem? (i := 597) (by decide +kernel)
theorem lt_600 : Cond.stringRef "Cellmarket" 359 "no more edits are told" ∈ lw_tbl := List.mem_of_getElem? (i := 600) (by decide +kernel)
theorem lt_601 : Cond.stringRef "Cellmarket" 139 "the draft does not leave just one number" ∈ lw_tbl := List.mem_of_getElem? (i := 601) (by decide +kernel)
theorem lt_647 : Cond.interfaceMethod "java/util/List" "java/util/List" "add" "(Ljava/lang/Object;)Z" ∈ lw_tbl := List.mem_of_getElem? (i := 647) (by decide +kernel)
theorem lt_648 : Cond.declares ⟨"java/util/List", "add", "(Ljava/lang/Object;)Z"⟩ ∈ lw_tbl := List.mem_of_getElem? (i := 648) (by decide +kernel)
theorem lt_650 : Cond.unhidden RJx4a65c "add" "(Ljava/lang/Object;)Z" ∈ lw_tbl := List.mem_of_getElem? (i := 650) (by decide +kernel)
theorem lt_652 : Cond.publicMethod yJx4a65c_add_9ea2d ∈ lw_tbl := List.mem_of_getElem? (i := 652) (by decide +kernel)
theorem lt_700 : Cond.arrayOver (.object "java/lang/Object") ∈ lw_tbl := List.mem_of_getElem? (i := 700) (by decide +kernel)
theorem lt_720 : Cond.stringRef "Cellmarket" 152 "the notice is out of range" ∈ lw_tbl := List.mem_of_getElem? (i := 720) (by decide +kernel)
theorem lt_733 : Cond.stringRef "Cellmarket" 357 "the owner does not read it" ∈ lw_tbl := List.mem_of_getElem? (i := 733) (by decide +kernel)
theorem lt_799 : Cond.stringRef "Cellmarket" 179 "no such place" ∈ lw_tbl := List.mem_of_getElem? (i := 799) (by decide +kernel)
theorem lt_805 : Cond.stringRef "Cellmarket" 206 "what is out of range" ∈ lw_tbl := List.mem_of_getElem? (i := 805) (by decide +kernel)
theorem lt_810 : Cond.stringRef "Cellmarket" 208 "many is out of range" ∈ lw_tbl := List.mem_of_getElem? (i := 810) (by decide +kernel)
theorem lt_811 : Cond.stringRef "Cellmarket" 210 "the limit is out of range" ∈ lw_tbl := List.mem_of_getElem? (i := 811) (by decide +kernel)
theorem lt_812 : Cond.stringRef "Cellmarket" 234 "no more bids are made" ∈ lw_tbl := List.mem_of_getElem? (i := 812) (by decide +kernel)
theorem lt_828 : Cond.stringRef "Cellmarket" 242 "the owner's limit refuses the bid" ∈ lw_tbl := List.mem_of_getElem? (i := 828) (by decide +kernel)
theorem lt_898 : Cond.stringRef "Cellmarket" 361 "no such bid" ∈ lw_tbl := List.mem_of_getElem? (i := 898) (by decide +kernel)
theorem lt_901 : Cond.stringRef "Cellmarket" 259 "it is not the owner's bid" ∈ lw_tbl := List.mem_of_getElem? (i := 901) (by decide +kernel)
theorem lt_903 : Cond.stringRef "Cellmarket" 265 "it was withdrawn" ∈ lw_tbl := List.mem_of_getElem? (i := 903) (by decide +kernel)
theorem lt_904 : Cond.stringRef "Cellmarket" 274 "its column is frozen" ∈ lw_tbl := List.mem_of_getElem? (i := 904) (by decide +kernel)
theorem lt_906 : Cond.stringRef "Cellmarket" 279 "its round was cleared" ∈ lw_tbl := List.mem_of_getElem? (i := 906) (by decide +kernel)
theorem lt_924 : Cond.stringRef "Cellmarket" 293 "no more rounds are cleared" ∈ lw_tbl := List.mem_of_getElem? (i := 924) (by decide +kernel)
theorem lt_992 : Cond.stringRef "Cellmarket" 363 "no such round" ∈ lw_tbl := List.mem_of_getElem? (i := 992) (by decide +kernel)
theorem lt_1041 : Cond.stringRef "Cellmarket" 340 "its round was not cleared" ∈ lw_tbl := List.mem_of_getElem? (i := 1041) (by decide +kernel)
theorem lt_1042 : Cond.stringRef "Cellmarket" 343 "it is struck" ∈ lw_tbl := List.mem_of_getElem? (i := 1042) (by decide +kernel)
theorem lt_1053 : Cond.stringRef "Cellmarket" 351 "no such edit" ∈ lw_tbl := List.mem_of_getElem? (i := 1053) (by decide +kernel)
theorem lt_1131 : Cond.declares ⟨"java/lang/Object", "getClass", "()Ljava/lang/Class;"⟩ ∈ lw_tbl := List.mem_of_getElem? (i := 1131) (by decide +kernel)
theorem kw_101 : Cond.lays "java/util/ArrayList" "java/util/AbstractList" "modCount" "I" ∈ hs_ws := hs_w 101 (by decide +kernel) rfl
theorem kw_48 : Cond.instantiable "Cellmarket" 6 ∈ hs_ws := hs_w 48 (by decide +kernel) rfl
theorem kw_79 : Cond.instantiable "java/util/ArrayList" 3 ∈ hs_ws := hs_w 79 (by decide +kernel) rfl
theorem kw_97 : Cond.lays "java/util/ArrayList" "java/util/ArrayList" "elementData" "[Ljava/lang/Object;" ∈ hs_ws := hs_w 97 (by decide +kernel) rfl
theorem kw_99 : Cond.lays "java/util/ArrayList" "java/util/ArrayList" "size" "I" ∈ hs_ws := hs_w 99 (by decide +kernel) rfl
theorem law_eq {args : Array Value} {s : State} {t : Term} {z : Int32} (h : (Cond.eq t (.int z)).before args s = true) : t.eval args s none [] s = some (.int z) := by
  cases hv : t.eval args s none [] s with
  | none => simp [Cond.before, Cond.holds, Cond.value, hv] at h
  | some w =>
    have hz : (Term.int z).eval args s none [] s = some (.int z) := rfl
    simp only [Cond.before, Cond.holds, Cond.value, hv, hz] at h
    cases w <;> simp_all
theorem law_str {args : Array Value} {s : State} {own tx : String} {k cur : Nat} (hcur : s.vm.findClass own = some cur) (h : (Cond.stringRef own k tx).before args s = true) : ∃ a, vk_R own k tx a s := by
  obtain ⟨_, _, _, a, _, _, _, _, _, ev⟩ := Cond.stringRef_spec hcur h
  exact ⟨a, vk_R.of h ev⟩
theorem law_ac {args : Array Value} {s : State} {ty : FieldType} (hne : ∀ C, ty ≠ .object C) (h : (Cond.arrayClass ty).before args s = true) : ∃ c, ArrOfT s c ty ∧ va_RA s c ty := by
  obtain ⟨c, kA, comp, h1, h2, h3⟩ := Cond.arrayClass_spec h
  refine ⟨c, fun n z => ⟨fun k h => (by cases h), kA, h2, comp, h3⟩, ?_⟩
  cases ty with
  | object C => exact absurd rfl (hne C)
  | _ => exact h1
theorem law_ao {args : Array Value} {s : State} {C : String} (h : (Cond.arrayOver (.object C)).before args s = true) : ∃ c, ArrOfT s c (.object C) ∧ va_RA s c (.object C) := by
  obtain ⟨comp, c, kA, f1, _, f2, f3, f4⟩ := Cond.arrayOver_spec h
  exact ⟨c, fun n z => ⟨fun k h => (by cases h), kA, f2, comp, f3⟩, kA, comp, f2, f3, f1, f4⟩
theorem law_aa {args : Array Value} {s : State} {ty : FieldType} (h : (Cond.arrayOver (.array ty)).before args s = true) : ∃ c, ArrOfT s c (.array ty) ∧ va_RA s c (.array ty) := by
  obtain ⟨comp, c, kA, f1, _, f2, f3, f4⟩ := arrayOver_specB h
  exact ⟨c, fun n z => ⟨fun k h => (by cases h), kA, f2, comp, f3⟩, f4⟩
theorem law_strs : ∀ q ∈ hs_str, Cond.stringRef q.1 q.2.1 q.2.2 ∈ lw_tbl := List.forall_mem_cons.mpr ⟨lt_397, List.forall_mem_cons.mpr ⟨lt_424, List.forall_mem_cons.mpr ⟨lt_466, List.forall_mem_cons.mpr ⟨lt_531, List.forall_mem_cons.mpr ⟨lt_555, List.forall_mem_cons.mpr ⟨lt_562, List.forall_mem_cons.mpr ⟨lt_571, List.forall_mem_cons.mpr ⟨lt_574, List.forall_mem_cons.mpr ⟨lt_575, List.forall_mem_cons.mpr ⟨lt_579, List.forall_mem_cons.mpr ⟨lt_597, List.forall_mem_cons.mpr ⟨lt_600, List.forall_mem_cons.mpr ⟨lt_601, List.forall_mem_cons.mpr ⟨lt_720, List.forall_mem_cons.mpr ⟨lt_733, List.forall_mem_cons.mpr ⟨lt_799, List.forall_mem_cons.mpr ⟨lt_805, List.forall_mem_cons.mpr ⟨lt_810, List.forall_mem_cons.mpr ⟨lt_811, List.forall_mem_cons.mpr ⟨lt_812, List.forall_mem_cons.mpr ⟨lt_828, List.forall_mem_cons.mpr ⟨lt_898, List.forall_mem_cons.mpr ⟨lt_901, List.forall_mem_cons.mpr ⟨lt_903, List.forall_mem_cons.mpr ⟨lt_904, List.forall_mem_cons.mpr ⟨lt_906, List.forall_mem_cons.mpr ⟨lt_924, List.forall_mem_cons.mpr ⟨lt_992, List.forall_mem_cons.mpr ⟨lt_1041, List.forall_mem_cons.mpr ⟨lt_1042, List.forall_mem_cons.mpr ⟨lt_1053, fun _ h => nomatch h⟩⟩⟩⟩⟩⟩⟩⟩⟩⟩⟩⟩⟩⟩⟩⟩⟩⟩⟩⟩⟩⟩⟩⟩⟩⟩⟩⟩⟩⟩⟩
theorem law_own : ∀ q ∈ hs_str, q.1 = "Cellmarket" := by decide +kernel
def G0 (b : Nat) : hs_G := (fun _ _ => b, (fun _ => 0, (fun _ => 0, fun _ _ => none)))
theorem s0_ok {t i : Nat} (h : hs_ok s0 t i) : t = 101 ∧ i = 1 := by
  obtain ⟨_, _, h3, h4⟩ := h
  have h4 : i ≤ if t = 101 then 1 else 0 := h4
  by_cases e : t = 101
  · rw [if_pos e] at h4
    exact ⟨e, by omega⟩
  · rw [if_neg e] at h4
    omega
theorem law_P {D : va_G} {DA : hs_DA} {n0 : Nat → Prop} {b : Nat} {H : Heap} (hb : DA.2.2.1 = b) : hs_P D DA n0 (G0 b) s0 H := by
  refine ⟨[], fun t i => ⟨fun h => (nomatch h), fun h => ?_⟩, fun k q h => by simp at h, ⟨fun i j p q h => by simp at h, fun k q h => by simp at h⟩, fun t i j c h _ => Or.inl rfl, fun t x z hk h => ?_, hb.symm⟩
  · rcases h with ⟨h, h8⟩ | ⟨_, _, h⟩
    · obtain ⟨rfl, rfl⟩ := s0_ok h
      exact absurd rfl h8
    · exact absurd h (Nat.lt_irrefl 0)
  · obtain ⟨rfl, _⟩ := s0_ok h
    exact absurd (show (8 : Nat) = 6 from congrArg Prod.fst hk) (by decide)
theorem law_st {l : Launch} (h : l.flags = flags0) : l.stackTraces = false := by
  unfold Launch.stackTraces
  rw [h]
  decide +kernel
set_option maxRecDepth 100000 in
set_option maxHeartbeats 4000000 in
theorem law_K {args : Array Value} {s : State} (hts : ∀ w ∈ lw_tbl, w.before args s = true) (hh : ∀ w ∈ hs_ws, w.before args s = true) : ∃ (D : va_G) (dA : Nat → ClassId), ∀ r, va_K D hs_cl0 (hs_tys (dA, r)) s := by
  obtain ⟨c0, j0, k0⟩ := u_known (C := RX0) (T := TX0) (N := 10) (n := 10) hh i_0 (hh _ kw_830)
  obtain ⟨c1, j1, k1⟩ := u_known (C := RX1) (T := TX1) (N := 4) (n := 4) hh i_1 (hh _ kw_157)
  obtain ⟨c2, j2, k2⟩ := u_known (C := RX2) (T := TX2) (N := 2) (n := 2) hh i_2 (hh _ kw_287)
  obtain ⟨c3, j3, k3⟩ := u_known (C := RX3) (T := TX3) (N := 7) (n := 7) hh i_3 (hh _ kw_609)
  obtain ⟨c4, j4, k4⟩ := u_known (C := RX4) (T := TX4) (N := 10) (n := 10) hh i_4 (hh _ kw_246)
  obtain ⟨c5, j5, k5⟩ := u_known (C := RX5) (T := TX5) (N := 5) (n := 5) hh i_5 (hh _ kw_105)
  obtain ⟨c6, j6, k6⟩ := u_known (C := RX6) (T := TX6) (N := 6) (n := 6) hh i_6 (hh _ kw_300)
  obtain ⟨c7, j7, k7⟩ := u_known (C := RX7) (T := TX7) (N := 2) (n := 2) hh i_7 (hh _ kw_62)
  obtain ⟨c8, j8, k8⟩ := u_known (C := RX8) (T := TX8) (N := 9) (n := 9) hh i_8 (hh _ kw_166)
  obtain ⟨c9, j9, k9⟩ := u_known (C := RX9) (T := TX9) (N := 5) (n := 5) hh i_9 (hh _ kw_56)
  obtain ⟨c10, j10, k10⟩ := u_known (C := RX10) (T := TX10) (N := 6) (n := 6) hh i_10 (hh _ kw_48)
  obtain ⟨c11, j11, k11⟩ := u_known (C := RX10) (T := TX10) (N := 6) (n := 6) hh i_10 (hh _ kw_48)
  obtain ⟨c12, j12, k12⟩ := u_known (C := RJx4a65c) (T := TJx4a65c) (N := 3) (n := 3) hh i_AL (hh _ kw_79)
  obtain ⟨a0, g0⟩ := law_ac (ty := .int) (fun _ h => by cases h) (hh _ kw_77)
  obtain ⟨a1, g1⟩ := law_ac (ty := .boolean) (fun _ h => by cases h) (hh _ kw_223)
  obtain ⟨a2, g2⟩ := law_ac (ty := .int) (fun _ h => by cases h) (hh _ kw_77)
  obtain ⟨a3, g3⟩ := law_ao (C := RX8) (hts _ lt_165)
  obtain ⟨a4, g4⟩ := law_ao (C := RX5) (hts _ lt_252)
  obtain ⟨a5, g5⟩ := law_aa (ty := .int) (hts _ lt_254)
  obtain ⟨a6, g6⟩ := law_ao (C := "java/lang/Object") (hts _ lt_700)
  refine ⟨((fun k => match k with | 0 => c0 | 1 => c1 | 2 => c2 | 3 => c3 | 4 => c4 | 5 => c5 | 6 => c6 | 7 => c7 | 8 => c8 | 9 => c9 | 10 => c10 | 11 => c11 | _ => c12), (fun k => match k with | 0 => j0 | 1 => j1 | 2 => j2 | 3 => j3 | 4 => j4 | 5 => j5 | 6 => j6 | 7 => j7 | 8 => j8 | 9 => j9 | 10 => j10 | 11 => j11 | _ => j12)), (fun k => match k with | 0 => a0 | 1 => a1 | 2 => a2 | 3 => a3 | 4 => a4 | 5 => a5 | _ => a6), fun r => ⟨?_, ?_⟩⟩
  · intro c q hq
    match c, hq with
    | 0, hq =>
      cases (Option.some.inj (show some (RX0, TX0, 10) = some q from hq))
      exact k0
    | 1, hq =>
      cases (Option.some.inj (show some (RX1, TX1, 4) = some q from hq))
      exact k1
    | 2, hq =>
      cases (Option.some.inj (show some (RX2, TX2, 2) = some q from hq))
      exact k2
    | 3, hq =>
      cases (Option.some.inj (show some (RX3, TX3, 7) = some q from hq))
      exact k3
    | 4, hq =>
      cases (Option.some.inj (show some (RX4, TX4, 10) = some q from hq))
      exact k4
    | 5, hq =>
      cases (Option.some.inj (show some (RX5, TX5, 5) = some q from hq))
      exact k5
    | 6, hq =>
      cases (Option.some.inj (show some (RX6, TX6, 6) = some q from hq))
      exact k6
    | 7, hq =>
      cases (Option.some.inj (show some (RX7, TX7, 2) = some q from hq))
      exact k7
    | 8, hq =>
      cases (Option.some.inj (show some (RX8, TX8, 9) = some q from hq))
      exact k8
    | 9, hq =>
      cases (Option.some.inj (show some (RX9, TX9, 5) = some q from hq))
      exact k9
    | 10, hq =>
      cases (Option.some.inj (show some (RX10, TX10, 6) = some q from hq))
      exact k10
    | 11, hq =>
      cases (Option.some.inj (show some (RX10, TX10, 6) = some q from hq))
      exact k11
    | 12, hq =>
      cases (Option.some.inj (show some (RJx4a65c, TJx4a65c, 3) = some q from hq))
      exact k12
    | n + 13, hq => exact absurd (show (none : Option vw_C) = some q from hq) (by simp)
  · intro c q hq
    match c, hq with
    | 0, hq =>
      cases (Option.some.inj (show some (a0, (.int : FieldType)) = some q from hq))
      exact g0
    | 1, hq =>
      cases (Option.some.inj (show some (a1, (.boolean : FieldType)) = some q from hq))
      exact g1
    | 2, hq =>
      cases (Option.some.inj (show some (a2, (.int : FieldType)) = some q from hq))
      exact g2
    | 3, hq =>
      cases (Option.some.inj (show some (a3, (.object RX8 : FieldType)) = some q from hq))
      exact g3
    | 4, hq =>
      cases (Option.some.inj (show some (a4, (.object RX5 : FieldType)) = some q from hq))
      exact g4
    | 5, hq =>
      cases (Option.some.inj (show some (a5, (.array .int : FieldType)) = some q from hq))
      exact g5
    | 6, hq =>
      cases (Option.some.inj (show some (a6, (.object "java/lang/Object" : FieldType)) = some q from hq))
      exact g6
    | n + 7, hq => exact absurd (show (none : Option (ClassId × FieldType)) = some q from hq) (by simp)
set_option maxRecDepth 100000 in
set_option maxHeartbeats 4000000 in
theorem law_W {args : Array Value} {s : State} {b L : Nat} {xs : Nat → Int32} (hts : ∀ w ∈ lw_tbl, w.before args s = true) (hX : va_X b L xs s s.heap) (hbl : b < s.heap.size) (hgv : (Jvm.Cond.and given_1 narrow_1).before args s = true) : ∃ (D : va_G) (DA : hs_DA), hs_W D DA (fun q => s.heap.size ≤ q) s s.heap ∧ DA.2.2.1 = b ∧ DA.2.2.2 = (L, xs) := by
  have hh : ∀ w ∈ hs_ws, w.before args s = true := fun w hw => hts w (List.mem_filter.mp hw).1
  have hg := flat_of_before _ hgv
  have hA : ∀ a : Nat, a < s.heap.size → ¬ s.heap.size ≤ a := fun a h => Nat.not_le.mpr h
  obtain ⟨D, dA, hK⟩ := law_K hts hh
  have harr : (Cond.arrayOf (.static "java/util/ArrayList" "DEFAULTCAPACITY_EMPTY_ELEMENTDATA" "[Ljava/lang/Object;") (.object "java/lang/Object")).before args s = true := hg _ (by decide +kernel)
  have hlen : (Cond.eq (.length (.static "java/util/ArrayList" "DEFAULTCAPACITY_EMPTY_ELEMENTDATA" "[Ljava/lang/Object;")) (.int 0)).before args s = true := hg _ (by decide +kernel)
  obtain ⟨t, ht, hT⟩ := va_Tof (N := 0) (f := fun _ => .null) (A := fun q => s.heap.size ≤ q) (by decide) harr (law_eq hlen) (fun j hj => absurd hj (Nat.not_lt_zero _)) hA
  have htl : t < s.heap.size := by
    obtain ⟨cell, h1, -⟩ := hT
    exact (Array.getElem?_eq_some_iff.mp h1).1
  have hZ := va_Zof (A := fun q => s.heap.size ≤ q) (hts _ lt_91) (hts _ lt_26) ht hA
  obtain ⟨mi, hmi⟩ := va_Mi.of (s := s) (C := "[Ljava/lang/Object;") (hg _ (by decide +kernel))
  have hcm : ∃ cur, s.vm.findClass "Cellmarket" = some cur := ⟨_, ((hK (t, b, L, xs)).1 10 _ rfl).2.1⟩
  obtain ⟨cur, hcur⟩ := hcm
  refine ⟨D, (dA, (t, (b, (L, xs)))), ⟨hK _, ?_, ⟨va_AO.of (hts _ lt_165), va_AO.of (hts _ lt_252), va_AO.of (hts _ lt_700), hts _ lt_254⟩, ⟨va_Dc.of (hts _ lt_1131), mi, hmi⟩, ⟨hZ, hT⟩, ⟨vx_Zqof (hts _ lt_383) (hts _ lt_33) (hg _ (by decide +kernel)) hA, vx_Zqof (hts _ lt_385) (hts _ lt_33) (hg _ (by decide +kernel)) hA⟩, ?_, ?_, ⟨hX, hA _ hbl, hA _ htl, hbl, htl⟩, fun _ h => h⟩, rfl, rfl⟩
  · exact List.forall_mem_cons.mpr ⟨va_Fw.of (x := ⟨"java/util/List", "size", "()I"⟩) (y := yJx4a65c_size_8abf5) (hts _ lt_432) (hts _ lt_431) (hts _ lt_437) (hts _ lt_435) (hts _ lt_433), List.forall_mem_cons.mpr ⟨va_Fw.of (x := ⟨"java/util/List", "get", "(I)Ljava/lang/Object;"⟩) (y := yJx4a65c_get_915e3) (hts _ lt_442) (hts _ lt_441) (hts _ lt_446) (hts _ lt_444) (hts _ lt_433), List.forall_mem_cons.mpr ⟨va_Fw.of (x := ⟨"java/util/List", "add", "(Ljava/lang/Object;)Z"⟩) (y := yJx4a65c_add_9ea2d) (hts _ lt_648) (hts _ lt_647) (hts _ lt_652) (hts _ lt_650) (hts _ lt_433), fun _ h => nomatch h⟩⟩⟩
  · intro q hq
    refine law_str (cur := cur) ?_ (hts _ (law_strs q hq))
    rw [law_own q hq]
    exact hcur
  · exact List.forall_mem_cons.mpr ⟨va_Nc.of (hg _ (by decide +kernel)), List.forall_mem_cons.mpr ⟨va_Nc.of (hg _ (by decide +kernel)), List.forall_mem_cons.mpr ⟨va_Nc.of (hg _ (by decide +kernel)), fun _ h => nomatch h⟩⟩⟩
