theorem wb_iconst {Z : b_Z} {own : String} {cc : ByteArray} {nL : Nat} {R0 : Room} {k n : Nat} {S : b_S} {pc : Nat} {lv : List (Nat × hs_V)} {st : List hs_V} (X : b_C Z own cc nL R0) {z : Int} {v : Int32} (hd : decode cc pc = .ok (.iconst z, 1)) (hv : Int32.ofInt z = v) (kk : wb Z k n S (pc + 1) lv (.inl v :: st)) : wb Z k n S pc lv (st) := by
  obtain ⟨p, l, e, R, s, m, args, below, meth, c, D, DA, n0, G0, S0, Qw⟩ := Z
  obtain ⟨hx, hb, hml, hown, hts, hlk, hst, hW, hR⟩ := X
  intro G H locs la a1 a2 a3 a4 a5 a6
  exact lv_iconst hx hb hd hv (kk G H locs la a1 a2 a3 (hs_pu trivial a4) a5 a6)
theorem wb_bipush {Z : b_Z} {own : String} {cc : ByteArray} {nL : Nat} {R0 : Room} {k n : Nat} {S : b_S} {pc : Nat} {lv : List (Nat × hs_V)} {st : List hs_V} (X : b_C Z own cc nL R0) {z : Int} {v : Int32} (hd : decode cc pc = .ok (.bipush z, 2)) (hv : (Int8.ofInt z).toInt32 = v) (kk : wb Z k n S (pc + 2) lv (.inl v :: st)) : wb Z k n S pc lv (st) := by
  obtain ⟨p, l, e, R, s, m, args, below, meth, c, D, DA, n0, G0, S0, Qw⟩ := Z
  obtain ⟨hx, hb, hml, hown, hts, hlk, hst, hW, hR⟩ := X
  intro G H locs la a1 a2 a3 a4 a5 a6
  exact lv_bipush hx hb hd hv (kk G H locs la a1 a2 a3 (hs_pu trivial a4) a5 a6)
theorem wb_sipush {Z : b_Z} {own : String} {cc : ByteArray} {nL : Nat} {R0 : Room} {k n : Nat} {S : b_S} {pc : Nat} {lv : List (Nat × hs_V)} {st : List hs_V} (X : b_C Z own cc nL R0) {z : Int} {v : Int32} (hd : decode cc pc = .ok (.sipush z, 3)) (hv : (Int16.ofInt z).toInt32 = v) (kk : wb Z k n S (pc + 3) lv (.inl v :: st)) : wb Z k n S pc lv (st) := by
  obtain ⟨p, l, e, R, s, m, args, below, meth, c, D, DA, n0, G0, S0, Qw⟩ := Z
  obtain ⟨hx, hb, hml, hown, hts, hlk, hst, hW, hR⟩ := X
  intro G H locs la a1 a2 a3 a4 a5 a6
  exact lv_sipush hx hb hd hv (kk G H locs la a1 a2 a3 (hs_pu trivial a4) a5 a6)
theorem wb_lconst {Z : b_Z} {own : String} {cc : ByteArray} {nL : Nat} {R0 : Room} {k n : Nat} {S : b_S} {pc : Nat} {lv : List (Nat × hs_V)} {st : List hs_V} (X : b_C Z own cc nL R0) {z : Fin 2} {v : Int64} (hd : decode cc pc = .ok (.lconst z, 1)) (hv : Int64.ofNat (z : Nat) = v) (kk : wb Z k n S (pc + 1) lv (.inr (.inl v) :: st)) : wb Z k n S pc lv (st) := by
  obtain ⟨p, l, e, R, s, m, args, below, meth, c, D, DA, n0, G0, S0, Qw⟩ := Z
  obtain ⟨hx, hb, hml, hown, hts, hlk, hst, hW, hR⟩ := X
  intro G H locs la a1 a2 a3 a4 a5 a6
  exact lv_lconst hx hb hd hv (kk G H locs la a1 a2 a3 (hs_pu trivial a4) a5 a6)
theorem wb_ldc {Z : b_Z} {own : String} {cc : ByteArray} {nL : Nat} {R0 : Room} {k n : Nat} {S : b_S} {pc : Nat} {lv : List (Nat × hs_V)} {st : List hs_V} (X : b_C Z own cc nL R0) {ix : Nat} {v : Int32} (hc : Cond.constant own ix v ∈ hs_ws) (hd : decode cc pc = .ok (.ldc ix, 2)) (kk : wb Z k n S (pc + 2) lv (.inl v :: st)) : wb Z k n S pc lv (st) := by
  obtain ⟨p, l, e, R, s, m, args, below, meth, c, D, DA, n0, G0, S0, Qw⟩ := Z
  obtain ⟨hx, hb, hml, hown, hts, hlk, hst, hW, hR⟩ := X
  intro G H locs la a1 a2 a3 a4 a5 a6
  exact lv_ldc hx hb hown (hts _ hc) hd (kk G H locs la a1 a2 a3 (hs_pu trivial a4) a5 a6)
theorem wb_ldc2 {Z : b_Z} {own : String} {cc : ByteArray} {nL : Nat} {R0 : Room} {k n : Nat} {S : b_S} {pc : Nat} {lv : List (Nat × hs_V)} {st : List hs_V} (X : b_C Z own cc nL R0) {ix : Nat} {v : Int64} (hc : Cond.constantLong own ix v ∈ hs_ws) (hd : decode cc pc = .ok (.ldc2_w ix, 3)) (kk : wb Z k n S (pc + 3) lv (.inr (.inl v) :: st)) : wb Z k n S pc lv (st) := by
  obtain ⟨p, l, e, R, s, m, args, below, meth, c, D, DA, n0, G0, S0, Qw⟩ := Z
  obtain ⟨hx, hb, hml, hown, hts, hlk, hst, hW, hR⟩ := X
  intro G H locs la a1 a2 a3 a4 a5 a6
  exact lv_ldc2 hx hb hown (hts _ hc) hd (kk G H locs la a1 a2 a3 (hs_pu trivial a4) a5 a6)
theorem wb_iload_n {Z : b_Z} {own : String} {cc : ByteArray} {nL : Nat} {R0 : Room} {k n : Nat} {S : b_S} {pc : Nat} {lv : List (Nat × hs_V)} {st : List hs_V} (X : b_C Z own cc nL R0) {z : Fin 4} {i : Nat} {x : Int32} (q : Nat) (hq : lv[q]? = some (i, .inl x)) (hd : decode cc pc = .ok (.iload_n z, 1)) (hi : (z : Nat) = i) (kk : wb Z k n S (pc + 1) lv (.inl x :: st)) : wb Z k n S pc lv (st) := by
  obtain ⟨p, l, e, R, s, m, args, below, meth, c, D, DA, n0, G0, S0, Qw⟩ := Z
  obtain ⟨hx, hb, hml, hown, hts, hlk, hst, hW, hR⟩ := X
  intro G H locs la a1 a2 a3 a4 a5 a6
  exact lv_iload_n hx hb hd hi (hs_lat a6 q hq) (kk G H locs la a1 a2 a3 (hs_pu trivial a4) a5 a6)
theorem wb_iload {Z : b_Z} {own : String} {cc : ByteArray} {nL : Nat} {R0 : Room} {k n : Nat} {S : b_S} {pc : Nat} {lv : List (Nat × hs_V)} {st : List hs_V} (X : b_C Z own cc nL R0) {i : Nat} {x : Int32} (q : Nat) (hq : lv[q]? = some (i, .inl x)) (hd : decode cc pc = .ok (.iload i, 2)) (kk : wb Z k n S (pc + 2) lv (.inl x :: st)) : wb Z k n S pc lv (st) := by
  obtain ⟨p, l, e, R, s, m, args, below, meth, c, D, DA, n0, G0, S0, Qw⟩ := Z
  obtain ⟨hx, hb, hml, hown, hts, hlk, hst, hW, hR⟩ := X
  intro G H locs la a1 a2 a3 a4 a5 a6
  exact lv_iload hx hb hd (hs_lat a6 q hq) (kk G H locs la a1 a2 a3 (hs_pu trivial a4) a5 a6)
theorem wb_lload_n {Z : b_Z} {own : String} {cc : ByteArray} {nL : Nat} {R0 : Room} {k n : Nat} {S : b_S} {pc : Nat} {lv : List (Nat × hs_V)} {st : List hs_V} (X : b_C Z own cc nL R0) {z : Fin 4} {i : Nat} {x : Int64} (q : Nat) (hq : lv[q]? = some (i, .inr (.inl x))) (hd : decode cc pc = .ok (.lload_n z, 1)) (hi : (z : Nat) = i) (kk : wb Z k n S (pc + 1) lv (.inr (.inl x) :: st)) : wb Z k n S pc lv (st) := by
  obtain ⟨p, l, e, R, s, m, args, below, meth, c, D, DA, n0, G0, S0, Qw⟩ := Z
  obtain ⟨hx, hb, hml, hown, hts, hlk, hst, hW, hR⟩ := X
  intro G H locs la a1 a2 a3 a4 a5 a6
  exact lv_lload_n hx hb hd hi (hs_lat a6 q hq) (kk G H locs la a1 a2 a3 (hs_pu trivial a4) a5 a6)
theorem wb_lload {Z : b_Z} {own : String} {cc : ByteArray} {nL : Nat} {R0 : Room} {k n : Nat} {S : b_S} {pc : Nat} {lv : List (Nat × hs_V)} {st : List hs_V} (X : b_C Z own cc nL R0) {i : Nat} {x : Int64} (q : Nat) (hq : lv[q]? = some (i, .inr (.inl x))) (hd : decode cc pc = .ok (.lload i, 2)) (kk : wb Z k n S (pc + 2) lv (.inr (.inl x) :: st)) : wb Z k n S pc lv (st) := by
  obtain ⟨p, l, e, R, s, m, args, below, meth, c, D, DA, n0, G0, S0, Qw⟩ := Z
  obtain ⟨hx, hb, hml, hown, hts, hlk, hst, hW, hR⟩ := X
  intro G H locs la a1 a2 a3 a4 a5 a6
  exact lv_lload hx hb hd (hs_lat a6 q hq) (kk G H locs la a1 a2 a3 (hs_pu trivial a4) a5 a6)
theorem wb_aload_n {Z : b_Z} {own : String} {cc : ByteArray} {nL : Nat} {R0 : Room} {k n : Nat} {S : b_S} {pc : Nat} {lv : List (Nat × hs_V)} {st : List hs_V} (X : b_C Z own cc nL R0) {z : Fin 4} {i : Nat} {t r : Nat} (q : Nat) (hq : lv[q]? = some (i, .inr (.inr (t, r)))) (hd : decode cc pc = .ok (.aload_n z, 1)) (hi : (z : Nat) = i) (kk : wb Z k n S (pc + 1) lv (.inr (.inr (t, r)) :: st)) : wb Z k n S pc lv (st) := by
  obtain ⟨p, l, e, R, s, m, args, below, meth, c, D, DA, n0, G0, S0, Qw⟩ := Z
  obtain ⟨hx, hb, hml, hown, hts, hlk, hst, hW, hR⟩ := X
  intro G H locs la a1 a2 a3 a4 a5 a6
  have hh := kk G H locs la a1 a2 a3 (hs_pu (b_lvv a3 hq) a4) a5 a6
  have hg := hs_lat a6 q hq
  by_cases h0 : r = 0
  · subst h0
    exact lv_aload_nN hx hb hd hi hg hh
  · rw [List.map_cons, hs_c_ref h0] at hh
    rw [hs_c_ref h0] at hg
    exact lv_aload_n hx hb hd hi hg hh
theorem wb_istore_n {Z : b_Z} {own : String} {cc : ByteArray} {nL : Nat} {R0 : Room} {k n : Nat} {S : b_S} {pc : Nat} {lv : List (Nat × hs_V)} {st : List hs_V} (X : b_C Z own cc nL R0) {z : Fin 4} {i : Nat} {x : Int32} {lv' : List (Nat × hs_V)} (hd : decode cc pc = .ok (.istore_n z, 1)) (hi : (z : Nat) = i) (hn : i < nL) (hl : hs_st1 i (.inl x) lv = lv') (kk : wb Z k n S (pc + 1) lv' (st)) : wb Z k n S pc lv (.inl x :: st) := by
  obtain ⟨p, l, e, R, s, m, args, below, meth, c, D, DA, n0, G0, S0, Qw⟩ := Z
  obtain ⟨hx, hb, hml, hown, hts, hlk, hst, hW, hR⟩ := X
  intro G H locs la a1 a2 a3 a4 a5 a6
  subst hl
  exact lv_istore_n hx hb hd hi a6 (hml ▸ hn) (hs_st1_map (b_al G) i (.inl x) lv) (fun la2 b6 => kk G H locs la2 a1 a2 (b_st1_v a3 trivial) (hs_n1 a4) a5 b6)
theorem wb_istore {Z : b_Z} {own : String} {cc : ByteArray} {nL : Nat} {R0 : Room} {k n : Nat} {S : b_S} {pc : Nat} {lv : List (Nat × hs_V)} {st : List hs_V} (X : b_C Z own cc nL R0) {i : Nat} {x : Int32} {lv' : List (Nat × hs_V)} (hd : decode cc pc = .ok (.istore i, 2)) (hn : i < nL) (hl : hs_st1 i (.inl x) lv = lv') (kk : wb Z k n S (pc + 2) lv' (st)) : wb Z k n S pc lv (.inl x :: st) := by
  obtain ⟨p, l, e, R, s, m, args, below, meth, c, D, DA, n0, G0, S0, Qw⟩ := Z
  obtain ⟨hx, hb, hml, hown, hts, hlk, hst, hW, hR⟩ := X
  intro G H locs la a1 a2 a3 a4 a5 a6
  subst hl
  exact lv_istore hx hb hd a6 (hml ▸ hn) (hs_st1_map (b_al G) i (.inl x) lv) (fun la2 b6 => kk G H locs la2 a1 a2 (b_st1_v a3 trivial) (hs_n1 a4) a5 b6)
theorem wb_lstore_n {Z : b_Z} {own : String} {cc : ByteArray} {nL : Nat} {R0 : Room} {k n : Nat} {S : b_S} {pc : Nat} {lv : List (Nat × hs_V)} {st : List hs_V} (X : b_C Z own cc nL R0) {z : Fin 4} {i : Nat} {x : Int64} {lv' : List (Nat × hs_V)} (hd : decode cc pc = .ok (.lstore_n z, 1)) (hi : (z : Nat) = i) (hn : i + 1 < nL) (hl : hs_st2 i (.inr (.inl x)) lv = lv') (kk : wb Z k n S (pc + 1) lv' (st)) : wb Z k n S pc lv (.inr (.inl x) :: st) := by
  obtain ⟨p, l, e, R, s, m, args, below, meth, c, D, DA, n0, G0, S0, Qw⟩ := Z
  obtain ⟨hx, hb, hml, hown, hts, hlk, hst, hW, hR⟩ := X
  intro G H locs la a1 a2 a3 a4 a5 a6
  subst hl
  exact lv_lstore_n hx hb hd hi a6 (hml ▸ hn) (hs_st2_map (b_al G) i (.inr (.inl x)) lv) (fun la2 b6 => kk G H locs la2 a1 a2 (b_st2_v a3 trivial) (hs_n1 a4) a5 b6)
theorem wb_lstore {Z : b_Z} {own : String} {cc : ByteArray} {nL : Nat} {R0 : Room} {k n : Nat} {S : b_S} {pc : Nat} {lv : List (Nat × hs_V)} {st : List hs_V} (X : b_C Z own cc nL R0) {i : Nat} {x : Int64} {lv' : List (Nat × hs_V)} (hd : decode cc pc = .ok (.lstore i, 2)) (hn : i + 1 < nL) (hl : hs_st2 i (.inr (.inl x)) lv = lv') (kk : wb Z k n S (pc + 2) lv' (st)) : wb Z k n S pc lv (.inr (.inl x) :: st) := by
  obtain ⟨p, l, e, R, s, m, args, below, meth, c, D, DA, n0, G0, S0, Qw⟩ := Z
  obtain ⟨hx, hb, hml, hown, hts, hlk, hst, hW, hR⟩ := X
  intro G H locs la a1 a2 a3 a4 a5 a6
  subst hl
  exact lv_lstore hx hb hd a6 (hml ▸ hn) (hs_st2_map (b_al G) i (.inr (.inl x)) lv) (fun la2 b6 => kk G H locs la2 a1 a2 (b_st2_v a3 trivial) (hs_n1 a4) a5 b6)
theorem wb_astore_n {Z : b_Z} {own : String} {cc : ByteArray} {nL : Nat} {R0 : Room} {k n : Nat} {S : b_S} {pc : Nat} {lv : List (Nat × hs_V)} {st : List hs_V} (X : b_C Z own cc nL R0) {z : Fin 4} {i : Nat} {t r : Nat} {lv' : List (Nat × hs_V)} (hd : decode cc pc = .ok (.astore_n z, 1)) (hi : (z : Nat) = i) (hn : i < nL) (hl : hs_st1 i (.inr (.inr (t, r))) lv = lv') (kk : wb Z k n S (pc + 1) lv' (st)) : wb Z k n S pc lv (.inr (.inr (t, r)) :: st) := by
  obtain ⟨p, l, e, R, s, m, args, below, meth, c, D, DA, n0, G0, S0, Qw⟩ := Z
  obtain ⟨hx, hb, hml, hown, hts, hlk, hst, hW, hR⟩ := X
  intro G H locs la a1 a2 a3 a4 a5 a6
  subst hl
  have hm := hs_st1_map (b_al G) i (.inr (.inr (t, r))) lv
  have hh : ∀ la2, lv_has la2 c.maxLocals ((hs_st1 i (.inr (.inr (t, r))) lv).map fun q => (q.1, hs_c (b_al G) q.2)) → W p l e R s m args below meth c H locs k n Qw (F0 m (pc + 1) la2 (st.map (hs_c (b_al G)))) := fun la2 b6 => kk G H locs la2 a1 a2 (b_st1_v a3 (hs_h1 a4)) (hs_n1 a4) a5 b6
  rw [List.map_cons]
  by_cases h0 : r = 0
  · subst h0
    exact lv_astore_nN hx hb hd hi a6 (hml ▸ hn) hm hh
  · rw [hs_c_ref h0] at hm ⊢
    exact lv_astore_n hx hb hd hi a6 (hml ▸ hn) hm hh
theorem wb_iinc {Z : b_Z} {own : String} {cc : ByteArray} {nL : Nat} {R0 : Room} {k n : Nat} {S : b_S} {pc : Nat} {lv : List (Nat × hs_V)} {st : List hs_V} (X : b_C Z own cc nL R0) {i : Nat} {z : Int} {x v : Int32} {lv' : List (Nat × hs_V)} (q : Nat) (hq : lv[q]? = some (i, .inl x)) (hd : decode cc pc = .ok (.iinc i z, 3)) (hv : x + Int32.ofInt z = v) (hn : i < nL) (hl : hs_st1 i (.inl v) lv = lv') (kk : wb Z k n S (pc + 3) lv' (st)) : wb Z k n S pc lv (st) := by
  obtain ⟨p, l, e, R, s, m, args, below, meth, c, D, DA, n0, G0, S0, Qw⟩ := Z
  obtain ⟨hx, hb, hml, hown, hts, hlk, hst, hW, hR⟩ := X
  intro G H locs la a1 a2 a3 a4 a5 a6
  subst hl
  exact lv_iinc hx hb hd a6 (k := q) (by rw [List.getElem?_map, hq]; rfl) hv (hml ▸ hn) (hs_st1_map (b_al G) i (.inl v) lv) (fun la2 b6 => kk G H locs la2 a1 a2 (b_st1_v a3 trivial) a4 a5 b6)
theorem wb_iadd {Z : b_Z} {own : String} {cc : ByteArray} {nL : Nat} {R0 : Room} {k n : Nat} {S : b_S} {pc : Nat} {lv : List (Nat × hs_V)} {st : List hs_V} (X : b_C Z own cc nL R0) {x y : Int32} (hd : decode cc pc = .ok (.iadd, 1)) (kk : wb Z k n S (pc + 1) lv (.inl (x + y) :: st)) : wb Z k n S pc lv (.inl y :: .inl x :: st) := by
  obtain ⟨p, l, e, R, s, m, args, below, meth, c, D, DA, n0, G0, S0, Qw⟩ := Z
  obtain ⟨hx, hb, hml, hown, hts, hlk, hst, hW, hR⟩ := X
  intro G H locs la a1 a2 a3 a4 a5 a6
  exact lv_iadd hx hb hd (kk G H locs la a1 a2 a3 (hs_pu trivial (hs_n2 a4)) a5 a6)
theorem wb_isub {Z : b_Z} {own : String} {cc : ByteArray} {nL : Nat} {R0 : Room} {k n : Nat} {S : b_S} {pc : Nat} {lv : List (Nat × hs_V)} {st : List hs_V} (X : b_C Z own cc nL R0) {x y : Int32} (hd : decode cc pc = .ok (.isub, 1)) (kk : wb Z k n S (pc + 1) lv (.inl (x - y) :: st)) : wb Z k n S pc lv (.inl y :: .inl x :: st) := by
  obtain ⟨p, l, e, R, s, m, args, below, meth, c, D, DA, n0, G0, S0, Qw⟩ := Z
  obtain ⟨hx, hb, hml, hown, hts, hlk, hst, hW, hR⟩ := X
  intro G H locs la a1 a2 a3 a4 a5 a6
  exact lv_isub hx hb hd (kk G H locs la a1 a2 a3 (hs_pu trivial (hs_n2 a4)) a5 a6)
theorem wb_imul {Z : b_Z} {own : String} {cc : ByteArray} {nL : Nat} {R0 : Room} {k n : Nat} {S : b_S} {pc : Nat} {lv : List (Nat × hs_V)} {st : List hs_V} (X : b_C Z own cc nL R0) {x y : Int32} (hd : decode cc pc = .ok (.imul, 1)) (kk : wb Z k n S (pc + 1) lv (.inl (x * y) :: st)) : wb Z k n S pc lv (.inl y :: .inl x :: st) := by
  obtain ⟨p, l, e, R, s, m, args, below, meth, c, D, DA, n0, G0, S0, Qw⟩ := Z
  obtain ⟨hx, hb, hml, hown, hts, hlk, hst, hW, hR⟩ := X
  intro G H locs la a1 a2 a3 a4 a5 a6
  exact lv_imul hx hb hd (kk G H locs la a1 a2 a3 (hs_pu trivial (hs_n2 a4)) a5 a6)
theorem wb_ishr {Z : b_Z} {own : String} {cc : ByteArray} {nL : Nat} {R0 : Room} {k n : Nat} {S : b_S} {pc : Nat} {lv : List (Nat × hs_V)} {st : List hs_V} (X : b_C Z own cc nL R0) {x y : Int32} (hd : decode cc pc = .ok (.ishr, 1)) (kk : wb Z k n S (pc + 1) lv (.inl (x >>> (y &&& 31)) :: st)) : wb Z k n S pc lv (.inl y :: .inl x :: st) := by
  obtain ⟨p, l, e, R, s, m, args, below, meth, c, D, DA, n0, G0, S0, Qw⟩ := Z
  obtain ⟨hx, hb, hml, hown, hts, hlk, hst, hW, hR⟩ := X
  intro G H locs la a1 a2 a3 a4 a5 a6
  exact lv_ishr hx hb hd (kk G H locs la a1 a2 a3 (hs_pu trivial (hs_n2 a4)) a5 a6)
theorem wb_idiv {Z : b_Z} {own : String} {cc : ByteArray} {nL : Nat} {R0 : Room} {k n : Nat} {S : b_S} {pc : Nat} {lv : List (Nat × hs_V)} {st : List hs_V} (X : b_C Z own cc nL R0) {x y : Int32} (hd : decode cc pc = .ok (.idiv, 1)) (hne : ¬ y = 0) (kk : wb Z k n S (pc + 1) lv (.inl (x / y) :: st)) : wb Z k n S pc lv (.inl y :: .inl x :: st) := by
  obtain ⟨p, l, e, R, s, m, args, below, meth, c, D, DA, n0, G0, S0, Qw⟩ := Z
  obtain ⟨hx, hb, hml, hown, hts, hlk, hst, hW, hR⟩ := X
  intro G H locs la a1 a2 a3 a4 a5 a6
  exact lv_idiv hx hb hd hne (kk G H locs la a1 a2 a3 (hs_pu trivial (hs_n2 a4)) a5 a6)
theorem wb_irem {Z : b_Z} {own : String} {cc : ByteArray} {nL : Nat} {R0 : Room} {k n : Nat} {S : b_S} {pc : Nat} {lv : List (Nat × hs_V)} {st : List hs_V} (X : b_C Z own cc nL R0) {x y : Int32} (hd : decode cc pc = .ok (.irem, 1)) (hne : ¬ y = 0) (kk : wb Z k n S (pc + 1) lv (.inl (x - x / y * y) :: st)) : wb Z k n S pc lv (.inl y :: .inl x :: st) := by
  obtain ⟨p, l, e, R, s, m, args, below, meth, c, D, DA, n0, G0, S0, Qw⟩ := Z
  obtain ⟨hx, hb, hml, hown, hts, hlk, hst, hW, hR⟩ := X
  intro G H locs la a1 a2 a3 a4 a5 a6
  exact lv_irem hx hb hd hne (kk G H locs la a1 a2 a3 (hs_pu trivial (hs_n2 a4)) a5 a6)
theorem wb_ladd {Z : b_Z} {own : String} {cc : ByteArray} {nL : Nat} {R0 : Room} {k n : Nat} {S : b_S} {pc : Nat} {lv : List (Nat × hs_V)} {st : List hs_V} (X : b_C Z own cc nL R0) {x y : Int64} (hd : decode cc pc = .ok (.ladd, 1)) (kk : wb Z k n S (pc + 1) lv (.inr (.inl (x + y)) :: st)) : wb Z k n S pc lv (.inr (.inl y) :: .inr (.inl x) :: st) := by
  obtain ⟨p, l, e, R, s, m, args, below, meth, c, D, DA, n0, G0, S0, Qw⟩ := Z
  obtain ⟨hx, hb, hml, hown, hts, hlk, hst, hW, hR⟩ := X
  intro G H locs la a1 a2 a3 a4 a5 a6
  exact lv_ladd hx hb hd (kk G H locs la a1 a2 a3 (hs_pu trivial (hs_n2 a4)) a5 a6)
theorem wb_lsub {Z : b_Z} {own : String} {cc : ByteArray} {nL : Nat} {R0 : Room} {k n : Nat} {S : b_S} {pc : Nat} {lv : List (Nat × hs_V)} {st : List hs_V} (X : b_C Z own cc nL R0) {x y : Int64} (hd : decode cc pc = .ok (.lsub, 1)) (kk : wb Z k n S (pc + 1) lv (.inr (.inl (x - y)) :: st)) : wb Z k n S pc lv (.inr (.inl y) :: .inr (.inl x) :: st) := by
  obtain ⟨p, l, e, R, s, m, args, below, meth, c, D, DA, n0, G0, S0, Qw⟩ := Z
  obtain ⟨hx, hb, hml, hown, hts, hlk, hst, hW, hR⟩ := X
  intro G H locs la a1 a2 a3 a4 a5 a6
  exact lv_lsub hx hb hd (kk G H locs la a1 a2 a3 (hs_pu trivial (hs_n2 a4)) a5 a6)
theorem wb_lmul {Z : b_Z} {own : String} {cc : ByteArray} {nL : Nat} {R0 : Room} {k n : Nat} {S : b_S} {pc : Nat} {lv : List (Nat × hs_V)} {st : List hs_V} (X : b_C Z own cc nL R0) {x y : Int64} (hd : decode cc pc = .ok (.lmul, 1)) (kk : wb Z k n S (pc + 1) lv (.inr (.inl (x * y)) :: st)) : wb Z k n S pc lv (.inr (.inl y) :: .inr (.inl x) :: st) := by
  obtain ⟨p, l, e, R, s, m, args, below, meth, c, D, DA, n0, G0, S0, Qw⟩ := Z
  obtain ⟨hx, hb, hml, hown, hts, hlk, hst, hW, hR⟩ := X
  intro G H locs la a1 a2 a3 a4 a5 a6
  exact lv_lmul hx hb hd (kk G H locs la a1 a2 a3 (hs_pu trivial (hs_n2 a4)) a5 a6)
theorem wb_lcmp {Z : b_Z} {own : String} {cc : ByteArray} {nL : Nat} {R0 : Room} {k n : Nat} {S : b_S} {pc : Nat} {lv : List (Nat × hs_V)} {st : List hs_V} (X : b_C Z own cc nL R0) {x y : Int64} (hd : decode cc pc = .ok (.lcmp, 1)) (kk : wb Z k n S (pc + 1) lv (.inl (lg_cmp x y) :: st)) : wb Z k n S pc lv (.inr (.inl y) :: .inr (.inl x) :: st) := by
  obtain ⟨p, l, e, R, s, m, args, below, meth, c, D, DA, n0, G0, S0, Qw⟩ := Z
  obtain ⟨hx, hb, hml, hown, hts, hlk, hst, hW, hR⟩ := X
  intro G H locs la a1 a2 a3 a4 a5 a6
  exact W.lcmp hx hb hd (kk G H locs la a1 a2 a3 (hs_pu trivial (hs_n2 a4)) a5 a6)
theorem wb_i2l {Z : b_Z} {own : String} {cc : ByteArray} {nL : Nat} {R0 : Room} {k n : Nat} {S : b_S} {pc : Nat} {lv : List (Nat × hs_V)} {st : List hs_V} (X : b_C Z own cc nL R0) {x : Int32} (hd : decode cc pc = .ok (.i2l, 1)) (kk : wb Z k n S (pc + 1) lv (.inr (.inl (x.toInt64)) :: st)) : wb Z k n S pc lv (.inl x :: st) := by
  obtain ⟨p, l, e, R, s, m, args, below, meth, c, D, DA, n0, G0, S0, Qw⟩ := Z
  obtain ⟨hx, hb, hml, hown, hts, hlk, hst, hW, hR⟩ := X
  intro G H locs la a1 a2 a3 a4 a5 a6
  exact lv_i2l hx hb hd rfl (kk G H locs la a1 a2 a3 (hs_pu trivial (hs_n1 a4)) a5 a6)
theorem wb_dup {Z : b_Z} {own : String} {cc : ByteArray} {nL : Nat} {R0 : Room} {k n : Nat} {S : b_S} {pc : Nat} {lv : List (Nat × hs_V)} {st : List hs_V} (X : b_C Z own cc nL R0) {v : hs_V} (hd : decode cc pc = .ok (.dup, 1)) (hv : hs_cat v = 1) (kk : wb Z k n S (pc + 1) lv (v :: v :: st)) : wb Z k n S pc lv (v :: st) := by
  obtain ⟨p, l, e, R, s, m, args, below, meth, c, D, DA, n0, G0, S0, Qw⟩ := Z
  obtain ⟨hx, hb, hml, hown, hts, hlk, hst, hW, hR⟩ := X
  intro G H locs la a1 a2 a3 a4 a5 a6
  exact lv_dup hx hb hd (by rw [hs_c_cat]; exact hv) (kk G H locs la a1 a2 a3 (hs_pu (hs_h1 a4) a4) a5 a6)
theorem wb_if_eq {Z : b_Z} {own : String} {cc : ByteArray} {nL : Nat} {R0 : Room} {k n : Nat} {S : b_S} {pc : Nat} {lv : List (Nat × hs_V)} {st : List hs_V} (X : b_C Z own cc nL R0) {x : Int32} {off : Int} {tgt : Nat} (hd : decode cc pc = .ok (.ifCond .eq off, 3)) (ht : (pc : Int) + off = (tgt : Int)) (kt : x = 0 → wb Z k n S tgt lv st) (kf : ¬ x = 0 → wb Z k n S (pc + 3) lv st) : wb Z k n S pc lv (.inl x :: st) := by
  obtain ⟨p, l, e, R, s, m, args, below, meth, c, D, DA, n0, G0, S0, Qw⟩ := Z
  obtain ⟨hx, hb, hml, hown, hts, hlk, hst, hW, hR⟩ := X
  intro G H locs la a1 a2 a3 a4 a5 a6
  exact lv_if_eq hx hb hd ht (fun z => kt z G H locs la a1 a2 a3 (hs_n1 a4) a5 a6) (fun z => kf z G H locs la a1 a2 a3 (hs_n1 a4) a5 a6)
theorem wb_icmp_eq {Z : b_Z} {own : String} {cc : ByteArray} {nL : Nat} {R0 : Room} {k n : Nat} {S : b_S} {pc : Nat} {lv : List (Nat × hs_V)} {st : List hs_V} (X : b_C Z own cc nL R0) {x y : Int32} {off : Int} {tgt : Nat} (hd : decode cc pc = .ok (.if_icmp .eq off, 3)) (ht : (pc : Int) + off = (tgt : Int)) (kt : x = y → wb Z k n S tgt lv st) (kf : ¬ x = y → wb Z k n S (pc + 3) lv st) : wb Z k n S pc lv (.inl y :: .inl x :: st) := by
  obtain ⟨p, l, e, R, s, m, args, below, meth, c, D, DA, n0, G0, S0, Qw⟩ := Z
  obtain ⟨hx, hb, hml, hown, hts, hlk, hst, hW, hR⟩ := X
  intro G H locs la a1 a2 a3 a4 a5 a6
  exact lv_icmp_eq hx hb hd ht (fun z => kt z G H locs la a1 a2 a3 (hs_n2 a4) a5 a6) (fun z => kf z G H locs la a1 a2 a3 (hs_n2 a4) a5 a6)
theorem wb_if_ne {Z : b_Z} {own : String} {cc : ByteArray} {nL : Nat} {R0 : Room} {k n : Nat} {S : b_S} {pc : Nat} {lv : List (Nat × hs_V)} {st : List hs_V} (X : b_C Z own cc nL R0) {x : Int32} {off : Int} {tgt : Nat} (hd : decode cc pc = .ok (.ifCond .ne off, 3)) (ht : (pc : Int) + off = (tgt : Int)) (kt : ¬ x = 0 → wb Z k n S tgt lv st) (kf : x = 0 → wb Z k n S (pc + 3) lv st) : wb Z k n S pc lv (.inl x :: st) := by
  obtain ⟨p, l, e, R, s, m, args, below, meth, c, D, DA, n0, G0, S0, Qw⟩ := Z
  obtain ⟨hx, hb, hml, hown, hts, hlk, hst, hW, hR⟩ := X
  intro G H locs la a1 a2 a3 a4 a5 a6
  exact lv_if_ne hx hb hd ht (fun z => kt z G H locs la a1 a2 a3 (hs_n1 a4) a5 a6) (fun z => kf z G H locs la a1 a2 a3 (hs_n1 a4) a5 a6)
theorem wb_icmp_ne {Z : b_Z} {own : String} {cc : ByteArray} {nL : Nat} {R0 : Room} {k n : Nat} {S : b_S} {pc : Nat} {lv : List (Nat × hs_V)} {st : List hs_V} (X : b_C Z own cc nL R0) {x y : Int32} {off : Int} {tgt : Nat} (hd : decode cc pc = .ok (.if_icmp .ne off, 3)) (ht : (pc : Int) + off = (tgt : Int)) (kt : ¬ x = y → wb Z k n S tgt lv st) (kf : x = y → wb Z k n S (pc + 3) lv st) : wb Z k n S pc lv (.inl y :: .inl x :: st) := by
  obtain ⟨p, l, e, R, s, m, args, below, meth, c, D, DA, n0, G0, S0, Qw⟩ := Z
  obtain ⟨hx, hb, hml, hown, hts, hlk, hst, hW, hR⟩ := X
  intro G H locs la a1 a2 a3 a4 a5 a6
  exact lv_icmp_ne hx hb hd ht (fun z => kt z G H locs la a1 a2 a3 (hs_n2 a4) a5 a6) (fun z => kf z G H locs la a1 a2 a3 (hs_n2 a4) a5 a6)
theorem wb_if_lt {Z : b_Z} {own : String} {cc : ByteArray} {nL : Nat} {R0 : Room} {k n : Nat} {S : b_S} {pc : Nat} {lv : List (Nat × hs_V)} {st : List hs_V} (X : b_C Z own cc nL R0) {x : Int32} {off : Int} {tgt : Nat} (hd : decode cc pc = .ok (.ifCond .lt off, 3)) (ht : (pc : Int) + off = (tgt : Int)) (kt : x < 0 → wb Z k n S tgt lv st) (kf : ¬ x < 0 → wb Z k n S (pc + 3) lv st) : wb Z k n S pc lv (.inl x :: st) := by
  obtain ⟨p, l, e, R, s, m, args, below, meth, c, D, DA, n0, G0, S0, Qw⟩ := Z
  obtain ⟨hx, hb, hml, hown, hts, hlk, hst, hW, hR⟩ := X
  intro G H locs la a1 a2 a3 a4 a5 a6
  exact lv_if_lt hx hb hd ht (fun z => kt z G H locs la a1 a2 a3 (hs_n1 a4) a5 a6) (fun z => kf z G H locs la a1 a2 a3 (hs_n1 a4) a5 a6)
theorem wb_icmp_lt {Z : b_Z} {own : String} {cc : ByteArray} {nL : Nat} {R0 : Room} {k n : Nat} {S : b_S} {pc : Nat} {lv : List (Nat × hs_V)} {st : List hs_V} (X : b_C Z own cc nL R0) {x y : Int32} {off : Int} {tgt : Nat} (hd : decode cc pc = .ok (.if_icmp .lt off, 3)) (ht : (pc : Int) + off = (tgt : Int)) (kt : x < y → wb Z k n S tgt lv st) (kf : ¬ x < y → wb Z k n S (pc + 3) lv st) : wb Z k n S pc lv (.inl y :: .inl x :: st) := by
  obtain ⟨p, l, e, R, s, m, args, below, meth, c, D, DA, n0, G0, S0, Qw⟩ := Z
  obtain ⟨hx, hb, hml, hown, hts, hlk, hst, hW, hR⟩ := X
  intro G H locs la a1 a2 a3 a4 a5 a6
  exact lv_icmp_lt hx hb hd ht (fun z => kt z G H locs la a1 a2 a3 (hs_n2 a4) a5 a6) (fun z => kf z G H locs la a1 a2 a3 (hs_n2 a4) a5 a6)
theorem wb_if_ge {Z : b_Z} {own : String} {cc : ByteArray} {nL : Nat} {R0 : Room} {k n : Nat} {S : b_S} {pc : Nat} {lv : List (Nat × hs_V)} {st : List hs_V} (X : b_C Z own cc nL R0) {x : Int32} {off : Int} {tgt : Nat} (hd : decode cc pc = .ok (.ifCond .ge off, 3)) (ht : (pc : Int) + off = (tgt : Int)) (kt : 0 ≤ x → wb Z k n S tgt lv st) (kf : ¬ 0 ≤ x → wb Z k n S (pc + 3) lv st) : wb Z k n S pc lv (.inl x :: st) := by
  obtain ⟨p, l, e, R, s, m, args, below, meth, c, D, DA, n0, G0, S0, Qw⟩ := Z
  obtain ⟨hx, hb, hml, hown, hts, hlk, hst, hW, hR⟩ := X
  intro G H locs la a1 a2 a3 a4 a5 a6
  exact lv_if_ge hx hb hd ht (fun z => kt z G H locs la a1 a2 a3 (hs_n1 a4) a5 a6) (fun z => kf z G H locs la a1 a2 a3 (hs_n1 a4) a5 a6)
theorem wb_icmp_ge {Z : b_Z} {own : String} {cc : ByteArray} {nL : Nat} {R0 : Room} {k n : Nat} {S : b_S} {pc : Nat} {lv : List (Nat × hs_V)} {st : List hs_V} (X : b_C Z own cc nL R0) {x y : Int32} {off : Int} {tgt : Nat} (hd : decode cc pc = .ok (.if_icmp .ge off, 3)) (ht : (pc : Int) + off = (tgt : Int)) (kt : y ≤ x → wb Z k n S tgt lv st) (kf : ¬ y ≤ x → wb Z k n S (pc + 3) lv st) : wb Z k n S pc lv (.inl y :: .inl x :: st) := by
  obtain ⟨p, l, e, R, s, m, args, below, meth, c, D, DA, n0, G0, S0, Qw⟩ := Z
  obtain ⟨hx, hb, hml, hown, hts, hlk, hst, hW, hR⟩ := X
  intro G H locs la a1 a2 a3 a4 a5 a6
  exact lv_icmp_ge hx hb hd ht (fun z => kt z G H locs la a1 a2 a3 (hs_n2 a4) a5 a6) (fun z => kf z G H locs la a1 a2 a3 (hs_n2 a4) a5 a6)
theorem wb_if_gt {Z : b_Z} {own : String} {cc : ByteArray} {nL : Nat} {R0 : Room} {k n : Nat} {S : b_S} {pc : Nat} {lv : List (Nat × hs_V)} {st : List hs_V} (X : b_C Z own cc nL R0) {x : Int32} {off : Int} {tgt : Nat} (hd : decode cc pc = .ok (.ifCond .gt off, 3)) (ht : (pc : Int) + off = (tgt : Int)) (kt : 0 < x → wb Z k n S tgt lv st) (kf : ¬ 0 < x → wb Z k n S (pc + 3) lv st) : wb Z k n S pc lv (.inl x :: st) := by
  obtain ⟨p, l, e, R, s, m, args, below, meth, c, D, DA, n0, G0, S0, Qw⟩ := Z
  obtain ⟨hx, hb, hml, hown, hts, hlk, hst, hW, hR⟩ := X
  intro G H locs la a1 a2 a3 a4 a5 a6
  exact lv_if_gt hx hb hd ht (fun z => kt z G H locs la a1 a2 a3 (hs_n1 a4) a5 a6) (fun z => kf z G H locs la a1 a2 a3 (hs_n1 a4) a5 a6)
theorem wb_icmp_gt {Z : b_Z} {own : String} {cc : ByteArray} {nL : Nat} {R0 : Room} {k n : Nat} {S : b_S} {pc : Nat} {lv : List (Nat × hs_V)} {st : List hs_V} (X : b_C Z own cc nL R0) {x y : Int32} {off : Int} {tgt : Nat} (hd : decode cc pc = .ok (.if_icmp .gt off, 3)) (ht : (pc : Int) + off = (tgt : Int)) (kt : y < x → wb Z k n S tgt lv st) (kf : ¬ y < x → wb Z k n S (pc + 3) lv st) : wb Z k n S pc lv (.inl y :: .inl x :: st) := by
  obtain ⟨p, l, e, R, s, m, args, below, meth, c, D, DA, n0, G0, S0, Qw⟩ := Z
  obtain ⟨hx, hb, hml, hown, hts, hlk, hst, hW, hR⟩ := X
  intro G H locs la a1 a2 a3 a4 a5 a6
  exact lv_icmp_gt hx hb hd ht (fun z => kt z G H locs la a1 a2 a3 (hs_n2 a4) a5 a6) (fun z => kf z G H locs la a1 a2 a3 (hs_n2 a4) a5 a6)
theorem wb_if_le {Z : b_Z} {own : String} {cc : ByteArray} {nL : Nat} {R0 : Room} {k n : Nat} {S : b_S} {pc : Nat} {lv : List (Nat × hs_V)} {st : List hs_V} (X : b_C Z own cc nL R0) {x : Int32} {off : Int} {tgt : Nat} (hd : decode cc pc = .ok (.ifCond .le off, 3)) (ht : (pc : Int) + off = (tgt : Int)) (kt : x ≤ 0 → wb Z k n S tgt lv st) (kf : ¬ x ≤ 0 → wb Z k n S (pc + 3) lv st) : wb Z k n S pc lv (.inl x :: st) := by
  obtain ⟨p, l, e, R, s, m, args, below, meth, c, D, DA, n0, G0, S0, Qw⟩ := Z
  obtain ⟨hx, hb, hml, hown, hts, hlk, hst, hW, hR⟩ := X
  intro G H locs la a1 a2 a3 a4 a5 a6
  exact lv_if_le hx hb hd ht (fun z => kt z G H locs la a1 a2 a3 (hs_n1 a4) a5 a6) (fun z => kf z G H locs la a1 a2 a3 (hs_n1 a4) a5 a6)
theorem wb_icmp_le {Z : b_Z} {own : String} {cc : ByteArray} {nL : Nat} {R0 : Room} {k n : Nat} {S : b_S} {pc : Nat} {lv : List (Nat × hs_V)} {st : List hs_V} (X : b_C Z own cc nL R0) {x y : Int32} {off : Int} {tgt : Nat} (hd : decode cc pc = .ok (.if_icmp .le off, 3)) (ht : (pc : Int) + off = (tgt : Int)) (kt : x ≤ y → wb Z k n S tgt lv st) (kf : ¬ x ≤ y → wb Z k n S (pc + 3) lv st) : wb Z k n S pc lv (.inl y :: .inl x :: st) := by
  obtain ⟨p, l, e, R, s, m, args, below, meth, c, D, DA, n0, G0, S0, Qw⟩ := Z
  obtain ⟨hx, hb, hml, hown, hts, hlk, hst, hW, hR⟩ := X
  intro G H locs la a1 a2 a3 a4 a5 a6
  exact lv_icmp_le hx hb hd ht (fun z => kt z G H locs la a1 a2 a3 (hs_n2 a4) a5 a6) (fun z => kf z G H locs la a1 a2 a3 (hs_n2 a4) a5 a6)
theorem wb_goto {Z : b_Z} {own : String} {cc : ByteArray} {nL : Nat} {R0 : Room} {k n : Nat} {S : b_S} {pc : Nat} {lv : List (Nat × hs_V)} {st : List hs_V} (X : b_C Z own cc nL R0) {off : Int} {tgt : Nat} (hd : decode cc pc = .ok (.goto off, 3)) (ht : (pc : Int) + off = (tgt : Int)) (kk : wb Z k n S tgt lv st) : wb Z k n S pc lv (st) := by
  obtain ⟨p, l, e, R, s, m, args, below, meth, c, D, DA, n0, G0, S0, Qw⟩ := Z
  obtain ⟨hx, hb, hml, hown, hts, hlk, hst, hW, hR⟩ := X
  intro G H locs la a1 a2 a3 a4 a5 a6
  exact lv_goto hx hb hd ht (kk G H locs la a1 a2 a3 a4 a5 a6)
