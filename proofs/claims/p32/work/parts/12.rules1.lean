/-- a shift without a sign -/
def hs_ushr (x y : Int32) : Int32 := (x.toUInt32 >>> (y.toUInt32 &&& Int32.toUInt32 31)).toInt32
theorem hs_inj {D : va_G} {DA : hs_DA} {n0 : Nat → Prop} {G : hs_G} {S : hs_S} {H : Heap} (hP : hs_P D DA n0 G S H) {t i t' i' : Nat} (h1 : hs_ok S t i) (h2 : hs_ok S t' i') (k1 : (hs_k t).1 ≠ 8) (k2 : (hs_k t').1 ≠ 8) (e : G.1 t i = G.1 t' i') : t = t' ∧ i = i' := by
  obtain ⟨keys, hk, -, hD, -⟩ := hP
  obtain ⟨a, a1, a2⟩ := hs_at (D := D) (DA := DA) (n0 := n0) (G := G) (S := S) (H := H) ((hk t i).mpr (Or.inl ⟨h1, k1⟩))
  obtain ⟨b, b1, b2⟩ := hs_at (D := D) (DA := DA) (n0 := n0) (G := G) (S := S) (H := H) ((hk t' i').mpr (Or.inl ⟨h2, k2⟩))
  have hab := hD.1 a b _ _ a1 b1 e
  subst hab
  have := Option.some.inj (a2.symm.trans b2)
  exact ⟨congrArg Prod.fst this, congrArg Prod.snd this⟩
theorem hs_acmp {D : va_G} {DA : hs_DA} {n0 : Nat → Prop} {G : hs_G} {S : hs_S} {H : Heap} (hP : hs_P D DA n0 G S H) {t i j : Nat} (h8 : (hs_k t).1 ≠ 8) (h1 : hs_vv S (.inr (.inr (t, i)))) (h2 : hs_vv S (.inr (.inr (t, j)))) : hs_o G.1 t i = hs_o G.1 t j ↔ i = j := by
  constructor
  · intro h
    unfold hs_o at h
    by_cases hi : i = 0 <;> by_cases hj : j = 0
    · rw [hi, hj]
    · rw [if_pos hi, if_neg hj] at h; cases h
    · rw [if_neg hi, if_pos hj] at h; cases h
    · rw [if_neg hi, if_neg hj] at h
      exact (hs_inj hP (h1.resolve_left hi) (h2.resolve_left hj) h8 h8 (Option.some.inj h)).2
  · intro h; rw [h]
theorem wa_iconst {Z : hs_Z} {own : String} {cc : ByteArray} {nL : Nat} {R0 : Room} {k n : Nat} {S : hs_S} {pc : Nat} {lv : List (Nat × hs_V)} {st : List hs_V} (X : hs_C Z own cc nL R0) {z : Int} {v : Int32} (hd : decode cc pc = .ok (.iconst z, 1)) (hv : Int32.ofInt z = v) (kk : wa Z k n S (pc + 1) lv (.inl v :: st)) : wa Z k n S pc lv (st) := by
  obtain ⟨p, l, e, R, s, m, args, below, meth, c, D, DA, n0, G0, S0, Qw⟩ := Z
  obtain ⟨hx, hb, hml, hown, hts, hlk, hst, hW, hR⟩ := X
  intro G H locs la a1 a2 a3 a4 a5 a6
  exact lv_iconst hx hb hd hv (kk G H locs la a1 a2 a3 (hs_pu trivial a4) a5 a6)
theorem wa_bipush {Z : hs_Z} {own : String} {cc : ByteArray} {nL : Nat} {R0 : Room} {k n : Nat} {S : hs_S} {pc : Nat} {lv : List (Nat × hs_V)} {st : List hs_V} (X : hs_C Z own cc nL R0) {z : Int} {v : Int32} (hd : decode cc pc = .ok (.bipush z, 2)) (hv : (Int8.ofInt z).toInt32 = v) (kk : wa Z k n S (pc + 2) lv (.inl v :: st)) : wa Z k n S pc lv (st) := by
  obtain ⟨p, l, e, R, s, m, args, below, meth, c, D, DA, n0, G0, S0, Qw⟩ := Z
  obtain ⟨hx, hb, hml, hown, hts, hlk, hst, hW, hR⟩ := X
  intro G H locs la a1 a2 a3 a4 a5 a6
  exact lv_bipush hx hb hd hv (kk G H locs la a1 a2 a3 (hs_pu trivial a4) a5 a6)
theorem wa_sipush {Z : hs_Z} {own : String} {cc : ByteArray} {nL : Nat} {R0 : Room} {k n : Nat} {S : hs_S} {pc : Nat} {lv : List (Nat × hs_V)} {st : List hs_V} (X : hs_C Z own cc nL R0) {z : Int} {v : Int32} (hd : decode cc pc = .ok (.sipush z, 3)) (hv : (Int16.ofInt z).toInt32 = v) (kk : wa Z k n S (pc + 3) lv (.inl v :: st)) : wa Z k n S pc lv (st) := by
  obtain ⟨p, l, e, R, s, m, args, below, meth, c, D, DA, n0, G0, S0, Qw⟩ := Z
  obtain ⟨hx, hb, hml, hown, hts, hlk, hst, hW, hR⟩ := X
  intro G H locs la a1 a2 a3 a4 a5 a6
  exact lv_sipush hx hb hd hv (kk G H locs la a1 a2 a3 (hs_pu trivial a4) a5 a6)
theorem wa_lconst {Z : hs_Z} {own : String} {cc : ByteArray} {nL : Nat} {R0 : Room} {k n : Nat} {S : hs_S} {pc : Nat} {lv : List (Nat × hs_V)} {st : List hs_V} (X : hs_C Z own cc nL R0) {z : Fin 2} {v : Int64} (hd : decode cc pc = .ok (.lconst z, 1)) (hv : Int64.ofNat (z : Nat) = v) (kk : wa Z k n S (pc + 1) lv (.inr (.inl v) :: st)) : wa Z k n S pc lv (st) := by
  obtain ⟨p, l, e, R, s, m, args, below, meth, c, D, DA, n0, G0, S0, Qw⟩ := Z
  obtain ⟨hx, hb, hml, hown, hts, hlk, hst, hW, hR⟩ := X
  intro G H locs la a1 a2 a3 a4 a5 a6
  exact lv_lconst hx hb hd hv (kk G H locs la a1 a2 a3 (hs_pu trivial a4) a5 a6)
theorem wa_ldc {Z : hs_Z} {own : String} {cc : ByteArray} {nL : Nat} {R0 : Room} {k n : Nat} {S : hs_S} {pc : Nat} {lv : List (Nat × hs_V)} {st : List hs_V} (X : hs_C Z own cc nL R0) {ix : Nat} {v : Int32} (hc : Cond.constant own ix v ∈ hs_ws) (hd : decode cc pc = .ok (.ldc ix, 2)) (kk : wa Z k n S (pc + 2) lv (.inl v :: st)) : wa Z k n S pc lv (st) := by
  obtain ⟨p, l, e, R, s, m, args, below, meth, c, D, DA, n0, G0, S0, Qw⟩ := Z
  obtain ⟨hx, hb, hml, hown, hts, hlk, hst, hW, hR⟩ := X
  intro G H locs la a1 a2 a3 a4 a5 a6
  exact lv_ldc hx hb hown (hts _ hc) hd (kk G H locs la a1 a2 a3 (hs_pu trivial a4) a5 a6)
theorem wa_ldc_w {Z : hs_Z} {own : String} {cc : ByteArray} {nL : Nat} {R0 : Room} {k n : Nat} {S : hs_S} {pc : Nat} {lv : List (Nat × hs_V)} {st : List hs_V} (X : hs_C Z own cc nL R0) {ix : Nat} {v : Int32} (hc : Cond.constant own ix v ∈ hs_ws) (hd : decode cc pc = .ok (.ldc_w ix, 3)) (kk : wa Z k n S (pc + 3) lv (.inl v :: st)) : wa Z k n S pc lv (st) := by
  obtain ⟨p, l, e, R, s, m, args, below, meth, c, D, DA, n0, G0, S0, Qw⟩ := Z
  obtain ⟨hx, hb, hml, hown, hts, hlk, hst, hW, hR⟩ := X
  intro G H locs la a1 a2 a3 a4 a5 a6
  exact lv_ldcw hx hb hown (hts _ hc) hd (kk G H locs la a1 a2 a3 (hs_pu trivial a4) a5 a6)
theorem wa_ldc2 {Z : hs_Z} {own : String} {cc : ByteArray} {nL : Nat} {R0 : Room} {k n : Nat} {S : hs_S} {pc : Nat} {lv : List (Nat × hs_V)} {st : List hs_V} (X : hs_C Z own cc nL R0) {ix : Nat} {v : Int64} (hc : Cond.constantLong own ix v ∈ hs_ws) (hd : decode cc pc = .ok (.ldc2_w ix, 3)) (kk : wa Z k n S (pc + 3) lv (.inr (.inl v) :: st)) : wa Z k n S pc lv (st) := by
  obtain ⟨p, l, e, R, s, m, args, below, meth, c, D, DA, n0, G0, S0, Qw⟩ := Z
  obtain ⟨hx, hb, hml, hown, hts, hlk, hst, hW, hR⟩ := X
  intro G H locs la a1 a2 a3 a4 a5 a6
  exact lv_ldc2 hx hb hown (hts _ hc) hd (kk G H locs la a1 a2 a3 (hs_pu trivial a4) a5 a6)
theorem wa_null {Z : hs_Z} {own : String} {cc : ByteArray} {nL : Nat} {R0 : Room} {k n : Nat} {S : hs_S} {pc : Nat} {lv : List (Nat × hs_V)} {st : List hs_V} (X : hs_C Z own cc nL R0) {t : Nat} (hd : decode cc pc = .ok (.aconst_null, 1)) (kk : wa Z k n S (pc + 1) lv (.inr (.inr (t, 0)) :: st)) : wa Z k n S pc lv (st) := by
  obtain ⟨p, l, e, R, s, m, args, below, meth, c, D, DA, n0, G0, S0, Qw⟩ := Z
  obtain ⟨hx, hb, hml, hown, hts, hlk, hst, hW, hR⟩ := X
  intro G H locs la a1 a2 a3 a4 a5 a6
  exact lv_null hx hb hd (kk G H locs la a1 a2 a3 (hs_pu (Or.inl rfl) a4) a5 a6)
theorem wa_iload_n {Z : hs_Z} {own : String} {cc : ByteArray} {nL : Nat} {R0 : Room} {k n : Nat} {S : hs_S} {pc : Nat} {lv : List (Nat × hs_V)} {st : List hs_V} (X : hs_C Z own cc nL R0) {z : Fin 4} {i : Nat} {x : Int32} (q : Nat) (hq : lv[q]? = some (i, .inl x)) (hd : decode cc pc = .ok (.iload_n z, 1)) (hi : (z : Nat) = i) (kk : wa Z k n S (pc + 1) lv (.inl x :: st)) : wa Z k n S pc lv (st) := by
  obtain ⟨p, l, e, R, s, m, args, below, meth, c, D, DA, n0, G0, S0, Qw⟩ := Z
  obtain ⟨hx, hb, hml, hown, hts, hlk, hst, hW, hR⟩ := X
  intro G H locs la a1 a2 a3 a4 a5 a6
  exact lv_iload_n hx hb hd hi (hs_lat a6 q hq) (kk G H locs la a1 a2 a3 (hs_pu trivial a4) a5 a6)
theorem wa_iload {Z : hs_Z} {own : String} {cc : ByteArray} {nL : Nat} {R0 : Room} {k n : Nat} {S : hs_S} {pc : Nat} {lv : List (Nat × hs_V)} {st : List hs_V} (X : hs_C Z own cc nL R0) {i : Nat} {x : Int32} (q : Nat) (hq : lv[q]? = some (i, .inl x)) (hd : decode cc pc = .ok (.iload i, 2)) (kk : wa Z k n S (pc + 2) lv (.inl x :: st)) : wa Z k n S pc lv (st) := by
  obtain ⟨p, l, e, R, s, m, args, below, meth, c, D, DA, n0, G0, S0, Qw⟩ := Z
  obtain ⟨hx, hb, hml, hown, hts, hlk, hst, hW, hR⟩ := X
  intro G H locs la a1 a2 a3 a4 a5 a6
  exact lv_iload hx hb hd (hs_lat a6 q hq) (kk G H locs la a1 a2 a3 (hs_pu trivial a4) a5 a6)
theorem wa_lload_n {Z : hs_Z} {own : String} {cc : ByteArray} {nL : Nat} {R0 : Room} {k n : Nat} {S : hs_S} {pc : Nat} {lv : List (Nat × hs_V)} {st : List hs_V} (X : hs_C Z own cc nL R0) {z : Fin 4} {i : Nat} {x : Int64} (q : Nat) (hq : lv[q]? = some (i, .inr (.inl x))) (hd : decode cc pc = .ok (.lload_n z, 1)) (hi : (z : Nat) = i) (kk : wa Z k n S (pc + 1) lv (.inr (.inl x) :: st)) : wa Z k n S pc lv (st) := by
  obtain ⟨p, l, e, R, s, m, args, below, meth, c, D, DA, n0, G0, S0, Qw⟩ := Z
  obtain ⟨hx, hb, hml, hown, hts, hlk, hst, hW, hR⟩ := X
  intro G H locs la a1 a2 a3 a4 a5 a6
  exact lv_lload_n hx hb hd hi (hs_lat a6 q hq) (kk G H locs la a1 a2 a3 (hs_pu trivial a4) a5 a6)
theorem wa_lload {Z : hs_Z} {own : String} {cc : ByteArray} {nL : Nat} {R0 : Room} {k n : Nat} {S : hs_S} {pc : Nat} {lv : List (Nat × hs_V)} {st : List hs_V} (X : hs_C Z own cc nL R0) {i : Nat} {x : Int64} (q : Nat) (hq : lv[q]? = some (i, .inr (.inl x))) (hd : decode cc pc = .ok (.lload i, 2)) (kk : wa Z k n S (pc + 2) lv (.inr (.inl x) :: st)) : wa Z k n S pc lv (st) := by
  obtain ⟨p, l, e, R, s, m, args, below, meth, c, D, DA, n0, G0, S0, Qw⟩ := Z
  obtain ⟨hx, hb, hml, hown, hts, hlk, hst, hW, hR⟩ := X
  intro G H locs la a1 a2 a3 a4 a5 a6
  exact lv_lload hx hb hd (hs_lat a6 q hq) (kk G H locs la a1 a2 a3 (hs_pu trivial a4) a5 a6)
theorem wa_aload_n {Z : hs_Z} {own : String} {cc : ByteArray} {nL : Nat} {R0 : Room} {k n : Nat} {S : hs_S} {pc : Nat} {lv : List (Nat × hs_V)} {st : List hs_V} (X : hs_C Z own cc nL R0) {z : Fin 4} {i : Nat} {t r : Nat} (q : Nat) (hq : lv[q]? = some (i, .inr (.inr (t, r)))) (hd : decode cc pc = .ok (.aload_n z, 1)) (hi : (z : Nat) = i) (kk : wa Z k n S (pc + 1) lv (.inr (.inr (t, r)) :: st)) : wa Z k n S pc lv (st) := by
  obtain ⟨p, l, e, R, s, m, args, below, meth, c, D, DA, n0, G0, S0, Qw⟩ := Z
  obtain ⟨hx, hb, hml, hown, hts, hlk, hst, hW, hR⟩ := X
  intro G H locs la a1 a2 a3 a4 a5 a6
  have hh := kk G H locs la a1 a2 a3 (hs_pu (hs_lvv a3 hq) a4) a5 a6
  have hg := hs_lat a6 q hq
  by_cases h0 : r = 0
  · subst h0
    exact lv_aload_nN hx hb hd hi hg hh
  · rw [List.map_cons, hs_c_ref h0] at hh
    rw [hs_c_ref h0] at hg
    exact lv_aload_n hx hb hd hi hg hh
theorem wa_aload {Z : hs_Z} {own : String} {cc : ByteArray} {nL : Nat} {R0 : Room} {k n : Nat} {S : hs_S} {pc : Nat} {lv : List (Nat × hs_V)} {st : List hs_V} (X : hs_C Z own cc nL R0) {i : Nat} {t r : Nat} (q : Nat) (hq : lv[q]? = some (i, .inr (.inr (t, r)))) (hd : decode cc pc = .ok (.aload i, 2)) (kk : wa Z k n S (pc + 2) lv (.inr (.inr (t, r)) :: st)) : wa Z k n S pc lv (st) := by
  obtain ⟨p, l, e, R, s, m, args, below, meth, c, D, DA, n0, G0, S0, Qw⟩ := Z
  obtain ⟨hx, hb, hml, hown, hts, hlk, hst, hW, hR⟩ := X
  intro G H locs la a1 a2 a3 a4 a5 a6
  have hh := kk G H locs la a1 a2 a3 (hs_pu (hs_lvv a3 hq) a4) a5 a6
  have hg := hs_lat a6 q hq
  by_cases h0 : r = 0
  · subst h0
    exact lv_aloadN hx hb hd hg hh
  · rw [List.map_cons, hs_c_ref h0] at hh
    rw [hs_c_ref h0] at hg
    exact lv_aload hx hb hd hg hh
theorem wa_istore_n {Z : hs_Z} {own : String} {cc : ByteArray} {nL : Nat} {R0 : Room} {k n : Nat} {S : hs_S} {pc : Nat} {lv : List (Nat × hs_V)} {st : List hs_V} (X : hs_C Z own cc nL R0) {z : Fin 4} {i : Nat} {x : Int32} {lv' : List (Nat × hs_V)} (hd : decode cc pc = .ok (.istore_n z, 1)) (hi : (z : Nat) = i) (hn : i < nL) (hl : hs_st1 i (.inl x) lv = lv') (kk : wa Z k n S (pc + 1) lv' (st)) : wa Z k n S pc lv (.inl x :: st) := by
  obtain ⟨p, l, e, R, s, m, args, below, meth, c, D, DA, n0, G0, S0, Qw⟩ := Z
  obtain ⟨hx, hb, hml, hown, hts, hlk, hst, hW, hR⟩ := X
  intro G H locs la a1 a2 a3 a4 a5 a6
  subst hl
  exact lv_istore_n hx hb hd hi a6 (hml ▸ hn) (hs_st1_map G.1 i (.inl x) lv) (fun la2 b6 => kk G H locs la2 a1 a2 (hs_st1_v a3 trivial) (hs_n1 a4) a5 b6)
theorem wa_istore {Z : hs_Z} {own : String} {cc : ByteArray} {nL : Nat} {R0 : Room} {k n : Nat} {S : hs_S} {pc : Nat} {lv : List (Nat × hs_V)} {st : List hs_V} (X : hs_C Z own cc nL R0) {i : Nat} {x : Int32} {lv' : List (Nat × hs_V)} (hd : decode cc pc = .ok (.istore i, 2)) (hn : i < nL) (hl : hs_st1 i (.inl x) lv = lv') (kk : wa Z k n S (pc + 2) lv' (st)) : wa Z k n S pc lv (.inl x :: st) := by
  obtain ⟨p, l, e, R, s, m, args, below, meth, c, D, DA, n0, G0, S0, Qw⟩ := Z
  obtain ⟨hx, hb, hml, hown, hts, hlk, hst, hW, hR⟩ := X
  intro G H locs la a1 a2 a3 a4 a5 a6
  subst hl
  exact lv_istore hx hb hd a6 (hml ▸ hn) (hs_st1_map G.1 i (.inl x) lv) (fun la2 b6 => kk G H locs la2 a1 a2 (hs_st1_v a3 trivial) (hs_n1 a4) a5 b6)
theorem wa_lstore_n {Z : hs_Z} {own : String} {cc : ByteArray} {nL : Nat} {R0 : Room} {k n : Nat} {S : hs_S} {pc : Nat} {lv : List (Nat × hs_V)} {st : List hs_V} (X : hs_C Z own cc nL R0) {z : Fin 4} {i : Nat} {x : Int64} {lv' : List (Nat × hs_V)} (hd : decode cc pc = .ok (.lstore_n z, 1)) (hi : (z : Nat) = i) (hn : i + 1 < nL) (hl : hs_st2 i (.inr (.inl x)) lv = lv') (kk : wa Z k n S (pc + 1) lv' (st)) : wa Z k n S pc lv (.inr (.inl x) :: st) := by
  obtain ⟨p, l, e, R, s, m, args, below, meth, c, D, DA, n0, G0, S0, Qw⟩ := Z
  obtain ⟨hx, hb, hml, hown, hts, hlk, hst, hW, hR⟩ := X
  intro G H locs la a1 a2 a3 a4 a5 a6
  subst hl
  exact lv_lstore_n hx hb hd hi a6 (hml ▸ hn) (hs_st2_map G.1 i (.inr (.inl x)) lv) (fun la2 b6 => kk G H locs la2 a1 a2 (hs_st2_v a3 trivial) (hs_n1 a4) a5 b6)
theorem wa_lstore {Z : hs_Z} {own : String} {cc : ByteArray} {nL : Nat} {R0 : Room} {k n : Nat} {S : hs_S} {pc : Nat} {lv : List (Nat × hs_V)} {st : List hs_V} (X : hs_C Z own cc nL R0) {i : Nat} {x : Int64} {lv' : List (Nat × hs_V)} (hd : decode cc pc = .ok (.lstore i, 2)) (hn : i + 1 < nL) (hl : hs_st2 i (.inr (.inl x)) lv = lv') (kk : wa Z k n S (pc + 2) lv' (st)) : wa Z k n S pc lv (.inr (.inl x) :: st) := by
  obtain ⟨p, l, e, R, s, m, args, below, meth, c, D, DA, n0, G0, S0, Qw⟩ := Z
  obtain ⟨hx, hb, hml, hown, hts, hlk, hst, hW, hR⟩ := X
  intro G H locs la a1 a2 a3 a4 a5 a6
  subst hl
  exact lv_lstore hx hb hd a6 (hml ▸ hn) (hs_st2_map G.1 i (.inr (.inl x)) lv) (fun la2 b6 => kk G H locs la2 a1 a2 (hs_st2_v a3 trivial) (hs_n1 a4) a5 b6)
theorem wa_astore_n {Z : hs_Z} {own : String} {cc : ByteArray} {nL : Nat} {R0 : Room} {k n : Nat} {S : hs_S} {pc : Nat} {lv : List (Nat × hs_V)} {st : List hs_V} (X : hs_C Z own cc nL R0) {z : Fin 4} {i : Nat} {t r : Nat} {lv' : List (Nat × hs_V)} (hd : decode cc pc = .ok (.astore_n z, 1)) (hi : (z : Nat) = i) (hn : i < nL) (hl : hs_st1 i (.inr (.inr (t, r))) lv = lv') (kk : wa Z k n S (pc + 1) lv' (st)) : wa Z k n S pc lv (.inr (.inr (t, r)) :: st) := by
  obtain ⟨p, l, e, R, s, m, args, below, meth, c, D, DA, n0, G0, S0, Qw⟩ := Z
  obtain ⟨hx, hb, hml, hown, hts, hlk, hst, hW, hR⟩ := X
  intro G H locs la a1 a2 a3 a4 a5 a6
  subst hl
  have hm := hs_st1_map G.1 i (.inr (.inr (t, r))) lv
  have hh : ∀ la2, lv_has la2 c.maxLocals ((hs_st1 i (.inr (.inr (t, r))) lv).map fun q => (q.1, hs_c G.1 q.2)) → W p l e R s m args below meth c H locs k n Qw (F0 m (pc + 1) la2 (st.map (hs_c G.1))) := fun la2 b6 => kk G H locs la2 a1 a2 (hs_st1_v a3 (hs_h1 a4)) (hs_n1 a4) a5 b6
  rw [List.map_cons]
  by_cases h0 : r = 0
  · subst h0
    exact lv_astore_nN hx hb hd hi a6 (hml ▸ hn) hm hh
  · rw [hs_c_ref h0] at hm ⊢
    exact lv_astore_n hx hb hd hi a6 (hml ▸ hn) hm hh
theorem wa_astore {Z : hs_Z} {own : String} {cc : ByteArray} {nL : Nat} {R0 : Room} {k n : Nat} {S : hs_S} {pc : Nat} {lv : List (Nat × hs_V)} {st : List hs_V} (X : hs_C Z own cc nL R0) {i : Nat} {t r : Nat} {lv' : List (Nat × hs_V)} (hd : decode cc pc = .ok (.astore i, 2)) (hn : i < nL) (hl : hs_st1 i (.inr (.inr (t, r))) lv = lv') (kk : wa Z k n S (pc + 2) lv' (st)) : wa Z k n S pc lv (.inr (.inr (t, r)) :: st) := by
  obtain ⟨p, l, e, R, s, m, args, below, meth, c, D, DA, n0, G0, S0, Qw⟩ := Z
  obtain ⟨hx, hb, hml, hown, hts, hlk, hst, hW, hR⟩ := X
  intro G H locs la a1 a2 a3 a4 a5 a6
  subst hl
  have hm := hs_st1_map G.1 i (.inr (.inr (t, r))) lv
  have hh : ∀ la2, lv_has la2 c.maxLocals ((hs_st1 i (.inr (.inr (t, r))) lv).map fun q => (q.1, hs_c G.1 q.2)) → W p l e R s m args below meth c H locs k n Qw (F0 m (pc + 2) la2 (st.map (hs_c G.1))) := fun la2 b6 => kk G H locs la2 a1 a2 (hs_st1_v a3 (hs_h1 a4)) (hs_n1 a4) a5 b6
  rw [List.map_cons]
  by_cases h0 : r = 0
  · subst h0
    exact lv_astoreN hx hb hd a6 (hml ▸ hn) hm hh
  · rw [hs_c_ref h0] at hm ⊢
    exact lv_astore hx hb hd a6 (hml ▸ hn) hm hh
theorem wa_iinc {Z : hs_Z} {own : String} {cc : ByteArray} {nL : Nat} {R0 : Room} {k n : Nat} {S : hs_S} {pc : Nat} {lv : List (Nat × hs_V)} {st : List hs_V} (X : hs_C Z own cc nL R0) {i : Nat} {z : Int} {x v : Int32} {lv' : List (Nat × hs_V)} (q : Nat) (hq : lv[q]? = some (i, .inl x)) (hd : decode cc pc = .ok (.iinc i z, 3)) (hv : x + Int32.ofInt z = v) (hn : i < nL) (hl : hs_st1 i (.inl v) lv = lv') (kk : wa Z k n S (pc + 3) lv' (st)) : wa Z k n S pc lv (st) := by
  obtain ⟨p, l, e, R, s, m, args, below, meth, c, D, DA, n0, G0, S0, Qw⟩ := Z
  obtain ⟨hx, hb, hml, hown, hts, hlk, hst, hW, hR⟩ := X
  intro G H locs la a1 a2 a3 a4 a5 a6
  subst hl
  exact lv_iinc hx hb hd a6 (k := q) (by rw [List.getElem?_map, hq]; rfl) hv (hml ▸ hn) (hs_st1_map G.1 i (.inl v) lv) (fun la2 b6 => kk G H locs la2 a1 a2 (hs_st1_v a3 trivial) a4 a5 b6)
theorem wa_iadd {Z : hs_Z} {own : String} {cc : ByteArray} {nL : Nat} {R0 : Room} {k n : Nat} {S : hs_S} {pc : Nat} {lv : List (Nat × hs_V)} {st : List hs_V} (X : hs_C Z own cc nL R0) {x y : Int32} (hd : decode cc pc = .ok (.iadd, 1)) (kk : wa Z k n S (pc + 1) lv (.inl (x + y) :: st)) : wa Z k n S pc lv (.inl y :: .inl x :: st) := by
  obtain ⟨p, l, e, R, s, m, args, below, meth, c, D, DA, n0, G0, S0, Qw⟩ := Z
  obtain ⟨hx, hb, hml, hown, hts, hlk, hst, hW, hR⟩ := X
  intro G H locs la a1 a2 a3 a4 a5 a6
  exact lv_iadd hx hb hd (kk G H locs la a1 a2 a3 (hs_pu trivial (hs_n2 a4)) a5 a6)
theorem wa_isub {Z : hs_Z} {own : String} {cc : ByteArray} {nL : Nat} {R0 : Room} {k n : Nat} {S : hs_S} {pc : Nat} {lv : List (Nat × hs_V)} {st : List hs_V} (X : hs_C Z own cc nL R0) {x y : Int32} (hd : decode cc pc = .ok (.isub, 1)) (kk : wa Z k n S (pc + 1) lv (.inl (x - y) :: st)) : wa Z k n S pc lv (.inl y :: .inl x :: st) := by
  obtain ⟨p, l, e, R, s, m, args, below, meth, c, D, DA, n0, G0, S0, Qw⟩ := Z
  obtain ⟨hx, hb, hml, hown, hts, hlk, hst, hW, hR⟩ := X
  intro G H locs la a1 a2 a3 a4 a5 a6
  exact lv_isub hx hb hd (kk G H locs la a1 a2 a3 (hs_pu trivial (hs_n2 a4)) a5 a6)
theorem wa_imul {Z : hs_Z} {own : String} {cc : ByteArray} {nL : Nat} {R0 : Room} {k n : Nat} {S : hs_S} {pc : Nat} {lv : List (Nat × hs_V)} {st : List hs_V} (X : hs_C Z own cc nL R0) {x y : Int32} (hd : decode cc pc = .ok (.imul, 1)) (kk : wa Z k n S (pc + 1) lv (.inl (x * y) :: st)) : wa Z k n S pc lv (.inl y :: .inl x :: st) := by
  obtain ⟨p, l, e, R, s, m, args, below, meth, c, D, DA, n0, G0, S0, Qw⟩ := Z
  obtain ⟨hx, hb, hml, hown, hts, hlk, hst, hW, hR⟩ := X
  intro G H locs la a1 a2 a3 a4 a5 a6
  exact lv_imul hx hb hd (kk G H locs la a1 a2 a3 (hs_pu trivial (hs_n2 a4)) a5 a6)
theorem wa_iand {Z : hs_Z} {own : String} {cc : ByteArray} {nL : Nat} {R0 : Room} {k n : Nat} {S : hs_S} {pc : Nat} {lv : List (Nat × hs_V)} {st : List hs_V} (X : hs_C Z own cc nL R0) {x y : Int32} (hd : decode cc pc = .ok (.iand, 1)) (kk : wa Z k n S (pc + 1) lv (.inl (x &&& y) :: st)) : wa Z k n S pc lv (.inl y :: .inl x :: st) := by
  obtain ⟨p, l, e, R, s, m, args, below, meth, c, D, DA, n0, G0, S0, Qw⟩ := Z
  obtain ⟨hx, hb, hml, hown, hts, hlk, hst, hW, hR⟩ := X
  intro G H locs la a1 a2 a3 a4 a5 a6
  exact lv_iand hx hb hd (kk G H locs la a1 a2 a3 (hs_pu trivial (hs_n2 a4)) a5 a6)
theorem wa_ior {Z : hs_Z} {own : String} {cc : ByteArray} {nL : Nat} {R0 : Room} {k n : Nat} {S : hs_S} {pc : Nat} {lv : List (Nat × hs_V)} {st : List hs_V} (X : hs_C Z own cc nL R0) {x y : Int32} (hd : decode cc pc = .ok (.ior, 1)) (kk : wa Z k n S (pc + 1) lv (.inl (x ||| y) :: st)) : wa Z k n S pc lv (.inl y :: .inl x :: st) := by
  obtain ⟨p, l, e, R, s, m, args, below, meth, c, D, DA, n0, G0, S0, Qw⟩ := Z
  obtain ⟨hx, hb, hml, hown, hts, hlk, hst, hW, hR⟩ := X
  intro G H locs la a1 a2 a3 a4 a5 a6
  exact lv_ior hx hb hd (kk G H locs la a1 a2 a3 (hs_pu trivial (hs_n2 a4)) a5 a6)
theorem wa_ixor {Z : hs_Z} {own : String} {cc : ByteArray} {nL : Nat} {R0 : Room} {k n : Nat} {S : hs_S} {pc : Nat} {lv : List (Nat × hs_V)} {st : List hs_V} (X : hs_C Z own cc nL R0) {x y : Int32} (hd : decode cc pc = .ok (.ixor, 1)) (kk : wa Z k n S (pc + 1) lv (.inl (x ^^^ y) :: st)) : wa Z k n S pc lv (.inl y :: .inl x :: st) := by
  obtain ⟨p, l, e, R, s, m, args, below, meth, c, D, DA, n0, G0, S0, Qw⟩ := Z
  obtain ⟨hx, hb, hml, hown, hts, hlk, hst, hW, hR⟩ := X
  intro G H locs la a1 a2 a3 a4 a5 a6
  exact lv_ixor hx hb hd (kk G H locs la a1 a2 a3 (hs_pu trivial (hs_n2 a4)) a5 a6)
theorem wa_ishl {Z : hs_Z} {own : String} {cc : ByteArray} {nL : Nat} {R0 : Room} {k n : Nat} {S : hs_S} {pc : Nat} {lv : List (Nat × hs_V)} {st : List hs_V} (X : hs_C Z own cc nL R0) {x y : Int32} (hd : decode cc pc = .ok (.ishl, 1)) (kk : wa Z k n S (pc + 1) lv (.inl (x <<< (y &&& 31)) :: st)) : wa Z k n S pc lv (.inl y :: .inl x :: st) := by
  obtain ⟨p, l, e, R, s, m, args, below, meth, c, D, DA, n0, G0, S0, Qw⟩ := Z
  obtain ⟨hx, hb, hml, hown, hts, hlk, hst, hW, hR⟩ := X
  intro G H locs la a1 a2 a3 a4 a5 a6
  exact lv_ishl hx hb hd (kk G H locs la a1 a2 a3 (hs_pu trivial (hs_n2 a4)) a5 a6)
theorem wa_ishr {Z : hs_Z} {own : String} {cc : ByteArray} {nL : Nat} {R0 : Room} {k n : Nat} {S : hs_S} {pc : Nat} {lv : List (Nat × hs_V)} {st : List hs_V} (X : hs_C Z own cc nL R0) {x y : Int32} (hd : decode cc pc = .ok (.ishr, 1)) (kk : wa Z k n S (pc + 1) lv (.inl (x >>> (y &&& 31)) :: st)) : wa Z k n S pc lv (.inl y :: .inl x :: st) := by
  obtain ⟨p, l, e, R, s, m, args, below, meth, c, D, DA, n0, G0, S0, Qw⟩ := Z
  obtain ⟨hx, hb, hml, hown, hts, hlk, hst, hW, hR⟩ := X
  intro G H locs la a1 a2 a3 a4 a5 a6
  exact lv_ishr hx hb hd (kk G H locs la a1 a2 a3 (hs_pu trivial (hs_n2 a4)) a5 a6)
theorem wa_idiv {Z : hs_Z} {own : String} {cc : ByteArray} {nL : Nat} {R0 : Room} {k n : Nat} {S : hs_S} {pc : Nat} {lv : List (Nat × hs_V)} {st : List hs_V} (X : hs_C Z own cc nL R0) {x y : Int32} (hd : decode cc pc = .ok (.idiv, 1)) (hne : ¬ y = 0) (kk : wa Z k n S (pc + 1) lv (.inl (x / y) :: st)) : wa Z k n S pc lv (.inl y :: .inl x :: st) := by
  obtain ⟨p, l, e, R, s, m, args, below, meth, c, D, DA, n0, G0, S0, Qw⟩ := Z
  obtain ⟨hx, hb, hml, hown, hts, hlk, hst, hW, hR⟩ := X
  intro G H locs la a1 a2 a3 a4 a5 a6
  exact lv_idiv hx hb hd hne (kk G H locs la a1 a2 a3 (hs_pu trivial (hs_n2 a4)) a5 a6)
theorem wa_irem {Z : hs_Z} {own : String} {cc : ByteArray} {nL : Nat} {R0 : Room} {k n : Nat} {S : hs_S} {pc : Nat} {lv : List (Nat × hs_V)} {st : List hs_V} (X : hs_C Z own cc nL R0) {x y : Int32} (hd : decode cc pc = .ok (.irem, 1)) (hne : ¬ y = 0) (kk : wa Z k n S (pc + 1) lv (.inl (x - x / y * y) :: st)) : wa Z k n S pc lv (.inl y :: .inl x :: st) := by
  obtain ⟨p, l, e, R, s, m, args, below, meth, c, D, DA, n0, G0, S0, Qw⟩ := Z
  obtain ⟨hx, hb, hml, hown, hts, hlk, hst, hW, hR⟩ := X
  intro G H locs la a1 a2 a3 a4 a5 a6
  exact lv_irem hx hb hd hne (kk G H locs la a1 a2 a3 (hs_pu trivial (hs_n2 a4)) a5 a6)
theorem wa_iushr {Z : hs_Z} {own : String} {cc : ByteArray} {nL : Nat} {R0 : Room} {k n : Nat} {S : hs_S} {pc : Nat} {lv : List (Nat × hs_V)} {st : List hs_V} (X : hs_C Z own cc nL R0) {x y : Int32} (hd : decode cc pc = .ok (.iushr, 1)) (kk : wa Z k n S (pc + 1) lv (.inl (hs_ushr x y) :: st)) : wa Z k n S pc lv (.inl y :: .inl x :: st) := by
  obtain ⟨p, l, e, R, s, m, args, below, meth, c, D, DA, n0, G0, S0, Qw⟩ := Z
  obtain ⟨hx, hb, hml, hown, hts, hlk, hst, hW, hR⟩ := X
  intro G H locs la a1 a2 a3 a4 a5 a6
  exact lv_iushr hx hb hd rfl (kk G H locs la a1 a2 a3 (hs_pu trivial (hs_n2 a4)) a5 a6)
theorem wa_ineg {Z : hs_Z} {own : String} {cc : ByteArray} {nL : Nat} {R0 : Room} {k n : Nat} {S : hs_S} {pc : Nat} {lv : List (Nat × hs_V)} {st : List hs_V} (X : hs_C Z own cc nL R0) {x : Int32} (hd : decode cc pc = .ok (.ineg, 1)) (kk : wa Z k n S (pc + 1) lv (.inl (-x) :: st)) : wa Z k n S pc lv (.inl x :: st) := by
  obtain ⟨p, l, e, R, s, m, args, below, meth, c, D, DA, n0, G0, S0, Qw⟩ := Z
  obtain ⟨hx, hb, hml, hown, hts, hlk, hst, hW, hR⟩ := X
  intro G H locs la a1 a2 a3 a4 a5 a6
  exact lv_ineg hx hb hd (kk G H locs la a1 a2 a3 (hs_pu trivial (hs_n1 a4)) a5 a6)
theorem wa_ladd {Z : hs_Z} {own : String} {cc : ByteArray} {nL : Nat} {R0 : Room} {k n : Nat} {S : hs_S} {pc : Nat} {lv : List (Nat × hs_V)} {st : List hs_V} (X : hs_C Z own cc nL R0) {x y : Int64} (hd : decode cc pc = .ok (.ladd, 1)) (kk : wa Z k n S (pc + 1) lv (.inr (.inl (x + y)) :: st)) : wa Z k n S pc lv (.inr (.inl y) :: .inr (.inl x) :: st) := by
  obtain ⟨p, l, e, R, s, m, args, below, meth, c, D, DA, n0, G0, S0, Qw⟩ := Z
  obtain ⟨hx, hb, hml, hown, hts, hlk, hst, hW, hR⟩ := X
  intro G H locs la a1 a2 a3 a4 a5 a6
  exact lv_ladd hx hb hd (kk G H locs la a1 a2 a3 (hs_pu trivial (hs_n2 a4)) a5 a6)
theorem wa_lsub {Z : hs_Z} {own : String} {cc : ByteArray} {nL : Nat} {R0 : Room} {k n : Nat} {S : hs_S} {pc : Nat} {lv : List (Nat × hs_V)} {st : List hs_V} (X : hs_C Z own cc nL R0) {x y : Int64} (hd : decode cc pc = .ok (.lsub, 1)) (kk : wa Z k n S (pc + 1) lv (.inr (.inl (x - y)) :: st)) : wa Z k n S pc lv (.inr (.inl y) :: .inr (.inl x) :: st) := by
  obtain ⟨p, l, e, R, s, m, args, below, meth, c, D, DA, n0, G0, S0, Qw⟩ := Z
  obtain ⟨hx, hb, hml, hown, hts, hlk, hst, hW, hR⟩ := X
  intro G H locs la a1 a2 a3 a4 a5 a6
  exact lv_lsub hx hb hd (kk G H locs la a1 a2 a3 (hs_pu trivial (hs_n2 a4)) a5 a6)
theorem wa_lmul {Z : hs_Z} {own : String} {cc : ByteArray} {nL : Nat} {R0 : Room} {k n : Nat} {S : hs_S} {pc : Nat} {lv : List (Nat × hs_V)} {st : List hs_V} (X : hs_C Z own cc nL R0) {x y : Int64} (hd : decode cc pc = .ok (.lmul, 1)) (kk : wa Z k n S (pc + 1) lv (.inr (.inl (x * y)) :: st)) : wa Z k n S pc lv (.inr (.inl y) :: .inr (.inl x) :: st) := by
  obtain ⟨p, l, e, R, s, m, args, below, meth, c, D, DA, n0, G0, S0, Qw⟩ := Z
  obtain ⟨hx, hb, hml, hown, hts, hlk, hst, hW, hR⟩ := X
  intro G H locs la a1 a2 a3 a4 a5 a6
  exact lv_lmul hx hb hd (kk G H locs la a1 a2 a3 (hs_pu trivial (hs_n2 a4)) a5 a6)
theorem wa_land {Z : hs_Z} {own : String} {cc : ByteArray} {nL : Nat} {R0 : Room} {k n : Nat} {S : hs_S} {pc : Nat} {lv : List (Nat × hs_V)} {st : List hs_V} (X : hs_C Z own cc nL R0) {x y : Int64} (hd : decode cc pc = .ok (.land, 1)) (kk : wa Z k n S (pc + 1) lv (.inr (.inl (x &&& y)) :: st)) : wa Z k n S pc lv (.inr (.inl y) :: .inr (.inl x) :: st) := by
  obtain ⟨p, l, e, R, s, m, args, below, meth, c, D, DA, n0, G0, S0, Qw⟩ := Z
  obtain ⟨hx, hb, hml, hown, hts, hlk, hst, hW, hR⟩ := X
  intro G H locs la a1 a2 a3 a4 a5 a6
  exact lv_land hx hb hd (kk G H locs la a1 a2 a3 (hs_pu trivial (hs_n2 a4)) a5 a6)
theorem wa_lor {Z : hs_Z} {own : String} {cc : ByteArray} {nL : Nat} {R0 : Room} {k n : Nat} {S : hs_S} {pc : Nat} {lv : List (Nat × hs_V)} {st : List hs_V} (X : hs_C Z own cc nL R0) {x y : Int64} (hd : decode cc pc = .ok (.lor, 1)) (kk : wa Z k n S (pc + 1) lv (.inr (.inl (x ||| y)) :: st)) : wa Z k n S pc lv (.inr (.inl y) :: .inr (.inl x) :: st) := by
  obtain ⟨p, l, e, R, s, m, args, below, meth, c, D, DA, n0, G0, S0, Qw⟩ := Z
  obtain ⟨hx, hb, hml, hown, hts, hlk, hst, hW, hR⟩ := X
  intro G H locs la a1 a2 a3 a4 a5 a6
  exact lv_lor hx hb hd (kk G H locs la a1 a2 a3 (hs_pu trivial (hs_n2 a4)) a5 a6)
theorem wa_ldiv {Z : hs_Z} {own : String} {cc : ByteArray} {nL : Nat} {R0 : Room} {k n : Nat} {S : hs_S} {pc : Nat} {lv : List (Nat × hs_V)} {st : List hs_V} (X : hs_C Z own cc nL R0) {x y : Int64} (hd : decode cc pc = .ok (.ldiv, 1)) (hne : ¬ y = 0) (kk : wa Z k n S (pc + 1) lv (.inr (.inl (x / y)) :: st)) : wa Z k n S pc lv (.inr (.inl y) :: .inr (.inl x) :: st) := by
  obtain ⟨p, l, e, R, s, m, args, below, meth, c, D, DA, n0, G0, S0, Qw⟩ := Z
  obtain ⟨hx, hb, hml, hown, hts, hlk, hst, hW, hR⟩ := X
  intro G H locs la a1 a2 a3 a4 a5 a6
  exact lv_ldiv hx hb hd hne (kk G H locs la a1 a2 a3 (hs_pu trivial (hs_n2 a4)) a5 a6)
theorem wa_lneg {Z : hs_Z} {own : String} {cc : ByteArray} {nL : Nat} {R0 : Room} {k n : Nat} {S : hs_S} {pc : Nat} {lv : List (Nat × hs_V)} {st : List hs_V} (X : hs_C Z own cc nL R0) {x : Int64} (hd : decode cc pc = .ok (.lneg, 1)) (kk : wa Z k n S (pc + 1) lv (.inr (.inl (-x)) :: st)) : wa Z k n S pc lv (.inr (.inl x) :: st) := by
  obtain ⟨p, l, e, R, s, m, args, below, meth, c, D, DA, n0, G0, S0, Qw⟩ := Z
  obtain ⟨hx, hb, hml, hown, hts, hlk, hst, hW, hR⟩ := X
  intro G H locs la a1 a2 a3 a4 a5 a6
  exact lv_lneg hx hb hd (kk G H locs la a1 a2 a3 (hs_pu trivial (hs_n1 a4)) a5 a6)
theorem wa_lshl {Z : hs_Z} {own : String} {cc : ByteArray} {nL : Nat} {R0 : Room} {k n : Nat} {S : hs_S} {pc : Nat} {lv : List (Nat × hs_V)} {st : List hs_V} (X : hs_C Z own cc nL R0) {x : Int64} {y : Int32} (hd : decode cc pc = .ok (.lshl, 1)) (kk : wa Z k n S (pc + 1) lv (.inr (.inl (x <<< (y.toInt64 &&& 63))) :: st)) : wa Z k n S pc lv (.inl y :: .inr (.inl x) :: st) := by
  obtain ⟨p, l, e, R, s, m, args, below, meth, c, D, DA, n0, G0, S0, Qw⟩ := Z
  obtain ⟨hx, hb, hml, hown, hts, hlk, hst, hW, hR⟩ := X
  intro G H locs la a1 a2 a3 a4 a5 a6
  exact lv_lshl hx hb hd rfl (kk G H locs la a1 a2 a3 (hs_pu trivial (hs_n2 a4)) a5 a6)
theorem wa_lshr {Z : hs_Z} {own : String} {cc : ByteArray} {nL : Nat} {R0 : Room} {k n : Nat} {S : hs_S} {pc : Nat} {lv : List (Nat × hs_V)} {st : List hs_V} (X : hs_C Z own cc nL R0) {x : Int64} {y : Int32} (hd : decode cc pc = .ok (.lshr, 1)) (kk : wa Z k n S (pc + 1) lv (.inr (.inl (x >>> (y.toInt64 &&& 63))) :: st)) : wa Z k n S pc lv (.inl y :: .inr (.inl x) :: st) := by
  obtain ⟨p, l, e, R, s, m, args, below, meth, c, D, DA, n0, G0, S0, Qw⟩ := Z
  obtain ⟨hx, hb, hml, hown, hts, hlk, hst, hW, hR⟩ := X
  intro G H locs la a1 a2 a3 a4 a5 a6
  exact lv_lshr hx hb hd rfl (kk G H locs la a1 a2 a3 (hs_pu trivial (hs_n2 a4)) a5 a6)
theorem wa_lcmp {Z : hs_Z} {own : String} {cc : ByteArray} {nL : Nat} {R0 : Room} {k n : Nat} {S : hs_S} {pc : Nat} {lv : List (Nat × hs_V)} {st : List hs_V} (X : hs_C Z own cc nL R0) {x y : Int64} (hd : decode cc pc = .ok (.lcmp, 1)) (kk : wa Z k n S (pc + 1) lv (.inl (lg_cmp x y) :: st)) : wa Z k n S pc lv (.inr (.inl y) :: .inr (.inl x) :: st) := by
  obtain ⟨p, l, e, R, s, m, args, below, meth, c, D, DA, n0, G0, S0, Qw⟩ := Z
  obtain ⟨hx, hb, hml, hown, hts, hlk, hst, hW, hR⟩ := X
  intro G H locs la a1 a2 a3 a4 a5 a6
  exact W.lcmp hx hb hd (kk G H locs la a1 a2 a3 (hs_pu trivial (hs_n2 a4)) a5 a6)
theorem wa_i2l {Z : hs_Z} {own : String} {cc : ByteArray} {nL : Nat} {R0 : Room} {k n : Nat} {S : hs_S} {pc : Nat} {lv : List (Nat × hs_V)} {st : List hs_V} (X : hs_C Z own cc nL R0) {x : Int32} (hd : decode cc pc = .ok (.i2l, 1)) (kk : wa Z k n S (pc + 1) lv (.inr (.inl (x.toInt64)) :: st)) : wa Z k n S pc lv (.inl x :: st) := by
  obtain ⟨p, l, e, R, s, m, args, below, meth, c, D, DA, n0, G0, S0, Qw⟩ := Z
  obtain ⟨hx, hb, hml, hown, hts, hlk, hst, hW, hR⟩ := X
  intro G H locs la a1 a2 a3 a4 a5 a6
  exact lv_i2l hx hb hd rfl (kk G H locs la a1 a2 a3 (hs_pu trivial (hs_n1 a4)) a5 a6)
theorem wa_l2i {Z : hs_Z} {own : String} {cc : ByteArray} {nL : Nat} {R0 : Room} {k n : Nat} {S : hs_S} {pc : Nat} {lv : List (Nat × hs_V)} {st : List hs_V} (X : hs_C Z own cc nL R0) {x : Int64} (hd : decode cc pc = .ok (.l2i, 1)) (kk : wa Z k n S (pc + 1) lv (.inl (x.toInt32) :: st)) : wa Z k n S pc lv (.inr (.inl x) :: st) := by
  obtain ⟨p, l, e, R, s, m, args, below, meth, c, D, DA, n0, G0, S0, Qw⟩ := Z
  obtain ⟨hx, hb, hml, hown, hts, hlk, hst, hW, hR⟩ := X
  intro G H locs la a1 a2 a3 a4 a5 a6
  exact lv_l2i hx hb hd rfl (kk G H locs la a1 a2 a3 (hs_pu trivial (hs_n1 a4)) a5 a6)
theorem wa_dup {Z : hs_Z} {own : String} {cc : ByteArray} {nL : Nat} {R0 : Room} {k n : Nat} {S : hs_S} {pc : Nat} {lv : List (Nat × hs_V)} {st : List hs_V} (X : hs_C Z own cc nL R0) {v : hs_V} (hd : decode cc pc = .ok (.dup, 1)) (hv : hs_cat v = 1) (kk : wa Z k n S (pc + 1) lv (v :: v :: st)) : wa Z k n S pc lv (v :: st) := by
  obtain ⟨p, l, e, R, s, m, args, below, meth, c, D, DA, n0, G0, S0, Qw⟩ := Z
  obtain ⟨hx, hb, hml, hown, hts, hlk, hst, hW, hR⟩ := X
  intro G H locs la a1 a2 a3 a4 a5 a6
  exact lv_dup hx hb hd (by rw [hs_c_cat]; exact hv) (kk G H locs la a1 a2 a3 (hs_pu (hs_h1 a4) a4) a5 a6)
theorem wa_pop {Z : hs_Z} {own : String} {cc : ByteArray} {nL : Nat} {R0 : Room} {k n : Nat} {S : hs_S} {pc : Nat} {lv : List (Nat × hs_V)} {st : List hs_V} (X : hs_C Z own cc nL R0) {v : hs_V} (hd : decode cc pc = .ok (.pop, 1)) (hv : hs_cat v = 1) (kk : wa Z k n S (pc + 1) lv (st)) : wa Z k n S pc lv (v :: st) := by
  obtain ⟨p, l, e, R, s, m, args, below, meth, c, D, DA, n0, G0, S0, Qw⟩ := Z
  obtain ⟨hx, hb, hml, hown, hts, hlk, hst, hW, hR⟩ := X
  intro G H locs la a1 a2 a3 a4 a5 a6
  exact lv_pop hx hb hd (by rw [hs_c_cat]; exact hv) (kk G H locs la a1 a2 a3 (hs_n1 a4) a5 a6)
theorem wa_dup2 {Z : hs_Z} {own : String} {cc : ByteArray} {nL : Nat} {R0 : Room} {k n : Nat} {S : hs_S} {pc : Nat} {lv : List (Nat × hs_V)} {st : List hs_V} (X : hs_C Z own cc nL R0) {u v : hs_V} (hd : decode cc pc = .ok (.dup2, 1)) (hu : hs_cat u = 1) (hv : hs_cat v = 1) (kk : wa Z k n S (pc + 1) lv (u :: v :: u :: v :: st)) : wa Z k n S pc lv (u :: v :: st) := by
  obtain ⟨p, l, e, R, s, m, args, below, meth, c, D, DA, n0, G0, S0, Qw⟩ := Z
  obtain ⟨hx, hb, hml, hown, hts, hlk, hst, hW, hR⟩ := X
  intro G H locs la a1 a2 a3 a4 a5 a6
  exact lv_dup2_11 hx hb hd (by rw [hs_c_cat]; exact hu) (by rw [hs_c_cat]; exact hv) (kk G H locs la a1 a2 a3 (hs_pu (hs_h1 a4) (hs_pu (hs_h2 a4) a4)) a5 a6)
theorem wa_if_eq {Z : hs_Z} {own : String} {cc : ByteArray} {nL : Nat} {R0 : Room} {k n : Nat} {S : hs_S} {pc : Nat} {lv : List (Nat × hs_V)} {st : List hs_V} (X : hs_C Z own cc nL R0) {x : Int32} {off : Int} {tgt : Nat} (hd : decode cc pc = .ok (.ifCond .eq off, 3)) (ht : (pc : Int) + off = (tgt : Int)) (kt : x = 0 → wa Z k n S tgt lv st) (kf : ¬ x = 0 → wa Z k n S (pc + 3) lv st) : wa Z k n S pc lv (.inl x :: st) := by
  obtain ⟨p, l, e, R, s, m, args, below, meth, c, D, DA, n0, G0, S0, Qw⟩ := Z
  obtain ⟨hx, hb, hml, hown, hts, hlk, hst, hW, hR⟩ := X
  intro G H locs la a1 a2 a3 a4 a5 a6
  exact lv_if_eq hx hb hd ht (fun z => kt z G H locs la a1 a2 a3 (hs_n1 a4) a5 a6) (fun z => kf z G H locs la a1 a2 a3 (hs_n1 a4) a5 a6)
theorem wa_icmp_eq {Z : hs_Z} {own : String} {cc : ByteArray} {nL : Nat} {R0 : Room} {k n : Nat} {S : hs_S} {pc : Nat} {lv : List (Nat × hs_V)} {st : List hs_V} (X : hs_C Z own cc nL R0) {x y : Int32} {off : Int} {tgt : Nat} (hd : decode cc pc = .ok (.if_icmp .eq off, 3)) (ht : (pc : Int) + off = (tgt : Int)) (kt : x = y → wa Z k n S tgt lv st) (kf : ¬ x = y → wa Z k n S (pc + 3) lv st) : wa Z k n S pc lv (.inl y :: .inl x :: st) := by
  obtain ⟨p, l, e, R, s, m, args, below, meth, c, D, DA, n0, G0, S0, Qw⟩ := Z
  obtain ⟨hx, hb, hml, hown, hts, hlk, hst, hW, hR⟩ := X
  intro G H locs la a1 a2 a3 a4 a5 a6
  exact lv_icmp_eq hx hb hd ht (fun z => kt z G H locs la a1 a2 a3 (hs_n2 a4) a5 a6) (fun z => kf z G H locs la a1 a2 a3 (hs_n2 a4) a5 a6)
theorem wa_if_ne {Z : hs_Z} {own : String} {cc : ByteArray} {nL : Nat} {R0 : Room} {k n : Nat} {S : hs_S} {pc : Nat} {lv : List (Nat × hs_V)} {st : List hs_V} (X : hs_C Z own cc nL R0) {x : Int32} {off : Int} {tgt : Nat} (hd : decode cc pc = .ok (.ifCond .ne off, 3)) (ht : (pc : Int) + off = (tgt : Int)) (kt : ¬ x = 0 → wa Z k n S tgt lv st) (kf : x = 0 → wa Z k n S (pc + 3) lv st) : wa Z k n S pc lv (.inl x :: st) := by
  obtain ⟨p, l, e, R, s, m, args, below, meth, c, D, DA, n0, G0, S0, Qw⟩ := Z
  obtain ⟨hx, hb, hml, hown, hts, hlk, hst, hW, hR⟩ := X
  intro G H locs la a1 a2 a3 a4 a5 a6
  exact lv_if_ne hx hb hd ht (fun z => kt z G H locs la a1 a2 a3 (hs_n1 a4) a5 a6) (fun z => kf z G H locs la a1 a2 a3 (hs_n1 a4) a5 a6)
theorem wa_icmp_ne {Z : hs_Z} {own : String} {cc : ByteArray} {nL : Nat} {R0 : Room} {k n : Nat} {S : hs_S} {pc : Nat} {lv : List (Nat × hs_V)} {st : List hs_V} (X : hs_C Z own cc nL R0) {x y : Int32} {off : Int} {tgt : Nat} (hd : decode cc pc = .ok (.if_icmp .ne off, 3)) (ht : (pc : Int) + off = (tgt : Int)) (kt : ¬ x = y → wa Z k n S tgt lv st) (kf : x = y → wa Z k n S (pc + 3) lv st) : wa Z k n S pc lv (.inl y :: .inl x :: st) := by
  obtain ⟨p, l, e, R, s, m, args, below, meth, c, D, DA, n0, G0, S0, Qw⟩ := Z
  obtain ⟨hx, hb, hml, hown, hts, hlk, hst, hW, hR⟩ := X
  intro G H locs la a1 a2 a3 a4 a5 a6
  exact lv_icmp_ne hx hb hd ht (fun z => kt z G H locs la a1 a2 a3 (hs_n2 a4) a5 a6) (fun z => kf z G H locs la a1 a2 a3 (hs_n2 a4) a5 a6)
theorem wa_if_lt {Z : hs_Z} {own : String} {cc : ByteArray} {nL : Nat} {R0 : Room} {k n : Nat} {S : hs_S} {pc : Nat} {lv : List (Nat × hs_V)} {st : List hs_V} (X : hs_C Z own cc nL R0) {x : Int32} {off : Int} {tgt : Nat} (hd : decode cc pc = .ok (.ifCond .lt off, 3)) (ht : (pc : Int) + off = (tgt : Int)) (kt : x < 0 → wa Z k n S tgt lv st) (kf : ¬ x < 0 → wa Z k n S (pc + 3) lv st) : wa Z k n S pc lv (.inl x :: st) := by
  obtain ⟨p, l, e, R, s, m, args, below, meth, c, D, DA, n0, G0, S0, Qw⟩ := Z
  obtain ⟨hx, hb, hml, hown, hts, hlk, hst, hW, hR⟩ := X
  intro G H locs la a1 a2 a3 a4 a5 a6
  exact lv_if_lt hx hb hd ht (fun z => kt z G H locs la a1 a2 a3 (hs_n1 a4) a5 a6) (fun z => kf z G H locs la a1 a2 a3 (hs_n1 a4) a5 a6)
theorem wa_icmp_lt {Z : hs_Z} {own : String} {cc : ByteArray} {nL : Nat} {R0 : Room} {k n : Nat} {S : hs_S} {pc : Nat} {lv : List (Nat × hs_V)} {st : List hs_V} (X : hs_C Z own cc nL R0) {x y : Int32} {off : Int} {tgt : Nat} (hd : decode cc pc = .ok (.if_icmp .lt off, 3)) (ht : (pc : Int) + off = (tgt : Int)) (kt : x < y → wa Z k n S tgt lv st) (kf : ¬ x < y → wa Z k n S (pc + 3) lv st) : wa Z k n S pc lv (.inl y :: .inl x :: st) := by
  obtain ⟨p, l, e, R, s, m, args, below, meth, c, D, DA, n0, G0, S0, Qw⟩ := Z
  obtain ⟨hx, hb, hml, hown, hts, hlk, hst, hW, hR⟩ := X
  intro G H locs la a1 a2 a3 a4 a5 a6
  exact lv_icmp_lt hx hb hd ht (fun z => kt z G H locs la a1 a2 a3 (hs_n2 a4) a5 a6) (fun z => kf z G H locs la a1 a2 a3 (hs_n2 a4) a5 a6)
theorem wa_if_ge {Z : hs_Z} {own : String} {cc : ByteArray} {nL : Nat} {R0 : Room} {k n : Nat} {S : hs_S} {pc : Nat} {lv : List (Nat × hs_V)} {st : List hs_V} (X : hs_C Z own cc nL R0) {x : Int32} {off : Int} {tgt : Nat} (hd : decode cc pc = .ok (.ifCond .ge off, 3)) (ht : (pc : Int) + off = (tgt : Int)) (kt : 0 ≤ x → wa Z k n S tgt lv st) (kf : ¬ 0 ≤ x → wa Z k n S (pc + 3) lv st) : wa Z k n S pc lv (.inl x :: st) := by
  obtain ⟨p, l, e, R, s, m, args, below, meth, c, D, DA, n0, G0, S0, Qw⟩ := Z
  obtain ⟨hx, hb, hml, hown, hts, hlk, hst, hW, hR⟩ := X
  intro G H locs la a1 a2 a3 a4 a5 a6
  exact lv_if_ge hx hb hd ht (fun z => kt z G H locs la a1 a2 a3 (hs_n1 a4) a5 a6) (fun z => kf z G H locs la a1 a2 a3 (hs_n1 a4) a5 a6)
theorem wa_icmp_ge {Z : hs_Z} {own : String} {cc : ByteArray} {nL : Nat} {R0 : Room} {k n : Nat} {S : hs_S} {pc : Nat} {lv : List (Nat × hs_V)} {st : List hs_V} (X : hs_C Z own cc nL R0) {x y : Int32} {off : Int} {tgt : Nat} (hd : decode cc pc = .ok (.if_icmp .ge off, 3)) (ht : (pc : Int) + off = (tgt : Int)) (kt : y ≤ x → wa Z k n S tgt lv st) (kf : ¬ y ≤ x → wa Z k n S (pc + 3) lv st) : wa Z k n S pc lv (.inl y :: .inl x :: st) := by
  obtain ⟨p, l, e, R, s, m, args, below, meth, c, D, DA, n0, G0, S0, Qw⟩ := Z
  obtain ⟨hx, hb, hml, hown, hts, hlk, hst, hW, hR⟩ := X
  intro G H locs la a1 a2 a3 a4 a5 a6
  exact lv_icmp_ge hx hb hd ht (fun z => kt z G H locs la a1 a2 a3 (hs_n2 a4) a5 a6) (fun z => kf z G H locs la a1 a2 a3 (hs_n2 a4) a5 a6)
theorem wa_if_gt {Z : hs_Z} {own : String} {cc : ByteArray} {nL : Nat} {R0 : Room} {k n : Nat} {S : hs_S} {pc : Nat} {lv : List (Nat × hs_V)} {st : List hs_V} (X : hs_C Z own cc nL R0) {x : Int32} {off : Int} {tgt : Nat} (hd : decode cc pc = .ok (.ifCond .gt off, 3)) (ht : (pc : Int) + off = (tgt : Int)) (kt : 0 < x → wa Z k n S tgt lv st) (kf : ¬ 0 < x → wa Z k n S (pc + 3) lv st) : wa Z k n S pc lv (.inl x :: st) := by
  obtain ⟨p, l, e, R, s, m, args, below, meth, c, D, DA, n0, G0, S0, Qw⟩ := Z
  obtain ⟨hx, hb, hml, hown, hts, hlk, hst, hW, hR⟩ := X
  intro G H locs la a1 a2 a3 a4 a5 a6
  exact lv_if_gt hx hb hd ht (fun z => kt z G H locs la a1 a2 a3 (hs_n1 a4) a5 a6) (fun z => kf z G H locs la a1 a2 a3 (hs_n1 a4) a5 a6)
theorem wa_icmp_gt {Z : hs_Z} {own : String} {cc : ByteArray} {nL : Nat} {R0 : Room} {k n : Nat} {S : hs_S} {pc : Nat} {lv : List (Nat × hs_V)} {st : List hs_V} (X : hs_C Z own cc nL R0) {x y : Int32} {off : Int} {tgt : Nat} (hd : decode cc pc = .ok (.if_icmp .gt off, 3)) (ht : (pc : Int) + off = (tgt : Int)) (kt : y < x → wa Z k n S tgt lv st) (kf : ¬ y < x → wa Z k n S (pc + 3) lv st) : wa Z k n S pc lv (.inl y :: .inl x :: st) := by
  obtain ⟨p, l, e, R, s, m, args, below, meth, c, D, DA, n0, G0, S0, Qw⟩ := Z
  obtain ⟨hx, hb, hml, hown, hts, hlk, hst, hW, hR⟩ := X
  intro G H locs la a1 a2 a3 a4 a5 a6
  exact lv_icmp_gt hx hb hd ht (fun z => kt z G H locs la a1 a2 a3 (hs_n2 a4) a5 a6) (fun z => kf z G H locs la a1 a2 a3 (hs_n2 a4) a5 a6)
theorem wa_if_le {Z : hs_Z} {own : String} {cc : ByteArray} {nL : Nat} {R0 : Room} {k n : Nat} {S : hs_S} {pc : Nat} {lv : List (Nat × hs_V)} {st : List hs_V} (X : hs_C Z own cc nL R0) {x : Int32} {off : Int} {tgt : Nat} (hd : decode cc pc = .ok (.ifCond .le off, 3)) (ht : (pc : Int) + off = (tgt : Int)) (kt : x ≤ 0 → wa Z k n S tgt lv st) (kf : ¬ x ≤ 0 → wa Z k n S (pc + 3) lv st) : wa Z k n S pc lv (.inl x :: st) := by
  obtain ⟨p, l, e, R, s, m, args, below, meth, c, D, DA, n0, G0, S0, Qw⟩ := Z
  obtain ⟨hx, hb, hml, hown, hts, hlk, hst, hW, hR⟩ := X
  intro G H locs la a1 a2 a3 a4 a5 a6
  exact lv_if_le hx hb hd ht (fun z => kt z G H locs la a1 a2 a3 (hs_n1 a4) a5 a6) (fun z => kf z G H locs la a1 a2 a3 (hs_n1 a4) a5 a6)
theorem wa_icmp_le {Z : hs_Z} {own : String} {cc : ByteArray} {nL : Nat} {R0 : Room} {k n : Nat} {S : hs_S} {pc : Nat} {lv : List (Nat × hs_V)} {st : List hs_V} (X : hs_C Z own cc nL R0) {x y : Int32} {off : Int} {tgt : Nat} (hd : decode cc pc = .ok (.if_icmp .le off, 3)) (ht : (pc : Int) + off = (tgt : Int)) (kt : x ≤ y → wa Z k n S tgt lv st) (kf : ¬ x ≤ y → wa Z k n S (pc + 3) lv st) : wa Z k n S pc lv (.inl y :: .inl x :: st) := by
  obtain ⟨p, l, e, R, s, m, args, below, meth, c, D, DA, n0, G0, S0, Qw⟩ := Z
  obtain ⟨hx, hb, hml, hown, hts, hlk, hst, hW, hR⟩ := X
  intro G H locs la a1 a2 a3 a4 a5 a6
  exact lv_icmp_le hx hb hd ht (fun z => kt z G H locs la a1 a2 a3 (hs_n2 a4) a5 a6) (fun z => kf z G H locs la a1 a2 a3 (hs_n2 a4) a5 a6)
theorem wa_goto {Z : hs_Z} {own : String} {cc : ByteArray} {nL : Nat} {R0 : Room} {k n : Nat} {S : hs_S} {pc : Nat} {lv : List (Nat × hs_V)} {st : List hs_V} (X : hs_C Z own cc nL R0) {off : Int} {tgt : Nat} (hd : decode cc pc = .ok (.goto off, 3)) (ht : (pc : Int) + off = (tgt : Int)) (kk : wa Z k n S tgt lv st) : wa Z k n S pc lv (st) := by
  obtain ⟨p, l, e, R, s, m, args, below, meth, c, D, DA, n0, G0, S0, Qw⟩ := Z
  obtain ⟨hx, hb, hml, hown, hts, hlk, hst, hW, hR⟩ := X
  intro G H locs la a1 a2 a3 a4 a5 a6
  exact lv_goto hx hb hd ht (kk G H locs la a1 a2 a3 a4 a5 a6)
theorem wa_tableIn {Z : hs_Z} {own : String} {cc : ByteArray} {nL : Nat} {R0 : Room} {k n : Nat} {S : hs_S} {pc : Nat} {lv : List (Nat × hs_V)} {st : List hs_V} (X : hs_C Z own cc nL R0) {dflt lo hi : Int} {offs : Array Int} {len : Nat} {x : Int32} {off : Int} {tgt : Nat} (hd : decode cc pc = .ok (.tableswitch dflt lo hi offs, len)) (h1 : ¬ x.toInt < lo) (h2 : ¬ hi < x.toInt) (ho : offs[(x.toInt - lo).toNat]? = some off) (ht : (pc : Int) + off = (tgt : Int)) (kk : wa Z k n S tgt lv st) : wa Z k n S pc lv (.inl x :: st) := by
  obtain ⟨p, l, e, R, s, m, args, below, meth, c, D, DA, n0, G0, S0, Qw⟩ := Z
  obtain ⟨hx, hb, hml, hown, hts, hlk, hst, hW, hR⟩ := X
  intro G H locs la a1 a2 a3 a4 a5 a6
  exact lv_tableIn hx hb hd h1 h2 ho ht (kk G H locs la a1 a2 a3 (hs_n1 a4) a5 a6)
theorem wa_tableOut {Z : hs_Z} {own : String} {cc : ByteArray} {nL : Nat} {R0 : Room} {k n : Nat} {S : hs_S} {pc : Nat} {lv : List (Nat × hs_V)} {st : List hs_V} (X : hs_C Z own cc nL R0) {dflt lo hi : Int} {offs : Array Int} {len : Nat} {x : Int32} {tgt : Nat} (hd : decode cc pc = .ok (.tableswitch dflt lo hi offs, len)) (h : x.toInt < lo ∨ hi < x.toInt) (ht : (pc : Int) + dflt = (tgt : Int)) (kk : wa Z k n S tgt lv st) : wa Z k n S pc lv (.inl x :: st) := by
  obtain ⟨p, l, e, R, s, m, args, below, meth, c, D, DA, n0, G0, S0, Qw⟩ := Z
  obtain ⟨hx, hb, hml, hown, hts, hlk, hst, hW, hR⟩ := X
  intro G H locs la a1 a2 a3 a4 a5 a6
  exact lv_tableOut hx hb hd h ht (kk G H locs la a1 a2 a3 (hs_n1 a4) a5 a6)
theorem wa_acmp_eq {Z : hs_Z} {own : String} {cc : ByteArray} {nL : Nat} {R0 : Room} {k n : Nat} {S : hs_S} {pc : Nat} {lv : List (Nat × hs_V)} {st : List hs_V} (X : hs_C Z own cc nL R0) {t i j : Nat} {off : Int} {tgt : Nat} (h8 : (hs_k t).1 ≠ 8) (hd : decode cc pc = .ok (.if_acmp .eq off, 3)) (ht : (pc : Int) + off = (tgt : Int)) (kt : i = j → wa Z k n S tgt lv st) (kf : ¬ i = j → wa Z k n S (pc + 3) lv st) : wa Z k n S pc lv (.inr (.inr (t, j)) :: .inr (.inr (t, i)) :: st) := by
  obtain ⟨p, l, e, R, s, m, args, below, meth, c, D, DA, n0, G0, S0, Qw⟩ := Z
  obtain ⟨hx, hb, hml, hown, hts, hlk, hst, hW, hR⟩ := X
  intro G H locs la a1 a2 a3 a4 a5 a6
  rw [List.map_cons, List.map_cons, ← hs_o_rf, ← hs_o_rf]
  exact lv_acmp_eq hx hb hd ht (fun z => kt ((hs_acmp a2 h8 (hs_h2 a4) (hs_h1 a4)).mp z) G H locs la a1 a2 a3 (hs_n2 a4) a5 a6) (fun z => kf (fun h => z ((hs_acmp a2 h8 (hs_h2 a4) (hs_h1 a4)).mpr h)) G H locs la a1 a2 a3 (hs_n2 a4) a5 a6)
theorem wa_acmp_ne {Z : hs_Z} {own : String} {cc : ByteArray} {nL : Nat} {R0 : Room} {k n : Nat} {S : hs_S} {pc : Nat} {lv : List (Nat × hs_V)} {st : List hs_V} (X : hs_C Z own cc nL R0) {t i j : Nat} {off : Int} {tgt : Nat} (h8 : (hs_k t).1 ≠ 8) (hd : decode cc pc = .ok (.if_acmp .ne off, 3)) (ht : (pc : Int) + off = (tgt : Int)) (kt : ¬ i = j → wa Z k n S tgt lv st) (kf : i = j → wa Z k n S (pc + 3) lv st) : wa Z k n S pc lv (.inr (.inr (t, j)) :: .inr (.inr (t, i)) :: st) := by
  obtain ⟨p, l, e, R, s, m, args, below, meth, c, D, DA, n0, G0, S0, Qw⟩ := Z
  obtain ⟨hx, hb, hml, hown, hts, hlk, hst, hW, hR⟩ := X
  intro G H locs la a1 a2 a3 a4 a5 a6
  rw [List.map_cons, List.map_cons, ← hs_o_rf, ← hs_o_rf]
  exact lv_acmp_ne hx hb hd ht (fun z => kt (fun h => z ((hs_acmp a2 h8 (hs_h2 a4) (hs_h1 a4)).mpr h)) G H locs la a1 a2 a3 (hs_n2 a4) a5 a6) (fun z => kf ((hs_acmp a2 h8 (hs_h2 a4) (hs_h1 a4)).mp z) G H locs la a1 a2 a3 (hs_n2 a4) a5 a6)
theorem wa_ifnonnull {Z : hs_Z} {own : String} {cc : ByteArray} {nL : Nat} {R0 : Room} {k n : Nat} {S : hs_S} {pc : Nat} {lv : List (Nat × hs_V)} {st : List hs_V} (X : hs_C Z own cc nL R0) {t i : Nat} {off : Int} {tgt : Nat} (hd : decode cc pc = .ok (.ifnonnull off, 3)) (ht : (pc : Int) + off = (tgt : Int)) (kt : ¬ i = 0 → wa Z k n S tgt lv st) (kf : i = 0 → wa Z k n S (pc + 3) lv st) : wa Z k n S pc lv (.inr (.inr (t, i)) :: st) := by
  obtain ⟨p, l, e, R, s, m, args, below, meth, c, D, DA, n0, G0, S0, Qw⟩ := Z
  obtain ⟨hx, hb, hml, hown, hts, hlk, hst, hW, hR⟩ := X
  intro G H locs la a1 a2 a3 a4 a5 a6
  by_cases h0 : i = 0
  · subst h0
    exact lv_ifnonnullN hx hb hd (kf rfl G H locs la a1 a2 a3 (hs_n1 a4) a5 a6)
  · rw [List.map_cons, hs_c_ref h0]
    exact lv_ifnonnull hx hb hd ht (kt h0 G H locs la a1 a2 a3 (hs_n1 a4) a5 a6)
