/-! ===== size, get ===== -/
theorem hs_Wc {al : Nat → Nat → Nat} {st : List hs_V} (h : (st.map hs_cat).sum ≤ 8) : ((st.map (hs_c al)).map fun v => v.category).sum ≤ 8 := by
  have e : (st.map (hs_c al)).map (fun v => v.category) = st.map hs_cat := by
    rw [List.map_map]
    exact List.map_congr_left fun v _ => hs_c_cat al v
  rw [e]
  exact h
/-- a list, where it lies -/
theorem hs_lst {D : va_G} {DA : hs_DA} {n0 : Nat → Prop} {G : hs_G} {S : hs_S} {H : Heap} {keys : List (Nat × Nat)} {t i b z : Nat} (hkey : ∀ t i, (t, i) ∈ keys ↔ hs_in G S t i) (hLI : hs_LI DA G S) (hk : hs_k t = (6, (b, z))) (hok : hs_ok S t i) : i = 1 ∧ hs_ok S t 1 ∧ ∃ qL : Nat, (keys.map (hs_cell DA G S))[qL]? = some (G.1 t 1, jL (G.2.1 t) (G.1 (t + 3) 1) (nI (S.2.1 t 2 0))) ∧ keys[qL]? = some (t, 1) := by
  have hok1 : hs_ok S t 1 := ⟨hok.1, hok.2.1, Nat.le_refl 1, Nat.le_trans hok.2.2.1 hok.2.2.2⟩
  have hN := (hLI t b z hk hok1).2.2.2.2.2.1
  have hi : i = 1 := by have := hok.2.2.1; have := hok.2.2.2; omega
  obtain ⟨q0, e1, e2⟩ := hs_key (D := D) (DA := DA) (n0 := n0) (H := H) hkey hok1 (by rw [hk]; simp)
  rw [hs_e6 hk] at e1
  exact ⟨hi, hok1, q0, e1, e2⟩
/-- the row behind it -/
theorem hs_arr {D : va_G} {DA : hs_DA} {n0 : Nat → Prop} {G : hs_G} {S : hs_S} {H : Heap} {keys : List (Nat × Nat)} {t b z : Nat} (hkey : ∀ t i, (t, i) ∈ keys ↔ hs_in G S t i) (hk : hs_k t = (6, (b, z))) (h0 : 0 < G.2.2.1 (t + 3)) : ∃ qA : Nat, (keys.map (hs_cell DA G S))[qA]? = some (G.1 (t + 3) 1, jA DA (G.2.2.1 (t + 3)) (G.2.2.2 (t + 3))) ∧ keys[qA]? = some (t + 3, 1) := by
  have h7 := (hs_k6 (a := t) (by rw [hk])).1
  obtain ⟨q0, e1, e2⟩ := hs_at (D := D) (DA := DA) (n0 := n0) (G := G) (S := S) (H := H) ((hkey (t + 3) 1).mpr (Or.inr ⟨h7, rfl, h0⟩))
  rw [hs_e7 h7] at e1
  exact ⟨q0, e1, e2⟩
theorem wa_lsize {Z : hs_Z} {own : String} {cc : ByteArray} {nL : Nat} {R0 : Room} {k n : Nat} {S : hs_S} {pc : Nat} {lv : List (Nat × hs_V)} {st : List hs_V} (X : hs_C Z own cc nL R0) {t i b z ix cnt : Nat} (hk : hs_k t = (6, (b, z))) (hl : Cond.methodLink own ix ⟨"java/util/List", "size", "()I"⟩ ∈ hs_ws) (hd : decode cc pc = .ok (.invokeinterface ix cnt, 5)) (hi : i ≠ 0) (hR : (2 ≤ R0.frames ∧ 128 ≤ R0.locals) ∧ k ≤ R0.cells ∧ n ≤ R0.slots) (hcat : (st.map hs_cat).sum ≤ 8)
    (kk : wa Z k n S (pc + 5) lv (.inl (nI (hs_sz S t)) :: st)) : wa Z k n S pc lv (.inr (.inr (t, i)) :: st) := by
  obtain ⟨p, l, e, R, s, m, args, below, meth, c, D, DA, n0, G0, S0, Qw⟩ := Z
  obtain ⟨hx, hb, hml, hown, hts, hlk, hst, hW, rfl⟩ := X
  intro G H locs la a1 a2 a3 a4 a5 a6
  obtain ⟨keys, b1, b2, b3, b4, b5, b6⟩ := id a2
  obtain ⟨rfl, hok1, qL, e1, e2⟩ := hs_lst (D := D) (n0 := n0) (H := H) b1 b5 hk ((hs_h1 a4).resolve_left hi)
  obtain ⟨mi, hmi⟩ := hW.2.2.2.1.2
  rw [List.map_cons, hs_c_ref hi]
  refine j_callF (As := []) hx hb hml hown hts hW hmi b2 b3 a5 a6.1 (jm_size e1) e1 (hW.2.1 (RJx4a65c, (⟨"java/util/List", "size", "()I"⟩, yJx4a65c_size_8abf5)) List.mem_cons_self) jk_438 jk_26 hl jk_436 jk_434 (nA := 0) ⟨by decide +kernel, by decide +kernel, by decide +kernel⟩ rfl (hs_Wc hcat) hd ⟨⟨hR.1.1, by omega⟩, hR.2.1, hR.2.2⟩ (fun v ws' H1 locs1 hq c2 c3 c5 => ?_)
  obtain ⟨rfl, rfl⟩ := hq
  exact kk G H1 locs1 la a1 ⟨keys, b1, c2, c3, b4, b5, b6⟩ a3 (hs_pu trivial (hs_n1 a4)) c5 a6
theorem wa_lget {Z : hs_Z} {own : String} {cc : ByteArray} {nL : Nat} {R0 : Room} {k n : Nat} {S : hs_S} {pc : Nat} {lv : List (Nat × hs_V)} {st : List hs_V} (X : hs_C Z own cc nL R0) {t i b z ix cnt : Nat} {x : Int32} (hk : hs_k t = (6, (b, z))) (hl : Cond.methodLink own ix ⟨"java/util/List", "get", "(I)Ljava/lang/Object;"⟩ ∈ hs_ws) (hd : decode cc pc = .ok (.invokeinterface ix cnt, 5)) (hi : i ≠ 0) (hR : (5 ≤ R0.frames ∧ 320 ≤ R0.locals) ∧ k ≤ R0.cells ∧ n ≤ R0.slots) (hcat : (st.map hs_cat).sum ≤ 8) (hr : 0 ≤ x.toInt ∧ x.toInt < (hs_sz S t : Int))
    (kk : wa Z k n S (pc + 5) lv (.inr (.inr (b, S.2.1 t 1 x.toNatClampNeg)) :: st)) : wa Z k n S pc lv (.inl x :: .inr (.inr (t, i)) :: st) := by
  obtain ⟨p, l, e, R, s, m, args, below, meth, c, D, DA, n0, G0, S0, Qw⟩ := Z
  obtain ⟨hx, hb, hml, hown, hts, hlk, hst, hW, rfl⟩ := X
  intro G H locs la a1 a2 a3 a4 a5 a6
  obtain ⟨keys, b1, b2, b3, b4, b5, b6⟩ := id a2
  obtain ⟨rfl, hok1, qL, e1, e2⟩ := hs_lst (D := D) (n0 := n0) (H := H) b1 b5 hk ((hs_h2 a4).resolve_left hi)
  obtain ⟨l1, l2, l3, l4, l5, l6, l7⟩ := b5 t b z hk hok1
  have hsz : x.toNatClampNeg < S.2.1 t 2 0 := by
    have h1 := hr.1
    have h2 : x.toInt < (S.2.1 t 2 0 : Int) := hr.2
    show x.toInt.toNat < S.2.1 t 2 0
    omega
  obtain ⟨qA, f1, f2⟩ := hs_arr (D := D) (DA := DA) (n0 := n0) (H := H) b1 hk (by omega)
  obtain ⟨g1, g2⟩ := l5 _ hsz
  have hx0 : ¬ x < 0 := fun h => hs_ix hr (Or.inl h)
  have hcap : vp_in x (G.2.2.1 (t + 3)) := fun h => h.elim hx0 (fun h => by omega)
  have hxs : x < nI (S.2.1 t 2 0) := Int32.lt_iff_toInt_lt.mpr (by rw [nI_toInt (by omega)]; exact hr.2)
  have hr0 : S.2.1 t 1 x.toNatClampNeg ≠ 0 := by have := g2.2.2.1; omega
  obtain ⟨mi, hmi⟩ := hW.2.2.2.1.2
  rw [List.map_cons, List.map_cons, hs_c_ref hi]
  refine j_callF (As := [.int x]) hx hb hml hown hts hW hmi b2 b3 a5 a6.1 (jm_get e1 f1 hcap g1 hx0 hxs) e1 (hW.2.1 (RJx4a65c, (⟨"java/util/List", "get", "(I)Ljava/lang/Object;"⟩, yJx4a65c_get_915e3)) (List.mem_cons_of_mem _ List.mem_cons_self)) jk_447 jk_26 hl jk_445 jk_443 (nA := 1) ⟨by decide +kernel, by decide +kernel, by decide +kernel⟩ rfl (hs_Wc hcat) hd ⟨⟨by omega, by omega⟩, hR.2.1, hR.2.2⟩ (fun v ws' H1 locs1 hq c2 c3 c5 => ?_)
  obtain ⟨rfl, rfl⟩ := hq
  have w := kk G H1 locs1 la a1 ⟨keys, b1, c2, c3, b4, b5, b6⟩ a3 (hs_pu (Or.inr g2) (hs_n2 a4)) c5 a6
  rw [List.map_cons, hs_c_ref hr0] at w
  exact w
