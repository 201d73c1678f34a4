/-! ===== fields and rows ===== -/
theorem hs_e1 {DA : hs_DA} {G : hs_G} {S : hs_S} {t i ci N : Nat} (hk : hs_k t = (1, (ci, N))) : hs_e DA G S t i = .inr (ci, (List.range N).map (fun j => hs_c G.1 (hs_gv S t i j))) := by
  unfold hs_e; rw [hk]; rfl
theorem hs_e2 {DA : hs_DA} {G : hs_G} {S : hs_S} {t i n z : Nat} (hk : hs_k t = (2, (n, z))) : hs_e DA G S t i = .inl (DA.1 0, n, .inl (S.1 t i)) := by
  unfold hs_e; rw [hk]; rfl
theorem hs_e3 {DA : hs_DA} {G : hs_G} {S : hs_S} {t i n z : Nat} (hk : hs_k t = (3, (n, z))) : hs_e DA G S t i = .inl (DA.1 1, n, .inl (S.1 t i)) := by
  unfold hs_e; rw [hk]; rfl
theorem hs_e4 {DA : hs_DA} {G : hs_G} {S : hs_S} {t i n z : Nat} (hk : hs_k t = (4, (n, z))) : hs_e DA G S t i = .inl (DA.1 2, n, .inr (.inl (S.2.2.1 t i))) := by
  unfold hs_e; rw [hk]; rfl
theorem hs_e5 {DA : hs_DA} {G : hs_G} {S : hs_S} {t i n b : Nat} (hk : hs_k t = (5, (n, b))) : hs_e DA G S t i = .inl (DA.1 (hs_rk b), n, .inr (.inr (.inr (.inr (fun j => hs_o G.1 b (S.2.1 t i j)))))) := by
  unfold hs_e; rw [hk]; rfl
theorem hs_gv_v {S : hs_S} (hcl : ∀ t i j c, hs_ok S t i → hs_rt t j = some c → S.2.1 t i j = 0 ∨ hs_ok S c (S.2.1 t i j)) {t i j ci N : Nat} (hk : hs_k t = (1, (ci, N))) (hok : hs_ok S t i) : hs_vv S (hs_gv S t i j) := by
  have h := hcl t i j
  unfold hs_rt at h
  rw [hk] at h
  unfold hs_gv
  cases hs : hs_sl t j with
  | zero => trivial
  | succ a =>
    cases a with
    | zero => trivial
    | succ c =>
      rw [hs] at h
      exact h c hok rfl
theorem hs_key {D : va_G} {DA : hs_DA} {n0 : Nat → Prop} {G : hs_G} {S : hs_S} {H : Heap} {keys : List (Nat × Nat)} (hkey : ∀ t i, (t, i) ∈ keys ↔ hs_in G S t i) {t i : Nat} (hok : hs_ok S t i) (h8 : (hs_k t).1 ≠ 8) : ∃ q0 : Nat, (keys.map (hs_cell DA G S))[q0]? = some (G.1 t i, hs_e DA G S t i) ∧ keys[q0]? = some (t, i) :=
  hs_at (D := D) (n0 := n0) (H := H) ((hkey t i).mpr (Or.inl ⟨hok, h8⟩))
theorem wa_getf {Z : hs_Z} {own : String} {cc : ByteArray} {nL : Nat} {R0 : Room} {k n : Nat} {S : hs_S} {pc : Nat} {lv : List (Nat × hs_V)} {st : List hs_V} (X : hs_C Z own cc nL R0) {t i j ci N ix : Nat} {C : String} {T : u_T} {v : hs_V} (hk : hs_k t = (1, (ci, N))) (hc : hs_cl0[ci]? = some (C, T, N)) (hin : ∀ w ∈ u_ws C T N, w ∈ hs_ws) (hj : j < N)
    (hl : Cond.fieldLink own ix (T j).1 (T j).2.1 (T j).2.2.1 ∈ hs_ws) (hv : hs_gv S t i j = v) (hd : decode cc pc = .ok (.getfield ix, 3)) (hi : i ≠ 0) (kk : wa Z k n S (pc + 3) lv (v :: st)) : wa Z k n S pc lv (.inr (.inr (t, i)) :: st) := by
  obtain ⟨p, l, e, R, s, m, args, below, meth, c, D, DA, n0, G0, S0, Qw⟩ := Z
  obtain ⟨hx, hb, hml, hown, hts, hlk, hst, hW, hR⟩ := X
  intro G H locs la a1 a2 a3 a4 a5 a6
  obtain ⟨keys, b1, b2, b3, b4, b5, b6⟩ := id a2
  have hok : hs_ok S t i := (hs_h1 a4).resolve_left hi
  obtain ⟨q0, e1, e2⟩ := hs_key (D := D) (DA := DA) (n0 := n0) (H := H) b1 hok (by rw [hk]; simp)
  rw [hs_e1 hk] at e1
  subst hv
  rw [List.map_cons, hs_c_ref hi]
  exact va_get hx hb hts hin hown hW.1 b2 q0 e1 hc j hj (hts _ hl) (fun x h => h) (v := hs_c G.1 (hs_gv S t i j)) (by rw [List.getElem?_map, List.getElem?_range hj]; rfl) hd (kk G H locs la a1 a2 a3 (hs_pu (hs_gv_v b4 hk hok) (hs_n1 a4)) a5 a6)
theorem hs_rset {α : Type} {N j : Nat} (hj : j < N) (f g : Nat → α) (h : ∀ a, a ≠ j → g a = f a) : ((List.range N).map f).set j (g j) = (List.range N).map g := by
  apply List.ext_getElem?
  intro a
  by_cases hja : j = a
  · subst hja
    rw [List.getElem?_set_self (by rw [List.length_map, List.length_range]; exact hj), List.getElem?_map, List.getElem?_range hj]; rfl
  · rw [List.getElem?_set_ne hja, List.getElem?_map, List.getElem?_map]
    cases hz : (List.range N)[a]? with
    | none => rfl
    | some z =>
      have hza : a = z := by
        have h1 := (List.getElem?_eq_some_iff.mp hz)
        obtain ⟨h2, h3⟩ := h1
        rw [List.getElem_range] at h3
        exact h3
      subst hza
      exact congrArg some (h a (fun q => hja q.symm)).symm
theorem hs_gv_ne {S : hs_S} {t i j : Nat} {v : hs_V} {a : Nat} (h : a ≠ j) : hs_gv (hs_put S t i j v) t i a = hs_gv S t i a := by
  unfold hs_gv
  split
  · rcases v with x | x | x
    · show Sum.inl (hs_u3 S.1 t i j x t i a) = _
      rw [hs_u3_s, if_neg h]
    · rfl
    · rfl
  · rcases v with x | x | x
    · rfl
    · show Sum.inr (Sum.inl (hs_u3 S.2.2.1 t i j x t i a)) = _
      rw [hs_u3_s, if_neg h]
    · rfl
  · rcases v with x | x | x
    · rfl
    · rfl
    · show Sum.inr (Sum.inr (_, hs_u3 S.2.1 t i j x.2 t i a)) = _
      rw [hs_u3_s, if_neg h]
theorem hs_gv_I {S : hs_S} {t i j : Nat} {x : Int32} (h : hs_sl t j = 0) : hs_gv (hs_put S t i j (.inl x)) t i j = .inl x := by
  unfold hs_gv
  rw [h]
  show Sum.inl (hs_u3 S.1 t i j x t i j) = _
  rw [hs_u3_s, if_pos rfl]
theorem hs_gv_R {S : hs_S} {t i j b r : Nat} (h : hs_sl t j = b + 2) : hs_gv (hs_put S t i j (.inr (.inr (b, r)))) t i j = .inr (.inr (b, r)) := by
  unfold hs_gv
  rw [h]
  show Sum.inr (Sum.inr (b, hs_u3 S.2.1 t i j r t i j)) = _
  rw [hs_u3_s, if_pos rfl]
/-- a value fits a field: an int any int, a boolean 0 and 1, a reference its place -/
def hs_fit (t j : Nat) (ty : FieldType) (v : hs_V) : Prop := match v with
  | .inl x => hs_sl t j = 0 ∧ (ty = .int ∨ (ty = .boolean ∧ (x = 0 ∨ x = 1)))
  | .inr (.inl _) => False
  | .inr (.inr q) => hs_sl t j = q.1 + 2 ∧ ((∃ C, ty = .object C) ∨ ∃ u, ty = .array u)
theorem hs_fit_gv {S : hs_S} {t i j : Nat} {ty : FieldType} {v : hs_V} (h : hs_fit t j ty v) : hs_gv (hs_put S t i j v) t i j = v := by
  rcases v with x | x | ⟨b, r⟩
  · exact hs_gv_I h.1
  · exact h.elim
  · exact hs_gv_R h.1
theorem hs_fit_n {al : Nat → Nat → Nat} {t j : Nat} {ty : FieldType} {v : hs_V} (h : hs_fit t j ty v) : narrow ty (hs_c al v) = hs_c al v ∧ fits ty (hs_c al v) = true := by
  rcases v with x | x | ⟨b, r⟩
  · rcases h.2 with rfl | ⟨rfl, rfl | rfl⟩
    · exact ⟨rfl, rfl⟩
    · exact ⟨(by decide : narrow .boolean (.int 0) = .int 0), (by decide : fits .boolean (.int 0) = true)⟩
    · exact ⟨(by decide : narrow .boolean (.int 1) = .int 1), (by decide : fits .boolean (.int 1) = true)⟩
  · exact h.elim
  · by_cases h0 : r = 0
    · subst h0
      rcases h.2 with ⟨C, rfl⟩ | ⟨u, rfl⟩ <;> exact ⟨rfl, rfl⟩
    · rw [hs_c_ref h0]
      rcases h.2 with ⟨C, rfl⟩ | ⟨u, rfl⟩ <;> exact ⟨rfl, rfl⟩
theorem hs_fit_rt {t j ci N : Nat} {ty : FieldType} {v : hs_V} (hk : hs_k t = (1, (ci, N))) (h : hs_fit t j ty v) : ∀ q : Nat × Nat, v = .inr (.inr q) → hs_rt t j = some q.1 := by
  intro q hq
  subst hq
  have h1 : hs_sl t j = q.1 + 2 := h.1
  unfold hs_rt
  rw [hk]
  show (match hs_sl t j with | c + 2 => some c | _ => none) = some q.1
  rw [h1]
theorem hs_put_e {DA : hs_DA} {G : hs_G} {S : hs_S} {t i j ci N : Nat} {ty : FieldType} {v : hs_V} (hk : hs_k t = (1, (ci, N))) (hj : j < N) (h : hs_fit t j ty v) : (.inr (ci, ((List.range N).map (fun a => hs_c G.1 (hs_gv S t i a))).set j (hs_c G.1 v)) : va_E) = hs_e DA G (hs_put S t i j v) t i := by
  rw [hs_e1 hk]
  have h1 := hs_rset hj (fun a => hs_c G.1 (hs_gv S t i a)) (fun a => hs_c G.1 (hs_gv (hs_put S t i j v) t i a)) (fun a ha => by rw [hs_gv_ne ha])
  rw [← h1, hs_fit_gv h]
theorem hs_put_vv {S : hs_S} {t i j : Nat} {v : hs_V} {st : List hs_V} (h : ∀ q ∈ st, hs_vv S q) : ∀ q ∈ st, hs_vv (hs_put S t i j v) q := fun q hq => (hs_vv_N (hs_put_N S t i j v)).mpr (h q hq)
theorem hs_put_vl {S : hs_S} {t i j : Nat} {v : hs_V} {lv : List (Nat × hs_V)} (h : ∀ q ∈ lv, hs_vv S q.2) : ∀ q ∈ lv, hs_vv (hs_put S t i j v) q.2 := fun q hq => (hs_vv_N (hs_put_N S t i j v)).mpr (h q hq)
theorem wa_putf {Z : hs_Z} {own : String} {cc : ByteArray} {nL : Nat} {R0 : Room} {k n : Nat} {S : hs_S} {pc : Nat} {lv : List (Nat × hs_V)} {st : List hs_V} (X : hs_C Z own cc nL R0) {t i j ci N ix : Nat} {C : String} {T : u_T} {v : hs_V} {ty : FieldType} (hk : hs_k t = (1, (ci, N))) (hc : hs_cl0[ci]? = some (C, T, N)) (hin : ∀ w ∈ u_ws C T N, w ∈ hs_ws)
    (ty0 : Nat → FieldType) (hty : ∀ k, k < N → parseFieldDescriptor (T k).2.2.1 = some (ty0 k)) (hnm : ∀ a, a < N → ∀ b, b < N → a ≠ b → (T a).2.1 ≠ (T b).2.1) (hj : j < N)
    (hl : Cond.fieldLink own ix (T j).1 (T j).2.1 (T j).2.2.1 ∈ hs_ws) (hf : (T j).2.2.2 = false) (he : ty0 j = ty) (hd : decode cc pc = .ok (.putfield ix, 3)) (hi : i ≠ 0) (hfit : hs_fit t j ty v) (kk : wa Z k n (hs_put S t i j v) (pc + 3) lv st) : wa Z k n S pc lv (v :: .inr (.inr (t, i)) :: st) := by
  obtain ⟨p, l, e, R, s, m, args, below, meth, c, D, DA, n0, G0, S0, Qw⟩ := Z
  obtain ⟨hx, hb, hml, hown, hts, hlk, hst, hW, hR⟩ := X
  intro G H locs la a1 a2 a3 a4 a5 a6
  obtain ⟨keys, b1, b2, b3, b4, b5, b6⟩ := id a2
  have hok : hs_ok S t i := (hs_h2 a4).resolve_left hi
  obtain ⟨q0, e1, e2⟩ := hs_key (D := D) (DA := DA) (n0 := n0) (H := H) b1 hok (by rw [hk]; simp)
  rw [hs_e1 hk] at e1
  rw [List.map_cons, List.map_cons, hs_c_ref hi]
  subst he
  refine va_put hx hb hts hin ty0 hty hnm hown hW.1 b2 b3 a5 q0 e1 hc j hj (hts _ hl) (fun x h => h) hf (hty j hj) (hs_fit_n hfit).1 (hs_fit_n hfit).2 (by rw [List.length_map, List.length_range]; exact hj) hd fun H1 locs1 hP1 hD1 hS1 => ?_
  rw [hs_put_e (DA := DA) (G := G) (S := S) (i := i) hk hj hfit] at hP1 hD1
  exact kk G H1 locs1 la (a1.put t i j v) (hs_written b1 b3 b4 b5 b6 e2 (by rw [hk]; simp) (hs_h1 a4) (hs_fit_rt hk hfit) hP1 hD1) (hs_put_vl a3) (hs_put_vv (hs_n2 a4)) hS1 a6
theorem wa_putF {Z : hs_Z} {own : String} {cc : ByteArray} {nL : Nat} {R0 : Room} {k n : Nat} {S : hs_S} {pc : Nat} {lv : List (Nat × hs_V)} {st : List hs_V} (X : hs_C Z own cc nL R0) (hini : ∀ p l e R s m args below meth c D DA n0 G0 S0 Qw, Z = (p, l, e, R, s, m, args, below, meth, c, D, DA, n0, G0, S0, Qw) → meth.name = "<init>") {t i j ci N ix : Nat} {C : String} {T : u_T} {v : hs_V} {ty : FieldType} (hk : hs_k t = (1, (ci, N))) (hc : hs_cl0[ci]? = some (C, T, N)) (hin : ∀ w ∈ u_ws C T N, w ∈ hs_ws)
    (ty0 : Nat → FieldType) (hty : ∀ k, k < N → parseFieldDescriptor (T k).2.2.1 = some (ty0 k)) (hnm : ∀ a, a < N → ∀ b, b < N → a ≠ b → (T a).2.1 ≠ (T b).2.1) (hj : j < N)
    (hl : Cond.fieldLink own ix (T j).1 (T j).2.1 (T j).2.2.1 ∈ hs_ws) (hf : (T j).2.2.2 = true) (hdecl : (T j).1 = own) (he : ty0 j = ty) (hd : decode cc pc = .ok (.putfield ix, 3)) (hi : i ≠ 0) (hfit : hs_fit t j ty v) (kk : wa Z k n (hs_put S t i j v) (pc + 3) lv st) : wa Z k n S pc lv (v :: .inr (.inr (t, i)) :: st) := by
  obtain ⟨p, l, e, R, s, m, args, below, meth, c, D, DA, n0, G0, S0, Qw⟩ := Z
  obtain ⟨hx, hb, hml, hown, hts, hlk, hst, hW, hR⟩ := X
  intro G H locs la a1 a2 a3 a4 a5 a6
  obtain ⟨keys, b1, b2, b3, b4, b5, b6⟩ := id a2
  have hok : hs_ok S t i := (hs_h2 a4).resolve_left hi
  obtain ⟨q0, e1, e2⟩ := hs_key (D := D) (DA := DA) (n0 := n0) (H := H) b1 hok (by rw [hk]; simp)
  rw [hs_e1 hk] at e1
  rw [List.map_cons, List.map_cons, hs_c_ref hi]
  subst he
  refine va_putF hx hb hts hin ty0 hty hnm hown hW.1 b2 b3 a5 q0 e1 hc j hj (hts _ hl) (fun x h => h) hf (hini _ _ _ _ _ _ _ _ _ _ _ _ _ _ _ _ rfl) hdecl (hty j hj) (hs_fit_n hfit).1 (hs_fit_n hfit).2 (by rw [List.length_map, List.length_range]; exact hj) hd fun H1 locs1 hP1 hD1 hS1 => ?_
  rw [hs_put_e (DA := DA) (G := G) (S := S) (i := i) hk hj hfit] at hP1 hD1
  exact kk G H1 locs1 la (a1.put t i j v) (hs_written b1 b3 b4 b5 b6 e2 (by rw [hk]; simp) (hs_h1 a4) (hs_fit_rt hk hfit) hP1 hD1) (hs_put_vl a3) (hs_put_vv (hs_n2 a4)) hS1 a6
theorem hs_ix {x : Int32} {n : Nat} (h : 0 ≤ x.toInt ∧ x.toInt < n) : vp_in x n := vp_in_iff.mpr h
theorem hs_vnb {x : Int32} (h : x = 0 ∨ x = 1) : vp_nar .boolean x = x := by
  rcases h with rfl | rfl <;> decide
theorem wa_iald {Z : hs_Z} {own : String} {cc : ByteArray} {nL : Nat} {R0 : Room} {k n : Nat} {S : hs_S} {pc : Nat} {lv : List (Nat × hs_V)} {st : List hs_V} (X : hs_C Z own cc nL R0) {t i N z : Nat} {x : Int32} (hk : hs_k t = (2, (N, z))) (hd : decode cc pc = .ok (.iaload, 1)) (hi : i ≠ 0) (hr : 0 ≤ x.toInt ∧ x.toInt < N) (kk : wa Z k n S (pc + 1) lv (.inl (S.1 t i x.toNatClampNeg) :: st)) : wa Z k n S pc lv (.inl x :: .inr (.inr (t, i)) :: st) := by
  obtain ⟨p, l, e, R, s, m, args, below, meth, c, D, DA, n0, G0, S0, Qw⟩ := Z
  obtain ⟨hx, hb, hml, hown, hts, hlk, hst, hW, hR⟩ := X
  intro G H locs la a1 a2 a3 a4 a5 a6
  obtain ⟨keys, b1, b2, b3, b4, b5, b6⟩ := id a2
  have hok : hs_ok S t i := (hs_h2 a4).resolve_left hi
  obtain ⟨q0, e1, e2⟩ := hs_key (D := D) (DA := DA) (n0 := n0) (H := H) b1 hok (by rw [hk]; simp)
  rw [hs_e2 hk] at e1
  rw [List.map_cons, List.map_cons, hs_c_ref hi]
  exact va_iald hx hb hW.1 b2 q0 0 e1 rfl (hs_ix hr) hd (kk G H locs la a1 a2 a3 (hs_pu trivial (hs_n2 a4)) a5 a6)
theorem wa_bald {Z : hs_Z} {own : String} {cc : ByteArray} {nL : Nat} {R0 : Room} {k n : Nat} {S : hs_S} {pc : Nat} {lv : List (Nat × hs_V)} {st : List hs_V} (X : hs_C Z own cc nL R0) {t i N z : Nat} {x : Int32} (hk : hs_k t = (3, (N, z))) (hd : decode cc pc = .ok (.baload, 1)) (hi : i ≠ 0) (hr : 0 ≤ x.toInt ∧ x.toInt < N) (kk : wa Z k n S (pc + 1) lv (.inl (S.1 t i x.toNatClampNeg) :: st)) : wa Z k n S pc lv (.inl x :: .inr (.inr (t, i)) :: st) := by
  obtain ⟨p, l, e, R, s, m, args, below, meth, c, D, DA, n0, G0, S0, Qw⟩ := Z
  obtain ⟨hx, hb, hml, hown, hts, hlk, hst, hW, hR⟩ := X
  intro G H locs la a1 a2 a3 a4 a5 a6
  obtain ⟨keys, b1, b2, b3, b4, b5, b6⟩ := id a2
  have hok : hs_ok S t i := (hs_h2 a4).resolve_left hi
  obtain ⟨q0, e1, e2⟩ := hs_key (D := D) (DA := DA) (n0 := n0) (H := H) b1 hok (by rw [hk]; simp)
  rw [hs_e3 hk] at e1
  rw [List.map_cons, List.map_cons, hs_c_ref hi]
  exact va_zald hx hb hW.1 b2 q0 1 e1 rfl (hs_ix hr) hd (kk G H locs la a1 a2 a3 (hs_pu trivial (hs_n2 a4)) a5 a6)
theorem hs_isR (S : hs_S) (t i j : Nat) (x : Int32) : (hs_wI S t i j x).1 t i = upd (S.1 t i) j x := by
  funext a
  show hs_u3 S.1 t i j x t i a = _
  rw [hs_u3_s]; rfl
theorem wa_iast {Z : hs_Z} {own : String} {cc : ByteArray} {nL : Nat} {R0 : Room} {k n : Nat} {S : hs_S} {pc : Nat} {lv : List (Nat × hs_V)} {st : List hs_V} (X : hs_C Z own cc nL R0) {t i N z : Nat} {x v : Int32} (hk : hs_k t = (2, (N, z))) (hd : decode cc pc = .ok (.iastore, 1)) (hi : i ≠ 0) (hr : 0 ≤ x.toInt ∧ x.toInt < N) (kk : wa Z k n (hs_wI S t i x.toNatClampNeg v) (pc + 1) lv st) : wa Z k n S pc lv (.inl v :: .inl x :: .inr (.inr (t, i)) :: st) := by
  obtain ⟨p, l, e, R, s, m, args, below, meth, c, D, DA, n0, G0, S0, Qw⟩ := Z
  obtain ⟨hx, hb, hml, hown, hts, hlk, hst, hW, hR⟩ := X
  intro G H locs la a1 a2 a3 a4 a5 a6
  obtain ⟨keys, b1, b2, b3, b4, b5, b6⟩ := id a2
  have hok : hs_ok S t i := (hs_h3 a4).resolve_left hi
  obtain ⟨q0, e1, e2⟩ := hs_key (D := D) (DA := DA) (n0 := n0) (H := H) b1 hok (by rw [hk]; simp)
  rw [hs_e2 hk] at e1
  rw [List.map_cons, List.map_cons, List.map_cons, hs_c_ref hi]
  refine va_iast hx hb hW.1 b2 b3 a5 q0 0 e1 rfl (hs_ix hr) hd fun H1 locs1 hP1 hD1 hS1 => ?_
  have he : (.inl (DA.1 0, N, .inl (upd (S.1 t i) x.toNatClampNeg v)) : va_E) = hs_e DA G (hs_put S t i x.toNatClampNeg (.inl v)) t i := by
    rw [hs_e2 hk]
    show _ = Sum.inl (DA.1 0, N, Sum.inl ((hs_wI S t i x.toNatClampNeg v).1 t i))
    rw [hs_isR]
  rw [he] at hP1 hD1
  exact kk G H1 locs1 la (a1.put t i x.toNatClampNeg (.inl v)) (hs_written (v := .inl v) b1 b3 b4 b5 b6 e2 (by rw [hk]; simp) trivial (fun q hq => nomatch hq) hP1 hD1) (hs_put_vl (v := .inl v) a3) (hs_put_vv (v := .inl v) (hs_n3 a4)) hS1 a6
theorem wa_bast {Z : hs_Z} {own : String} {cc : ByteArray} {nL : Nat} {R0 : Room} {k n : Nat} {S : hs_S} {pc : Nat} {lv : List (Nat × hs_V)} {st : List hs_V} (X : hs_C Z own cc nL R0) {t i N z : Nat} {x v : Int32} (hk : hs_k t = (3, (N, z))) (hd : decode cc pc = .ok (.bastore, 1)) (hi : i ≠ 0) (hr : 0 ≤ x.toInt ∧ x.toInt < N) (hv : v = 0 ∨ v = 1) (kk : wa Z k n (hs_wI S t i x.toNatClampNeg v) (pc + 1) lv st) : wa Z k n S pc lv (.inl v :: .inl x :: .inr (.inr (t, i)) :: st) := by
  obtain ⟨p, l, e, R, s, m, args, below, meth, c, D, DA, n0, G0, S0, Qw⟩ := Z
  obtain ⟨hx, hb, hml, hown, hts, hlk, hst, hW, hR⟩ := X
  intro G H locs la a1 a2 a3 a4 a5 a6
  obtain ⟨keys, b1, b2, b3, b4, b5, b6⟩ := id a2
  have hok : hs_ok S t i := (hs_h3 a4).resolve_left hi
  obtain ⟨q0, e1, e2⟩ := hs_key (D := D) (DA := DA) (n0 := n0) (H := H) b1 hok (by rw [hk]; simp)
  rw [hs_e3 hk] at e1
  rw [List.map_cons, List.map_cons, List.map_cons, hs_c_ref hi]
  refine va_zast hx hb hW.1 b2 b3 a5 q0 1 e1 rfl (hs_ix hr) hd fun H1 locs1 hP1 hD1 hS1 => ?_
  have he : (.inl (DA.1 1, N, .inl (upd (S.1 t i) x.toNatClampNeg (vp_nar .boolean v))) : va_E) = hs_e DA G (hs_put S t i x.toNatClampNeg (.inl v)) t i := by
    rw [hs_e3 hk, hs_vnb hv]
    show _ = Sum.inl (DA.1 1, N, Sum.inl ((hs_wI S t i x.toNatClampNeg v).1 t i))
    rw [hs_isR]
  rw [he] at hP1 hD1
  exact kk G H1 locs1 la (a1.put t i x.toNatClampNeg (.inl v)) (hs_written (v := .inl v) b1 b3 b4 b5 b6 e2 (by rw [hk]; simp) trivial (fun q hq => nomatch hq) hP1 hD1) (hs_put_vl (v := .inl v) a3) (hs_put_vv (v := .inl v) (hs_n3 a4)) hS1 a6
theorem hs_rk_ty {b : Nat} (DA : hs_DA) : ∃ ty, (hs_tys DA)[hs_rk b]? = some (DA.1 (hs_rk b), ty) ∧ ty.isReference = true ∧ (b = 8 → ty = .object RX8) ∧ (b = 5 → ty = .object RX5) := by
  by_cases h8 : b = 8
  · subst h8; exact ⟨.object RX8, rfl, rfl, fun _ => rfl, fun h => absurd h (by decide)⟩
  · by_cases h5 : b = 5
    · subst h5; exact ⟨.object RX5, rfl, rfl, fun h => absurd h (by decide), fun _ => rfl⟩
    · have h : hs_rk b = 5 := by
        unfold hs_rk
        split
        · exact absurd rfl h8
        · exact absurd rfl h5
        · rfl
      rw [h]
      exact ⟨.array .int, rfl, rfl, fun h => absurd h h8, fun h => absurd h h5⟩
theorem wa_aald {Z : hs_Z} {own : String} {cc : ByteArray} {nL : Nat} {R0 : Room} {k n : Nat} {S : hs_S} {pc : Nat} {lv : List (Nat × hs_V)} {st : List hs_V} (X : hs_C Z own cc nL R0) {t i N b : Nat} {x : Int32} (hk : hs_k t = (5, (N, b))) (hd : decode cc pc = .ok (.aaload, 1)) (hi : i ≠ 0) (hr : 0 ≤ x.toInt ∧ x.toInt < N) (kk : wa Z k n S (pc + 1) lv (.inr (.inr (b, S.2.1 t i x.toNatClampNeg)) :: st)) : wa Z k n S pc lv (.inl x :: .inr (.inr (t, i)) :: st) := by
  obtain ⟨p, l, e, R, s, m, args, below, meth, c, D, DA, n0, G0, S0, Qw⟩ := Z
  obtain ⟨hx, hb, hml, hown, hts, hlk, hst, hW, hR⟩ := X
  intro G H locs la a1 a2 a3 a4 a5 a6
  obtain ⟨keys, b1, b2, b3, b4, b5, b6⟩ := id a2
  have hok : hs_ok S t i := (hs_h2 a4).resolve_left hi
  obtain ⟨q0, e1, e2⟩ := hs_key (D := D) (DA := DA) (n0 := n0) (H := H) b1 hok (by rw [hk]; simp)
  rw [hs_e5 hk] at e1
  rw [List.map_cons, List.map_cons, hs_c_ref hi]
  obtain ⟨ty, t1, t2, -⟩ := hs_rk_ty (b := b) DA
  have hin := hs_ix hr
  have hlt : x.toNatClampNeg < N := Nat.not_le.mp fun q => hin (Or.inr q)
  have hrt : hs_rt t x.toNatClampNeg = some b := by unfold hs_rt; rw [hk]; rfl
  refine W.aald (v := hs_c G.1 (.inr (.inr (b, S.2.1 t i x.toNatClampNeg)))) (ty := ty) hx hb (b2 q0 _ e1) ((hW.1.2 _ _ t1).1 N (fun j => va_rf (hs_o G.1 b (S.2.1 t i j)))) t2 (fun q => by cases q) (by show ¬ (x < 0 ∨ (arrV _ _ _).slots.size ≤ _); rw [arrV_size]; exact hin) (by show (arrV _ _ _).slots[_]? = _; rw [arrV_read _ _ hlt, hs_o_rf]) rfl rfl hd (kk G H locs la a1 a2 a3 (hs_pu (b4 t i _ b hok hrt) (hs_n2 a4)) a5 a6)
