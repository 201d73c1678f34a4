/-! ===== wiring: final references have fixed numbers ===== -/
def hs_wi (t j : Nat) : Nat := match t with
  | 1 => (match j with | 0 => 1 | 1 => 1 | 2 => 1 | 3 => 1 | _ => 0)
  | 2 => (match j with | 0 => 1 | 1 => 1 | _ => 0)
  | 4 => (match j with | 0 => 1 | 1 => 1 | 3 => 1 | 4 => 1 | 5 => 1 | 6 => 1 | 7 => 1 | 8 => 1 | _ => 0)
  | 5 => (match j with | 0 => 2 | 1 => 2 | 2 => 2 | _ => 0)
  | 6 => (match j with | 0 => 1 | 1 => 1 | 2 => 1 | 3 => 1 | 4 => 1 | 5 => 1 | _ => 0)
  | 7 => (match j with | 0 => 2 | 1 => 2 | _ => 0)
  | 8 => (match j with | 4 => 3 | _ => 0)
  | 9 => (match j with | 0 => 1 | 1 => 1 | 2 => 1 | 3 => 1 | _ => 0)
  | 10 => (match j with | 0 => 1 | 1 => 1 | 2 => 1 | 3 => 1 | 4 => 1 | _ => 0)
  | _ => 0
def hs_wv (k i : Nat) : Nat := match k with
  | 1 => 1
  | 2 => i
  | _ => i + 1
def hs_Wi (S : hs_S) : Prop := (∀ t i j, hs_wi t j ≠ 0 → hs_ok S t i → S.2.1 t i j = hs_wv (hs_wi t j) i) ∧ ∀ j, j < 8 → hs_ok S 32 1 → S.2.1 32 1 j = j + 1
theorem hs_Wi_I {S : hs_S} {t i j : Nat} {x : Int32} (h : hs_Wi S) : hs_Wi (hs_wI S t i j x) := h
theorem hs_Wi_L {S : hs_S} {t i j : Nat} {x : Int64} (h : hs_Wi S) : hs_Wi (hs_wL S t i j x) := h
theorem hs_Wi_R {S : hs_S} {t i j r : Nat} (h0 : hs_wi t j = 0) (h32 : t ≠ 32) (h : hs_Wi S) : hs_Wi (hs_wR S t i j r) := by
  refine ⟨fun a b c hw hok => ?_, fun c hc hok => ?_⟩
  · show hs_u3 S.2.1 t i j r a b c = _
    unfold hs_u3
    rw [if_neg (fun z => hw (by rw [z.1, z.2.2]; exact h0))]
    exact h.1 a b c hw hok
  · show hs_u3 S.2.1 t i j r 32 1 c = _
    unfold hs_u3
    rw [if_neg (fun z => h32 z.1.symm)]
    exact h.2 c hc hok
theorem hs_Wi_nw {S : hs_S} {t : Nat} (h0 : ∀ j, hs_wi t j = 0) (h32 : t ≠ 32) (h : hs_Wi S) : hs_Wi (hs_nw S t) := by
  refine ⟨fun a b c hw hok => ?_, fun c hc hok => ?_⟩
  · have hat : a ≠ t := fun z => hw (z ▸ h0 c)
    show (if a = t ∧ b = S.2.2.2 t + 1 then 0 else S.2.1 a b c) = _
    rw [if_neg (fun z => hat z.1)]
    exact h.1 a b c hw ((hs_ok_nw_inv hok).resolve_right fun z => hat z.1)
  · show (if (32 : Nat) = t ∧ (1 : Nat) = S.2.2.2 t + 1 then 0 else S.2.1 32 1 c) = _
    rw [if_neg (fun z => h32 z.1.symm)]
    exact h.2 c hc ((hs_ok_nw_inv hok).resolve_right fun z => h32 z.1.symm)
theorem wa_getfw {Z : hs_Z} {own : String} {cc : ByteArray} {nL : Nat} {R0 : Room} {k n : Nat} {S : hs_S} {pc : Nat} {lv : List (Nat × hs_V)} {st : List hs_V} (X : hs_C Z own cc nL R0) (hw : hs_Wi S) {t i j ci N ix b w r : Nat} {C : String} {T : u_T} (hk : hs_k t = (1, (ci, N))) (hc : hs_cl0[ci]? = some (C, T, N)) (hin : ∀ w ∈ u_ws C T N, w ∈ hs_ws) (hj : j < N)
    (hl : Cond.fieldLink own ix (T j).1 (T j).2.1 (T j).2.2.1 ∈ hs_ws) (hs : hs_sl t j = b + 2) (hwi : hs_wi t j = w) (hw0 : w ≠ 0) (hr : hs_wv w i = r) (hd : decode cc pc = .ok (.getfield ix, 3)) (hi : i ≠ 0) (kk : wa Z k n S (pc + 3) lv (.inr (.inr (b, r)) :: st)) : wa Z k n S pc lv (.inr (.inr (t, i)) :: st) := by
  obtain ⟨p, l, e, R, s, m, args, below, meth, c, D, DA, n0, G0, S0, Qw⟩ := Z
  intro G H locs la a1 a2 a3 a4 a5 a6
  have hok : hs_ok S t i := (hs_h1 a4).resolve_left hi
  refine wa_getf X hk hc hin hj hl (v := .inr (.inr (b, r))) ?_ hd hi kk G H locs la a1 a2 a3 a4 a5 a6
  unfold hs_gv
  rw [hs]
  show Sum.inr (Sum.inr (b, S.2.1 t i j)) = _
  rw [hw.1 t i j (by rw [hwi]; exact hw0) hok, hwi, hr]
theorem wa_aaldw {Z : hs_Z} {own : String} {cc : ByteArray} {nL : Nat} {R0 : Room} {k n : Nat} {S : hs_S} {pc : Nat} {lv : List (Nat × hs_V)} {st : List hs_V} (X : hs_C Z own cc nL R0) (hw : hs_Wi S) {x : Int32} (hd : decode cc pc = .ok (.aaload, 1)) (hr : 0 ≤ x.toInt ∧ x.toInt < 8) (kk : wa Z k n S (pc + 1) lv (.inr (.inr (33, x.toNatClampNeg + 1)) :: st)) : wa Z k n S pc lv (.inl x :: .inr (.inr (32, 1)) :: st) := by
  obtain ⟨p, l, e, R, s, m, args, below, meth, c, D, DA, n0, G0, S0, Qw⟩ := Z
  intro G H locs la a1 a2 a3 a4 a5 a6
  have hok : hs_ok S 32 1 := (hs_h2 a4).resolve_left (by decide)
  have hx : x.toNatClampNeg < 8 := Nat.not_le.mp fun q => hs_ix (n := 8) hr (Or.inr q)
  refine wa_aald X (t := 32) (N := 8) (b := 33) rfl hd (by decide) hr ?_ G H locs la a1 a2 a3 a4 a5 a6
  rw [hw.2 _ hx hok]
  exact kk
def hs_qI (Q : Int32 → hs_S → Prop) : Option hs_V → hs_S → Prop := fun v S => hs_Wi S ∧ ∃ r, v = some (.inl r) ∧ Q r S
def hs_qL (Q : Int64 → hs_S → Prop) : Option hs_V → hs_S → Prop := fun v S => hs_Wi S ∧ ∃ r, v = some (.inr (.inl r)) ∧ Q r S
def hs_qR (t : Nat) (Q : Nat → hs_S → Prop) : Option hs_V → hs_S → Prop := fun v S => hs_Wi S ∧ ∃ r, v = some (.inr (.inr (t, r))) ∧ Q r S
def hs_qV (Q : hs_S → Prop) : Option hs_V → hs_S → Prop := fun v S => hs_Wi S ∧ v = none ∧ Q S
def hs_rV (Q : hs_S → Prop) : Option hs_V → hs_S → Prop := fun v S => v = none ∧ Q S
def hs_qX (X : String → hs_S → Prop) : String → hs_S → Prop := fun E S => hs_Wi S ∧ X E S
def hs_nX : String → hs_S → Prop := fun _ _ => False
theorem hs_1ne : (1 : Nat) ≠ 0 := by decide
theorem hs_sne (i : Nat) : i + 1 ≠ 0 := Nat.succ_ne_zero i
theorem hs_ne_toInt {x y : Int32} (h : ¬ x = y) : x.toInt ≠ y.toInt := fun z => h (Int32.toInt_inj.mp z)
/-! ===== lists ===== -/
def hs_sz (S : hs_S) (t : Nat) : Nat := S.2.1 t 2 0
def hs_add (S : hs_S) (t r : Nat) : hs_S := (S.1, (fun a b c => if a = t ∧ b = 1 ∧ c = S.2.1 t 2 0 then r else if a = t ∧ b = 2 ∧ c = 0 then S.2.1 t 2 0 + 1 else S.2.1 a b c, S.2.2))
theorem hs_Wi_add {S : hs_S} {t r : Nat} (h0 : ∀ j, hs_wi t j = 0) (h32 : t ≠ 32) (h : hs_Wi S) : hs_Wi (hs_add S t r) := by
  have e : ∀ a b c, a ≠ t → (hs_add S t r).2.1 a b c = S.2.1 a b c := fun a b c hat => by
    show (if a = t ∧ b = 1 ∧ c = S.2.1 t 2 0 then r else if a = t ∧ b = 2 ∧ c = 0 then S.2.1 t 2 0 + 1 else S.2.1 a b c) = _
    rw [if_neg (fun z => hat z.1), if_neg (fun z => hat z.1)]
  refine ⟨fun a b c hw hok => ?_, fun c hc hok => ?_⟩
  · have hat : a ≠ t := fun z => hw (z ▸ h0 c)
    rw [e a b c hat]
    exact h.1 a b c hw hok
  · rw [e 32 1 c (fun z => h32 z.symm)]
    exact h.2 c hc hok
theorem wa_getI {Z : hs_Z} {own : String} {cc : ByteArray} {nL : Nat} {R0 : Room} {k n : Nat} {S : hs_S} {pc : Nat} {lv : List (Nat × hs_V)} {st : List hs_V} (X : hs_C Z own cc nL R0) {t i j ci N ix : Nat} {C : String} {T : u_T} (hk : hs_k t = (1, (ci, N))) (hc : hs_cl0[ci]? = some (C, T, N)) (hin : ∀ w ∈ u_ws C T N, w ∈ hs_ws) (hj : j < N)
    (hl : Cond.fieldLink own ix (T j).1 (T j).2.1 (T j).2.2.1 ∈ hs_ws) (hs : hs_sl t j = 0) (hd : decode cc pc = .ok (.getfield ix, 3)) (hi : i ≠ 0) (kk : wa Z k n S (pc + 3) lv (.inl (S.1 t i j) :: st)) : wa Z k n S pc lv (.inr (.inr (t, i)) :: st) :=
  wa_getf X hk hc hin hj hl (v := .inl (S.1 t i j)) (by unfold hs_gv; rw [hs]) hd hi kk
theorem wa_getR {Z : hs_Z} {own : String} {cc : ByteArray} {nL : Nat} {R0 : Room} {k n : Nat} {S : hs_S} {pc : Nat} {lv : List (Nat × hs_V)} {st : List hs_V} (X : hs_C Z own cc nL R0) {t i j ci N ix b : Nat} {C : String} {T : u_T} (hk : hs_k t = (1, (ci, N))) (hc : hs_cl0[ci]? = some (C, T, N)) (hin : ∀ w ∈ u_ws C T N, w ∈ hs_ws) (hj : j < N)
    (hl : Cond.fieldLink own ix (T j).1 (T j).2.1 (T j).2.2.1 ∈ hs_ws) (hs : hs_sl t j = b + 2) (hd : decode cc pc = .ok (.getfield ix, 3)) (hi : i ≠ 0) (kk : wa Z k n S (pc + 3) lv (.inr (.inr (b, S.2.1 t i j)) :: st)) : wa Z k n S pc lv (.inr (.inr (t, i)) :: st) :=
  wa_getf X hk hc hin hj hl (v := .inr (.inr (b, S.2.1 t i j))) (by unfold hs_gv; rw [hs]) hd hi kk
theorem wa_putI {Z : hs_Z} {own : String} {cc : ByteArray} {nL : Nat} {R0 : Room} {k n : Nat} {S : hs_S} {pc : Nat} {lv : List (Nat × hs_V)} {st : List hs_V} (X : hs_C Z own cc nL R0) {t i j ci N ix : Nat} {C : String} {T : u_T} {x : Int32} {ty : FieldType} (hk : hs_k t = (1, (ci, N))) (hc : hs_cl0[ci]? = some (C, T, N)) (hin : ∀ w ∈ u_ws C T N, w ∈ hs_ws)
    (ty0 : Nat → FieldType) (hty : ∀ k, k < N → parseFieldDescriptor (T k).2.2.1 = some (ty0 k)) (hnm : ∀ a, a < N → ∀ b, b < N → a ≠ b → (T a).2.1 ≠ (T b).2.1) (hj : j < N)
    (hl : Cond.fieldLink own ix (T j).1 (T j).2.1 (T j).2.2.1 ∈ hs_ws) (hf : (T j).2.2.2 = false) (he : ty0 j = ty) (hd : decode cc pc = .ok (.putfield ix, 3)) (hi : i ≠ 0) (hfit : hs_sl t j = 0 ∧ (ty = .int ∨ (ty = .boolean ∧ (x = 0 ∨ x = 1)))) (kk : wa Z k n (hs_wI S t i j x) (pc + 3) lv st) : wa Z k n S pc lv (.inl x :: .inr (.inr (t, i)) :: st) :=
  wa_putf X (v := .inl x) hk hc hin ty0 hty hnm hj hl hf he hd hi hfit kk
theorem wa_putR {Z : hs_Z} {own : String} {cc : ByteArray} {nL : Nat} {R0 : Room} {k n : Nat} {S : hs_S} {pc : Nat} {lv : List (Nat × hs_V)} {st : List hs_V} (X : hs_C Z own cc nL R0) {t i j ci N ix b r : Nat} {C : String} {T : u_T} {ty : FieldType} (hk : hs_k t = (1, (ci, N))) (hc : hs_cl0[ci]? = some (C, T, N)) (hin : ∀ w ∈ u_ws C T N, w ∈ hs_ws)
    (ty0 : Nat → FieldType) (hty : ∀ k, k < N → parseFieldDescriptor (T k).2.2.1 = some (ty0 k)) (hnm : ∀ a, a < N → ∀ b, b < N → a ≠ b → (T a).2.1 ≠ (T b).2.1) (hj : j < N)
    (hl : Cond.fieldLink own ix (T j).1 (T j).2.1 (T j).2.2.1 ∈ hs_ws) (hf : (T j).2.2.2 = false) (he : ty0 j = ty) (hd : decode cc pc = .ok (.putfield ix, 3)) (hi : i ≠ 0) (hfit : hs_sl t j = b + 2 ∧ ((∃ C, ty = .object C) ∨ ∃ u, ty = .array u)) (kk : wa Z k n (hs_wR S t i j r) (pc + 3) lv st) : wa Z k n S pc lv (.inr (.inr (b, r)) :: .inr (.inr (t, i)) :: st) :=
  wa_putf X (v := .inr (.inr (b, r))) hk hc hin ty0 hty hnm hj hl hf he hd hi hfit kk
/-- the method is a constructor -/
def hs_I (Z : hs_Z) : Prop := ∀ p l e R s m args below meth c D DA n0 G0 S0 Qw, Z = (p, l, e, R, s, m, args, below, meth, c, D, DA, n0, G0, S0, Qw) → meth.name = "<init>"
theorem wa_putFI {Z : hs_Z} {own : String} {cc : ByteArray} {nL : Nat} {R0 : Room} {k n : Nat} {S : hs_S} {pc : Nat} {lv : List (Nat × hs_V)} {st : List hs_V} (X : hs_C Z own cc nL R0) (J : hs_I Z) {t i j ci N ix : Nat} {C : String} {T : u_T} {x : Int32} {ty : FieldType} (hk : hs_k t = (1, (ci, N))) (hc : hs_cl0[ci]? = some (C, T, N)) (hin : ∀ w ∈ u_ws C T N, w ∈ hs_ws)
    (ty0 : Nat → FieldType) (hty : ∀ k, k < N → parseFieldDescriptor (T k).2.2.1 = some (ty0 k)) (hnm : ∀ a, a < N → ∀ b, b < N → a ≠ b → (T a).2.1 ≠ (T b).2.1) (hj : j < N)
    (hl : Cond.fieldLink own ix (T j).1 (T j).2.1 (T j).2.2.1 ∈ hs_ws) (hf : (T j).2.2.2 = true) (hdecl : (T j).1 = own) (he : ty0 j = ty) (hd : decode cc pc = .ok (.putfield ix, 3)) (hi : i ≠ 0) (hfit : hs_sl t j = 0 ∧ (ty = .int ∨ (ty = .boolean ∧ (x = 0 ∨ x = 1)))) (kk : wa Z k n (hs_wI S t i j x) (pc + 3) lv st) : wa Z k n S pc lv (.inl x :: .inr (.inr (t, i)) :: st) :=
  wa_putF X J (v := .inl x) hk hc hin ty0 hty hnm hj hl hf hdecl he hd hi hfit kk
theorem wa_putFR {Z : hs_Z} {own : String} {cc : ByteArray} {nL : Nat} {R0 : Room} {k n : Nat} {S : hs_S} {pc : Nat} {lv : List (Nat × hs_V)} {st : List hs_V} (X : hs_C Z own cc nL R0) (J : hs_I Z) {t i j ci N ix b r : Nat} {C : String} {T : u_T} {ty : FieldType} (hk : hs_k t = (1, (ci, N))) (hc : hs_cl0[ci]? = some (C, T, N)) (hin : ∀ w ∈ u_ws C T N, w ∈ hs_ws)
    (ty0 : Nat → FieldType) (hty : ∀ k, k < N → parseFieldDescriptor (T k).2.2.1 = some (ty0 k)) (hnm : ∀ a, a < N → ∀ b, b < N → a ≠ b → (T a).2.1 ≠ (T b).2.1) (hj : j < N)
    (hl : Cond.fieldLink own ix (T j).1 (T j).2.1 (T j).2.2.1 ∈ hs_ws) (hf : (T j).2.2.2 = true) (hdecl : (T j).1 = own) (he : ty0 j = ty) (hd : decode cc pc = .ok (.putfield ix, 3)) (hi : i ≠ 0) (hfit : hs_sl t j = b + 2 ∧ ((∃ C, ty = .object C) ∨ ∃ u, ty = .array u)) (kk : wa Z k n (hs_wR S t i j r) (pc + 3) lv st) : wa Z k n S pc lv (.inr (.inr (b, r)) :: .inr (.inr (t, i)) :: st) :=
  wa_putF X J (v := .inr (.inr (b, r))) hk hc hin ty0 hty hnm hj hl hf hdecl he hd hi hfit kk
def hs_cpy (S : hs_S) (t i t' i' : Nat) (sp dp w : Int32) : hs_S := (fun a b c => if a = t' ∧ b = i' then va_cpy (S.1 t i) (S.1 t' i') sp.toNatClampNeg dp.toNatClampNeg w.toNatClampNeg c else S.1 a b c, S.2)
theorem hs_eqS {Z : hs_Z} {k n : Nat} {a : hs_S} {pc : Nat} {lv : List (Nat × hs_V)} {st : List hs_V} (h : ∀ S' : hs_S, S' = a → wa Z k n S' pc lv st) : wa Z k n a pc lv st := h a rfl
def hs_pq (w : hs_V) (S : hs_S) : Option hs_V → hs_S → Prop := fun v S' => v = some w ∧ S' = S
theorem hs_pk {Z : hs_Z} {k n : Nat} {S : hs_S} {pc : Nat} {lv : List (Nat × hs_V)} {st : List hs_V} {w : hs_V} (kk : wa Z k n S pc lv (w :: st)) : ∀ v S', hs_pq w S v S' → wa Z k n S' pc lv (v.toList ++ st) := by
  rintro _ _ ⟨rfl, rfl⟩
  exact kk
theorem hs_M.mono {d : Nat} {y : MethodName} {w : Cond} {av : List hs_V} {S : hs_S} {mc mS : Nat} {Q Q' : Option hs_V → hs_S → Prop} {X X' : String → hs_S → Prop} (h : hs_M d y w av S mc mS Q X) (hQ : ∀ v S', Q v S' → Q' v S') (hX : ∀ E S', X E S' → X' E S') : hs_M d y w av S mc mS Q' X' := by
  intro l D DA n0 G hl hav
  have hm := h l D DA n0 G hl hav
  refine MetFree.mono hm (fun _ _ h => h) (fun _ _ _ _ _ h => h) (fun a st o t _ hq => ?_)
  rcases hq with ⟨⟨⟨v, S', G', e1, e2, e3⟩, e4⟩, e5⟩ | ⟨q, e1, E, ce, L, ⟨⟨S', G', e2, e3⟩, e4⟩, e5⟩
  · exact Or.inl ⟨⟨⟨v, S', G', e1, hQ v S' e2, e3⟩, e4⟩, e5⟩
  · exact Or.inr ⟨q, e1, E, ce, L, ⟨⟨S', G', hX E S' e2, e3⟩, e4⟩, e5⟩
/-- a method whose answer and state are functions -/
def hs_pd (w : Option hs_V) (S : hs_S) : Option hs_V → hs_S → Prop := fun v S' => v = w ∧ S' = S ∧ hs_Wi S'
theorem hs_pdk {Z : hs_Z} {k n : Nat} {S : hs_S} {pc : Nat} {lv : List (Nat × hs_V)} {st : List hs_V} {w : Option hs_V} (kk : ∀ S', S' = S → hs_Wi S' → wa Z k n S' pc lv (w.toList ++ st)) : ∀ v S', hs_pd w S v S' → wa Z k n S' pc lv (v.toList ++ st) := by
  rintro _ S' ⟨rfl, h, hw⟩
  exact kk S' h hw
theorem hs_pdI {d : Nat} {y : MethodName} {w : Cond} {av : List hs_V} {S : hs_S} {mc mS : Nat} {r : Int32} {E : hs_S} (h : hs_M d y w av S mc mS (hs_qI fun r' S' => r' = r ∧ S' = E) hs_nX) : hs_M d y w av S mc mS (hs_pd (some (.inl r)) E) hs_nX := h.mono (fun v S' q => by obtain ⟨hw, r', e1, e2, e3⟩ := q; exact ⟨by rw [e1, e2], e3, hw⟩) (fun _ _ q => q)
theorem hs_pdL {d : Nat} {y : MethodName} {w : Cond} {av : List hs_V} {S : hs_S} {mc mS : Nat} {r : Int64} {E : hs_S} (h : hs_M d y w av S mc mS (hs_qL fun r' S' => r' = r ∧ S' = E) hs_nX) : hs_M d y w av S mc mS (hs_pd (some (.inr (.inl r))) E) hs_nX := h.mono (fun v S' q => by obtain ⟨hw, r', e1, e2, e3⟩ := q; exact ⟨by rw [e1, e2], e3, hw⟩) (fun _ _ q => q)
theorem hs_pdR {d : Nat} {y : MethodName} {w : Cond} {av : List hs_V} {S : hs_S} {mc mS t : Nat} {r : Nat} {E : hs_S} (h : hs_M d y w av S mc mS (hs_qR t fun r' S' => r' = r ∧ S' = E) hs_nX) : hs_M d y w av S mc mS (hs_pd (some (.inr (.inr (t, r)))) E) hs_nX := h.mono (fun v S' q => by obtain ⟨hw, r', e1, e2, e3⟩ := q; exact ⟨by rw [e1, e2], e3, hw⟩) (fun _ _ q => q)
theorem hs_pdV {d : Nat} {y : MethodName} {w : Cond} {av : List hs_V} {S : hs_S} {mc mS : Nat} {E : hs_S} (h : hs_M d y w av S mc mS (hs_qV fun S' => S' = E) hs_nX) : hs_M d y w av S mc mS (hs_pd none E) hs_nX := h.mono (fun v S' q => by obtain ⟨hw, e1, e3⟩ := q; exact ⟨e1, e3, hw⟩) (fun _ _ q => q)
theorem hs_pdk0 {Z : hs_Z} {k n : Nat} {S : hs_S} {pc : Nat} {lv : List (Nat × hs_V)} {st : List hs_V} {w : Option hs_V} (kk : wa Z k n S pc lv (w.toList ++ st)) : ∀ v S', hs_pd w S v S' → wa Z k n S' pc lv (v.toList ++ st) := by
  rintro _ S' ⟨rfl, h, _⟩
  rw [h]
  exact kk
