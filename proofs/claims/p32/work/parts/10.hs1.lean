/-! ===== the abstract machine: values, states, worlds ===== -/
abbrev hs_V : Type := Int32 ⊕ (Int64 ⊕ (Nat × Nat))
/-- what is kept by kind (tag), number, place: ints, references (0: null), longs; how many of a tag there are -/
abbrev hs_S : Type := (Nat → Nat → Nat → Int32) × ((Nat → Nat → Nat → Nat) × ((Nat → Nat → Nat → Int64) × (Nat → Nat)))
/-- where things lie; of lists: counts, room behind, the row behind -/
abbrev hs_G : Type := (Nat → Nat → Nat) × ((Nat → Int32) × ((Nat → Nat) × (Nat → Nat → Option Nat)))
/-- classes of rows; the empty row; the script, its length, its ints -/
abbrev hs_DA : Type := (Nat → ClassId) × (Nat × (Nat × (Nat × (Nat → Int32))))
def hs_c (al : Nat → Nat → Nat) (v : hs_V) : Value := match v with
  | .inl x => .int x
  | .inr (.inl x) => .long x
  | .inr (.inr q) => if q.2 = 0 then .null else .ref (al q.1 q.2)
def hs_cat (v : hs_V) : Nat := match v with
  | .inr (.inl _) => 2
  | _ => 1
theorem hs_c_cat (al : Nat → Nat → Nat) (v : hs_V) : (hs_c al v).category = hs_cat v := by
  rcases v with x | x | ⟨t, i⟩
  · rfl
  · rfl
  · show (if i = 0 then Value.null else Value.ref (al t i)).category = 1
    by_cases h : i = 0 <;> simp [h, Value.category]
theorem hs_c_ref {al : Nat → Nat → Nat} {t i : Nat} (h : i ≠ 0) : hs_c al (.inr (.inr (t, i))) = .ref (al t i) := if_neg h
theorem hs_c_null {al : Nat → Nat → Nat} {t : Nat} : hs_c al (.inr (.inr (t, 0))) = .null := rfl
def hs_o (al : Nat → Nat → Nat) (b r : Nat) : Option Nat := if r = 0 then none else some (al b r)
theorem hs_o_rf (al : Nat → Nat → Nat) (b r : Nat) : va_rf (hs_o al b r) = hs_c al (.inr (.inr (b, r))) := by
  unfold hs_o
  by_cases h : r = 0
  · rw [if_pos h, h]; rfl
  · rw [if_neg h, hs_c_ref h]; rfl
def hs_k (t : Nat) : Nat × (Nat × Nat) := match t with
  | 0 => (1, (0, 10))
  | 1 => (1, (1, 4))
  | 2 => (1, (2, 2))
  | 3 => (1, (3, 7))
  | 4 => (1, (4, 10))
  | 5 => (1, (5, 5))
  | 6 => (1, (6, 6))
  | 7 => (1, (7, 2))
  | 8 => (1, (8, 9))
  | 9 => (1, (9, 5))
  | 10 => (1, (10, 6))
  | 12 => (6, (3, 0))
  | 13 => (6, (0, 0))
  | 14 => (6, (8, 0))
  | 15 => (7, (0, 0))
  | 16 => (7, (0, 0))
  | 17 => (7, (0, 0))
  | 20 => (2, (24, 0))
  | 21 => (2, (24, 0))
  | 22 => (2, (12, 0))
  | 23 => (2, (12, 0))
  | 24 => (2, (12, 0))
  | 25 => (2, (4, 0))
  | 26 => (5, (4, 8))
  | 27 => (3, (4, 0))
  | 28 => (5, (24, 5))
  | 29 => (2, (24, 0))
  | 30 => (2, (24, 0))
  | 31 => (2, (24, 0))
  | 32 => (5, (8, 33))
  | 33 => (2, (4, 0))
  | 34 => (2, (291, 0))
  | 35 => (2, (24, 0))
  | 36 => (2, (6, 0))
  | 37 => (2, (6, 0))
  | 38 => (2, (6, 0))
  | 39 => (2, (6, 0))
  | 100 => (4, (1, 0))
  | 101 => (8, (0, 0))
  | _ => (0, (0, 0))
def hs_sl (t j : Nat) : Nat := match t with
  | 0 => (match j with | 2 => 10 | _ => 0)
  | 1 => (match j with | 0 => 15 | 1 => 28 | 2 => 16 | 3 => 29 | _ => 0)
  | 2 => (match j with | 0 => 3 | 1 => 6 | _ => 0)
  | 3 => (match j with | 5 => 7 | _ => 0)
  | 4 => (match j with | 0 => 11 | 1 => 3 | 2 => 9 | 3 => 30 | 4 => 31 | 5 => 32 | 6 => 33 | 7 => 34 | 8 => 36 | _ => 0)
  | 5 => (match j with | 0 => 24 | 1 => 25 | 2 => 26 | _ => 0)
  | 6 => (match j with | 0 => 3 | 1 => 37 | 2 => 38 | 3 => 39 | 4 => 40 | 5 => 41 | _ => 0)
  | 7 => (match j with | 0 => 22 | 1 => 23 | _ => 0)
  | 8 => (match j with | 4 => 9 | _ => 0)
  | 9 => (match j with | 0 => 9 | 1 => 14 | 2 => 27 | 3 => 7 | 4 => 7 | _ => 0)
  | 10 => (match j with | 0 => 11 | 1 => 3 | 2 => 6 | 3 => 4 | 4 => 8 | _ => 0)
  | _ => 0

def hs_rk (b : Nat) : Nat := match b with
  | 8 => 3
  | 5 => 4
  | _ => 5
def hs_gv (S : hs_S) (t i j : Nat) : hs_V := match hs_sl t j with
  | 0 => .inl (S.1 t i j)
  | 1 => .inr (.inl (S.2.2.1 t i j))
  | c + 2 => .inr (.inr (c, S.2.1 t i j))
def hs_e (DA : hs_DA) (G : hs_G) (S : hs_S) (t i : Nat) : va_E := match hs_k t with
  | (1, (ci, N)) => .inr (ci, (List.range N).map (fun j => hs_c G.1 (hs_gv S t i j)))
  | (2, (n, _)) => .inl (DA.1 0, n, .inl (S.1 t i))
  | (3, (n, _)) => .inl (DA.1 1, n, .inl (S.1 t i))
  | (4, (n, _)) => .inl (DA.1 2, n, .inr (.inl (S.2.2.1 t i)))
  | (5, (n, b)) => .inl (DA.1 (hs_rk b), n, .inr (.inr (.inr (.inr (fun j => hs_o G.1 b (S.2.1 t i j))))))
  | (6, _) => .inr (12, [.int (G.2.1 t), .ref (G.1 (t + 3) 1), .int (nI (S.2.1 t 2 0))])
  | (7, _) => .inl (DA.1 6, G.2.2.1 t, .inr (.inr (.inr (.inr (G.2.2.2 t)))))
  | _ => .inl (DA.1 0, 0, .inl (fun _ => 0))
def hs_cell (DA : hs_DA) (G : hs_G) (S : hs_S) (k : Nat × Nat) : Nat × va_E := (G.1 k.1 k.2, hs_e DA G S k.1 k.2)
def hs_ok (S : hs_S) (t i : Nat) : Prop := (hs_k t).1 ≠ 0 ∧ (hs_k t).1 ≠ 7 ∧ 1 ≤ i ∧ i ≤ S.2.2.2 t
def hs_rt (t j : Nat) : Option Nat := match hs_k t with
  | (1, _) => (match hs_sl t j with | c + 2 => some c | _ => none)
  | (5, (_, b)) => some b
  | (6, (b, _)) => some b
  | _ => none
def hs_in (G : hs_G) (S : hs_S) (t i : Nat) : Prop := (hs_ok S t i ∧ (hs_k t).1 ≠ 8) ∨ ((hs_k t).1 = 7 ∧ i = 1 ∧ 0 < G.2.2.1 t)
/-- what lists are -/
def hs_LI (DA : hs_DA) (G : hs_G) (S : hs_S) : Prop := ∀ t b z : Nat, hs_k t = (6, (b, z)) → hs_ok S t 1 →
  S.2.1 t 2 0 ≤ G.2.2.1 (t + 3) ∧ G.2.2.1 (t + 3) ≤ 40000 ∧ G.2.2.1 (t + 3) ≠ 1 ∧ (G.2.2.1 (t + 3) = 0 → G.1 (t + 3) 1 = DA.2.1) ∧
  (∀ j, j < S.2.1 t 2 0 → G.2.2.2 (t + 3) j = some (G.1 b (S.2.1 t 1 j)) ∧ hs_ok S b (S.2.1 t 1 j)) ∧ S.2.2.2 t = 1 ∧ (∀ j, S.2.1 t 2 0 ≤ j → G.2.2.2 (t + 3) j = none)
def hs_cl0 : List vw_C := [(RX0, TX0, 10), (RX1, TX1, 4), (RX2, TX2, 2), (RX3, TX3, 7), (RX4, TX4, 10), (RX5, TX5, 5), (RX6, TX6, 6), (RX7, TX7, 2), (RX8, TX8, 9), (RX9, TX9, 5), (RX10, TX10, 6), (RX10, TX10, 6), (RJx4a65c, TJx4a65c, 3)]
def hs_tys (DA : hs_DA) : List (ClassId × FieldType) := [(DA.1 0, .int), (DA.1 1, .boolean), (DA.1 2, .int), (DA.1 3, .object RX8), (DA.1 4, .object RX5), (DA.1 5, .array .int), (DA.1 6, .object "java/lang/Object")]
def hs_P (D : va_G) (DA : hs_DA) (n0 : Nat → Prop) (G : hs_G) (S : hs_S) (H : Heap) : Prop :=
  ∃ keys : List (Nat × Nat), (∀ t i, (t, i) ∈ keys ↔ hs_in G S t i) ∧ va_P D hs_cl0 (keys.map (hs_cell DA G S)) H ∧ va_D n0 (keys.map (hs_cell DA G S)) ∧
    (∀ t i j c, hs_ok S t i → hs_rt t j = some c → S.2.1 t i j = 0 ∨ hs_ok S c (S.2.1 t i j)) ∧ hs_LI DA G S ∧ G.1 101 1 = DA.2.2.1
def hs_vv (S : hs_S) (v : hs_V) : Prop := match v with
  | .inr (.inr q) => q.2 = 0 ∨ hs_ok S q.1 q.2
  | _ => True
/-- what was known stays known, where it was -/
def hs_x (G0 : hs_G) (S0 : hs_S) (G : hs_G) (S : hs_S) : Prop := ∀ t i, hs_ok S0 t i → hs_ok S t i ∧ G.1 t i = G0.1 t i
theorem hs_x.rf {G : hs_G} {S : hs_S} : hs_x G S G S := fun _ _ h => ⟨h, rfl⟩
theorem hs_x.tr {G0 G1 G2 : hs_G} {S0 S1 S2 : hs_S} (h : hs_x G0 S0 G1 S1) (k : hs_x G1 S1 G2 S2) : hs_x G0 S0 G2 S2 := fun t i q => ⟨(k t i (h t i q).1).1, (k t i (h t i q).1).2.trans (h t i q).2⟩
theorem hs_x.c {G0 G : hs_G} {S0 S : hs_S} (h : hs_x G0 S0 G S) {v : hs_V} (hv : hs_vv S0 v) : hs_c G.1 v = hs_c G0.1 v := by
  rcases v with x | x | ⟨t, i⟩
  · rfl
  · rfl
  · rcases hv with hv | hv
    · have hv : i = 0 := hv
      subst hv; rfl
    · show (if i = 0 then Value.null else Value.ref (G.1 t i)) = (if i = 0 then Value.null else Value.ref (G0.1 t i))
      rw [(h t i hv).2]
theorem hs_x.vv {G0 G : hs_G} {S0 S : hs_S} (h : hs_x G0 S0 G S) {v : hs_V} (hv : hs_vv S0 v) : hs_vv S v := by
  rcases v with x | x | ⟨t, i⟩
  · trivial
  · trivial
  · rcases hv with hv | hv
    · exact Or.inl hv
    · exact Or.inr (h t i hv).1
theorem hs_x.cs {G0 G : hs_G} {S0 S : hs_S} (h : hs_x G0 S0 G S) {vs : List hs_V} (hv : ∀ v ∈ vs, hs_vv S0 v) : vs.map (hs_c G.1) = vs.map (hs_c G0.1) := List.map_congr_left fun v q => h.c (hv v q)
theorem hs_x.cl {G0 G : hs_G} {S0 S : hs_S} (h : hs_x G0 S0 G S) {vs : List (Nat × hs_V)} (hv : ∀ v ∈ vs, hs_vv S0 v.2) : vs.map (fun q => (q.1, hs_c G.1 q.2)) = vs.map (fun q => (q.1, hs_c G0.1 q.2)) := List.map_congr_left fun v q => by rw [h.c (hv v q)]
/-- the place of a thing in the world -/
theorem hs_at {D : va_G} {DA : hs_DA} {n0 : Nat → Prop} {G : hs_G} {S : hs_S} {H : Heap} {keys : List (Nat × Nat)} {t i : Nat} (h : (t, i) ∈ keys) : ∃ q0 : Nat, (keys.map (hs_cell DA G S))[q0]? = some (G.1 t i, hs_e DA G S t i) ∧ keys[q0]? = some (t, i) := by
  obtain ⟨q0, h1⟩ := List.getElem?_of_mem h
  exact ⟨q0, by rw [List.getElem?_map, h1]; rfl, h1⟩
theorem hs_one {DA : hs_DA} {A : Nat → Prop} {G : hs_G} {S : hs_S} {keys : List (Nat × Nat)} (hD : va_D A (keys.map (hs_cell DA G S))) {a b : Nat} {k : Nat × Nat} (ha : keys[a]? = some k) (hb : keys[b]? = some k) : a = b :=
  hD.1 a b (hs_cell DA G S k) (hs_cell DA G S k) (by rw [List.getElem?_map, ha]; rfl) (by rw [List.getElem?_map, hb]; rfl) rfl
/-- one thing is written -/
theorem hs_upd {DA : hs_DA} {A : Nat → Prop} {G : hs_G} {S S' : hs_S} {keys : List (Nat × Nat)} (hD : va_D A (keys.map (hs_cell DA G S))) {q0 t i : Nat} (hq : keys[q0]? = some (t, i)) (ho : ∀ k : Nat × Nat, k ∈ keys → k ≠ (t, i) → hs_cell DA G S' k = hs_cell DA G S k) :
    (keys.map (hs_cell DA G S)).set q0 (hs_cell DA G S' (t, i)) = keys.map (hs_cell DA G S') := by
  apply List.ext_getElem?
  intro k
  have hlt : q0 < (keys.map (hs_cell DA G S)).length := by
    rw [List.length_map]; exact (List.getElem?_eq_some_iff.mp hq).1
  by_cases hk : q0 = k
  · subst hk
    rw [List.getElem?_set_self hlt, List.getElem?_map, hq]; rfl
  · rw [List.getElem?_set_ne hk, List.getElem?_map, List.getElem?_map]
    cases hz : keys[k]? with
    | none => rfl
    | some z =>
      have hne : z ≠ (t, i) := fun e => hk (hs_one hD hq (by rw [hz, e]))
      exact congrArg some (ho z (List.mem_of_getElem? hz) hne).symm
/-- writing a number, a reference, a long -/
def hs_u3 {α : Type} (f : Nat → Nat → Nat → α) (t i j : Nat) (x : α) : Nat → Nat → Nat → α := fun a b c => if a = t ∧ b = i ∧ c = j then x else f a b c
def hs_wI (S : hs_S) (t i j : Nat) (x : Int32) : hs_S := (hs_u3 S.1 t i j x, S.2)
def hs_wR (S : hs_S) (t i j : Nat) (x : Nat) : hs_S := (S.1, (hs_u3 S.2.1 t i j x, S.2.2))
def hs_wL (S : hs_S) (t i j : Nat) (x : Int64) : hs_S := (S.1, (S.2.1, (hs_u3 S.2.2.1 t i j x, S.2.2.2)))
theorem hs_u3_o {α : Type} {f : Nat → Nat → Nat → α} {t i j : Nat} {x : α} {a b : Nat} (h : (a, b) ≠ (t, i)) : hs_u3 f t i j x a b = f a b := by
  funext c
  refine if_neg fun q => h ?_
  rw [q.1, q.2.1]
theorem hs_u3_s {α : Type} {f : Nat → Nat → Nat → α} {t i j : Nat} {x : α} {c : Nat} : hs_u3 f t i j x t i c = if c = j then x else f t i c := by
  show (if t = t ∧ i = i ∧ c = j then x else f t i c) = _
  simp
def hs_put (S : hs_S) (t i j : Nat) (v : hs_V) : hs_S := match v with
  | .inl x => hs_wI S t i j x
  | .inr (.inl x) => hs_wL S t i j x
  | .inr (.inr q) => hs_wR S t i j q.2
theorem hs_put_N (S : hs_S) (t i j : Nat) (v : hs_V) : (hs_put S t i j v).2.2.2 = S.2.2.2 := by rcases v with x | x | x <;> rfl
theorem hs_put_1 {S : hs_S} {t i j : Nat} {v : hs_V} {a b : Nat} (h : (a, b) ≠ (t, i)) : (hs_put S t i j v).1 a b = S.1 a b := by
  rcases v with x | x | x
  · exact hs_u3_o h
  · rfl
  · rfl
theorem hs_put_2 {S : hs_S} {t i j : Nat} {v : hs_V} {a b : Nat} (h : (a, b) ≠ (t, i)) : (hs_put S t i j v).2.1 a b = S.2.1 a b := by
  rcases v with x | x | x
  · rfl
  · rfl
  · exact hs_u3_o h
theorem hs_put_3 {S : hs_S} {t i j : Nat} {v : hs_V} {a b : Nat} (h : (a, b) ≠ (t, i)) : (hs_put S t i j v).2.2.1 a b = S.2.2.1 a b := by
  rcases v with x | x | x
  · rfl
  · exact hs_u3_o h
  · rfl
theorem hs_gv_o {S S' : hs_S} {t i : Nat} (h1 : S'.1 t i = S.1 t i) (h2 : S'.2.1 t i = S.2.1 t i) (h3 : S'.2.2.1 t i = S.2.2.1 t i) (j : Nat) : hs_gv S' t i j = hs_gv S t i j := by
  unfold hs_gv
  rw [h1, h2, h3]
theorem hs_e_o {DA : hs_DA} {G : hs_G} {S S' : hs_S} {t i : Nat} (h1 : S'.1 t i = S.1 t i) (h2 : S'.2.1 t i = S.2.1 t i) (h3 : S'.2.2.1 t i = S.2.2.1 t i) (h4 : (hs_k t).1 = 6 → S'.2.1 t 2 0 = S.2.1 t 2 0) : hs_e DA G S' t i = hs_e DA G S t i := by
  unfold hs_e
  split
  · congr 2
    exact List.map_congr_left fun j _ => by rw [hs_gv_o h1 h2 h3]
  · rw [h1]
  · rw [h1]
  · rw [h3]
  · rw [h2]
  · rename_i hk
    rw [h4 (by rw [hk])]
  · rfl
  · rfl
theorem hs_ok_N {S S' : hs_S} (h : S'.2.2.2 = S.2.2.2) {t i : Nat} : hs_ok S' t i ↔ hs_ok S t i := by unfold hs_ok; rw [h]
theorem hs_vv_N {S S' : hs_S} (h : S'.2.2.2 = S.2.2.2) {v : hs_V} : hs_vv S' v ↔ hs_vv S v := by
  rcases v with x | x | ⟨t, i⟩
  · exact Iff.rfl
  · exact Iff.rfl
  · exact or_congr Iff.rfl (hs_ok_N h)
theorem hs_x.put {G0 : hs_G} {S0 : hs_S} {G : hs_G} {S : hs_S} (h : hs_x G0 S0 G S) (t i j : Nat) (v : hs_V) : hs_x G0 S0 G (hs_put S t i j v) := fun a b q => ⟨(hs_ok_N (hs_put_N S t i j v)).mpr (h a b q).1, (h a b q).2⟩
/-- behind a write that is no list's: the new world -/
theorem hs_written {D : va_G} {DA : hs_DA} {n0 : Nat → Prop} {G : hs_G} {S : hs_S} {H1 : Heap} {keys : List (Nat × Nat)} {t i j q0 : Nat} {v : hs_V} (hkey : ∀ t i, (t, i) ∈ keys ↔ hs_in G S t i) (hD : va_D n0 (keys.map (hs_cell DA G S)))
    (hcl : ∀ t i j c, hs_ok S t i → hs_rt t j = some c → S.2.1 t i j = 0 ∨ hs_ok S c (S.2.1 t i j)) (hLI : hs_LI DA G S) (hb : G.1 101 1 = DA.2.2.1) (hq : keys[q0]? = some (t, i)) (hn6 : (hs_k t).1 ≠ 6) (hvv : hs_vv S v) (hty : ∀ q : Nat × Nat, v = .inr (.inr q) → hs_rt t j = some q.1)
    (hP1 : va_P D hs_cl0 ((keys.map (hs_cell DA G S)).set q0 (hs_cell DA G (hs_put S t i j v) (t, i))) H1) (hD1 : va_D n0 ((keys.map (hs_cell DA G S)).set q0 (hs_cell DA G (hs_put S t i j v) (t, i)))) : hs_P D DA n0 G (hs_put S t i j v) H1 := by
  have e : (keys.map (hs_cell DA G S)).set q0 (hs_cell DA G (hs_put S t i j v) (t, i)) = keys.map (hs_cell DA G (hs_put S t i j v)) := by
    refine hs_upd hD hq fun k hk hne => ?_
    obtain ⟨a, b⟩ := k
    refine Prod.ext rfl ?_
    refine hs_e_o (hs_put_1 hne) (hs_put_2 hne) (hs_put_3 hne) fun h6 => ?_
    refine congrFun (hs_put_2 (a := a) (b := 2) fun z => ?_) 0
    have z1 : a = t := congrArg Prod.fst z
    exact hn6 (z1 ▸ h6)
  rw [e] at hP1 hD1
  have hN := hs_put_N S t i j v
  refine ⟨keys, fun a b => (hkey a b).trans ?_, hP1, hD1, fun a b d c h1 h2 => ?_, fun a b z hk hok => ?_, hb⟩
  · unfold hs_in
    exact or_congr (and_congr (hs_ok_N hN).symm Iff.rfl) Iff.rfl
  · rw [hs_ok_N hN] at h1
    rw [hs_ok_N hN]
    have hold := hcl a b d c h1 h2
    rcases v with x | x | ⟨t', r⟩
    · exact hold
    · exact hold
    · show hs_u3 S.2.1 t i j r a b d = 0 ∨ hs_ok S c (hs_u3 S.2.1 t i j r a b d)
      unfold hs_u3
      by_cases hz : a = t ∧ b = i ∧ d = j
      · rw [if_pos hz]
        obtain ⟨z1, z2, z3⟩ := hz
        subst z1; subst z2; subst z3
        have hc : c = t' := Option.some.inj (h2.symm.trans (hty (t', r) rfl))
        subst hc
        exact hvv
      · rw [if_neg hz]
        exact hold
  · have h6 : (hs_k a).1 = 6 := by rw [hk]
    have hat : a ≠ t := fun z => hn6 (z ▸ h6)
    have e1 : ∀ b', (hs_put S t i j v).2.1 a b' = S.2.1 a b' := fun b' => hs_put_2 fun z => hat (congrArg Prod.fst z)
    rw [hs_ok_N hN] at hok
    have h := hLI a b z hk hok
    rw [e1, e1, hN]
    exact ⟨h.1, h.2.1, h.2.2.1, h.2.2.2.1, fun j' hj' => ⟨(h.2.2.2.2.1 j' hj').1, (hs_ok_N hN).mpr (h.2.2.2.2.1 j' hj').2⟩, h.2.2.2.2.2⟩
