/-! ===== rows of rows ===== -/
def hs_nm (S : hs_S) : hs_S := (fun a b c => if a = 32 ∧ b = 1 then 0 else if a = 33 ∧ 1 ≤ b ∧ b ≤ 8 then 0 else S.1 a b c, (fun a b c => if a = 32 ∧ b = 1 then (if c < 8 then c + 1 else 0) else if a = 33 ∧ 1 ≤ b ∧ b ≤ 8 then 0 else S.2.1 a b c, (S.2.2.1, fun a => if a = 32 then 1 else if a = 33 then 8 else S.2.2.2 a)))
theorem hs_keep2 {DA : hs_DA} {G G' : hs_G} {S S' : hs_S} {a c : Nat} (hx : hs_x G S G' S') (hcl : ∀ t i j c, hs_ok S t i → hs_rt t j = some c → S.2.1 t i j = 0 ∨ hs_ok S c (S.2.1 t i j)) (h1 : S'.1 a = S.1 a) (h2 : S'.2.1 a = S.2.1 a) (h3 : S'.2.2.1 a = S.2.2.1 a) (eG : G'.2 = G.2) (g0 : G'.1 a c = G.1 a c) (g6 : (hs_k a).1 = 6 → G'.1 (a + 3) 1 = G.1 (a + 3) 1) (hin : hs_in G S a c) : hs_cell DA G' S' (a, c) = hs_cell DA G S (a, c) := by
  refine Prod.ext g0 ?_
  show hs_e DA G' S' a c = hs_e DA G S a c
  rcases hin with ⟨hok, h8⟩ | ⟨h7, hc1, h⟩
  · have hc := hcl a c
    unfold hs_rt at hc
    unfold hs_e
    split
    · rename_i ci N hk
      rw [hk] at hc
      congr 2
      refine List.map_congr_left fun j _ => ?_
      rw [hs_gv_o (congrFun h1 c) (congrFun h2 c) (congrFun h3 c)]
      refine hx.c ?_
      unfold hs_gv
      split
      · trivial
      · trivial
      · rename_i c' hs
        refine hc j c' hok ?_
        show (match hs_sl a j with | c + 2 => some c | _ => none) = some c'
        rw [hs]
    · rw [h1]
    · rw [h1]
    · rw [h3]
    · rename_i n' b' hk
      rw [hk] at hc
      rw [h2]
      congr 7
      funext j
      unfold hs_o
      by_cases h0 : S.2.1 a c j = 0
      · rw [if_pos h0, if_pos h0]
      · rw [if_neg h0, if_neg h0, (hx b' _ ((hc j b' hok rfl).resolve_left h0)).2]
    · rename_i z hk
      rw [h2, eG, g6 (by rw [hk])]
    · rename_i z hk
      exact absurd (show (hs_k a).1 = 7 by rw [hk]) hok.2.1
    · rfl
  · rw [hs_e7 h7, hs_e7 h7, eG]
def hs_mmG (G : hs_G) (q : Nat) (r : Nat → Nat) : hs_G := (fun a c => if a = 32 ∧ c = 1 then q else if a = 33 ∧ 1 ≤ c ∧ c ≤ 8 then r (c - 1) else G.1 a c, G.2)
theorem hs_nm_o {S : hs_S} {a : Nat} (n1 : a ≠ 32) (n2 : a ≠ 33) : (hs_nm S).1 a = S.1 a ∧ (hs_nm S).2.1 a = S.2.1 a ∧ (hs_nm S).2.2.2 a = S.2.2.2 a :=
  ⟨funext fun _ => funext fun _ => (if_neg fun z => n1 z.1).trans (if_neg fun z => n2 z.1), funext fun _ => funext fun _ => (if_neg fun z => n1 z.1).trans (if_neg fun z => n2 z.1), (if_neg n1).trans (if_neg n2)⟩
theorem hs_rowed {D : va_G} {DA : hs_DA} {n0 : Nat → Prop} {G : hs_G} {S : hs_S} {H1 : Heap} {keys : List (Nat × Nat)} {q : Nat} {r : Nat → Nat} {ws' : va_W}
    (b1 : ∀ t i, (t, i) ∈ keys ↔ hs_in G S t i) (b3 : va_D n0 (keys.map (hs_cell DA G S))) (b4 : ∀ t i j c, hs_ok S t i → hs_rt t j = some c → S.2.1 t i j = 0 ∨ hs_ok S c (S.2.1 t i j)) (b5 : hs_LI DA G S) (b6 : G.1 101 1 = DA.2.2.1) (hN : S.2.2.2 32 = 0 ∧ S.2.2.2 33 = 0)
    (c2 : va_P D hs_cl0 ws' H1) (c3 : va_D n0 ws') (w0 : ∀ (i : Nat) (k : Nat × Nat), keys[i]? = some k → ws'[i]? = some (hs_cell DA G S k)) (w1 : ws'[keys.length]? = some (q, .inl (DA.1 5, 8, .inr (.inr (.inr (.inr (fun i => if i < 8 then some (r i) else none))))))) (w2 : ∀ j : Nat, j < 8 → ws'[keys.length + 1 + j]? = some (r j, .inl (DA.1 0, 4, .inl (fun _ => 0)))) :
    hs_x G S (hs_mmG G q r) (hs_nm S) ∧ hs_P D DA n0 (hs_mmG G q r) (hs_nm S) H1 := by
  have no2 : ∀ {a c : Nat}, hs_ok S a c → a ≠ 32 ∧ a ≠ 33 := fun {a c} h => by
    have h3 := h.2.2.1
    have h4 := h.2.2.2
    refine ⟨fun z => ?_, fun z => ?_⟩
    · rw [z, hN.1] at h4; omega
    · rw [z, hN.2] at h4; omega
  have ni : ∀ {a c : Nat}, hs_in G S a c → a ≠ 32 ∧ a ≠ 33 := fun {a c} h => by
    rcases h with ⟨ok, _⟩ | ⟨k7, _⟩
    · exact no2 ok
    · exact ⟨fun z => by rw [z] at k7; exact absurd k7 (by decide), fun z => by rw [z] at k7; exact absurd k7 (by decide)⟩
  have g0 : ∀ {a : Nat} (c : Nat), a ≠ 32 → a ≠ 33 → (hs_mmG G q r).1 a c = G.1 a c := fun c n1 n2 => (if_neg fun z => n1 z.1).trans (if_neg fun z => n2 z.1)
  have oks : ∀ {a c : Nat}, hs_ok S a c → hs_ok (hs_nm S) a c := fun h => ⟨h.1, h.2.1, h.2.2.1, by rw [(hs_nm_o (no2 h).1 (no2 h).2).2.2]; exact h.2.2.2⟩
  have hx : hs_x G S (hs_mmG G q r) (hs_nm S) := fun a c h => ⟨oks h, g0 c (no2 h).1 (no2 h).2⟩
  have n32 : (hs_nm S).2.2.2 32 = 1 := rfl
  have n33 : (hs_nm S).2.2.2 33 = 8 := rfl
  have ok32 : hs_ok (hs_nm S) 32 1 := ⟨by decide, by decide, Nat.le_refl 1, by rw [n32]; exact Nat.le_refl 1⟩
  have ok33 : ∀ j, j < 8 → hs_ok (hs_nm S) 33 (j + 1) := fun j hj => ⟨by decide, by decide, by omega, by rw [n33]; omega⟩
  have oki : ∀ {a c : Nat}, hs_ok (hs_nm S) a c → hs_ok S a c ∨ (a = 32 ∧ c = 1) ∨ ∃ j, j < 8 ∧ a = 33 ∧ c = j + 1 := fun {a c} h => by
    have h3 := h.2.2.1
    have h4 := h.2.2.2
    by_cases e1 : a = 32
    · rw [e1, n32] at h4
      exact Or.inr (Or.inl ⟨e1, by omega⟩)
    · by_cases e2 : a = 33
      · rw [e2, n33] at h4
        exact Or.inr (Or.inr ⟨c - 1, by omega, e2, by omega⟩)
      · rw [(hs_nm_o e1 e2).2.2] at h4
        exact Or.inl ⟨h.1, h.2.1, h3, h4⟩
  have r32 : ∀ j, (hs_nm S).2.1 32 1 j = if j < 8 then j + 1 else 0 := fun j => rfl
  have a33 : ∀ j, j < 8 → (hs_mmG G q r).1 33 (j + 1) = r j := fun j hj => by
    show (if (33 : Nat) = 32 ∧ j + 1 = 1 then q else if (33 : Nat) = 33 ∧ 1 ≤ j + 1 ∧ j + 1 ≤ 8 then r (j + 1 - 1) else G.1 33 (j + 1)) = r j
    rw [if_neg (fun z => absurd z.1 (by decide)), if_pos ⟨rfl, by omega, by omega⟩, Nat.add_sub_cancel]
  have cQ : hs_cell DA (hs_mmG G q r) (hs_nm S) (32, 1) = (q, .inl (DA.1 5, 8, .inr (.inr (.inr (.inr (fun i => if i < 8 then some (r i) else none)))))) := by
    refine Prod.ext rfl ?_
    show hs_e DA (hs_mmG G q r) (hs_nm S) 32 1 = _
    rw [hs_e5 (t := 32) (n := 8) (b := 33) rfl]
    show (.inl (DA.1 5, 8, .inr (.inr (.inr (.inr (fun j => hs_o (hs_mmG G q r).1 33 ((hs_nm S).2.1 32 1 j)))))) : va_E) = _
    congr 7
    funext j
    rw [r32]
    unfold hs_o
    by_cases hj : j < 8
    · rw [if_pos hj, if_pos hj, if_neg (Nat.succ_ne_zero j), a33 j hj]
    · rw [if_neg hj, if_neg hj, if_pos rfl]
  have cR : ∀ j, j < 8 → hs_cell DA (hs_mmG G q r) (hs_nm S) (33, j + 1) = (r j, .inl (DA.1 0, 4, .inl (fun _ => 0))) := fun j hj => by
    refine Prod.ext (a33 j hj) ?_
    show hs_e DA (hs_mmG G q r) (hs_nm S) 33 (j + 1) = _
    rw [hs_e2 (t := 33) (n := 4) (z := 0) rfl]
    congr 4
    funext c
    show (if (33 : Nat) = 32 ∧ j + 1 = 1 then (0 : Int32) else if (33 : Nat) = 33 ∧ 1 ≤ j + 1 ∧ j + 1 ≤ 8 then 0 else S.1 33 (j + 1) c) = 0
    rw [if_neg (fun z => absurd z.1 (by decide)), if_pos ⟨rfl, by omega, by omega⟩]
  have hmem : ∀ k : Nat × Nat, k ∈ keys ++ ((32, 1) :: (List.range 8).map (fun j => (33, j + 1))) ↔ k ∈ keys ∨ k = (32, 1) ∨ ∃ j, j < 8 ∧ k = (33, j + 1) := fun k => by
    rw [List.mem_append, List.mem_cons, List.mem_map]
    refine or_congr Iff.rfl (or_congr Iff.rfl ⟨?_, ?_⟩)
    · rintro ⟨j, hj, rfl⟩
      exact ⟨j, List.mem_range.mp hj, rfl⟩
    · rintro ⟨j, hj, rfl⟩
      exact ⟨j, List.mem_range.mpr hj, rfl⟩
  have hnk : ∀ {a c : Nat}, (a, c) ∈ keys → a ≠ 32 ∧ a ≠ 33 := fun h => ni ((b1 _ _).mp h)
  have hnod : (keys ++ ((32, 1) :: (List.range 8).map (fun j => (33, j + 1)))).Pairwise (· ≠ ·) := by
    refine List.pairwise_append.mpr ⟨hs_nd b3, (by decide), fun a ha b hb => ?_⟩
    rintro rfl
    obtain ⟨x, y⟩ := a
    have hn := hnk ha
    rcases List.mem_cons.mp hb with h | h
    · exact hn.1 (congrArg Prod.fst h)
    · obtain ⟨j, _, e⟩ := List.mem_map.mp h
      exact hn.2 (congrArg Prod.fst e).symm
  have hlt : ∀ {i : Nat} {k : Nat × Nat}, keys[i]? = some k → i < keys.length := fun h => (List.getElem?_eq_some_iff.mp h).1
  have hd2 : va_P D hs_cl0 ((keys ++ ((32, 1) :: (List.range 8).map (fun j => (33, j + 1)))).map (hs_cell DA (hs_mmG G q r) (hs_nm S))) H1 ∧ va_D n0 ((keys ++ ((32, 1) :: (List.range 8).map (fun j => (33, j + 1)))).map (hs_cell DA (hs_mmG G q r) (hs_nm S))) := by
    refine hs_wd (P := fun k i => keys[i]? = some k ∨ (k = (32, 1) ∧ i = keys.length) ∨ ∃ j, j < 8 ∧ k = (33, j + 1) ∧ i = keys.length + 1 + j) c2 c3 hnod (fun k hk1 => ?_) (fun k k2 i p1 p2 => ?_)
    · rcases (hmem k).mp hk1 with h | rfl | ⟨j, hj, rfl⟩
      · obtain ⟨i, hi⟩ := List.getElem?_of_mem h
        refine ⟨i, ?_, Or.inl hi⟩
        obtain ⟨a, c⟩ := k
        have hin := (b1 a c).mp h
        obtain ⟨n1, n2⟩ := ni hin
        obtain ⟨e1, e2, e3⟩ := hs_nm_o (S := S) n1 n2
        rw [hs_keep2 hx b4 e1 e2 rfl rfl (g0 c n1 n2) (fun h6 => by
          have h7 := (hs_k6 h6).1
          exact g0 1 (fun z => by rw [z] at h7; exact absurd h7 (by decide)) (fun z => by rw [z] at h7; exact absurd h7 (by decide))) hin]
        exact w0 i (a, c) hi
      · exact ⟨keys.length, by rw [cQ]; exact w1, Or.inr (Or.inl ⟨rfl, rfl⟩)⟩
      · exact ⟨keys.length + 1 + j, by rw [cR j hj]; exact w2 j hj, Or.inr (Or.inr ⟨j, hj, rfl, rfl⟩)⟩
    · rcases p1 with m | ⟨m1, m2⟩ | ⟨j, hj, m1, m2⟩ <;> rcases p2 with o | ⟨o1, o2⟩ | ⟨j', hj', o1, o2⟩
      · exact Option.some.inj (m.symm.trans o)
      · have := hlt m; omega
      · have := hlt m; omega
      · have := hlt o; omega
      · exact m1.trans o1.symm
      · omega
      · have := hlt o; omega
      · omega
      · have : j = j' := by omega
        rw [m1, o1, this]
  obtain ⟨d2, d3⟩ := hd2
  refine ⟨hx, _, fun a c => (hmem (a, c)).trans ⟨?_, ?_⟩, d2, d3, fun a i j c h1 h2 => ?_, fun a b' z' hk' hok' => ?_, ?_⟩
  · rintro (h | h | ⟨j, hj, h⟩)
    · rcases (b1 a c).mp h with ⟨ok, h8⟩ | h7
      · exact Or.inl ⟨oks ok, h8⟩
      · exact Or.inr h7
    · have ea : a = 32 := congrArg Prod.fst h
      have ec : c = 1 := congrArg Prod.snd h
      rw [ea, ec]
      exact Or.inl ⟨ok32, by decide⟩
    · have ea : a = 33 := congrArg Prod.fst h
      have ec : c = j + 1 := congrArg Prod.snd h
      rw [ea, ec]
      exact Or.inl ⟨ok33 j hj, by decide⟩
  · rintro (⟨ok, h8⟩ | h7)
    · rcases oki ok with ok | ⟨ea, ec⟩ | ⟨j, hj, ea, ec⟩
      · exact Or.inl ((b1 a c).mpr (Or.inl ⟨ok, h8⟩))
      · exact Or.inr (Or.inl (Prod.ext ea ec))
      · exact Or.inr (Or.inr ⟨j, hj, Prod.ext ea ec⟩)
    · exact Or.inl ((b1 a c).mpr (Or.inr h7))
  · rcases oki h1 with ok | ⟨ea, ei⟩ | ⟨j', hj', ea, ei⟩
    · rw [(hs_nm_o (no2 ok).1 (no2 ok).2).2.1]
      exact (b4 a i j c ok h2).imp id oks
    · rw [ea] at h2 ⊢
      rw [ei, r32]
      have hc : 33 = c := Option.some.inj h2
      by_cases hj : j < 8
      · rw [if_pos hj, ← hc]
        exact Or.inr (ok33 j hj)
      · exact Or.inl (if_neg hj)
    · rw [ea] at h2
      exact absurd (show (none : Option Nat) = some c from h2) (by simp)
  · have h6 : (hs_k a).1 = 6 := by rw [hk']
    have h7 := (hs_k6 h6).1
    have n1 : a ≠ 32 := fun z => by rw [z] at h6; exact absurd h6 (by decide)
    have n2 : a ≠ 33 := fun z => by rw [z] at h6; exact absurd h6 (by decide)
    obtain ⟨e1, e2, e3⟩ := hs_nm_o (S := S) n1 n2
    have ok : hs_ok S a 1 := ⟨hok'.1, hok'.2.1, hok'.2.2.1, by rw [← e3]; exact hok'.2.2.2⟩
    obtain ⟨l1, l2, l3, l4, l5, l6, l7⟩ := b5 a b' z' hk' ok
    have ea : (hs_mmG G q r).1 (a + 3) 1 = G.1 (a + 3) 1 := g0 1 (fun z => by rw [z] at h7; exact absurd h7 (by decide)) (fun z => by rw [z] at h7; exact absurd h7 (by decide))
    rw [e2, e3, ea]
    refine ⟨l1, l2, l3, l4, fun j hj => ?_, l6, l7⟩
    obtain ⟨x1, x2⟩ := l5 j hj
    exact ⟨by rw [(hx b' _ x2).2]; exact x1, oks x2⟩
  · exact (g0 1 (by decide) (by decide)).trans b6
theorem wa_mna {Z : hs_Z} {own : String} {cc : ByteArray} {nL : Nat} {R0 : Room} {k n : Nat} {S : hs_S} {pc : Nat} {lv : List (Nat × hs_V)} {st : List hs_V} (X : hs_C Z own cc nL R0) {ix : Nat} (hcl : Cond.classLink own ix "[[I" ∈ hs_ws) (hac : Cond.arrayClass .int ∈ hs_ws) (hd : decode cc pc = .ok (.multianewarray ix 2, 4))
    (hM : k + 9 ≤ R0.cells ∧ n + 40 ≤ R0.slots) (h1 : S.2.2.2 32 = 0 ∧ S.2.2.2 33 = 0) (kk : wa Z (k + 9) (n + 40) (hs_nm S) (pc + 4) lv (.inr (.inr (32, 1)) :: st)) : wa Z k n S pc lv (.inl 4 :: .inl 8 :: st) := by
  obtain ⟨p, l, e, R, s, m, args, below, meth, c, D, DA, n0, G0, S0, Qw⟩ := Z
  obtain ⟨hx, hb, hml, hown, hts, hlk, hst, hW, rfl⟩ := X
  intro G H locs la a1 a2 a3 a4 a5 a6
  obtain ⟨keys, b1, b2, b3, b4, b5, b6⟩ := id a2
  have hlink : (Cond.classLink own ix ("[" ++ (FieldType.array .int).toString)).before args s = true := by
    rw [show ("[" ++ (FieldType.array .int).toString : String) = "[[I" by decide +kernel]
    exact hts _ hcl
  have hcy : s.vm.findClass (FieldType.array .int).toString = some (DA.1 0) := (hW.1.2 0 (DA.1 0, .int) rfl).2
  have b2' : va_P D hs_cl0 (keys.map (hs_cell DA G S) ++ va_pl [] (fun _ => .inl (DA.1 0, 0, .inl (fun _ => 0)))) H := by
    show va_P D hs_cl0 (keys.map (hs_cell DA G S) ++ []) H
    rw [List.append_nil]
    exact b2
  have b3' : va_D n0 (keys.map (hs_cell DA G S) ++ va_pl [] (fun _ => .inl (DA.1 0, 0, .inl (fun _ => 0)))) := by
    show va_D n0 (keys.map (hs_cell DA G S) ++ [])
    rw [List.append_nil]
    exact b3
  refine va_mna (ty := .int) (N' := 8) (K' := 4) (z := (4, .inl (fun _ => 0))) hx hb hown hlink hW.2.2.1.2.2.2 (hts _ hac) hcy hW.1 b2' b3' a5 hW.2.2.2.2.2.2.2.2.2 (by decide) (by decide) (by decide) (by decide) (by decide) (by decide) (by decide) rfl rfl hM.1 hM.2 (fun _ => rfl) hd fun q r cA H1 hinj hnin hK1 hP1 hD1 hS1 => ?_
  have hcA : cA = DA.1 5 := by
    have h1 := (hK1.2 (hs_tys DA).length (cA, .array .int) (by rw [List.getElem?_append_right (Nat.le_refl _), Nat.sub_self]; rfl)).2
    have h2 := (hW.1.2 5 (DA.1 5, .array .int) rfl).2
    exact Option.some.inj ((show s.vm.findClass _ = some cA from h1).symm.trans h2)
  subst hcA
  have hlen : (keys.map (hs_cell DA G S)).length = keys.length := List.length_map _
  have hrow : hs_x G S (hs_mmG G q r) (hs_nm S) ∧ hs_P D DA n0 (hs_mmG G q r) (hs_nm S) H1 := by
    refine hs_rowed (q := q) (r := r) b1 b3 b4 b5 b6 h1 hP1 hD1 (fun i k h => ?_) ?_ (fun j hj => ?_)
    · rw [List.append_assoc, List.getElem?_append_left (by rw [hlen]; exact (List.getElem?_eq_some_iff.mp h).1), List.getElem?_map, h]
      rfl
    · rw [List.append_assoc, List.getElem?_append_right (by rw [hlen]; exact Nat.le_refl _), hlen, Nat.sub_self]
      rfl
    · rw [List.getElem?_append_right (by rw [List.length_append, hlen]; show keys.length + 1 ≤ keys.length + 1 + j; omega), List.length_append, hlen]
      show (va_pl ([] ++ (List.range 8).map r) _)[keys.length + 1 + j - (keys.length + 1)]? = _
      rw [Nat.add_sub_cancel_left, List.nil_append]
      unfold va_pl
      rw [List.getElem?_map, List.getElem?_map, List.getElem?_range hj]
      show some (r j, vr_up _ ((List.range 8).map r) _ (r j)) = _
      rw [vr_up_in (List.mem_map.mpr ⟨j, List.mem_range.mpr hj, rfl⟩)]
  obtain ⟨hxx, hPP⟩ := hrow
  have w := kk _ H1 locs la (a1.tr hxx) hPP (fun v hv => hxx.vv (a3 v hv)) (hs_pu (Or.inr ⟨by decide, by decide, Nat.le_refl 1, Nat.le_refl 1⟩) fun v hv => hxx.vv (hs_n2 a4 v hv)) hS1 (by rw [hxx.cl a3]; exact a6)
  rw [List.map_cons, hs_c_ref hs_1ne, hxx.cs (hs_n2 a4)] at w
  exact w
