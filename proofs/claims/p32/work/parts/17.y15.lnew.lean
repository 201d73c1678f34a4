/-! ===== a list is made ===== -/
theorem ja_newL {D : va_G} {DA : hs_DA} {n0 : Nat → Prop} {mi : Nat} {Z : j_Z} {own : String} {cc : ByteArray} {nL : Nat} {R0 : Room} {k n : Nat} {ws : va_W} {pc : Nat} {lv : List (Nat × Value)} {st : List Value} (X : j_C D DA n0 mi Z own cc nL R0) {ix : Nat} (hcl : Cond.classLink own ix RJx4a65c ∈ hs_ws) (hd : decode cc pc = .ok (.new ix, 3)) (hR : k + 1 ≤ R0.cells ∧ n + 3 ≤ R0.slots) (kk : ∀ q : Nat, ja D DA n0 Z (k + 1) (n + 3) (ws ++ [(q, .inr (12, [.int 0, .null, .int 0]))]) (pc + 3) lv (.ref q :: st)) : ja D DA n0 Z k n ws pc lv st := by
  obtain ⟨p, l, e, R, s, m, args, below, meth, c, Qw⟩ := Z
  obtain ⟨hx, hb, hml, hown, hts, hlk0, ⟨hW, hmi⟩, rfl⟩ := X
  intro H locs la a2 a3 a5 a6
  exact va_new (C := RJx4a65c) (T := TJx4a65c) (N := 3) (ci := 12) (fs := [.int 0, .null, .int 0]) hx hb hts i_AL tyJx4a65c ty_AL hown (hts _ hcl) (hts _ jk_79) (hts _ jk_26) hW.1 a2 a3 a5 hW.2.2.2.2.2.2.2.2.2 rfl (fun j hj => by rcases (show j = 0 ∨ j = 1 ∨ j = 2 by omega) with rfl | rfl | rfl <;> rfl) hR.1 hR.2 hd (fun q H1 hP1 hD1 hS1 => kk q H1 locs la hP1 hD1 hS1 a6)
/-- .. and lies there -/
def hs_lG (G : hs_G) (t q e : Nat) : hs_G := (fun a c => if a = t ∧ c = 1 then q else if a = t + 3 ∧ c = 1 then e else G.1 a c, (fun a => if a = t then 0 else G.2.1 a, (fun a => if a = t + 3 then 0 else G.2.2.1 a, fun a => if a = t + 3 then (fun _ => none) else G.2.2.2 a)))
theorem hs_listed {D : va_G} {DA : hs_DA} {n0 : Nat → Prop} {G : hs_G} {S : hs_S} {H1 : Heap} {keys : List (Nat × Nat)} {t b z q : Nat}
    (b1 : ∀ t i, (t, i) ∈ keys ↔ hs_in G S t i) (b3 : va_D n0 (keys.map (hs_cell DA G S))) (b4 : ∀ t i j c, hs_ok S t i → hs_rt t j = some c → S.2.1 t i j = 0 ∨ hs_ok S c (S.2.1 t i j)) (b5 : hs_LI DA G S) (b6 : G.1 101 1 = DA.2.2.1)
    (hk : hs_k t = (6, (b, z))) (hN : S.2.2.2 t = 0) (hz : S.2.1 t 2 0 = 0)
    (c2 : va_P D hs_cl0 (keys.map (hs_cell DA G S) ++ [(q, jL 0 DA.2.1 0)]) H1) (c3 : va_D n0 (keys.map (hs_cell DA G S) ++ [(q, jL 0 DA.2.1 0)])) :
    hs_x G S (hs_lG G t q DA.2.1) (hs_nw S t) ∧ hs_P D DA n0 (hs_lG G t q DA.2.1) (hs_nw S t) H1 := by
  have h6 : (hs_k t).1 = 6 := by rw [hk]
  have h7 := (hs_k6 h6).1
  have hno : ∀ c, ¬ hs_ok S t c := fun c h => by
    have := h.2.2.1
    have := h.2.2.2
    omega
  have hnk : ∀ {a c : Nat}, hs_ok S a c → ¬ (a = t + 3 ∧ c = 1) := fun h z => h.2.1 (by rw [z.1]; exact h7)
  have hnt : ∀ {a c : Nat}, hs_ok S a c → a ≠ t := fun h z => hno _ (z ▸ h)
  have g0 : ∀ a c, ¬ (a = t ∧ c = 1) → ¬ (a = t + 3 ∧ c = 1) → (hs_lG G t q DA.2.1).1 a c = G.1 a c := fun a c h h' => (if_neg h).trans (if_neg h')
  have hx : hs_x G S (hs_lG G t q DA.2.1) (hs_nw S t) := fun a c h => ⟨hs_ok_nw h, g0 a c (fun z => hnt h z.1) (hnk h)⟩
  have g1 : ∀ a, a ≠ t → (hs_lG G t q DA.2.1).2.1 a = G.2.1 a := fun a h => if_neg h
  have g2 : ∀ a, a ≠ t + 3 → (hs_lG G t q DA.2.1).2.2.1 a = G.2.2.1 a ∧ (hs_lG G t q DA.2.1).2.2.2 a = G.2.2.2 a := fun a h => ⟨if_neg h, if_neg h⟩
  have gt : (hs_lG G t q DA.2.1).1 t 1 = q := if_pos ⟨rfl, rfl⟩
  have ga : (hs_lG G t q DA.2.1).1 (t + 3) 1 = DA.2.1 := (if_neg (fun z => by have := z.1; omega)).trans (if_pos ⟨rfl, rfl⟩)
  have gm : (hs_lG G t q DA.2.1).2.1 t = 0 := if_pos rfl
  have gn : (hs_lG G t q DA.2.1).2.2.1 (t + 3) = 0 := if_pos rfl
  have gf : (hs_lG G t q DA.2.1).2.2.2 (t + 3) = fun _ => none := if_pos rfl
  have o1 : ∀ a, a ≠ t → (hs_nw S t).1 a = S.1 a := fun a h => funext fun b => funext fun c => if_neg fun z => h z.1
  have o2 : ∀ a, a ≠ t → (hs_nw S t).2.1 a = S.2.1 a := fun a h => funext fun b => funext fun c => if_neg fun z => h z.1
  have o3 : ∀ a, a ≠ t → (hs_nw S t).2.2.1 a = S.2.2.1 a := fun a h => funext fun b => funext fun c => if_neg fun z => h z.1
  have os : (hs_nw S t).2.1 t 2 0 = 0 := (if_neg (fun z => by have := z.2; omega)).trans hz
  have or_ : ∀ j, (hs_nw S t).2.1 t 1 j = 0 := fun j => if_pos ⟨rfl, by omega⟩
  have ok1 : hs_ok (hs_nw S t) t 1 := ⟨by rw [h6]; decide, by rw [h6]; decide, Nat.le_refl 1, by show 1 ≤ if t = t then S.2.2.2 t + 1 else S.2.2.2 t; rw [if_pos rfl]; omega⟩
  have oki : ∀ {a c : Nat}, hs_ok (hs_nw S t) a c → hs_ok S a c ∨ (a = t ∧ c = 1) := fun h => (hs_ok_nw_inv h).imp id fun z => ⟨z.1, by have := z.2; omega⟩
  have cL : hs_cell DA (hs_lG G t q DA.2.1) (hs_nw S t) (t, 1) = (q, jL 0 DA.2.1 0) := by
    refine Prod.ext gt ?_
    show hs_e DA (hs_lG G t q DA.2.1) (hs_nw S t) t 1 = _
    rw [hs_e6 hk, gm, ga, os]
    rfl
  have hmem : ∀ k : Nat × Nat, k ∈ keys.filter (fun k => decide (k ≠ (t + 3, 1))) ++ [(t, 1)] ↔ (k ∈ keys ∧ k ≠ (t + 3, 1)) ∨ k = (t, 1) := fun k => by
    rw [List.mem_append, List.mem_filter, List.mem_singleton, decide_eq_true_iff]
  have hkt : ∀ c, (t, c) ∉ keys := fun c h => by
    rcases (b1 t c).mp h with ⟨ok, _⟩ | ⟨k7, _⟩
    · exact hno c ok
    · rw [h6] at k7
      exact absurd k7 (by decide)
  have hnod : (keys.filter (fun k => decide (k ≠ (t + 3, 1))) ++ [(t, 1)]).Pairwise (· ≠ ·) := by
    refine List.pairwise_append.mpr ⟨(hs_nd b3).filter _, List.pairwise_singleton _ _, fun a ha b hb => ?_⟩
    rw [List.mem_singleton.mp hb]
    rintro rfl
    exact hkt 1 (List.mem_filter.mp ha).1
  have b3' : va_D n0 (keys.map (hs_cell DA G S)) := b3
  have hd2 : va_P D hs_cl0 ((keys.filter (fun k => decide (k ≠ (t + 3, 1))) ++ [(t, 1)]).map (hs_cell DA (hs_lG G t q DA.2.1) (hs_nw S t))) H1 ∧ va_D n0 ((keys.filter (fun k => decide (k ≠ (t + 3, 1))) ++ [(t, 1)]).map (hs_cell DA (hs_lG G t q DA.2.1) (hs_nw S t))) := by
    refine hs_wd (P := fun k i => keys[i]? = some k ∨ (k = (t, 1) ∧ i = keys.length)) c2 c3 hnod (fun k hk1 => ?_) (fun k k2 i p1 p2 => ?_)
    · rcases (hmem k).mp hk1 with ⟨hk0, hne⟩ | rfl
      · obtain ⟨i, hi⟩ := List.getElem?_of_mem hk0
        refine ⟨i, ?_, Or.inl hi⟩
        obtain ⟨a, c⟩ := k
        have hin := (b1 a c).mp hk0
        have n1 : a ≠ t := fun z2 => hkt c (z2 ▸ hk0)
        rw [hs_keep h6 hx b4 o1 o2 o3 g0 g1 g2 hin n1 hne]
        refine j_ap ?_
        rw [List.getElem?_map, hi]
        rfl
      · refine ⟨keys.length, ?_, Or.inr ⟨rfl, rfl⟩⟩
        rw [cL]
        have := j_new (ws := keys.map (hs_cell DA G S)) (y := (q, jL 0 DA.2.1 0))
        rw [List.length_map] at this
        exact this
    · rcases p1 with m2 | ⟨m1, m2⟩ <;> rcases p2 with o2 | ⟨o1, o2⟩
      · exact Option.some.inj (m2.symm.trans o2)
      · rw [o2, List.getElem?_eq_none (Nat.le_refl _)] at m2
        cases m2
      · rw [m2, List.getElem?_eq_none (Nat.le_refl _)] at o2
        cases o2
      · exact m1.trans o1.symm
  obtain ⟨d2, d3⟩ := hd2
  refine ⟨hx, _, fun a c => (hmem (a, c)).trans ⟨?_, ?_⟩, d2, d3, fun a i j c h1 h2 => ?_, fun a b' z' hk' hok' => ?_, ?_⟩
  · rintro (⟨h, hne⟩ | h)
    · rcases (b1 a c).mp h with ⟨ok, h8⟩ | ⟨k7, c1, h0⟩
      · exact Or.inl ⟨hs_ok_nw ok, h8⟩
      · exact Or.inr ⟨k7, c1, by rw [(g2 a (fun z => hne (Prod.ext z c1))).1]; exact h0⟩
    · have ea : a = t := congrArg Prod.fst h
      have ec : c = 1 := congrArg Prod.snd h
      rw [ea, ec]
      exact Or.inl ⟨ok1, by rw [h6]; decide⟩
  · rintro (⟨ok, h8⟩ | ⟨k7, c1, h0⟩)
    · rcases oki ok with ok | ⟨ea, ec⟩
      · exact Or.inl ⟨(b1 a c).mpr (Or.inl ⟨ok, h8⟩), fun z => hnk ok ⟨congrArg Prod.fst z, congrArg Prod.snd z⟩⟩
      · exact Or.inr (Prod.ext ea ec)
    · by_cases e : a = t + 3
      · rw [e, gn] at h0
        exact absurd h0 (Nat.lt_irrefl 0)
      · exact Or.inl ⟨(b1 a c).mpr (Or.inr ⟨k7, c1, by rw [← (g2 a e).1]; exact h0⟩), fun z => e (congrArg Prod.fst z)⟩
  · rcases oki h1 with ok | ⟨ea, ei⟩
    · rw [o2 a (hnt ok)]
      exact (b4 a i j c ok h2).imp id hs_ok_nw
    · rw [ea, ei]
      exact Or.inl (or_ j)
  · rcases oki hok' with ok | ⟨ea, _⟩
    · have e := hnt ok
      have n3 : a + 3 ≠ t + 3 := by omega
      obtain ⟨l1, l2, l3, l4, l5, l6, l7⟩ := b5 a b' z' hk' ok
      have h7a := (hs_k6 (a := a) (by rw [hk'])).1
      have n4 : a + 3 ≠ t := fun z => by
        rw [z, h6] at h7a
        exact absurd h7a (by decide)
      have en : (hs_nw S t).2.2.2 a = S.2.2.2 a := if_neg e
      rw [o2 a e, (g2 (a + 3) n3).1, (g2 (a + 3) n3).2, g0 (a + 3) 1 (fun z => n4 z.1) (fun z => n3 z.1), en]
      refine ⟨l1, l2, l3, l4, fun j hj => ?_, l6, l7⟩
      obtain ⟨x1, x2⟩ := l5 j hj
      exact ⟨by rw [(hx b' _ x2).2]; exact x1, hs_ok_nw x2⟩
    · rw [ea] at hk' ⊢
      have en : (hs_nw S t).2.2.2 t = 1 := (if_pos rfl).trans (by rw [hN])
      rw [os, gn, ga, gf, en]
      exact ⟨Nat.le_refl 0, by omega, by omega, fun _ => rfl, fun j hj => absurd hj (Nat.not_lt_zero _), rfl, fun _ _ => rfl⟩
  · refine (g0 101 1 (fun z => ?_) (fun z => ?_)).trans b6
    · have e := z.1
      rw [← e] at h6
      exact absurd (show (8 : Nat) = 6 from h6) (by decide)
    · have e := z.1
      rw [← e] at h7
      exact absurd (show (8 : Nat) = 7 from h7) (by decide)
theorem wa_lnew {Z : hs_Z} {own : String} {cc : ByteArray} {nL : Nat} {R0 : Room} {k n : Nat} {S : hs_S} {pc : Nat} {lv : List (Nat × hs_V)} {st : List hs_V} (X : hs_C Z own cc nL R0) {t b z ix iy : Nat} (hk : hs_k t = (6, (b, z))) (hcl : Cond.classLink own ix RJx4a65c ∈ hs_ws) (hl : Cond.methodLink own iy yJx4a65c_init_da8c8 ∈ hs_ws) (hd : decode cc pc = .ok (.new ix, 3)) (hd3 : decode cc (pc + 3) = .ok (.dup, 1)) (hd4 : decode cc (pc + 4) = .ok (.invokespecial iy, 3))
    (hR : 5 ≤ R0.frames ∧ 320 ≤ R0.locals) (hcat : (st.map hs_cat).sum ≤ 7) (hM : k + 1 ≤ R0.cells ∧ n + 3 ≤ R0.slots) (h1 : S.2.2.2 t = 0 ∧ S.2.1 t 2 0 = 0) (kk : wa Z (k + 1) (n + 3) (hs_nw S t) (pc + 7) lv (.inr (.inr (t, 1)) :: st)) : wa Z k n S pc lv st := by
  obtain ⟨p, l, e, R, s, m, args, below, meth, c, D, DA, n0, G0, S0, Qw⟩ := Z
  obtain ⟨hx, hb, hml, hown, hts, hlk, hst, hW, rfl⟩ := X
  intro G H locs la a1 a2 a3 a4 a5 a6
  obtain ⟨keys, b1, b2, b3, b4, b5, b6⟩ := id a2
  obtain ⟨mi, hmi⟩ := hW.2.2.2.1.2
  have Xj : j_C D DA n0 mi (p, l, e, R, s, m, args, below, meth, c, Qw) own cc nL R := ⟨hx, hb, hml, hown, hts, hlk, ⟨hW, hmi⟩, rfl⟩
  have hc7 : ((st.map (hs_c G.1)).map fun v => v.category).sum ≤ 7 := by
    have e : (st.map (hs_c G.1)).map (fun v => v.category) = st.map hs_cat := by
      rw [List.map_map]
      exact List.map_congr_left fun v _ => hs_c_cat G.1 v
    rw [e]
    exact hcat
  have main : ja D DA n0 (p, l, e, R, s, m, args, below, meth, c, Qw) k n (keys.map (hs_cell DA G S)) pc (lv.map fun q => (q.1, hs_c G.1 q.2)) (st.map (hs_c G.1)) := by
    refine ja_newL Xj hcl hd hM (fun q => ?_)
    refine ja_dup Xj hd3 rfl ?_
    refine ja_callI Xj (As := []) (st := .ref q :: st.map (hs_c G.1)) (jm_init j_new) jk_82 jk_26 hl jk_81 rfl (nA := 0) ⟨by decide +kernel, by decide +kernel, by decide +kernel⟩ rfl rfl (by rw [List.map_cons, List.sum_cons]; show 1 + _ ≤ 8; omega) hd4 ⟨⟨by omega, by omega⟩, hM.1, hM.2⟩ (fun r ws1 hq => ?_)
    obtain ⟨rfl, rfl⟩ := hq
    rw [j_sl]
    intro H1 locs1 la1 c2 c3 c5 c6
    obtain ⟨hxx, hPP⟩ := hs_listed b1 b3 b4 b5 b6 hk h1.1 h1.2 c2 c3
    have w := kk _ H1 locs1 la1 (a1.tr hxx) hPP (fun v hv => hxx.vv (a3 v hv)) (hs_pu (Or.inr ⟨by rw [hk]; simp, by rw [hk]; simp, Nat.le_refl 1, by show 1 ≤ if t = t then S.2.2.2 t + 1 else S.2.2.2 t; rw [if_pos rfl]; omega⟩) fun v hv => hxx.vv (a4 v hv)) c5 (by rw [hxx.cl a3]; exact c6)
    rw [List.map_cons, hs_c_ref hs_1ne, hxx.cs a4] at w
    have gt : (hs_lG G t q DA.2.1).1 t 1 = q := if_pos ⟨rfl, rfl⟩
    rw [gt] at w
    exact w
  exact main H locs la b2 b3 a5 a6
