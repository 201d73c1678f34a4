/-! ===== add ===== -/
/-- where a list's row lies now, and what it holds -/
def hs_aG (G : hs_G) (t bb n' : Nat) (mo : Int32) (f : Nat → Option Nat) : hs_G := (fun a c => if a = t + 3 ∧ c = 1 then bb else G.1 a c, (fun a => if a = t then mo else G.2.1 a, (fun a => if a = t + 3 then n' else G.2.2.1 a, fun a => if a = t + 3 then f else G.2.2.2 a)))
theorem hs_add_o {S : hs_S} {t r a : Nat} (h : a ≠ t) : (hs_add S t r).2.1 a = S.2.1 a := by
  funext b c
  show (if a = t ∧ b = 1 ∧ c = S.2.1 t 2 0 then r else if a = t ∧ b = 2 ∧ c = 0 then S.2.1 t 2 0 + 1 else S.2.1 a b c) = _
  rw [if_neg (fun z => h z.1), if_neg (fun z => h z.1)]
theorem hs_add_r {S : hs_S} {t r j : Nat} : (hs_add S t r).2.1 t 1 j = if j = S.2.1 t 2 0 then r else S.2.1 t 1 j := by
  show (if t = t ∧ 1 = 1 ∧ j = S.2.1 t 2 0 then r else if t = t ∧ 1 = 2 ∧ j = 0 then S.2.1 t 2 0 + 1 else S.2.1 t 1 j) = _
  by_cases h : j = S.2.1 t 2 0
  · rw [if_pos ⟨rfl, rfl, h⟩, if_pos h]
  · rw [if_neg (fun z => h z.2.2), if_neg (fun z => absurd z.2.1 (by decide)), if_neg h]
theorem hs_add_s {S : hs_S} {t r : Nat} : (hs_add S t r).2.1 t 2 0 = S.2.1 t 2 0 + 1 := by
  show (if t = t ∧ 2 = 1 ∧ 0 = S.2.1 t 2 0 then r else if t = t ∧ 2 = 2 ∧ 0 = 0 then S.2.1 t 2 0 + 1 else S.2.1 t 2 0) = _
  rw [if_neg (fun z => absurd z.2.1 (by decide)), if_pos ⟨rfl, rfl, rfl⟩]
theorem hs_added {D : va_G} {DA : hs_DA} {n0 : Nat → Prop} {G : hs_G} {S : hs_S} {H1 : Heap} {keys : List (Nat × Nat)} {ws' : va_W} {t b z r bb n' qL qA : Nat} {mo : Int32} {f : Nat → Option Nat}
    (b1 : ∀ t i, (t, i) ∈ keys ↔ hs_in G S t i) (b3 : va_D n0 (keys.map (hs_cell DA G S))) (b4 : ∀ t i j c, hs_ok S t i → hs_rt t j = some c → S.2.1 t i j = 0 ∨ hs_ok S c (S.2.1 t i j)) (b5 : hs_LI DA G S) (b6 : G.1 101 1 = DA.2.2.1)
    (hk : hs_k t = (6, (b, z))) (hok1 : hs_ok S t 1) (hokr : hs_ok S b r) (hn : S.2.1 t 2 0 < n') (hn4 : n' ≤ 40000) (hn1 : n' ≠ 1) (hf : ∀ j, j < S.2.1 t 2 0 → f j = some (G.1 b (S.2.1 t 1 j))) (hfr : f (S.2.1 t 2 0) = some (G.1 b r)) (hfn : ∀ j, S.2.1 t 2 0 + 1 ≤ j → f j = none)
    (c2 : va_P D hs_cl0 ws' H1) (c3 : va_D n0 ws') (kL : keys[qL]? = some (t, 1)) (w0 : ∀ (i : Nat) (k : Nat × Nat), keys[i]? = some k → k ≠ (t, 1) → k ≠ (t + 3, 1) → ws'[i]? = some (hs_cell DA G S k)) (w1 : ws'[qL]? = some (G.1 t 1, jL mo bb (nI (S.2.1 t 2 0 + 1)))) (w2 : ws'[qA]? = some (bb, jA DA n' f)) (w3 : keys[qA]? = some (t + 3, 1) ∨ keys.length ≤ qA) :
    hs_x G S (hs_aG G t bb n' mo f) (hs_add S t r) ∧ hs_P D DA n0 (hs_aG G t bb n' mo f) (hs_add S t r) H1 := by
  have h6 : (hs_k t).1 = 6 := by rw [hk]
  have h7 := (hs_k6 h6).1
  have hnk : ∀ {a c : Nat}, hs_ok S a c → ¬ (a = t + 3 ∧ c = 1) := fun h z => h.2.1 (by rw [z.1]; exact h7)
  have hx : hs_x G S (hs_aG G t bb n' mo f) (hs_add S t r) := fun a c h => ⟨h, if_neg (hnk h)⟩
  have g0 : ∀ a c, ¬ (a = t ∧ c = 1) → ¬ (a = t + 3 ∧ c = 1) → (hs_aG G t bb n' mo f).1 a c = G.1 a c := fun a c _ h => if_neg h
  have g1 : ∀ a, a ≠ t → (hs_aG G t bb n' mo f).2.1 a = G.2.1 a := fun a h => if_neg h
  have g2 : ∀ a, a ≠ t + 3 → (hs_aG G t bb n' mo f).2.2.1 a = G.2.2.1 a ∧ (hs_aG G t bb n' mo f).2.2.2 a = G.2.2.2 a := fun a h => ⟨if_neg h, if_neg h⟩
  have ga : (hs_aG G t bb n' mo f).1 (t + 3) 1 = bb := if_pos ⟨rfl, rfl⟩
  have gm : (hs_aG G t bb n' mo f).2.1 t = mo := if_pos rfl
  have gn : (hs_aG G t bb n' mo f).2.2.1 (t + 3) = n' := if_pos rfl
  have gf : (hs_aG G t bb n' mo f).2.2.2 (t + 3) = f := if_pos rfl
  have cL : hs_cell DA (hs_aG G t bb n' mo f) (hs_add S t r) (t, 1) = (G.1 t 1, jL mo bb (nI (S.2.1 t 2 0 + 1))) := by
    refine Prod.ext (if_neg (fun z => by have := z.1; omega)) ?_
    show hs_e DA (hs_aG G t bb n' mo f) (hs_add S t r) t 1 = _
    rw [hs_e6 hk, gm, ga, hs_add_s]
  have cA : hs_cell DA (hs_aG G t bb n' mo f) (hs_add S t r) (t + 3, 1) = (bb, jA DA n' f) := by
    refine Prod.ext ga ?_
    show hs_e DA (hs_aG G t bb n' mo f) (hs_add S t r) (t + 3) 1 = _
    rw [hs_e7 h7, gn, gf]
  have hmem : ∀ k : Nat × Nat, k ∈ keys.filter (fun k => decide (k ≠ (t + 3, 1))) ++ [(t + 3, 1)] ↔ (k ∈ keys ∧ k ≠ (t + 3, 1)) ∨ k = (t + 3, 1) := fun k => by
    rw [List.mem_append, List.mem_filter, List.mem_singleton, decide_eq_true_iff]
  have hnod : (keys.filter (fun k => decide (k ≠ (t + 3, 1))) ++ [(t + 3, 1)]).Pairwise (· ≠ ·) := by
    refine List.pairwise_append.mpr ⟨(hs_nd b3).filter _, List.pairwise_singleton _ _, fun a ha b hb => ?_⟩
    rw [List.mem_singleton.mp hb]
    exact of_decide_eq_true (List.mem_filter.mp ha).2
  have hd2 : va_P D hs_cl0 ((keys.filter (fun k => decide (k ≠ (t + 3, 1))) ++ [(t + 3, 1)]).map (hs_cell DA (hs_aG G t bb n' mo f) (hs_add S t r))) H1 ∧ va_D n0 ((keys.filter (fun k => decide (k ≠ (t + 3, 1))) ++ [(t + 3, 1)]).map (hs_cell DA (hs_aG G t bb n' mo f) (hs_add S t r))) := by
    refine hs_wd (P := fun k i => (k ≠ (t + 3, 1) ∧ keys[i]? = some k) ∨ (k = (t + 3, 1) ∧ i = qA)) c2 c3 hnod (fun k hk1 => ?_) (fun k k2 i p1 p2 => ?_)
    · rcases (hmem k).mp hk1 with ⟨hk0, hne⟩ | rfl
      · obtain ⟨i, hi⟩ := List.getElem?_of_mem hk0
        by_cases e : k = (t, 1)
        · refine ⟨qL, ?_, Or.inl ⟨hne, e ▸ kL⟩⟩
          rw [e, cL]
          exact w1
        · refine ⟨i, ?_, Or.inl ⟨hne, hi⟩⟩
          obtain ⟨a, c⟩ := k
          have hin := (b1 a c).mp hk0
          have n1 : a ≠ t := fun z2 => by
            rcases hin with ⟨ok, _⟩ | ⟨k7, _⟩
            · rw [z2] at ok
              have hN := (b5 t b z hk hok1).2.2.2.2.2.1
              have := ok.2.2.1
              have := ok.2.2.2
              exact e (Prod.ext z2 (by show c = 1; omega))
            · rw [z2, h6] at k7
              exact absurd k7 (by decide)
          rw [hs_keep h6 hx b4 (fun _ _ => rfl) (fun a h => hs_add_o h) (fun _ _ => rfl) g0 g1 g2 hin n1 hne]
          exact w0 i (a, c) hi e hne
      · exact ⟨qA, by rw [cA]; exact w2, Or.inr ⟨rfl, rfl⟩⟩
    · rcases p1 with ⟨m1, m2⟩ | ⟨m1, m2⟩ <;> rcases p2 with ⟨o1, o2⟩ | ⟨o1, o2⟩
      · exact Option.some.inj (m2.symm.trans o2)
      · exfalso
        rw [o2] at m2
        rcases w3 with h | h
        · exact m1 (Option.some.inj (m2.symm.trans h))
        · rw [List.getElem?_eq_none h] at m2
          cases m2
      · exfalso
        rw [m2] at o2
        rcases w3 with h | h
        · exact o1 (Option.some.inj (o2.symm.trans h))
        · rw [List.getElem?_eq_none h] at o2
          cases o2
      · exact m1.trans o1.symm
  obtain ⟨d2, d3⟩ := hd2
  refine ⟨hx, _, fun a c => (hmem (a, c)).trans ⟨?_, ?_⟩, d2, d3, fun a i j c h1 h2 => ?_, fun a b' z' hk' hok' => ?_, ?_⟩
  · rintro (⟨h, hne⟩ | h)
    · rcases (b1 a c).mp h with ⟨ok, h8⟩ | ⟨k7, c1, h0⟩
      · exact Or.inl ⟨ok, h8⟩
      · exact Or.inr ⟨k7, c1, by rw [(g2 a (fun z => hne (Prod.ext z c1))).1]; exact h0⟩
    · have ea : a = t + 3 := congrArg Prod.fst h
      have ec : c = 1 := congrArg Prod.snd h
      rw [ea, ec]
      exact Or.inr ⟨h7, rfl, by rw [gn]; omega⟩
  · rintro (⟨ok, h8⟩ | ⟨k7, c1, h0⟩)
    · exact Or.inl ⟨(b1 a c).mpr (Or.inl ⟨ok, h8⟩), fun z => hnk ok ⟨congrArg Prod.fst z, congrArg Prod.snd z⟩⟩
    · by_cases e : a = t + 3
      · exact Or.inr (Prod.ext e c1)
      · exact Or.inl ⟨(b1 a c).mpr (Or.inr ⟨k7, c1, by rw [← (g2 a e).1]; exact h0⟩), fun z => e (congrArg Prod.fst z)⟩
  · by_cases e : a = t
    · rw [e] at h1 h2 ⊢
      have hi1 : i = 1 := by
        have hN := (b5 t b z hk hok1).2.2.2.2.2.1
        have h4 : i ≤ S.2.2.2 t := h1.2.2.2
        have := h1.2.2.1
        omega
      rw [hi1, hs_add_r]
      by_cases ej : j = S.2.1 t 2 0
      · rw [if_pos ej]
        have hc : b = c := by
          unfold hs_rt at h2
          rw [hk] at h2
          exact Option.some.inj h2
        rw [← hc]
        exact Or.inr hokr
      · rw [if_neg ej]
        exact b4 t 1 j c hok1 h2
    · rw [hs_add_o e]
      exact b4 a i j c h1 h2
  · by_cases e : a = t
    · rw [e] at hk' hok' ⊢
      have hbb : b = b' := by
        have := hk.symm.trans hk'
        cases this
        rfl
      rw [← hbb, hs_add_s, gn, ga, gf]
      refine ⟨by omega, hn4, hn1, fun h => by omega, fun j hj => ?_, (b5 t b z hk hok1).2.2.2.2.2.1, hfn⟩
      rw [hs_add_r]
      by_cases ej : j = S.2.1 t 2 0
      · rw [if_pos ej, ej]
        exact ⟨by rw [hfr, (hx b r hokr).2], hokr⟩
      · rw [if_neg ej]
        have ok := ((b5 t b z hk hok1).2.2.2.2.1 j (by omega)).2
        exact ⟨by rw [hf j (by omega), (hx b _ ok).2], ok⟩
    · have n3 : a + 3 ≠ t + 3 := by omega
      obtain ⟨l1, l2, l3, l4, l5, l6, l7⟩ := b5 a b' z' hk' hok'
      have ea : (hs_aG G t bb n' mo f).1 (a + 3) 1 = G.1 (a + 3) 1 := if_neg (fun z => n3 z.1)
      rw [hs_add_o e, (g2 (a + 3) n3).1, (g2 (a + 3) n3).2, ea]
      refine ⟨l1, l2, l3, l4, fun j hj => ?_, l6, l7⟩
      obtain ⟨x1, x2⟩ := l5 j hj
      exact ⟨by rw [(hx b' _ x2).2]; exact x1, x2⟩
  · refine (if_neg (fun z => ?_)).trans b6
    have e := z.1
    rw [← e] at h7
    exact absurd (show (8 : Nat) = 7 from h7) (by decide)
theorem hs_grow {D : va_G} {DA : hs_DA} {n0 : Nat → Prop} {mi : Nat} {ws1 : va_W} {qL a bb sN ci : Nat} {mo : Int32} {f : Nat → Option Nat} {rc : vw_C} (hL1 : ws1[qL]? = some (a, jL mo bb (nI sN))) (hcase : (bb = DA.2.1 ∧ sN = 0) ∨ (2 ≤ sN ∧ ∃ qA : Nat, ws1[qA]? = some (bb, jA DA sN f))) (hs : sN < 100) (hc : hs_cl0[ci]? = some rc) (hca : Cond.castable rc.1 "java/lang/Object" ∈ hs_ws) (hel : ∀ (i y : Nat), i < sN → f i = some y → ∃ (qk : Nat) (vs : List Value), ws1[qk]? = some (y, .inr (ci, vs))) :
    ∃ (n' : Nat) (f0 : Nat → Option Nat), sN < n' ∧ n' ≤ 160 ∧ n' ≠ 1 ∧ (∀ j, j < sN → f0 j = f j) ∧ (∀ j, sN ≤ j → f0 j = none) ∧ j_M D DA n0 mi 5 yJx4a65c_grow_d5877 (.code yJx4a65c_grow_d5877 cJx4a65c_grow_d5877 1 (some (FieldType.array (FieldType.object "java/lang/Object")))) [.ref a] ws1 1 160 (fun r ws' => ∃ q, r = some (.ref q) ∧ ws' = (ws1 ++ [(q, jA DA n' f0)]).set qL (a, jL mo q (nI sN))) := by
  rcases hcase with ⟨rfl, rfl⟩ | ⟨h2, qA, hA⟩
  · exact ⟨10, fun _ => none, by omega, by omega, by omega, fun j hj => absurd hj (Nat.not_lt_zero _), fun _ _ => rfl, jm_growU hL1 (jm_grow0 hL1 (by omega)) (fun v w h => h.imp fun q hq => hq.1)⟩
  · refine ⟨sN + sN / 2, va_cpy f (fun _ => none) 0 0 sN, by omega, by omega, by omega, fun j hj => ?_, fun j hj => ?_, jm_growU hL1 (jm_grow1 hL1 hA h2 (by omega) (by omega) hc hca hel) (fun v w h => h.imp fun q hq => hq.1)⟩
    · unfold va_cpy
      rw [if_pos ⟨Nat.zero_le _, by omega⟩]
      exact congrArg f (by omega)
    · unfold va_cpy
      rw [if_neg (fun z => by omega)]
theorem wa_liadd {Z : hs_Z} {own : String} {cc : ByteArray} {nL : Nat} {R0 : Room} {k n : Nat} {S : hs_S} {pc : Nat} {lv : List (Nat × hs_V)} {st : List hs_V} (X : hs_C Z own cc nL R0) {t i b z r ci N ix cnt : Nat} {rc : vw_C} (hk : hs_k t = (6, (b, z))) (hkb : hs_k b = (1, (ci, N))) (hcb : hs_cl0[ci]? = some rc) (hl : Cond.methodLink own ix ⟨"java/util/List", "add", "(Ljava/lang/Object;)Z"⟩ ∈ hs_ws) (hca : Cond.castable rc.1 "java/lang/Object" ∈ hs_ws) (hd : decode cc pc = .ok (.invokeinterface ix cnt, 5)) (hi : i ≠ 0) (hr : r ≠ 0)
    (hR : 9 ≤ R0.frames ∧ 576 ≤ R0.locals) (hcat : (st.map hs_cat).sum ≤ 8) (hM : k + 1 ≤ R0.cells ∧ n + 160 ≤ R0.slots) (hsz : hs_sz S t < 100) (kk : wa Z (k + 1) (n + 160) (hs_add S t r) (pc + 5) lv (.inl 1 :: st)) : wa Z k n S pc lv (.inr (.inr (b, r)) :: .inr (.inr (t, i)) :: st) := by
  obtain ⟨p, l, e, R, s, m, args, below, meth, c, D, DA, n0, G0, S0, Qw⟩ := Z
  obtain ⟨hx, hb, hml, hown, hts, hlk, hst, hW, rfl⟩ := X
  intro G H locs la a1 a2 a3 a4 a5 a6
  obtain ⟨keys, b1, b2, b3, b4, b5, b6⟩ := id a2
  have hokr : hs_ok S b r := (hs_h1 a4).resolve_left hr
  obtain ⟨rfl, hok1, qL, e1, e2⟩ := hs_lst (D := D) (n0 := n0) (H := H) b1 b5 hk ((hs_h2 a4).resolve_left hi)
  obtain ⟨l1, l2, l3, l4, l5, l6, l7⟩ := b5 t b z hk hok1
  have hk8 : (hs_k b).1 ≠ 8 := by rw [hkb]; simp
  obtain ⟨qk, v1, v2⟩ := hs_key (D := D) (DA := DA) (n0 := n0) (H := H) b1 hokr hk8
  rw [hs_e1 hkb] at v1
  have h12 := hs_k1 hkb
  have hs9 : S.2.1 t 2 0 < 100 := hsz
  obtain ⟨mi, hmi⟩ := hW.2.2.2.1.2
  have hF := hW.2.1 (RJx4a65c, (⟨"java/util/List", "add", "(Ljava/lang/Object;)Z"⟩, yJx4a65c_add_9ea2d)) (List.mem_cons_of_mem _ (List.mem_cons_of_mem _ List.mem_cons_self))
  have fin : ∀ (bb n' qA : Nat) (mo : Int32) (f : Nat → Option Nat) (ws' : va_W) (H1 : Heap) (locs1 : List Loc), S.2.1 t 2 0 < n' → n' ≤ 40000 → n' ≠ 1 → (∀ j, j < S.2.1 t 2 0 → f j = some (G.1 b (S.2.1 t 1 j))) → f (S.2.1 t 2 0) = some (G.1 b r) → (∀ j, S.2.1 t 2 0 + 1 ≤ j → f j = none) →
      va_P D hs_cl0 ws' H1 → va_D n0 ws' → va_S n0 s.heap H1 locs1 → (∀ (i : Nat) (k : Nat × Nat), keys[i]? = some k → k ≠ (t, 1) → k ≠ (t + 3, 1) → ws'[i]? = some (hs_cell DA G S k)) → ws'[qL]? = some (G.1 t 1, jL mo bb (nI (S.2.1 t 2 0 + 1))) → ws'[qA]? = some (bb, jA DA n' f) → (keys[qA]? = some (t + 3, 1) ∨ keys.length ≤ qA) →
      W p l e R s m args below meth c H1 locs1 (k + 1) (n + 160) Qw (F0 m (pc + 5) la (.int 1 :: st.map (hs_c G.1))) := fun bb n' qA mo f ws' H1 locs1 hn hn4 hn1 hf hfr hfn c2 c3 c5 w0 w1 w2 w3 => by
    obtain ⟨hxx, hPP⟩ := hs_added b1 b3 b4 b5 b6 hk hok1 hokr hn hn4 hn1 hf hfr hfn c2 c3 e2 w0 w1 w2 w3
    have w := kk _ H1 locs1 la (a1.tr hxx) hPP (fun v hv => hxx.vv (a3 v hv)) (hs_pu trivial fun v hv => hxx.vv (hs_n2 a4 v hv)) c5 (by rw [hxx.cl a3]; exact a6)
    rw [List.map_cons, hxx.cs (hs_n2 a4)] at w
    exact w
  have hmap : ∀ (i : Nat) (k : Nat × Nat), keys[i]? = some k → (keys.map (hs_cell DA G S))[i]? = some (hs_cell DA G S k) := fun i k h => by rw [List.getElem?_map, h]; rfl
  rw [List.map_cons, List.map_cons, hs_c_ref hi, hs_c_ref hr]
  have hL1 := j_se (y := (G.1 t 1, jL (G.2.1 t + 1) (G.1 (t + 3) 1) (nI (S.2.1 t 2 0)))) e1
  have hV1 := j_ne (y := (G.1 t 1, jL (G.2.1 t + 1) (G.1 (t + 3) 1) (nI (S.2.1 t 2 0)))) v1 (j_qk e1 v1 h12)
  by_cases hroom : S.2.1 t 2 0 < G.2.2.1 (t + 3)
  · obtain ⟨qA, f1, f2⟩ := hs_arr (D := D) (DA := DA) (n0 := n0) (H := H) b1 hk (by omega)
    have hA1 := j_ne (y := (G.1 t 1, jL (G.2.1 t + 1) (G.1 (t + 3) 1) (nI (S.2.1 t 2 0)))) f1 (j_qA e1 f1)
    refine j_callF (As := [.ref (G.1 b r)]) (mS := 160) hx hb hml hown hts hW hmi b2 b3 a5 a6.1 (jm_add e1 (jm_helpA hL1 hA1 hroom (by omega) hV1 hcb h12 hca) (fun _ _ h => h.1)) e1 hF jk_653 jk_26 hl jk_651 jk_649 (nA := 1) ⟨by decide +kernel, by decide +kernel, by decide +kernel⟩ rfl (hs_Wc hcat) hd ⟨⟨by omega, by omega⟩, hM.1, hM.2⟩ (fun v ws' H1 locs1 hq c2 c3 c5 => ?_)
    obtain ⟨rfl, -, rfl⟩ := hq
    have nLA := j_qA e1 f1
    refine fin (G.1 (t + 3) 1) (G.2.2.1 (t + 3)) qA (G.2.1 t + 1) _ _ H1 locs1 hroom l2 l3 (fun j hj => ?_) ?_ (fun j hj => ?_) c2 c3 c5 (fun i k h1 h2 h3 => ?_) (j_se (j_ne hL1 nLA.symm)) (j_ne (j_se hA1) nLA) (Or.inl f2)
    · unfold va_up
      rw [if_neg (by omega)]
      exact (l5 j hj).1
    · unfold va_up
      rw [if_pos rfl]
    · unfold va_up
      rw [if_neg (by omega)]
      exact l7 j (by omega)
    · have n1 : qL ≠ i := fun z => h2 (Option.some.inj (h1.symm.trans (z ▸ e2)))
      have n2 : qA ≠ i := fun z => h3 (Option.some.inj (h1.symm.trans (z ▸ f2)))
      exact j_ne (j_ne (j_ne (hmap i k h1) n1) n2) n1
  · have hcap : G.2.2.1 (t + 3) = S.2.1 t 2 0 := by omega
    have hcase : (G.1 (t + 3) 1 = DA.2.1 ∧ S.2.1 t 2 0 = 0) ∨ (2 ≤ S.2.1 t 2 0 ∧ ∃ qA : Nat, ((keys.map (hs_cell DA G S)).set qL (G.1 t 1, jL (G.2.1 t + 1) (G.1 (t + 3) 1) (nI (S.2.1 t 2 0))))[qA]? = some (G.1 (t + 3) 1, jA DA (S.2.1 t 2 0) (G.2.2.2 (t + 3)))) := by
      by_cases h0 : S.2.1 t 2 0 = 0
      · exact Or.inl ⟨l4 (by omega), h0⟩
      · obtain ⟨qA, f1, f2⟩ := hs_arr (D := D) (DA := DA) (n0 := n0) (H := H) b1 hk (by omega)
        have nLA := j_qA e1 f1
        rw [hcap] at f1
        exact Or.inr ⟨by omega, qA, j_ne f1 nLA⟩
    have hel : ∀ (i y : Nat), i < S.2.1 t 2 0 → G.2.2.2 (t + 3) i = some y → ∃ (qk : Nat) (vs : List Value), ((keys.map (hs_cell DA G S)).set qL (G.1 t 1, jL (G.2.1 t + 1) (G.1 (t + 3) 1) (nI (S.2.1 t 2 0))))[qk]? = some (y, .inr (ci, vs)) := fun i y h1 h2 => by
      obtain ⟨x1, x2⟩ := l5 i h1
      have ey : y = G.1 b (S.2.1 t 1 i) := Option.some.inj (h2.symm.trans x1)
      obtain ⟨q2, y1, y2⟩ := hs_key (D := D) (DA := DA) (n0 := n0) (H := H) b1 x2 hk8
      rw [hs_e1 hkb] at y1
      rw [ey]
      exact ⟨q2, _, j_ne y1 (j_qk e1 y1 h12)⟩
    obtain ⟨n', f0, hn1, hn2, hn3, hf1, hf2, hG⟩ := hs_grow (D := D) (n0 := n0) (mi := mi) hL1 hcase hs9 hcb hca hel
    have hB : (G.1 (t + 3) 1 = DA.2.1 ∧ S.2.1 t 2 0 = 0) ∨ ∃ (qA : Nat) (f : Nat → Option Nat), ((keys.map (hs_cell DA G S)).set qL (G.1 t 1, jL (G.2.1 t + 1) (G.1 (t + 3) 1) (nI (S.2.1 t 2 0))))[qA]? = some (G.1 (t + 3) 1, jA DA (S.2.1 t 2 0) f) := hcase.imp id fun h => h.2.imp fun qA h => ⟨_, h⟩
    refine j_callF (As := [.ref (G.1 b r)]) (mS := 160) hx hb hml hown hts hW hmi b2 b3 a5 a6.1 (jm_add e1 (jm_helpG hL1 hB hn1 (by omega) hV1 hcb h12 hca hG) (fun _ _ h => h.1)) e1 hF jk_653 jk_26 hl jk_651 jk_649 (nA := 1) ⟨by decide +kernel, by decide +kernel, by decide +kernel⟩ rfl (hs_Wc hcat) hd ⟨⟨by omega, by omega⟩, hM.1, hM.2⟩ (fun v ws' H1 locs1 hq c2 c3 c5 => ?_)
    obtain ⟨rfl, -, q, rfl⟩ := hq
    have nl := Nat.ne_of_lt (j_lt hL1)
    have hlen : ((keys.map (hs_cell DA G S)).set qL (G.1 t 1, jL (G.2.1 t + 1) (G.1 (t + 3) 1) (nI (S.2.1 t 2 0)))).length = keys.length := by rw [List.length_set, List.length_map]
    refine fin q n' _ (G.2.1 t + 1) _ _ H1 locs1 hn1 (by omega) hn3 (fun j hj => ?_) ?_ (fun j hj => ?_) c2 c3 c5 (fun i k h1 h2 h3 => ?_) (j_se (j_ne (j_se (j_ap hL1)) nl.symm)) (j_ne (j_se (j_ne j_new nl)) nl) (Or.inr (Nat.le_of_eq hlen.symm))
    · unfold va_up
      rw [if_neg (by omega), hf1 j hj]
      exact (l5 j hj).1
    · unfold va_up
      rw [if_pos rfl]
    · unfold va_up
      rw [if_neg (by omega)]
      exact hf2 j (by omega)
    · have n1 : qL ≠ i := fun z => h2 (Option.some.inj (h1.symm.trans (z ▸ e2)))
      have hi1 := j_ne (y := (G.1 t 1, jL (G.2.1 t + 1) (G.1 (t + 3) 1) (nI (S.2.1 t 2 0)))) (hmap i k h1) n1
      exact j_ne (j_ne (j_ne (j_ap hi1) n1) (Nat.ne_of_gt (j_lt hi1))) n1
