/-! ===== calls that ask ===== -/
theorem nI_6c {c r : Nat} : (6 : Int32) * nI c + nI r = nI (6 * c + r) := by
  rw [show (6 : Int32) * nI c = nI (6 * c) from pk_mul 6 c, nI_add]
theorem cell_1 {c r : Nat} (hc : c < 4) (hr : r < 6) : F_isCell (nI c) (nI r) = 1 := by
  rcases bI_01 ((0 ≤ nI c ∧ nI c < 4) ∧ 0 ≤ nI r ∧ nI r < 6) with h | h
  · exact absurd ⟨⟨c, hc, rfl⟩, r, hr, rfl⟩ (cell_iff.mp h)
  · exact h
theorem own_1 {o : Nat} (ho : o < 6) : F_isOwner (nI o) = 1 := by
  rcases bI_01 (0 ≤ nI o ∧ nI o < 6) with h | h
  · exact absurd ⟨o, ho, rfl⟩ (own_iff.mp h)
  · exact h
/-- the column's test as the reference has it -/
theorem col_if {a : Int32} {α : Type} {x y : α} : (if a < 0 then x else if 4 ≤ a then x else y) = if (¬ a < 0 ∧ ¬ 4 ≤ a) then y else x := by
  by_cases h1 : a < 0
  · rw [if_pos h1, if_neg fun z => z.1 h1]
  · by_cases h2 : 4 ≤ a
    · rw [if_neg h1, if_pos h2, if_neg fun z => z.2 h2]
    · rw [if_neg h1, if_neg h2, if_pos ⟨h1, h2⟩]
theorem col_y {c : Nat} (hc : c < 4) {α : Type} {x y : α} : (if nI c < 0 then x else if 4 ≤ nI c then x else y) = y := by
  rw [col_if, if_pos (col_iff.mpr ⟨c, hc, rfl⟩)]
theorem col_n {a : Int32} (h : ¬ ∃ c : Nat, c < 4 ∧ a = nI c) {α : Type} {x y : α} : (if a < 0 then x else if 4 ≤ a then x else y) = x := by
  rw [col_if, if_neg fun z => h (col_iff.mp z)]
section
variable {n : Nat} {T : hs_S} {ev ng nl nE nB nR nd : Nat}
theorem own_now (h : RX n T T ev ng nl nE nB nR nd) {k : Nat} (hk : k < 24) : F_ownerAt (nI k) (T.1 11 1 0) T = T.1 20 1 k := by
  obtain ⟨⟨⟨⟨b1, b2⟩, ⟨b3, b4⟩, _⟩, ⟨a1, a2, a3, a4, _⟩, _⟩, hG, _⟩ := h
  rw [own_r, a3, a2, hl_cl (by omega)]
  exact (hG k hk).1.symm
theorem rd_now {u20 u21 a42 a43 a44 a46 a47 a48 a49 : Nat → Int32} {e : Int32} (h : rG u20 u21 a42 a43 a44 ng a46 a47 a48 a49 nl e) {k o : Nat} (hk : k < 24) (ho : o < 6) : rdR a42 a43 a44 ng a46 a47 a48 a49 nl (nI o) (nI k) e = bI (u20 k = nI o ∨ (u21 k >>> (nI o &&& 31)) &&& 1 = 1) := by
  obtain ⟨h1, _, h3⟩ := h k hk
  unfold rdR
  rw [← h1]
  by_cases q : u20 k = nI o
  · rw [if_pos q, bI_t (Or.inl q)]
  · rw [if_neg q]
    rcases letR_01 (a42 := a42) (a43 := a43) (a44 := a44) (a46 := a46) (a47 := a47) (a48 := a48) (a49 := a49) (ng := ng) (o := nI o) (c := nI k) (e := e) nl with z | z
    · rw [z, bI_f]
      intro w
      rcases w with w | w
      · exact q w
      · rw [(h3 o ho).mp w] at z
        exact absurd z (by decide)
    · rw [z, bI_t (Or.inr ((h3 o ho).mpr z))]
theorem read_now (h : RX n T T ev ng nl nE nB nR nd) {k o : Nat} (hk : k < 24) (ho : o < 6) : F_readsAt (nI o) (nI k) (T.1 11 1 0) T = F_Rts_canRead 1 (nI o) (nI k) T := by
  obtain ⟨⟨⟨⟨b1, b2⟩, ⟨b3, b4⟩, _⟩, ⟨a1, a2, a3, a4, _⟩, _⟩, hG, _⟩ := h
  rw [read_r, a3, a2, a4, hl_cl (by omega), hl_cl (by omega), rd_now hG hk ho]
  unfold F_Rts_canRead
  rw [cl24 hk]
theorem pOwn (h : RX n T T ev ng nl nE nB nR nd) {a b : Int32} : P_ownerAt a b T := ⟨ng, by have := h.1.1; omega, h.1.2.1.2.2.1⟩
theorem pRead (h : RX n T T ev ng nl nE nB nR nd) {a b c : Int32} : P_readsAt a b c T := ⟨⟨ng, by have := h.1.1; omega, h.1.2.1.2.2.1⟩, ⟨nl, by have := h.1.1; omega, h.1.2.1.2.2.2.1⟩⟩
end
theorem th_0 {S : hs_S} {x : Int32} (h : x = 0) : (E_asks x S).1 11 1 59 = 1 := by rw [h]; rfl
theorem th_1 {S : hs_S} {x : Int32} (h : x = 1) : (E_asks x S).1 11 1 59 = 0 := by rw [h]; rfl
theorem out_0 {S : hs_S} {y : Int64} {x : Int32} : (E_asks x (hs_wL S 100 1 (0 : Int32).toNatClampNeg y)).2.2.1 100 1 0 = y := rfl
theorem RR_as {n : Nat} {S : hs_S} {x : Int32} (h : RR n S) (hn : n < 512) : RR (n + 1) (E_asks x S) := RR_th (RR_up h hn)
theorem OK_f {n : Nat} {S : hs_S} {x r : Int32} (h : RR n S) (hn : n < 512) (hx : x = 0) : OK n 1 r (E_asks x S) := ⟨RR_as h hn, th_0 hx, fun z => absurd z (by decide)⟩
theorem OK_g {n : Nat} {S : hs_S} {x k r : Int32} (h : RR n S) (hn : n < 512) (hk : k ≠ 0) : OK n k r (E_fails k (E_asks x S)) := ⟨RR_th (RR_as h hn), rfl, fun z => absurd z hk⟩
theorem RR_out {n : Nat} {S : hs_S} {y : Int64} (h : RR n S) : RR n (hs_wL S 100 1 (0 : Int32).toNatClampNeg y) := RR_ol h
theorem call_ownerOf {n : Nat} {S : hs_S} {a1 a2 : Int32} (h : RR n S) (hn : n < 512) (hw : hs_Wi S) : m_L_ownerOf a1 a2 S (fun k S2 => hs_Wi S2 → m_M_ownerOf a1 a2 S2 (fun r T => OK n k r T)) := by
  refine ok_L_ownerOf hw fun _ => ok_C_ownerOf hw fun _ => t_cellAt hw (fun c r hc hr e1 e2 => ?_) (fun e => ⟨rfl, fun hw2 => ok_M_ownerOf hw2 ⟨Or.inl e, ?_⟩⟩)
  · rw [hl_cl (by omega)]
    refine ⟨hl_ix (by omega) (by omega), ?_⟩
    rintro _ rfl hw2
    subst e1 e2
    refine ok_M_ownerOf hw2 ?_
    unfold vc_M_ownerOf
    rw [cell_1 hc hr, nI_6c]
    refine ⟨Or.inr rfl, ?_⟩
    rintro _ rfl
    have hR := RR_as (x := 1) (RR_out (y := (S.1 20 1 (6 * c + r)).toInt64) h) hn
    refine ⟨fun z => absurd z (by decide), fun _ => ?_⟩
    obtain ⟨ev, ng, nl, nE, nB, nR, nd, hX, _⟩ := id hR
    exact ⟨pOwn hX, hR, rfl, fun _ => by rw [own_now hX (by omega)]; rfl⟩
  · rintro _ rfl
    exact ⟨fun _ => OK_f h hn e, fun z => absurd e z⟩
theorem own_if {a : Int32} {α : Type} {x y : α} : (if F_isOwner a = 0 then x else y) = if (∃ o : Nat, o < 6 ∧ a = nI o) then y else x := by
  by_cases q : F_isOwner a = 0
  · rw [if_pos q, if_neg (own_iff.mp q)]
  · rw [if_neg q, if_pos (Classical.not_not.mp fun z => q (own_iff.mpr z))]
/-- owner and cell, as the reference tests them -/
theorem oc_y {o c r : Nat} (ho : o < 6) (hc : c < 4) (hr : r < 6) : (if F_isOwner (nI o) = 0 then (0 : Int32) else if F_isCell (nI c) (nI r) = 0 then 0 else 1) = 1 := by
  rw [own_1 ho, cell_1 hc hr]; rfl
theorem oc_n {a b c : Int32} (h : F_isOwner a = 0 ∨ F_isCell b c = 0) : (if F_isOwner a = 0 then (0 : Int32) else if F_isCell b c = 0 then 0 else 1) = 0 := by
  by_cases q : F_isOwner a = 0
  · rw [if_pos q]
  · rw [if_neg q, if_pos (h.resolve_left q)]
theorem call_reads {n : Nat} {S : hs_S} {a1 a2 a3 : Int32} (h : RR n S) (hn : n < 512) (hw : hs_Wi S) : m_L_reads a1 a2 a3 S (fun k S2 => hs_Wi S2 → m_M_reads a1 a2 a3 S2 (fun r T => OK n k r T)) := by
  have bad : (F_isOwner a1 = 0 ∨ F_isCell a2 a3 = 0) → hs_Wi S → m_M_reads a1 a2 a3 S (fun r T => OK n 1 r T) := fun e hw2 => by
    refine ok_M_reads hw2 ?_
    rintro x hx
    rw [oc_n e] at hx
    subst hx
    refine ⟨Or.inl rfl, ?_⟩
    rintro _ rfl
    exact ⟨fun _ => OK_f h hn rfl, fun z => absurd rfl z⟩
  refine ok_L_reads hw fun _ => ok_C_reads hw fun _ => t_needOwner hw (fun o ho eo => fun _ => t_cellAt hw (fun c r hc hr e1 e2 => ?_) (fun e => ⟨rfl, bad (Or.inr e)⟩)) (fun e => ⟨rfl, bad (Or.inl e)⟩)
  subst eo e1 e2
  have go : ∀ y : Int64, ∀ k, (F_Rts_canRead 1 (nI o) (nI (6 * c + r)) S = 0 → y = 0) → (¬ F_Rts_canRead 1 (nI o) (nI (6 * c + r)) S = 0 → y = 1) → k = (0 : Int32) → hs_Wi (hs_wL S 100 1 (0 : Int32).toNatClampNeg y) → m_M_reads (nI o) (nI c) (nI r) (hs_wL S 100 1 (0 : Int32).toNatClampNeg y) (fun r T => OK n k r T) := by
    rintro y k hy0 hy1 rfl hw2
    refine ok_M_reads hw2 ?_
    rintro x hx
    rw [oc_y ho hc hr] at hx
    subst hx
    refine ⟨Or.inr rfl, ?_⟩
    rintro _ rfl
    rw [nI_6c]
    have hR := RR_as (x := 1) (RR_out (y := y) h) hn
    obtain ⟨ev, ng, nl, nE, nB, nR, nd, hX, _⟩ := id hR
    refine ⟨fun z => absurd z (by decide), fun _ => ⟨pRead hX, ?_⟩⟩
    rw [read_now hX (by omega) ho]
    exact ⟨fun z => ⟨hR, rfl, fun _ => hy0 z⟩, fun z => ⟨hR, rfl, fun _ => hy1 z⟩⟩
  refine ⟨hl_ix (by omega) (by omega), bI_01 _, fun q => ?_, fun q => ?_⟩
  · rintro _ rfl hw2
    exact go _ _ (fun _ => rfl) (fun z => absurd q z) rfl hw2
  · rintro _ rfl hw2
    exact go _ _ (fun z => absurd z q) (fun _ => rfl) rfl hw2
theorem call_cash {n : Nat} {S : hs_S} {a1 : Int32} (h : RR n S) (hn : n < 512) (hw : hs_Wi S) : m_L_cash a1 S (fun k S2 => hs_Wi S2 → m_M_cash a1 S2 (fun r T => OK n k r T)) := by
  refine ok_L_cash hw fun _ => ok_C_cash hw fun _ => t_needOwner hw (fun o ho eo => ?_) (fun e => ⟨rfl, fun hw2 => ok_M_cash hw2 ⟨Or.inl e, ?_⟩⟩)
  · subst eo
    rw [hl_cl (by omega)]
    refine ⟨hl_ix (by omega) (by omega), ?_⟩
    rintro _ rfl hw2
    refine ok_M_cash hw2 ?_
    unfold vc_M_cash
    rw [own_1 ho, hl_cl (by omega)]
    refine ⟨Or.inr rfl, ?_⟩
    rintro _ rfl
    have hR := RR_as (x := 1) (RR_out (y := (S.1 36 1 o).toInt64) h) hn
    obtain ⟨ev, ng, nl, nE, nB, nR, nd, hX, hL, _⟩ := id hR
    refine ⟨fun z => absurd z (by decide), fun _ => ⟨hl_ix (by omega) (by omega), hR, rfl, fun _ => ?_⟩⟩
    have := (hL.1 o ho).1
    exact congrArg Int32.toInt64 this
  · rintro _ rfl
    exact ⟨fun _ => OK_f h hn e, fun z => absurd e z⟩
theorem call_isFrozen {n : Nat} {S : hs_S} {a1 : Int32} (h : RR n S) (hn : n < 512) (hw : hs_Wi S) : m_L_isFrozen a1 S (fun k S2 => hs_Wi S2 → m_M_isFrozen a1 S2 (fun r T => OK n k r T)) := by
  obtain ⟨ev, ng, nl, nE, nB, nR, nd, hX, hL, hQ, hM⟩ := id h
  refine ok_L_isFrozen hw fun _ => ok_C_isFrozen hw fun _ => t_needColumn hw (fun c hc ec => ?_) (fun e => ⟨rfl, fun hw2 => ok_M_isFrozen hw2 ?_⟩)
  · subst ec
    rw [hl_cl (by omega)]
    obtain ⟨⟨g1, g2⟩, g3, g4, g5⟩ := hX.2.2.2.2.2.2.2.2.1 c hc
    have go : ∀ y : Int64, (F_Rnd_wasFrozen (S.2.1 26 1 c) S = 0 → y = 0) → (¬ F_Rnd_wasFrozen (S.2.1 26 1 c) S = 0 → y = 1) → hs_Wi (hs_wL S 100 1 (0 : Int32).toNatClampNeg y) → m_M_isFrozen (nI c) (hs_wL S 100 1 (0 : Int32).toNatClampNeg y) (fun r T => OK n 0 r T) := by
      intro y hy0 hy1 hw2
      refine ok_M_isFrozen hw2 ?_
      unfold vc_M_isFrozen
      rw [col_y hc, hl_cl (by omega)]
      rintro _ rfl
      refine ⟨Or.inr rfl, ?_⟩
      rintro _ rfl
      have hR := RR_as (x := 1) (RR_out (y := y) h) hn
      refine ⟨fun z => absurd z (by decide), fun _ => ⟨hl_ix (by omega) (by omega), fun z => ⟨hR, rfl, fun _ => hy0 ?_⟩, fun z => ⟨hR, rfl, fun _ => hy1 ?_⟩⟩⟩
      · have z' : S.1 62 1 c = -1 := z
        rcases g4 with ⟨w1, w2⟩ | ⟨f, w1, w2, _⟩
        · exact bI_eq0.mpr (Classical.not_not.mpr w2)
        · rw [w2] at z'
          have e1 : (nI f).toInt = f := nI_toInt (by have := hX.1.1; omega)
          have e2 : (nI f).toInt = -1 := by rw [z']; rfl
          omega
      · have z' : ¬ S.1 62 1 c = -1 := z
        rcases g4 with ⟨w1, w2⟩ | ⟨f, w1, w2, w3, _⟩
        · exact absurd w1 z'
        · intro q
          have q' : S.1 8 (S.2.1 26 1 c) 1 = 2147483647 := Classical.not_not.mp (bI_eq0.mp q)
          rw [w3] at q'
          have e1 : (nI f).toInt = f := nI_toInt (by have := hX.1.1; omega)
          have e2 : (nI f).toInt = 2147483647 := by rw [q']; rfl
          have := hX.1.1
          omega
    refine ⟨hl_ix (by omega) (by omega), by omega, bI_01 _, fun q => ?_, fun q => ?_⟩
    · rintro _ rfl hw2
      exact go _ (fun _ => rfl) (fun z => absurd q z) hw2
    · rintro _ rfl hw2
      exact go _ (fun z => absurd z q) (fun _ => rfl) hw2
  · unfold vc_M_isFrozen
    rw [col_n e]
    rintro _ rfl
    refine ⟨Or.inl rfl, ?_⟩
    rintro _ rfl
    exact ⟨fun _ => OK_f h hn rfl, fun z => absurd rfl z⟩
theorem bid_iff {S : hs_S} {a : Int32} {nB : Nat} (hB : nB ≤ 80) (e : S.1 11 1 24 = nI nB) : F_isBid a S = 0 ↔ ¬ ∃ b : Nat, b < nB ∧ a = nI b := by
  unfold F_isBid
  rw [bI_eq0, e]
  refine not_congr ⟨fun z => lt_of (by omega) (fun w => ?_) z.2, ?_⟩
  · have h1 := z.1
    rw [i32_le] at h1
    rw [i32_lt] at w
    omega
  · rintro ⟨b, hb, rfl⟩
    refine ⟨?_, nI_lt2 (by omega) hb⟩
    have := nI_lo (o := b) (by omega)
    rw [i32_lt] at this
    rw [i32_le]
    omega
theorem bid_1 {S : hs_S} {b nB : Nat} (hB : nB ≤ 80) (e : S.1 11 1 24 = nI nB) (hb : b < nB) : F_isBid (nI b) S = 1 := by
  rcases bI_01 (0 ≤ nI b ∧ nI b < S.1 11 1 24) with z | z
  · exact absurd ⟨b, hb, rfl⟩ ((bid_iff hB e).mp z)
  · exact z
theorem call_got {n : Nat} {S : hs_S} {a1 : Int32} (h : RR n S) (hn : n < 512) (hw : hs_Wi S) : m_L_got a1 S (fun k S2 => hs_Wi S2 → m_M_got a1 S2 (fun r T => OK n k r T)) := by
  obtain ⟨ev, ng, nl, nE, nB, nR, nd, hX, hL, hQ, hM⟩ := id h
  have hz : hs_sz S 13 = nB := hX.1.2.2.1.2.2.1
  have e24 : S.1 11 1 24 = nI nB := hX.1.2.1.2.2.2.2.2.1
  have hB80 : nB ≤ 80 := hX.1.1.2.2.1.2
  refine ok_L_got hw fun _ => ok_C_got hw fun _ => t_bidNumbered hw (by omega) (fun b hb => (hX.2.2.2.2.2.2.1 b (by omega)).1.1.1) (fun b hb eb => ⟨by omega, ?_⟩) (fun e => ⟨rfl, fun hw2 => ok_M_got hw2 ?_⟩)
  · rw [hz] at hb
    subst eb
    rintro _ rfl hw2
    refine ok_M_got hw2 ?_
    unfold vc_M_got
    have hb1 : F_isBid (nI b) (hs_wL S 100 1 (0 : Int32).toNatClampNeg (S.1 0 (b + 1) 9).toInt64) = 1 := bid_1 (S := S) hB80 e24 hb
    rw [hb1, hl_cl (by omega)]
    refine ⟨Or.inr rfl, ?_⟩
    rintro _ rfl
    have hR := RR_as (x := 1) (RR_out (y := (S.1 0 (b + 1) 9).toInt64) h) hn
    refine ⟨fun z => absurd z (by decide), fun _ => ⟨hl_ix (by omega) (by omega), hR, rfl, fun _ => ?_⟩⟩
    exact congrArg Int32.toInt64 (hQ.2 b hb).1
  · have hb0 : F_isBid a1 S = 0 := (bid_iff hB80 e24).mpr (by rw [hz] at e; exact e)
    refine ⟨Or.inl hb0, ?_⟩
    rintro _ rfl
    exact ⟨fun _ => OK_f h hn hb0, fun z => absurd hb0 z⟩
theorem cEO_r {U V : hs_S} {ev : Nat} {c : Int32} : ∀ k, (∀ j, j < k → rE1 U V ev j) → cEO U c k = mEO V c k := by
  intro k
  induction k with
  | zero => intro _; rfl
  | succ k ih =>
    intro hE
    obtain ⟨⟨e1, _⟩, ⟨x, hx, e2, e3⟩, _⟩ := hE k (by omega)
    have e1' : ed U k = k + 1 := e1
    unfold cEO mEO
    rw [ih fun j hj => hE j (by omega), e1', e3, e2, Int32.add_zero]
theorem editsOf_r {T : hs_S} {c : Int32} {nE : Nat} (e : T.1 11 1 12 = nI nE) (h : nE ≤ 60) : F_editsOf c T = mEO T c nE := by
  unfold F_editsOf
  rw [e, hl_cl (by omega)]
theorem countOf_r {T : hs_S} {c : Int32} {nE : Nat} (e : hs_sz T 12 = nE) : F_Sht_countOf c T = cEO T c nE := by
  unfold F_Sht_countOf
  rw [e]
theorem call_edits {n : Nat} {S : hs_S} {a1 a2 : Int32} (h : RR n S) (hn : n < 512) (hw : hs_Wi S) : m_L_edits a1 a2 S (fun k S2 => hs_Wi S2 → m_M_edits a1 a2 S2 (fun r T => OK n k r T)) := by
  obtain ⟨ev, ng, nl, nE, nB, nR, nd, hX, hL, hQ, hM⟩ := id h
  have hz : hs_sz S 12 = nE := hX.1.2.2.1.1
  have hE60 : nE ≤ 60 := hX.1.1.2.2.1.1
  refine ok_L_edits hw fun _ => ok_C_edits hw fun _ => t_cellAt hw (fun c r hc hr e1 e2 => ?_) (fun e => ⟨rfl, fun hw2 => ok_M_edits hw2 ⟨Or.inl e, ?_⟩⟩)
  · subst e1 e2
    refine ⟨⟨nE, hE60, hz, fun k hk => ?_⟩, ?_⟩
    · have : S.2.1 12 1 k = k + 1 := (hX.2.2.2.1 k hk).1.1.1
      show S.2.1 12 1 k ≠ 0
      omega
    · rintro _ rfl hw2
      refine ok_M_edits hw2 ?_
      unfold vc_M_edits
      rw [cell_1 hc hr, nI_6c]
      refine ⟨Or.inr rfl, ?_⟩
      rintro _ rfl
      have hR := RR_as (x := 1) (RR_out (y := (F_Sht_countOf (nI (6 * c + r)) S).toInt64) h) hn
      obtain ⟨ev', ng', nl', nE', nB', nR', nd', hX', _⟩ := id hR
      have e12 := hX'.1.2.1.2.2.2.2.1
      refine ⟨fun z => absurd z (by decide), fun _ => ⟨⟨nE', hX'.1.1.2.2.1.1, e12⟩, hR, rfl, fun _ => ?_⟩⟩
      have hz' : nE' = nE := hX'.1.2.2.1.1.symm.trans hz
      subst hz'
      exact congrArg Int32.toInt64 ((countOf_r hz).trans ((cEO_r (U := S) (V := E_asks 1 (hs_wL S 100 1 (0 : Int32).toNatClampNeg (F_Sht_countOf (nI (6 * c + r)) S).toInt64)) nE' fun j hj => (hX.2.2.2.1 j hj).1).trans (editsOf_r e12 hX'.1.1.2.2.1.1).symm))
  · rintro _ rfl
    exact ⟨fun _ => OK_f h hn e, fun z => absurd e z⟩
