/-! ===== what bids cost; a bid withdrawn ===== -/
section
variable {S T : hs_S} {o c : Int32}
theorem sb_f (e8 : T.1 8 = S.1 8) {i : Nat} (h1 : ∀ p, p ≠ 7 → T.1 0 i p = S.1 0 i p) (h2 : T.2.1 0 i 2 = S.2.1 0 i 2) : F_Bid_owed i T = F_Bid_owed i S ∧ F_Bid_feePaid i T = F_Bid_feePaid i S := by
  have w : F_Bid_worth i T = F_Bid_worth i S := by
    unfold F_Bid_worth
    rw [h1 9 (by decide), h2, e8]
  have f : F_Bid_feePaid i T = F_Bid_feePaid i S := by
    unfold F_Bid_feePaid
    rw [w, h1 3 (by decide), h2, e8]
  refine ⟨?_, f⟩
  unfold F_Bid_owed
  rw [w, f, h1 3 (by decide)]
theorem cow_c (e8 : T.1 8 = S.1 8) (e20 : T.1 20 = S.1 20) {n : Nat} (hb : ∀ j, j < n → T.2.1 13 1 j = S.2.1 13 1 j ∧ (∀ p, p ≠ 7 → T.1 0 (S.2.1 13 1 j) p = S.1 0 (S.2.1 13 1 j) p) ∧ T.2.1 0 (S.2.1 13 1 j) 2 = S.2.1 0 (S.2.1 13 1 j) 2) : ∀ k, k ≤ n → cOw T o c k = cOw S o c k := by
  intro k
  induction k with
  | zero => intro _; rfl
  | succ k ih =>
    intro hk
    obtain ⟨h1, h2, h3⟩ := hb k (by omega)
    obtain ⟨f1, f2⟩ := sb_f e8 h2 h3
    have b1 : bd T k = bd S k := h1
    have b2 : br T k = br S k := by
      show T.2.1 0 (T.2.1 13 1 k) 2 = _
      rw [h1, h3]
    have g1 : F_Bid_owed (bd S k) T = F_Bid_owed (bd S k) S := f1
    have g2 : F_Bid_feePaid (bd S k) T = F_Bid_feePaid (bd S k) S := f2
    have g3 : T.1 0 (bd S k) 1 = S.1 0 (bd S k) 1 := h2 1 (by decide)
    unfold cOw F_Rnd_feeOwner
    rw [ih (by omega), b1, b2, g1, g2, e8, e20, g3]
theorem cof_c (e8 : T.1 8 = S.1 8) {n : Nat} (hb : ∀ j, j < n → T.2.1 13 1 j = S.2.1 13 1 j ∧ (∀ p, T.1 0 (S.2.1 13 1 j) p = S.1 0 (S.2.1 13 1 j) p) ∧ T.2.1 0 (S.2.1 13 1 j) 2 = S.2.1 0 (S.2.1 13 1 j) 2) : ∀ k, k ≤ n → cOf T o k = cOf S o k := by
  intro k
  induction k with
  | zero => intro _; rfl
  | succ k ih =>
    intro hk
    obtain ⟨h1, h2, h3⟩ := hb k (by omega)
    have b1 : bd T k = bd S k := h1
    have b2 : br T k = br S k := by
      show T.2.1 0 (T.2.1 13 1 k) 2 = _
      rw [h1, h3]
    have g : ∀ p, T.1 0 (bd S k) p = S.1 0 (bd S k) p := h2
    have gc : cOfC T o k ↔ cOfC S o k := by
      unfold cOfC F_Rnd_isCleared
      rw [b1, b2, e8, g, g, g]
    unfold cOf
    by_cases q : cOfC S o k
    · rw [if_pos q, if_pos (gc.mpr q), ih (by omega), b1, g, g]
    · rw [if_neg q, if_neg fun z => q (gc.mp z), ih (by omega)]
theorem ex_c2 (h1 : F_Book_offeredBy o T = F_Book_offeredBy o S) (h2 : ∀ c, c < 4 → F_Ldg_dueOf o (nI c) T = F_Ldg_dueOf o (nI c) S) : F_Ldg_exposureOf o T = F_Ldg_exposureOf o S := by
  have e : ∀ k, k ≤ 4 → cEx T o k = cEx S o k := by
    intro k
    induction k with
    | zero => intro _; exact h1
    | succ k ih => intro hk; unfold cEx; rw [ih (by omega), h2 k (by omega)]
  exact e 4 (Nat.le_refl _)
end
theorem ex_li {S : hs_S} {o m : Nat} {a : Int32} : F_Ldg_exposureOf a (liT S o m) = F_Ldg_exposureOf a S := by
  refine ex_c2 ?_ fun c _ => ?_
  · show cOf (liT S o m) a (hs_sz S 13) = cOf S a (hs_sz S 13)
    exact cof_c (S := S) (T := liT S o m) rfl (n := hs_sz S 13) (fun j _ => ⟨rfl, fun _ => rfl, rfl⟩) _ (Nat.le_refl _)
  · show cOw (liT S o m) a (nI c) (hs_sz S 13) - _ = cOw S a (nI c) (hs_sz S 13) - _
    rw [cow_c (S := S) (T := liT S o m) rfl rfl (n := hs_sz S 13) (fun j _ => ⟨rfl, fun _ _ => rfl, rfl⟩) _ (Nat.le_refl _)]
    rfl
/-- a bid that was made -/
def nbd (S T : hs_S) (o c b m l : Nat) : Prop := (hs_sz T 13 = hs_sz S 13 + 1 ∧ T.2.1 13 1 (hs_sz S 13) = hs_sz S 13 + 1 ∧ ∀ j, j < hs_sz S 13 → T.2.1 13 1 j = S.2.1 13 1 j ∧ (∀ p, T.1 0 (S.2.1 13 1 j) p = S.1 0 (S.2.1 13 1 j) p) ∧ T.2.1 0 (S.2.1 13 1 j) 2 = S.2.1 0 (S.2.1 13 1 j) 2) ∧
  (T.1 0 (hs_sz S 13 + 1) 1 = nI o ∧ T.1 0 (hs_sz S 13 + 1) 3 = nI b ∧ T.1 0 (hs_sz S 13 + 1) 4 = nI m ∧ T.1 0 (hs_sz S 13 + 1) 5 = nI l ∧ T.1 0 (hs_sz S 13 + 1) 7 = 2147483647 ∧ T.1 0 (hs_sz S 13 + 1) 9 = 0 ∧ T.2.1 0 (hs_sz S 13 + 1) 2 = S.2.1 26 1 c) ∧
  T.1 8 = S.1 8 ∧ T.1 20 = S.1 20 ∧ T.1 35 = S.1 35 ∧ (∀ c, T.2.1 26 1 c = S.2.1 26 1 c) ∧ hs_sz T 12 = hs_sz S 12 ∧ hs_sz T 14 = hs_sz S 14
theorem nbd_i {n o c b m l : Nat} {S : hs_S} (h : KS n S) : nbd S (bidT S o c (nI b) m l) o c b m l := by
  have h0 := (KS_d h).2.2.2.2.2
  obtain ⟨T, hT⟩ : ∃ T, T = bidT S o c (nI b) m l := ⟨_, rfl⟩
  rw [← hT]
  have a0 : ∀ p, T.1 0 (hs_sz S 13 + 1) p = if p = 6 then S.1 10 1 5 else if p = 5 then nI l else if p = 4 then nI m else if p = 3 then nI b else if p = 1 then nI o else if p = 0 then nI (hs_sz S 13) else if p = 9 then 0 else if p = 8 then 0 else if p = 7 then 2147483647 else (hs_nw S 0).1 0 (hs_sz S 13 + 1) p := fun p => by
    rw [hT]
    unfold bidT
    rw [h0]
    show (hs_wI (hs_wI (hs_wI (hs_wI (hs_wR (hs_wI (hs_wI (hs_wI (hs_wI (hs_wI (hs_nw S 0) 0 (hs_sz S 13 + 1) 7 _) 0 (hs_sz S 13 + 1) 8 _) 0 (hs_sz S 13 + 1) 9 _) 0 (hs_sz S 13 + 1) 0 _) 0 (hs_sz S 13 + 1) 1 _) 0 (hs_sz S 13 + 1) 2 _) 0 (hs_sz S 13 + 1) 3 _) 0 (hs_sz S 13 + 1) 4 _) 0 (hs_sz S 13 + 1) 5 _) 0 (hs_sz S 13 + 1) 6 _).1 0 (hs_sz S 13 + 1) p = _
    rw [wI_at, wI_at, wI_at, wI_at]
    show (if p = 6 then _ else if p = 5 then _ else if p = 4 then _ else if p = 3 then _ else (hs_wI (hs_wI (hs_wI (hs_wI (hs_wI (hs_nw S 0) 0 (hs_sz S 13 + 1) 7 _) 0 (hs_sz S 13 + 1) 8 _) 0 (hs_sz S 13 + 1) 9 _) 0 (hs_sz S 13 + 1) 0 _) 0 (hs_sz S 13 + 1) 1 _).1 0 (hs_sz S 13 + 1) p) = _
    rw [wI_at, wI_at, wI_at, wI_at, wI_at]
  have aj : ∀ i, i ≠ hs_sz S 13 + 1 → (∀ p, T.1 0 i p = S.1 0 i p) ∧ T.2.1 0 i 2 = S.2.1 0 i 2 := fun i hi => by
    rw [hT]
    unfold bidT
    rw [h0]
    refine ⟨fun p => ?_, ?_⟩
    · show (hs_wI (hs_wI (hs_wI (hs_wI (hs_wI (hs_wI (hs_wI (hs_wI (hs_wI (hs_nw S 0) 0 (hs_sz S 13 + 1) 7 _) 0 (hs_sz S 13 + 1) 8 _) 0 (hs_sz S 13 + 1) 9 _) 0 (hs_sz S 13 + 1) 0 _) 0 (hs_sz S 13 + 1) 1 _) 0 (hs_sz S 13 + 1) 3 _) 0 (hs_sz S 13 + 1) 4 _) 0 (hs_sz S 13 + 1) 5 _) 0 (hs_sz S 13 + 1) 6 _).1 0 i p = _
      rw [wI_ne hi, wI_ne hi, wI_ne hi, wI_ne hi, wI_ne hi, wI_ne hi, wI_ne hi, wI_ne hi, wI_ne hi]
      exact if_neg fun z => by have : i = S.2.2.2 0 + 1 := z.2; omega
    · show (hs_wR (hs_nw S 0) 0 (hs_sz S 13 + 1) 2 _).2.1 0 i 2 = _
      rw [wR_ne hi]
      exact if_neg fun z => by have : i = S.2.2.2 0 + 1 := z.2; omega
  refine ⟨⟨by rw [hT]; rfl, ?_, fun j hj => ⟨?_, ?_⟩⟩, ⟨a0 1, a0 3, a0 4, a0 5, a0 7, a0 9, ?_⟩, by rw [hT]; rfl, by rw [hT]; rfl, by rw [hT]; rfl, fun c => by rw [hT]; rfl, by rw [hT]; rfl, by rw [hT]; rfl⟩
  · rw [hT, ← h0]
    exact (if_pos ⟨rfl, rfl, h0⟩ : (if 13 = 13 ∧ 1 = 1 ∧ S.2.2.2 0 = S.2.1 13 2 0 then S.2.2.2 0 + 1 else _) = _)
  · rw [hT]
    exact (if_neg fun z => absurd (show j = hs_sz S 13 from z.2.2) (by omega)).trans ((if_neg fun z => absurd z.2.1 (by decide)).trans rfl)
  · have := KS_bd h hj
    exact aj _ (by omega)
  · rw [hT]
    unfold bidT
    rw [h0]
    exact wR_at.trans (if_pos rfl)
theorem nbd_due {n o c b m l : Nat} {S T : hs_S} (h : KS n S) (t : nbd S T o c b m l) {a c' : Int32} : F_Ldg_dueOf a c' T = F_Ldg_dueOf a c' S := by
  obtain ⟨⟨z1, z2, z3⟩, ⟨t1, t3, t4, t5, t7, t9, t2⟩, e8, e20, e35, _⟩ := t
  have f0 : F_Bid_worth (hs_sz S 13 + 1) T = 0 := if_pos t9
  have f1 : F_Bid_feePaid (hs_sz S 13 + 1) T = 0 := by
    unfold F_Bid_feePaid
    rw [f0, Int32.zero_mul]
    by_cases q : T.1 0 (hs_sz S 13 + 1) 3 = 0
    · rw [if_pos q]
    · rw [if_neg q]; decide
  have f2 : F_Bid_owed (hs_sz S 13 + 1) T = 0 := by
    unfold F_Bid_owed
    rw [f0, f1]
    by_cases q : T.1 0 (hs_sz S 13 + 1) 3 = 0
    · rw [if_pos q]; decide
    · rw [if_neg q]; decide
  have e : cOw T a c' (hs_sz S 13 + 1) = cOw S a c' (hs_sz S 13) := by
    have b1 : bd T (hs_sz S 13) = hs_sz S 13 + 1 := z2
    rw [cOw, b1, f1, f2, cow_c e8 e20 (fun j hj => ⟨(z3 j hj).1, fun p _ => (z3 j hj).2.1 p, (z3 j hj).2.2⟩) _ (Nat.le_refl _)]
    simp only [Int32.add_zero, Int32.sub_zero, ite_self]
  show cOw T a c' (hs_sz T 13) - _ = cOw S a c' (hs_sz S 13) - _
  rw [z1, e, e35]
theorem nbd_ex {n o c b m l : Nat} {S T : hs_S} (h : KS n S) (hc : c < 4) (hb : b < 2) (t : nbd S T o c b m l) : F_Ldg_exposureOf (nI o) T = F_Ldg_exposureOf (nI o) S + nI b * nI m * nI l := by
  have hd := fun c' => nbd_due (a := nI o) (c' := nI c') h t
  obtain ⟨⟨z1, z2, z3⟩, ⟨t1, t3, t4, t5, t7, t9, t2⟩, e8, e20, e35, _⟩ := t
  have e0 : cOf T (nI o) (hs_sz T 13) = cOf S (nI o) (hs_sz S 13) + nI b * nI m * nI l := by
    have e1 := cof_c (o := nI o) e8 z3 _ (Nat.le_refl _)
    have b1 : bd T (hs_sz S 13) = hs_sz S 13 + 1 := z2
    rw [z1, cOf]
    have hcl : F_Rnd_isCleared (S.2.1 26 1 c) T = 0 := by
      have := (KS_cur h hc).2.2
      unfold F_Rnd_isCleared at this ⊢
      rw [e8]; exact this
    rw [e1]
    rcases (show b = 0 ∨ b = 1 by omega) with w | w
    · subst w
      rw [if_neg fun z => by
        have := z.2.1
        rw [b1] at this
        exact this t3]
      rw [show nI 0 = (0 : Int32) from rfl, Int32.zero_mul, Int32.zero_mul, Int32.add_zero]
    · subst w
      rw [if_pos ⟨by rw [b1]; exact t1, by rw [b1, t3]; decide, by rw [b1]; exact t7, by show F_Rnd_isCleared (T.2.1 0 (T.2.1 13 1 (hs_sz S 13)) 2) T = 0; rw [z2, t2]; exact hcl⟩]
      rw [b1, t4, t5, show nI 1 = (1 : Int32) from rfl, Int32.one_mul]
  have e : ∀ k, cEx T (nI o) k = cEx S (nI o) k + nI b * nI m * nI l := by
    intro k
    induction k with
    | zero => exact e0
    | succ k ih =>
      unfold cEx
      rw [ih, hd k, Int32.add_assoc, Int32.add_assoc, Int32.add_comm (nI b * nI m * nI l)]
  exact e 4
/-- a bid is withdrawn -/
abbrev wrT (S : hs_S) (b : Nat) : hs_S := hs_wI (hs_wI S 0 (b + 1) 7 (S.1 10 1 5)) 10 1 5 (S.1 10 1 5 + 1)
theorem ac_wdr {n o b c : Nat} {S : hs_S} (h : KS n S) (hw : hs_Wi S) (ho : o < 6) (hc : c < 4) (hb : b < hs_sz S 13) (h1 : S.1 0 (b + 1) 1 = nI o) (h7 : S.1 0 (b + 1) 7 = 2147483647) (h2 : S.2.1 0 (b + 1) 2 = S.2.1 26 1 c) (hf : F_Rnd_wasFrozen (S.2.1 26 1 c) S = 0) : m_L_call 11 (nI o) (nI b) 0 S (lIs (S.1 0 (b + 1) 4) (wrT S b)) := by
  obtain ⟨k1, k2, k3⟩ := KS_cur h hc
  refine lc_11 hw fun hw => ok_C_withdraw hw fun _ => y_o hw ho fun _ => y_b h hw hb ⟨Nat.succ_ne_zero _, fun _ => ⟨fun _ => ?_, fun z => absurd h7 z⟩, fun z => absurd h1 z⟩
  rw [h2, k2, hl_cl (by omega)]
  refine ⟨k1, hl_ix (by omega) (by omega), k1, fun _ => ⟨fun _ => ?_, fun z => absurd k3 z⟩, fun z => absurd hf z⟩
  rintro _ rfl _ rfl
  exact ⟨(wI_at (S := S) (t := 0) (i := b + 1) (j := 7) (j' := 4)).trans (if_neg (by decide)), rfl⟩
theorem ac_wdr_n {n o b : Nat} {S : hs_S} (h : KS n S) (hw : hs_Wi S) (ho : o < 6) (hb : b < hs_sz S 13) (hx : ¬ S.1 0 (b + 1) 1 = nI o ∨ ¬ S.1 0 (b + 1) 7 = 2147483647) : m_L_call 11 (nI o) (nI b) 0 S (lIs (-2100000003) S) := by
  refine lc_11 hw fun hw => ok_C_withdraw hw fun _ => y_o hw ho fun _ => y_b h hw hb ⟨Nat.succ_ne_zero _, fun z1 => ⟨fun z2 => absurd z2 (hx.resolve_left fun z => z z1), fun _ => lX_s ⟨rfl, rfl⟩⟩, fun _ => lX_s ⟨rfl, rfl⟩⟩
theorem bo_wdr {n o b c : Nat} {S U : hs_S} {Q : Int32 → hs_S → hs_S → Prop} (h : JJ n S U) (hn : n < 512) (hw : hs_Wi S) (hu : hs_Wi U) (ho : o < 6) (hc : c < 4) (hb : b < hs_sz S 13) (h1 : S.1 0 (b + 1) 1 = nI o) (h7 : S.1 0 (b + 1) 7 = 2147483647) (h2 : S.2.1 0 (b + 1) 2 = S.2.1 26 1 c) (hf : F_Rnd_wasFrozen (S.2.1 26 1 c) S = 0)
    (hQ : ∀ T', JJ (n + 1) (wrT S b) T' → Q (S.1 0 (b + 1) 4) (wrT S b) T') : m_L_both 11 (nI o) (nI b) 0 S U Q := by
  have cl : hs_cl (wrT S b) = hs_cl (wrT U b) := cg_I (cg_I h.2.2 (jj_1 h.2.2 rfl).symm) (by rw [jj_1 h.2.2 rfl])
  refine bo_f hw hu (ac_wdr h.1 hw ho hc hb h1 h7 h2 hf) (ac_wdr h.u hu ho hc (by rw [← tw_sz h.2.2 13 rfl]; exact hb) ((jj_1 h.2.2 rfl).trans h1) ((jj_1 h.2.2 rfl).trans h7) ((jj_2 h.2.2 rfl).trans (h2.trans (jj_2 h.2.2 rfl).symm)) ((jj_fz h.2.2 c).trans hf)) (jj_1 h.2.2 rfl).symm (hQ _ ⟨kp_wdr h.1 hn hb h7 (by rw [h2]; exact (KS_cur h.1 hc).2.2), ?_, cl⟩)
  rw [← h.2.1]
  exact csum_c (fun _ _ => rfl) 6 (Nat.le_refl _)
theorem bo_wdr_n {n o b : Nat} {S U : hs_S} {Q : Int32 → hs_S → hs_S → Prop} (h : JJ n S U) (hw : hs_Wi S) (hu : hs_Wi U) (ho : o < 6) (hb : b < hs_sz S 13) (hx : ¬ S.1 0 (b + 1) 1 = nI o ∨ ¬ S.1 0 (b + 1) 7 = 2147483647) (hQ : Q (-2100000003) S U) : m_L_both 11 (nI o) (nI b) 0 S U Q :=
  bo_f hw hu (ac_wdr_n h.1 hw ho hb hx) (ac_wdr_n h.u hu ho (by rw [← tw_sz h.2.2 13 rfl]; exact hb) (by rw [jj_1 h.2.2 rfl, jj_1 h.2.2 rfl]; exact hx)) rfl hQ
/-- it costs no more -/
theorem wr_ex {n m' o c b m l : Nat} {S T : hs_S} (h : KS n S) (hT : KS m' T) (t : nbd S T o c b m l) {a : Int32} : F_Ldg_exposureOf a (wrT T (hs_sz S 13)) = F_Ldg_exposureOf a S := by
  have hd := fun c' => nbd_due (a := a) (c' := nI c') h t
  obtain ⟨⟨z1, z2, z3⟩, ⟨t1, t3, t4, t5, t7, t9, t2⟩, e8, e20, e35, _⟩ := t
  have w0 : ∀ j, j < hs_sz S 13 → ∀ p, (wrT T (hs_sz S 13)).1 0 (S.2.1 13 1 j) p = S.1 0 (S.2.1 13 1 j) p := fun j hj p => by
    have e := KS_bd h hj
    exact (congrFun (wI_ne (S := T) (t := 0) (i := hs_sz S 13 + 1) (j := 7) (by omega)) p).trans ((z3 j hj).2.1 p)
  refine ex_c2 ?_ fun c' _ => ?_
  · show cOf (wrT T (hs_sz S 13)) a (hs_sz T 13) = cOf S a (hs_sz S 13)
    rw [z1, cOf]
    rw [if_neg fun z => by
      have z7 : (wrT T (hs_sz S 13)).1 0 (T.2.1 13 1 (hs_sz S 13)) 7 = 2147483647 := z.2.2.1
      rw [z2] at z7
      have : (wrT T (hs_sz S 13)).1 0 (hs_sz S 13 + 1) 7 = T.1 10 1 5 := (wI_at (S := T) (t := 0)).trans (if_pos rfl)
      rw [this] at z7
      obtain ⟨ev, hev, e⟩ := (KS_sz hT).2.1
      rw [e] at z7
      exact neMax (by have := (KS_sz hT).2.2; omega) z7]
    exact cof_c (S := S) (T := wrT T (hs_sz S 13)) e8 (fun j hj => ⟨(z3 j hj).1, w0 j hj, (z3 j hj).2.2⟩) _ (Nat.le_refl _)
  · rw [← hd c']
    show cOw (wrT T (hs_sz S 13)) a (nI c') (hs_sz T 13) - _ = cOw T a (nI c') (hs_sz T 13) - _
    rw [cow_c (S := T) (T := wrT T (hs_sz S 13)) rfl rfl (n := hs_sz T 13) (fun j hj => ⟨rfl, fun p hp => ?_, rfl⟩) _ (Nat.le_refl _)]
    · rfl
    · have e := KS_bd hT hj
      rw [e]
      by_cases q : j = hs_sz S 13
      · subst q
        exact (wI_at (S := T) (t := 0)).trans (if_neg hp)
      · exact congrFun (wI_ne (S := T) (t := 0) (i := hs_sz S 13 + 1) (j := 7) (by omega)) p
