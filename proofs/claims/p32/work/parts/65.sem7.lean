theorem cpy_at {S : hs_S} {t i j p : Nat} (h : p < 24) : (hs_cpy S t i t j 0 0 24).1 t j p = S.1 t i p := by
  show (if t = t ∧ j = j then va_cpy (S.1 t i) (S.1 t j) (0 : Int32).toNatClampNeg (0 : Int32).toNatClampNeg (24 : Int32).toNatClampNeg p else S.1 t j p) = _
  rw [if_pos ⟨rfl, rfl⟩]
  have z0 : (0 : Int32).toNatClampNeg = 0 := rfl
  have z24 : (24 : Int32).toNatClampNeg = 24 := rfl
  unfold va_cpy
  rw [z0, z24, if_pos ⟨by omega, by omega⟩]
  show S.1 t i (0 + (p - 0)) = S.1 t i p
  rw [Nat.zero_add, Nat.sub_zero]
theorem cpy_ne {S : hs_S} {t i j i' : Nat} (h : i' ≠ j) : (hs_cpy S t i t j 0 0 24).1 t i' = S.1 t i' :=
  funext fun p => (if_neg fun z => h z.2 : (if t = t ∧ i' = j then va_cpy (S.1 t i) (S.1 t j) (0 : Int32).toNatClampNeg (0 : Int32).toNatClampNeg (24 : Int32).toNatClampNeg p else S.1 t i' p) = _)
abbrev frT (S : hs_S) (R c : Nat) (e sh e' : Int32) (y : Int64) : hs_S := hs_wI (hs_wI (hs_wI (E_asks 1 (hs_wL (hs_wI (E_Rnd_freeze R e sh 1 S) 10 1 5 e') 100 1 (0 : Int32).toNatClampNeg y)) 62 1 c e) 63 1 c sh) 11 1 0 e'
theorem freeze_RR {n : Nat} {S : hs_S} {c : Nat} {y : Int64} {ev ng nl nE nB nR nd : Nat} (hS : RS n S ev ng nl nE nB nR nd) (hc : c < 4) (hn : n < 512) : RR (n + 1) (frT S (S.2.1 26 1 c) c (nI ev) (S.1 61 1 c) (nI (ev + 1)) y) := by
  obtain ⟨⟨hA, hG, hH, hE, hF, hN, hB, hC⟩, hL, hQ, hM⟩ := hS
  have hev := hA.1.1
  obtain ⟨R, hR⟩ : ∃ R, R = S.2.1 26 1 c := ⟨_, rfl⟩
  have hR1 : 1 ≤ R := by rw [hR]; exact (hC.2.1 c hc).1.1
  rw [← hR]
  have a8 : ∀ p, (frT S R c (nI ev) (S.1 61 1 c) (nI (ev + 1)) y).1 8 R p = if p = 3 then S.1 61 1 c else if p = 1 then nI ev else S.1 8 R p := fun p => by
    show (hs_wI (hs_wI S 8 R 1 (nI ev)) 8 R 3 (S.1 61 1 c)).1 8 R p = _
    rw [wI_at, wI_at]
  have n8 : ∀ i, i ≠ R → (frT S R c (nI ev) (S.1 61 1 c) (nI (ev + 1)) y).1 8 i = S.1 8 i := fun i hi => (wI_ne (S := hs_wI S 8 R 1 (nI ev)) (t := 8) hi).trans (wI_ne hi)
  have a20 : ∀ p, p < 24 → (frT S R c (nI ev) (S.1 61 1 c) (nI (ev + 1)) y).1 20 (R + 1) p = S.1 20 1 p := fun p hp => cpy_at (S := hs_wI (hs_wI S 8 R 1 (nI ev)) 8 R 3 (S.1 61 1 c)) (t := 20) hp
  have a21 : ∀ p, p < 24 → (frT S R c (nI ev) (S.1 61 1 c) (nI (ev + 1)) y).1 21 (R + 1) p = S.1 21 1 p := fun p hp => cpy_at (S := hs_cpy (hs_wI (hs_wI S 8 R 1 (nI ev)) 8 R 3 (S.1 61 1 c)) 20 1 20 (R + 1) 0 0 24) (t := 21) hp
  have n20 : ∀ i, i ≠ R + 1 → (frT S R c (nI ev) (S.1 61 1 c) (nI (ev + 1)) y).1 20 i = S.1 20 i := fun i hi => cpy_ne (S := hs_wI (hs_wI S 8 R 1 (nI ev)) 8 R 3 (S.1 61 1 c)) (t := 20) hi
  have n21 : ∀ i, i ≠ R + 1 → (frT S R c (nI ev) (S.1 61 1 c) (nI (ev + 1)) y).1 21 i = S.1 21 i := fun i hi => cpy_ne (S := hs_cpy (hs_wI (hs_wI S 8 R 1 (nI ev)) 8 R 3 (S.1 61 1 c)) 20 1 20 (R + 1) 0 0 24) (t := 21) hi
  have a62 : ∀ j, (frT S R c (nI ev) (S.1 61 1 c) (nI (ev + 1)) y).1 62 1 j = if j = c then nI ev else S.1 62 1 j := fun j => wI_at (S := S) (t := 62) (i := 1)
  have a63 : ∀ j, (frT S R c (nI ev) (S.1 61 1 c) (nI (ev + 1)) y).1 63 1 j = if j = c then S.1 61 1 c else S.1 63 1 j := fun j => wI_at (S := S) (t := 63) (i := 1)
  have gold : ∀ i e, i ≠ R + 1 → rGs S S i ng nl e → rGs (frT S R c (nI ev) (S.1 61 1 c) (nI (ev + 1)) y) (frT S R c (nI ev) (S.1 61 1 c) (nI (ev + 1)) y) i ng nl e := fun i e hi h => rG_old (U := S) (V := S) (n20 i hi) (n21 i hi) h (fun _ => rfl) (fun _ _ => rfl)
  refine ⟨ev + 1, ng, nl, nE, nB, nR, nd, ⟨⟨⟨⟨by omega, by omega⟩, by have := hA.1.2; omega⟩, ⟨rfl, rfl, hA.2.1.2.2⟩, hA.2.2⟩, gold 1 _ (by omega) (rG_up hH (by omega) hG), rH_up hH, rE_up hE, hF, hN, rB_up hB, ⟨fun r hr => ?_, fun c' hc' => ?_, hC.2.2⟩⟩, hL, ⟨fun r hr => ?_, hQ.2⟩, hM⟩
  · obtain ⟨g1, ⟨c', hc', g2, g3⟩, ⟨f, l, g4, g5, g6, g7, g8⟩, ⟨g9, g10⟩, g11⟩ := (rC_up hC).1 r hr
    have hne : S.2.1 14 1 r ≠ R := by rw [hR]; exact hC.2.2.2.2 r c hr hc
    have q := n8 _ hne
    exact ⟨g1, ⟨c', hc', g2, (congrFun q 0).trans g3⟩, ⟨f, l, g4, g5, (congrFun q 1).trans g6, g7, (congrFun q 2).trans g8⟩, ⟨(congrFun q 3).trans g9, g10⟩, gold (S.2.1 14 1 r + 1) _ (by omega) g11⟩
  · obtain ⟨g1, ⟨g2, g3⟩, g4, g5⟩ := hC.2.1 c' hc'
    by_cases z : c' = c
    · subst z
      have e26 : (frT S R c' (nI ev) (S.1 61 1 c') (nI (ev + 1)) y).2.1 26 1 c' = R := hR.symm
      have i61 := hN c' hc'
      have b0 := (a8 0).trans ((if_neg (by decide)).trans (if_neg (by decide)))
      have b1 := (a8 1).trans ((if_neg (by decide)).trans (if_pos rfl))
      have b2 := (a8 2).trans ((if_neg (by decide)).trans (if_neg (by decide)))
      have b3 := (a8 3).trans (if_pos rfl)
      have b62 := (a62 c').trans (if_pos rfl)
      have b63 := (a63 c').trans (if_pos rfl)
      unfold rC2
      rw [e26, b0, b1, b2, b3, b62, b63, hR]
      refine ⟨g1, ⟨g2, g3⟩, Or.inr ⟨ev, by omega, rfl, rfl, rfl, ?_⟩, i61.2.2⟩
      rw [← hR]
      intro k hk
      obtain ⟨w1, w2, w3⟩ := hG k hk
      rw [a20 k hk, a21 k hk]
      exact ⟨w1, w2, w3⟩
    · have hne : S.2.1 26 1 c' ≠ R := by rw [hR]; exact fun w => z (hC.2.2.2.1 c' c hc' hc w)
      have q := n8 _ hne
      unfold rC2
      have e26 : (frT S R c (nI ev) (S.1 61 1 c) (nI (ev + 1)) y).2.1 26 1 c' = S.2.1 26 1 c' := rfl
      rw [e26, q, a62, a63, if_neg z, if_neg z]
      refine ⟨g1, ⟨g2, g3⟩, g4.imp_right ?_, g5⟩
      rintro ⟨f, hf, w1, w2, w3, w4⟩
      exact ⟨f, by omega, w1, w2, w3, gold (S.2.1 26 1 c' + 1) _ (by omega) w4⟩
  · have hne : S.2.1 14 1 r ≠ R := by rw [hR]; exact hC.2.2.2.2 r c hr hc
    have q := n8 _ hne
    obtain ⟨g1, g2, g3, g4⟩ := hQ.1 r hr
    exact ⟨(congrFun q 5).trans g1, (congrFun q 6).trans g2, (congrFun q 7).trans g3, (congrFun q 8).trans g4⟩
abbrev hs_ck (v : Int32) (S : hs_S) : hs_S := hs_wI S 10 1 5 v
theorem ck_cForm {v : Int32} {S : hs_S} {e c : Int32} (k : Nat) : cForm (hs_ck v S) e c k = cForm S e c k := by
  induction k with
  | zero => rfl
  | succ k ih => unfold cForm; rw [ih]; rfl
theorem ck_cBA {v : Int32} {S : hs_S} {e c : Int32} (k : Nat) : cBA (hs_ck v S) c e k = cBA S c e k := by
  induction k with
  | zero => rfl
  | succ k ih => unfold cBA; rw [ih]; rfl
theorem ck_cLs {v : Int32} {S : hs_S} {e c : Int32} (k : Nat) : cLs (hs_ck v S) c e k = cLs S c e k := by
  induction k with
  | zero => rfl
  | succ k ih => unfold cLs; rw [ih]; rfl
theorem ck_cTo {v : Int32} {S : hs_S} {r : Nat} {w : Int32} (k : Nat) : cTo (hs_ck v S) r w k = cTo S r w k := by
  induction k with
  | zero => rfl
  | succ k ih => unfold cTo; rw [ih]; rfl
theorem ck_cPo {v : Int32} {S : hs_S} {r : Nat} (k : Nat) : cPo (hs_ck v S) r k = cPo S r k := by
  induction k with
  | zero => rfl
  | succ k ih => unfold cPo; rw [ih]; rfl
theorem ck_cPl {v : Int32} {S : hs_S} {r : Nat} {a : Int32} (k : Nat) : cPl (hs_ck v S) r a k = cPl S r a k := by
  induction k with
  | zero => rfl
  | succ k ih => unfold cPl; rw [ih]; rfl
theorem ck_cPa {v : Int32} {S : hs_S} {r : Nat} {a : Int32} (k : Nat) : cPa (hs_ck v S) r a k = cPa S r a k := by
  induction k with
  | zero => rfl
  | succ k ih => unfold cPa; rw [ih]; rfl
theorem ck_part {v : Int32} {S : hs_S} {r b : Nat} {t0 t1 : Int32} : cPart (hs_ck v S) r t0 t1 b = cPart S r t0 t1 b := by
  have h1 : F_Clr_partByOrder b (hs_ck v S) = F_Clr_partByOrder b S := by
    unfold F_Clr_partByOrder; rw [ck_cPo]; rfl
  have h2 : ∀ a, F_Clr_partByShares b a (hs_ck v S) = F_Clr_partByShares b a S := fun a => by
    unfold F_Clr_partByShares; rw [ck_cPl, ck_cPa]; rfl
  unfold cPart
  rw [h1, h2, h2]
  rfl
theorem ck_tot {v : Int32} {S : hs_S} {r : Nat} {w : Int32} : F_Clr_totalOf r w (hs_ck v S) = F_Clr_totalOf r w S := ck_cTo _
theorem ck_vol {v : Int32} {S : hs_S} {r : Nat} : cVol r (hs_ck v S) = cVol r S := by
  unfold cVol; rw [ck_tot, ck_tot]
theorem ck_sw {v w : Int32} {S : hs_S} {r : Nat} : hs_wI (hs_ck v S) 8 r 6 w = hs_ck v (hs_wI S 8 r 6 w) := by
  refine Prod.ext (funext fun t => funext fun i => funext fun p => ?_) rfl
  show (if t = 8 ∧ i = r ∧ p = 6 then w else if t = 10 ∧ i = 1 ∧ p = 5 then v else S.1 t i p) = if t = 10 ∧ i = 1 ∧ p = 5 then v else if t = 8 ∧ i = r ∧ p = 6 then w else S.1 t i p
  by_cases q : t = 8 ∧ i = r ∧ p = 6
  · rw [if_pos q, if_neg (by omega), if_pos q]
  · rw [if_neg q, if_neg q]
theorem ck_got {v : Int32} {S : hs_S} {r k : Nat} : cGt r (hs_ck v S) k = cGt r S k := by
  unfold cGt
  have e : cVS r (hs_ck v S) = hs_ck v (cVS r S) := by
    unfold cVS; rw [ck_vol]; exact ck_sw
  rw [e, ck_tot, ck_tot, ck_part]
  rfl
theorem ck_pt {v : Int32} {S T : hs_S} {t i p : Nat} (h : T.1 t i p = S.1 t i p) : (hs_ck v T).1 t i p = (hs_ck v S).1 t i p := by
  show (if t = 10 ∧ i = 1 ∧ p = 5 then v else T.1 t i p) = if t = 10 ∧ i = 1 ∧ p = 5 then v else S.1 t i p
  rw [h]
theorem ck_reckon {v : Int32} {S T : hs_S} {r : Nat} {x : Int32} (h : R_Clr_reckon r S x T) : R_Clr_reckon r (hs_ck v S) x (hs_ck v T) := by
  obtain ⟨S2, S6, y, ⟨g1, g2, g3, g4⟩, ⟨p1, p2⟩, ⟨s1, s2, s3, s4, s5⟩, h4, h5⟩ := h
  refine ⟨hs_ck v S2, hs_ck v S6, y, ⟨⟨g1.1, g1.2.1, fun t i p a b => ck_pt (g1.2.2 t i p a b)⟩, g2, fun c hc => ⟨(g3 c hc).1, ?_⟩, fun c hc => ?_⟩, ⟨⟨p1.1, FI_row (S := S6) (T := hs_ck v S6) rfl rfl rfl rfl rfl rfl rfl rfl rfl rfl rfl p1.2.1, fun t i p a b => ck_pt (p1.2.2 t i p a b)⟩, p2⟩, ⟨s1, fun t i p a => ?_, fun k hk => ?_, s4, ?_⟩, h4, h5⟩
  · refine ((g3 c hc).2).trans ?_
    exact (ck_cForm (v := v) (S := S) (hs_sz S 12)).symm
  · obtain ⟨w1, w2⟩ := g4 c hc
    exact ⟨w1.trans (ck_cBA (v := v) (S := S) (hs_sz S 13)).symm, w2.trans (ck_cLs (v := v) (S := S) (hs_sz S 14)).symm⟩
  · have e : cVS r (hs_ck v S6) = hs_ck v (cVS r S6) := by
      unfold cVS; rw [ck_vol]; exact ck_sw
    rw [e]
    exact ck_pt (s2 t i p a)
  · rw [ck_got]
    exact s3 k hk
  · refine s5.trans ⟨fun z k hk hb => ?_, fun z k hk hb => ?_⟩
    · rw [ck_got]; exact z k hk hb
    · have := z k hk hb
      rw [ck_got] at this
      exact this
/-- the class's rows behind closing -/
theorem rndI {i0 : Nat} {a : Int32} {X : hs_S} {p : Nat} : (E_Rnd_init i0 a X).1 8 i0 p = if p = 0 then a else if p = 8 then 0 else if p = 7 then 0 else if p = 6 then 0 else if p = 5 then -1 else if p = 3 then 0 else if p = 2 then 2147483647 else if p = 1 then 2147483647 else X.1 8 i0 p := by
  show (hs_wI (hs_wI (hs_wI (hs_wI (hs_wI (hs_wI (hs_wI (hs_wI X 8 i0 1 2147483647) 8 i0 2 2147483647) 8 i0 3 0) 8 i0 5 (-1)) 8 i0 6 0) 8 i0 7 0) 8 i0 8 0) 8 i0 0 a).1 8 i0 p = _
  simp only [wI_at]
theorem rndO {i0 i : Nat} {a : Int32} {X : hs_S} (h : i ≠ i0) : (E_Rnd_init i0 a X).1 8 i = X.1 8 i := by
  show (hs_wI (hs_wI (hs_wI (hs_wI (hs_wI (hs_wI (hs_wI (hs_wI X 8 i0 1 2147483647) 8 i0 2 2147483647) 8 i0 3 0) 8 i0 5 (-1)) 8 i0 6 0) 8 i0 7 0) 8 i0 8 0) 8 i0 0 a).1 8 i = _
  rw [wI_ne h, wI_ne h, wI_ne h, wI_ne h, wI_ne h, wI_ne h, wI_ne h, wI_ne h]
section
variable {S : hs_S} {R : Nat} {e : Int32}
theorem cl8n {p : Nat} : (E_Book_close R e S).1 8 (S.2.2.2 8 + 1) p = if p = 0 then S.1 8 R 0 else if p = 8 then 0 else if p = 7 then 0 else if p = 6 then 0 else if p = 5 then -1 else if p = 3 then 0 else if p = 2 then 2147483647 else if p = 1 then 2147483647 else (hs_nw (Close0 R e S) 8).1 8 (S.2.2.2 8 + 1) p := rndI
theorem cl8R {p : Nat} (h : R ≤ S.2.2.2 8) : (E_Book_close R e S).1 8 R p = if p = 2 then e else S.1 8 R p := by
  have h1 : (E_Book_close R e S).1 8 R = (hs_nw (Close0 R e S) 8).1 8 R := rndO (by omega)
  have h2 : (hs_nw (Close0 R e S) 8).1 8 R = (Close0 R e S).1 8 R := nw_ne (S := Close0 R e S) (show R ≠ S.2.2.2 8 + 1 by omega)
  rw [h1, h2]
  exact wI_at
theorem cl8o {i : Nat} (h : i ≤ S.2.2.2 8) (h2 : i ≠ R) : (E_Book_close R e S).1 8 i = S.1 8 i := by
  have h1 : (E_Book_close R e S).1 8 i = (hs_nw (Close0 R e S) 8).1 8 i := rndO (by omega)
  have h3 : (hs_nw (Close0 R e S) 8).1 8 i = (Close0 R e S).1 8 i := nw_ne (S := Close0 R e S) (show i ≠ S.2.2.2 8 + 1 by omega)
  rw [h1, h3]
  exact wI_ne h2
theorem cl20 {i : Nat} (h : i ≤ S.2.2.2 20) : (E_Book_close R e S).1 20 i = S.1 20 i := funext fun p => by
  have h1 : (E_Book_close R e S).1 20 i p = if 20 = 20 ∧ i = S.2.2.2 20 + 1 then (if p < 24 then nI (p / 6) else 0) else (hs_nw S 20).1 20 i p := rfl
  rw [h1, if_neg (by omega), nw_ne (S := S) (t := 20) (show i ≠ S.2.2.2 20 + 1 by omega)]
theorem cl21 {i : Nat} (h : i ≤ S.2.2.2 21) : (E_Book_close R e S).1 21 i = S.1 21 i := funext fun p => by
  have h1 : (E_Book_close R e S).1 21 i p = (hs_nw S 21).1 21 i p := rfl
  rw [h1, nw_ne (S := S) (t := 21) (show i ≠ S.2.2.2 21 + 1 by omega)]
theorem cl14 {j : Nat} : (E_Book_close R e S).2.1 14 1 j = if j = hs_sz S 14 then R else S.2.1 14 1 j := by
  have h1 : (E_Book_close R e S).2.1 14 1 j = if 14 = 14 ∧ 1 = 1 ∧ j = S.2.1 14 2 0 then R else if 14 = 14 ∧ (1 : Nat) = 2 ∧ j = 0 then S.2.1 14 2 0 + 1 else S.2.1 14 1 j := rfl
  rw [h1]
  by_cases q : j = hs_sz S 14
  · rw [if_pos q]; exact if_pos ⟨rfl, rfl, q⟩
  · rw [if_neg q]; exact (if_neg fun z => q z.2.2).trans (if_neg fun z => absurd z.2.1 (by decide))
theorem cl26 {j : Nat} : (E_Book_close R e S).2.1 26 1 j = if j = (S.1 8 R 0).toNatClampNeg then S.2.2.2 8 + 1 else S.2.1 26 1 j := wR_at
end
abbrev blT (S : hs_S) (nR c : Nat) (e e' : Int32) (q : Nat → Int32) : hs_S := hs_wI (hs_wI (hs_wI (hs_rw (hs_wI (hs_wI (hs_wI (hs_wI S 77 1 nR (nI c)) 78 1 nR (S.1 62 1 c)) 80 1 nR (S.1 63 1 c)) 79 1 nR e) 72 q) 62 1 c (-1)) 11 1 36 (nI (nR + 1))) 11 1 0 e'
section
variable {S : hs_S} {nR c j : Nat} {e e' : Int32} {q : Nat → Int32}
theorem bl77 : (blT S nR c e e' q).1 77 1 j = if j = nR then nI c else S.1 77 1 j := wI_at (S := S) (t := 77) (i := 1)
theorem bl78 : (blT S nR c e e' q).1 78 1 j = if j = nR then S.1 62 1 c else S.1 78 1 j := wI_at (S := S) (t := 78) (i := 1)
theorem bl80 : (blT S nR c e e' q).1 80 1 j = if j = nR then S.1 63 1 c else S.1 80 1 j := wI_at (S := S) (t := 80) (i := 1)
theorem bl79 : (blT S nR c e e' q).1 79 1 j = if j = nR then e else S.1 79 1 j := wI_at (S := S) (t := 79) (i := 1)
theorem bl62 : (blT S nR c e e' q).1 62 1 j = if j = c then -1 else S.1 62 1 j := wI_at (S := S) (t := 62) (i := 1)
end
set_option maxRecDepth 100000 in
theorem close_RX {n : Nat} {S : hs_S} {c : Nat} {q : Nat → Int32} {ev ng nl nE nB nR nd : Nat} (hX : RX n S S ev ng nl nE nB nR nd) (hn : n < 512) (hc : c < 4) (h62 : ¬ S.1 62 1 c = -1) (h30 : nR < 30) (hq : ∀ b, q b = if b < nB ∧ S.1 66 1 b = nI c ∧ S.1 72 1 b = -1 then nI nR else S.1 72 1 b) :
    RX (n + 1) (hs_wI (E_Book_close (S.2.1 26 1 c) (nI ev) S) 10 1 5 (nI (ev + 1))) (blT S nR c (nI ev) (nI (ev + 1)) q) (ev + 1) ng nl nE nB (nR + 1) nd := by
  obtain ⟨hA, hG, hH, hE, hF, hN, hB, hC⟩ := hX
  have hev := hA.1.1
  obtain ⟨R, hR⟩ : ∃ R, R = S.2.1 26 1 c := ⟨_, rfl⟩
  obtain ⟨⟨r1, r2⟩, ⟨r3, r4⟩, r5, r6⟩ := hC.2.1 c hc
  obtain ⟨f, hf, r7, r8, r9, r10⟩ := r5.resolve_left fun z => h62 z.1
  rw [← hR] at r1 r2 r3 r4 r8 r9 r10 ⊢
  have hz : hs_sz S 14 = nR := hA.2.2.1.2.2.2.2
  obtain ⟨n7, n20, n21, n22, n23, n24⟩ := hA.2.2.2
  have colR : (S.1 8 R 0).toNatClampNeg = c := by rw [r3]; exact hl_cl (by omega)
  have q14 : ∀ j, (hs_wI (E_Book_close R (nI ev) S) 10 1 5 (nI (ev + 1))).2.1 14 1 j = if j = nR then R else S.2.1 14 1 j := fun j => by
    show (E_Book_close R (nI ev) S).2.1 14 1 j = _
    rw [cl14, hz]
  have q26 : ∀ j, (hs_wI (E_Book_close R (nI ev) S) 10 1 5 (nI (ev + 1))).2.1 26 1 j = if j = c then S.2.2.2 8 + 1 else S.2.1 26 1 j := fun j => by
    show (E_Book_close R (nI ev) S).2.1 26 1 j = _
    rw [cl26, colR]
  have gold : ∀ i e, i ≤ S.2.2.2 8 + 1 → rGs S S i ng nl e → rGs (hs_wI (E_Book_close R (nI ev) S) 10 1 5 (nI (ev + 1))) (blT S nR c (nI ev) (nI (ev + 1)) q) i ng nl e := fun i e hi h => rG_old (U := S) (V := S) (cl20 (S := S) (show i ≤ S.2.2.2 20 by omega)) (cl21 (S := S) (show i ≤ S.2.2.2 21 by omega)) h (fun _ => rfl) (fun _ _ => rfl)
  refine ⟨⟨⟨⟨by omega, by omega⟩, by have := hA.1.2.1; omega, hA.1.2.2.1, by omega, hA.1.2.2.2.2⟩, ⟨rfl, rfl, hA.2.1.2.2.1, hA.2.1.2.2.2.1, hA.2.1.2.2.2.2.1, hA.2.1.2.2.2.2.2.1, rfl, hA.2.1.2.2.2.2.2.2.2⟩, ⟨hA.2.2.1.1, hA.2.2.1.2.1, hA.2.2.1.2.2.1, hA.2.2.1.2.2.2.1, ?_⟩, ?_, ?_, ?_, n22, n23, n24⟩, gold 1 _ (by omega) (rG_up hH (by omega) hG), rH_up hH, rE_up hE, hF, hN, fun b hb => ?_, ⟨fun r hr => ?_, fun c' hc' => ?_, fun r r' hr hr' => ?_, fun x y hx hy => ?_, fun r x hr hx => ?_⟩⟩
  · exact congrArg (· + 1) hA.2.2.1.2.2.2.2
  · exact congrArg (· + 1) n7
  · exact congrArg (· + 1) n20
  · exact congrArg (· + 1) n21
  · obtain ⟨g1, x, hx, g2, g3⟩ := (rB_up hB) b hb
    refine ⟨g1, x, hx, g2, ?_⟩
    have e72 : (blT S nR c (nI ev) (nI (ev + 1)) q).1 72 1 b = q b := rfl
    rw [e72, hq b, q26 x]
    rcases g3 with ⟨g4, g5⟩ | ⟨r, hr, g4, g5, g6⟩
    · by_cases z : x = c
      · subst z
        rw [if_pos ⟨hb, g2, g4⟩]
        refine Or.inr ⟨nR, by omega, rfl, ?_, bl77.trans (if_pos rfl)⟩
        rw [q14, if_pos rfl, hR]
        exact g5
      · rw [if_neg fun w => z ((hl_inj (by omega) (by omega)).mp (g2.symm.trans w.2.1)), if_neg z]
        exact Or.inl ⟨g4, g5⟩
    · rw [if_neg fun w => neg1 (by omega) (g4.symm.trans w.2.2)]
      refine Or.inr ⟨r, by omega, g4, ?_, bl77.trans ((if_neg (by omega)).trans g6)⟩
      rw [q14, if_neg (by omega)]
      exact g5
  · unfold rC1
    rw [q14]
    by_cases z : r = nR
    · subst z
      rw [if_pos rfl]
      have b77 : (blT S r c (nI ev) (nI (ev + 1)) q).1 77 1 r = nI c := bl77.trans (if_pos rfl)
      have b78 : (blT S r c (nI ev) (nI (ev + 1)) q).1 78 1 r = S.1 62 1 c := bl78.trans (if_pos rfl)
      have b79 : (blT S r c (nI ev) (nI (ev + 1)) q).1 79 1 r = nI ev := bl79.trans (if_pos rfl)
      have b80 : (blT S r c (nI ev) (nI (ev + 1)) q).1 80 1 r = S.1 63 1 c := bl80.trans (if_pos rfl)
      have c8 : ∀ p, (hs_wI (E_Book_close R (nI ev) S) 10 1 5 (nI (ev + 1))).1 8 R p = if p = 2 then nI ev else S.1 8 R p := fun p => cl8R r2
      rw [b77, b78, b79, b80, c8, c8, c8, c8]
      refine ⟨⟨r1, Nat.le_succ_of_le r2⟩, ⟨c, hc, rfl, r3⟩, ⟨f, ev, ⟨hf, by omega⟩, r7, r8, rfl, rfl⟩, ⟨r9, r6⟩, ?_⟩
      rw [r7]
      exact gold (R + 1) _ (by omega) r10
    · obtain ⟨⟨g1, g1'⟩, ⟨x, hx, g2, g3⟩, ⟨f', l', g4, g5, g6, g7, g8⟩, ⟨g9, g10⟩, g11⟩ := (rC_up hC).1 r (by omega)
      have hne : S.2.1 14 1 r ≠ R := by rw [hR]; exact hC.2.2.2.2 r c (by omega) hc
      have c8 : (hs_wI (E_Book_close R (nI ev) S) 10 1 5 (nI (ev + 1))).1 8 (S.2.1 14 1 r) = S.1 8 (S.2.1 14 1 r) := cl8o g1' hne
      have b77 : (blT S nR c (nI ev) (nI (ev + 1)) q).1 77 1 r = S.1 77 1 r := bl77.trans (if_neg z)
      have b78 : (blT S nR c (nI ev) (nI (ev + 1)) q).1 78 1 r = S.1 78 1 r := bl78.trans (if_neg z)
      have b79 : (blT S nR c (nI ev) (nI (ev + 1)) q).1 79 1 r = S.1 79 1 r := bl79.trans (if_neg z)
      have b80 : (blT S nR c (nI ev) (nI (ev + 1)) q).1 80 1 r = S.1 80 1 r := bl80.trans (if_neg z)
      rw [if_neg z, c8, b77, b78, b79, b80]
      exact ⟨⟨g1, Nat.le_succ_of_le g1'⟩, ⟨x, hx, g2, g3⟩, ⟨f', l', g4, g5, g6, g7, g8⟩, ⟨g9, g10⟩, gold (S.2.1 14 1 r + 1) _ (by omega) g11⟩
  · unfold rC2
    rw [q26]
    by_cases z : c' = c
    · subst z
      rw [if_pos rfl]
      have b62 : (blT S nR c' (nI ev) (nI (ev + 1)) q).1 62 1 c' = -1 := bl62.trans (if_pos rfl)
      have c8 : ∀ p, (hs_wI (E_Book_close R (nI ev) S) 10 1 5 (nI (ev + 1))).1 8 (S.2.2.2 8 + 1) p = if p = 0 then S.1 8 R 0 else if p = 8 then 0 else if p = 7 then 0 else if p = 6 then 0 else if p = 5 then -1 else if p = 3 then 0 else if p = 2 then 2147483647 else if p = 1 then 2147483647 else (hs_nw (Close0 R (nI ev) S) 8).1 8 (S.2.2.2 8 + 1) p := fun p => cl8n
      rw [b62, c8, c8, c8]
      exact ⟨⟨by omega, Nat.le_refl _⟩, ⟨r3, rfl⟩, Or.inl ⟨rfl, rfl⟩, r6⟩
    · rw [if_neg z]
      obtain ⟨⟨g1, g1'⟩, ⟨g2, g3⟩, g4, g5⟩ := hC.2.1 c' hc'
      have hne : S.2.1 26 1 c' ≠ R := by rw [hR]; exact fun w => z (hC.2.2.2.1 c' c hc' hc w)
      have c8 : (hs_wI (E_Book_close R (nI ev) S) 10 1 5 (nI (ev + 1))).1 8 (S.2.1 26 1 c') = S.1 8 (S.2.1 26 1 c') := cl8o g1' hne
      have b62 : (blT S nR c (nI ev) (nI (ev + 1)) q).1 62 1 c' = S.1 62 1 c' := bl62.trans (if_neg z)
      rw [c8, b62]
      refine ⟨⟨g1, Nat.le_succ_of_le g1'⟩, ⟨g2, g3⟩, g4.imp_right ?_, g5⟩
      rintro ⟨f', hf', w1, w2, w3, w4⟩
      exact ⟨f', by omega, w1, w2, w3, gold (S.2.1 26 1 c' + 1) _ (by omega) w4⟩
  · rw [q14, q14]
    intro w
    by_cases z : r = nR
    · by_cases z' : r' = nR
      · rw [z, z']
      · rw [if_pos z, if_neg z', hR] at w
        exact absurd w.symm (hC.2.2.2.2 r' c (by omega) hc)
    · by_cases z' : r' = nR
      · rw [if_neg z, if_pos z', hR] at w
        exact absurd w (hC.2.2.2.2 r c (by omega) hc)
      · rw [if_neg z, if_neg z'] at w
        exact hC.2.2.1 r r' (by omega) (by omega) w
  · rw [q26, q26]
    intro w
    have b1 := (hC.2.1 x hx).1.2
    have b2 := (hC.2.1 y hy).1.2
    by_cases z : x = c
    · by_cases z' : y = c
      · rw [z, z']
      · rw [if_pos z, if_neg z'] at w; omega
    · by_cases z' : y = c
      · rw [if_neg z, if_pos z'] at w; omega
      · rw [if_neg z, if_neg z'] at w
        exact hC.2.2.2.1 x y hx hy w
  · rw [q14, q26]
    have b2 := (hC.2.1 x hx).1.2
    by_cases z : r = nR
    · by_cases z' : x = c
      · rw [if_pos z, if_pos z']; omega
      · rw [if_pos z, if_neg z', hR]
        exact fun w => z' (hC.2.2.2.1 c x hc hx w).symm
    · have b3 := (hC.1 r (by omega)).1.2
      by_cases z' : x = c
      · rw [if_neg z, if_pos z']; omega
      · rw [if_neg z, if_neg z']
        exact hC.2.2.2.2 r x (by omega) hx
/-- rounds that were there stay as they were, when another is closed -/
theorem blT_mR {n : Nat} {U S : hs_S} {ev ng nl nE nB nR nd r c : Nat} {e' : Int32} {q : Nat → Int32} (hX : RX n U S ev ng nl nE nB nR nd) (hr : r < nR) (h30 : nR < 30) (hq : ∀ b, q b = if b < nB ∧ S.1 66 1 b = nI c ∧ S.1 72 1 b = -1 then nI nR else S.1 72 1 b) (h : mR S ng nl nE nB nR r) : mR (blT S nR c (nI ev) e' q) ng nl nE nB (nR + 1) r := by
  obtain ⟨hA, hG, hH, hE, hF, hN, hB, hC⟩ := hX
  have hev := hA.1.1
  have hR30 := hA.1.2.2.2.1
  obtain ⟨_, ⟨x, hx, x2, _⟩, ⟨f, l, ⟨c4, c5⟩, c6, _⟩, _⟩ := hC.1 r hr
  have b77 : (blT S nR c (nI ev) e' q).1 77 1 r = S.1 77 1 r := bl77.trans (if_neg (by omega))
  have b78 : (blT S nR c (nI ev) e' q).1 78 1 r = S.1 78 1 r := bl78.trans (if_neg (by omega))
  have b80 : (blT S nR c (nI ev) e' q).1 80 1 r = S.1 80 1 r := bl80.trans (if_neg (by omega))
  have e72 : ∀ b, (blT S nR c (nI ev) e' q).1 72 1 b = q b := fun _ => rfl
  have see : S.1 78 1 r ≤ nI ev := by rw [c6]; exact (hl_le (by omega) (by omega)).mpr (by omega)
  have hg : gEq (mX (blT S nR c (nI ev) e' q) ng nl nE nB (nR + 1) (S.1 78 1 r)) (mX S ng nl nE nB nR (S.1 78 1 r)) := by
    refine mX_eq hE hA.1.2.2.1.1 (fun _ => rfl) (fun _ _ => rfl) (fun _ => rfl) (fun _ _ => ⟨rfl, fun _ _ => rfl⟩) (fun w => ?_) (fun w => ?_)
    · refine lastR_old (fun k hk => ⟨bl77.trans (if_neg (by omega)), bl79.trans (if_neg (by omega)), fun _ => rfl⟩) (nR + 1) (by omega) fun k a b => ?_
      have : k = nR := by omega
      rw [bl79, if_pos this]
      exact see
    · refine baR_old (fun k hk => ⟨⟨rfl, rfl, rfl, rfl⟩, ?_⟩) nB (Nat.le_refl _) fun k a b => absurd a (by omega)
      unfold thR
      refine and_congr Iff.rfl (and_congr ?_ Iff.rfl)
      rw [e72, hq k]
      obtain ⟨y, hy, g2, g3⟩ := (hB k hk).2
      by_cases z : k < nB ∧ S.1 66 1 k = nI c ∧ S.1 72 1 k = -1
      · rw [if_pos z, hl_cl (by omega), bl79, if_pos rfl]
        exact ⟨fun _ => Or.inl z.2.2, fun _ => Or.inr see⟩
      · rw [if_neg z]
        rcases g3 with ⟨g4, _⟩ | ⟨r', hr', g4, _⟩
        · exact ⟨fun _ => Or.inl g4, fun _ => Or.inl g4⟩
        · rw [g4, hl_cl (by omega), bl79, if_neg (by omega)]
  have hS : mSame S (blT S nR c (nI ev) e' q) nB nB r := ⟨⟨Nat.le_refl _, hA.1.2.2.1.2, by omega⟩, fun b hb => ?_, fun b h1 h2 => absurd h1 (by omega), fun b hb h72 => ⟨⟨rfl, rfl, rfl⟩, rfl, rfl, rfl⟩, b80, rfl, rfl⟩
  · refine ⟨?_, mR_2 hS h.2.1 h.2.2.1 h.2.2.2⟩
    rw [b77, b78]
    exact mR_1 (V := S) h hx x2 hg
  · rw [e72, hq b]
    by_cases z : b < nB ∧ S.1 66 1 b = nI c ∧ S.1 72 1 b = -1
    · rw [if_pos z, z.2.2]
      exact ⟨fun w => absurd ((hl_inj (by omega) (by omega)).mp w) (by omega), fun w => absurd w.symm (neg1 (by omega))⟩
    · rw [if_neg z]
