/-! ===== reckoning does not look at the clock ===== -/
abbrev hs_ck (v : Int32) (S : hs_S) : hs_S := hs_wI S 10 1 5 v
theorem ck_cForm {v : Int32} {S : hs_S} {e c : Int32} (k : Nat) : cForm (hs_ck v S) e c k = cForm S e c k := by
  induction k with
  | zero => rfl
  | succ k ih => unfold cForm; rw [ih]; rfl
theorem ck_cBA {v : Int32} {S : hs_S} {e c : Int32} (k : Nat) : cBA (hs_ck v S) c e k = cBA S c e k := by
  induction k with
  | zero => rfl
  | succ k ih => unfold cBA; rw [ih]; rfl
theorem ck_cLs {v : Int32} {S : hs_S} {e c : Int32} (k : Nat) : cLs (hs_ck v S) c e k = cLs S c e k := by
  induction k with
  | zero => rfl
  | succ k ih => unfold cLs; rw [ih]; rfl
theorem ck_cTo {v : Int32} {S : hs_S} {r : Nat} {w : Int32} (k : Nat) : cTo (hs_ck v S) r w k = cTo S r w k := by
  induction k with
  | zero => rfl
  | succ k ih => unfold cTo; rw [ih]; rfl
theorem ck_cPo {v : Int32} {S : hs_S} {r : Nat} (k : Nat) : cPo (hs_ck v S) r k = cPo S r k := by
  induction k with
  | zero => rfl
  | succ k ih => unfold cPo; rw [ih]; rfl
theorem ck_cPl {v : Int32} {S : hs_S} {r : Nat} {a : Int32} (k : Nat) : cPl (hs_ck v S) r a k = cPl S r a k := by
  induction k with
  | zero => rfl
  | succ k ih => unfold cPl; rw [ih]; rfl
theorem ck_cPa {v : Int32} {S : hs_S} {r : Nat} {a : Int32} (k : Nat) : cPa (hs_ck v S) r a k = cPa S r a k := by
  induction k with
  | zero => rfl
  | succ k ih => unfold cPa; rw [ih]; rfl
theorem ck_part {v : Int32} {S : hs_S} {r b : Nat} {t0 t1 : Int32} : cPart (hs_ck v S) r t0 t1 b = cPart S r t0 t1 b := by
  have h1 : F_Clr_partByOrder b (hs_ck v S) = F_Clr_partByOrder b S := by
    unfold F_Clr_partByOrder; rw [ck_cPo]; rfl
  have h2 : ∀ a, F_Clr_partByShares b a (hs_ck v S) = F_Clr_partByShares b a S := fun a => by
    unfold F_Clr_partByShares; rw [ck_cPl, ck_cPa]; rfl
  unfold cPart
  rw [h1, h2, h2]
  rfl
theorem ck_tot {v : Int32} {S : hs_S} {r : Nat} {w : Int32} : F_Clr_totalOf r w (hs_ck v S) = F_Clr_totalOf r w S := ck_cTo _
theorem ck_vol {v : Int32} {S : hs_S} {r : Nat} : cVol r (hs_ck v S) = cVol r S := by
  unfold cVol; rw [ck_tot, ck_tot]
theorem ck_sw {v w : Int32} {S : hs_S} {r : Nat} : hs_wI (hs_ck v S) 8 r 6 w = hs_ck v (hs_wI S 8 r 6 w) := by
  refine Prod.ext (funext fun t => funext fun i => funext fun p => ?_) rfl
  show (if t = 8 ∧ i = r ∧ p = 6 then w else if t = 10 ∧ i = 1 ∧ p = 5 then v else S.1 t i p) = if t = 10 ∧ i = 1 ∧ p = 5 then v else if t = 8 ∧ i = r ∧ p = 6 then w else S.1 t i p
  by_cases q : t = 8 ∧ i = r ∧ p = 6
  · rw [if_pos q, if_neg (by omega), if_pos q]
  · rw [if_neg q, if_neg q]
theorem ck_got {v : Int32} {S : hs_S} {r k : Nat} : cGt r (hs_ck v S) k = cGt r S k := by
  unfold cGt
  have e : cVS r (hs_ck v S) = hs_ck v (cVS r S) := by
    unfold cVS; rw [ck_vol]; exact ck_sw
  rw [e, ck_tot, ck_tot, ck_part]
  rfl
theorem ck_pt {v : Int32} {S T : hs_S} {t i p : Nat} (h : T.1 t i p = S.1 t i p) : (hs_ck v T).1 t i p = (hs_ck v S).1 t i p := by
  show (if t = 10 ∧ i = 1 ∧ p = 5 then v else T.1 t i p) = if t = 10 ∧ i = 1 ∧ p = 5 then v else S.1 t i p
  rw [h]
theorem ck_reckon {v : Int32} {S T : hs_S} {r : Nat} {x : Int32} (h : R_Clr_reckon r S x T) : R_Clr_reckon r (hs_ck v S) x (hs_ck v T) := by
  obtain ⟨S2, S6, y, ⟨g1, g2, g3, g4⟩, ⟨p1, p2⟩, ⟨s1, s2, s3, s4, s5⟩, h4, h5⟩ := h
  refine ⟨hs_ck v S2, hs_ck v S6, y, ⟨⟨g1.1, g1.2.1, fun t i p a b => ck_pt (g1.2.2 t i p a b)⟩, g2, fun c hc => ⟨(g3 c hc).1, ?_⟩, fun c hc => ?_⟩, ⟨⟨p1.1, FI_row (S := S6) (T := hs_ck v S6) rfl rfl rfl rfl rfl rfl rfl rfl rfl rfl rfl p1.2.1, fun t i p a b => ck_pt (p1.2.2 t i p a b)⟩, p2⟩, ⟨s1, fun t i p a => ?_, fun k hk => ?_, s4, ?_⟩, h4, h5⟩
  · refine ((g3 c hc).2).trans ?_
    exact (ck_cForm (v := v) (S := S) (hs_sz S 12)).symm
  · obtain ⟨w1, w2⟩ := g4 c hc
    exact ⟨w1.trans (ck_cBA (v := v) (S := S) (hs_sz S 13)).symm, w2.trans (ck_cLs (v := v) (S := S) (hs_sz S 14)).symm⟩
  · have e : cVS r (hs_ck v S6) = hs_ck v (cVS r S6) := by
      unfold cVS; rw [ck_vol]; exact ck_sw
    rw [e]
    exact ck_pt (s2 t i p a)
  · rw [ck_got]
    exact s3 k hk
  · refine s5.trans ⟨fun z k hk hb => ?_, fun z k hk hb => ?_⟩
    · rw [ck_got]; exact z k hk hb
    · have := z k hk hb
      rw [ck_got] at this
      exact this
