/-! ===== giving, letting ===== -/
theorem ushr1 (x : Int32) : ∃ m : Nat, m < 2147483648 ∧ hs_ushr x 1 = nI m := by
  have h : 0 ≤ (hs_ushr x 1).toInt := by
    have e : (hs_ushr x 1).toInt = ((x.toUInt32 >>> 1).toNat : Int) := by
      show ((x.toUInt32 >>> 1).toInt32).toInt = _
      have lt : (x.toUInt32 >>> 1).toNat < 2147483648 := by
        have := x.toUInt32.toNat_lt
        rw [UInt32.toNat_shiftRight]
        show x.toUInt32.toNat >>> 1 < _
        rw [Nat.shiftRight_eq_div_pow]
        omega
      show ((x.toUInt32 >>> 1).toBitVec).toInt = _
      rw [BitVec.toInt_eq_toNat_of_lt (by
        have : (x.toUInt32 >>> 1).toBitVec.toNat = (x.toUInt32 >>> 1).toNat := rfl
        rw [this]; omega)]
      rfl
    omega
  have h2 := i32_b (hs_ushr x 1)
  obtain ⟨k, hk, _, e⟩ := hl_of (x := hs_ushr x 1) (n := 2147483648) ⟨h, h2.2⟩
  exact ⟨k, hk, e⟩
theorem so_ex {N : Nat} (x a : Int32) (ha : a = nI N) (hN : 0 < N) (hN2 : N < 2147483648) : ∃ j : Nat, j < N ∧ F_L_some x a = nI j := by
  obtain ⟨m, hm, em⟩ := ushr1 x
  refine ⟨m % N, Nat.mod_lt _ hN, ?_⟩
  unfold F_L_some
  rw [em, ha]
  have e : m = N * (m / N) + m % N := (Nat.div_add_mod m N).symm
  have := pq_m (d := N) (x := m / N) (y := m % N) (Nat.mod_lt _ hN) hN2 (by rw [← e]; exact hm)
  rw [← e] at this
  exact this
theorem nne {k : Nat} {y : Int32} (hk : k < 2147483648) (hy : y.toInt < 0) : ¬ nI k = y := fun z => by
  rw [← z, nI_toInt (by omega)] at hy
  omega
theorem so_P {x a : Int32} {S : hs_S} (h : ¬ a = 0) : P_L_some x a S := h
theorem sz_of {S T : hs_S} (h : T.2 = S.2) : hs_sz T 12 = hs_sz S 12 ∧ hs_sz T 13 = hs_sz S 13 ∧ hs_sz T 14 = hs_sz S 14 := by
  unfold hs_sz
  rw [h]
  exact ⟨rfl, rfl, rfl⟩
theorem la_gives {n : Nat} {z : Int32} {S U : hs_S} (h : JJ n S U) (hn : n < 512) (hw : hs_Wi S) (hu : hs_Wi U) : m_L_gives z S U (fun x T T' => x = 1 ∧ JJ (n + 1) T T' ∧ hs_sz T 12 = hs_sz S 12 ∧ hs_sz T 13 = hs_sz S 13 ∧ hs_sz T 14 = hs_sz S 14) := by
  refine ok_L_gives hw hu ?_
  unfold vc_L_gives
  obtain ⟨c, hc, ec⟩ := so_ex (N := 4) z 4 rfl (by omega) (by omega)
  obtain ⟨r, hr, er⟩ := so_ex (N := 6) (z >>> ((3 : Int32) &&& 31)) 6 rfl (by omega) (by omega)
  obtain ⟨o2, ho2, eo2⟩ := so_ex (N := 6) (z >>> ((6 : Int32) &&& 31)) 6 rfl (by omega) (by omega)
  obtain ⟨w, hw6, ew⟩ := so_ex (N := 6) (z >>> ((9 : Int32) &&& 31)) 6 rfl (by omega) (by omega)
  obtain ⟨o, ho, eo⟩ := KS_own h.1 (show 6 * c + r < 24 by omega)
  have own : F_Cq_ownerOf (nI c) (nI r) S = nI o := (fq_own hc hr).trans eo
  rw [ec, er, eo2, ew, own]
  refine ⟨so_P (by decide), so_P (by decide), pq_cell hc hr, so_P (by decide), so_P (by decide), ⟨⟨w, hw6, rfl⟩, pq_cell hc hr⟩, so_P (by decide), fun _ => ⟨so_P (by decide), fun x10 hx10 => ?_⟩, fun _ => fun _ _ => ?_⟩
  · obtain ⟨l, hl, el⟩ : ∃ l : Nat, l < 2 ∧ x10 = nI l := by
      by_cases q : F_L_some (z >>> ((12 : Int32) &&& 31)) 3 ≤ 0
      · rw [if_pos q] at hx10; exact ⟨0, by omega, hx10⟩
      · rw [if_neg q] at hx10; exact ⟨1, by omega, hx10⟩
    rw [el]
    have e1 : (((8 : Int32) * (nI w + 2)) + nI c) + 2 = nI (8 * (w + 2) + (c + 2)) := by
      rw [show (8 : Int32) = nI 8 from rfl, show (2 : Int32) = nI 2 from rfl, nI_add, nI_mulI, nI_add, nI_add]
      congr 1
    have e2 : (((16 : Int32) * (nI r + 1)) + ((2 : Int32) * (nI r + 1))) + nI l = nI (16 * (r + 1) + (2 * (r + 1) + l)) := by
      rw [show (16 : Int32) = nI 16 from rfl, show (2 : Int32) = nI 2 from rfl, show (1 : Int32) = nI 1 from rfl, nI_add, nI_mulI, nI_mulI, nI_add, nI_add]
      congr 1
      omega
    have e3 : (if nI l = 1 then (1 : Int32) else 0) = nI l := by
      rcases (show l = 0 ∨ l = 1 by omega) with rfl | rfl <;> rfl
    rw [e1, e2, e3]
    refine ⟨fun hne => fun _ _ => ?_, fun heq => fun _ _ => ?_⟩
    · refine bo_let h hn hw hu ho hw6 hc hr hl (fun z => hne (by rw [z])) eo fun T T' hJ h2 hrd h20 => ⟨rfl, ⟨⟨w, hw6, rfl⟩, pq_cell hc hr⟩, ?_⟩
      rintro _ rfl
      exact ⟨hrd, pq_cell hc hr, (fq_own hc hr).trans h20, rfl, hJ, sz_of h2⟩
    · have : w = o := (hl_inj (by omega) (by omega)).mp heq
      subst this
      exact bo_let_b hw hu ho hc hr hl ⟨rfl, rfl, h.le (by omega) (by omega), rfl, rfl, rfl⟩
  · have e1 : (((8 : Int32) * (nI c + 2)) + nI r) + 1 = nI (8 * (c + 2) + (r + 1)) := by
      rw [show (8 : Int32) = nI 8 from rfl, show (2 : Int32) = nI 2 from rfl, show (1 : Int32) = nI 1 from rfl, nI_add, nI_mulI, nI_add, nI_add]
      congr 1
    rw [e1]
    refine bo_give h hn hw hu ho hc hr ho2 eo fun m T' hm1 hm2 hJ => ?_
    have k20 : (gvT S (6 * c + r) o2).1 20 1 (6 * c + r) = nI o2 := (wI_at (S := S) (t := 20) (i := 1) (j := 6 * c + r) (x := nI o2)).trans (if_pos rfl)
    have k21 : (gvT S (6 * c + r) o2).1 21 1 (6 * c + r) = S.1 21 1 (6 * c + r) := rfl
    have rdT : ∀ a : Int32, F_Cq_reads a (nI c) (nI r) (gvT S (6 * c + r) o2) = bI (nI o2 = a ∨ (S.1 21 1 (6 * c + r) >>> (a &&& 31)) &&& 1 = 1) := fun a => by
      unfold F_Cq_reads F_Rts_canRead
      rw [show F_Cq_cellAt (nI c) (nI r) = nI (6 * c + r) from nq_61, hl_cl (by omega), k20, k21]
    have rdS : ∀ a : Int32, F_Cq_reads a (nI c) (nI r) S = bI (nI o = a ∨ (S.1 21 1 (6 * c + r) >>> (a &&& 31)) &&& 1 = 1) := fun a => by
      unfold F_Cq_reads F_Rts_canRead
      rw [show F_Cq_cellAt (nI c) (nI r) = nI (6 * c + r) from nq_61, hl_cl (by omega), eo]
    have fin : (1 : Int32) = 1 ∧ JJ (n + 1) (gvT S (6 * c + r) o2) T' ∧ hs_sz (gvT S (6 * c + r) o2) 12 = hs_sz S 12 ∧ hs_sz (gvT S (6 * c + r) o2) 13 = hs_sz S 13 ∧ hs_sz (gvT S (6 * c + r) o2) 14 = hs_sz S 14 := ⟨rfl, hJ, rfl, rfl, rfl⟩
    refine ⟨fun q => ?_, fun q => ?_, pq_cell hc hr, (fq_own hc hr).trans k20, ⟨⟨o2, ho2, rfl⟩, pq_cell hc hr⟩, ?_, fun _ => fin, fun hne => ⟨⟨⟨w, hw6, rfl⟩, pq_cell hc hr⟩, fun x hx => ⟨?_, fin⟩⟩⟩
    · have := (hl_le (b := 0) (by omega) (by omega)).mp q
      omega
    · have := (hl_le (a := 25) (by omega) (by omega)).mp q
      omega
    · rw [rdT, bI_t (Or.inl rfl)]
      decide
    · rw [hx, rdT, rdS]
      by_cases q : (S.1 21 1 (6 * c + r) >>> (nI w &&& 31)) &&& 1 = 1
      · rw [bI_t (Or.inr q), bI_t (Or.inr q)]
        rfl
      · have b0 : bI (nI o = nI w ∨ (S.1 21 1 (6 * c + r) >>> (nI w &&& 31)) &&& 1 = 1) = 0 := bI_f fun z => z.elim (fun z => hne z.symm) q
        rw [if_pos b0]
        by_cases q2 : nI w = nI o2
        · rw [if_pos q2, bI_t (Or.inl q2.symm)]
        · rw [if_neg q2, bI_f fun z => z.elim (fun z => q2 z.symm) q]
