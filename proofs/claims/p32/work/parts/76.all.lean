/-! ===== all that is told of a sheet ===== -/
def fo (s : Nat → Int64 → Int64) : Nat → Int64 → Int64
  | 0, x => x
  | k + 1, x => s k (fo s k x)
theorem fo_c {s s' : Nat → Int64 → Int64} (h : ∀ k x, s k x = s' k x) : ∀ n x, fo s n x = fo s' n x := fun n x => by rw [show s = s' from funext fun k => funext fun x => h k x]
def fI (s : Nat → Int64 → Int64) (x0 : Int64) (n N : Nat) (x : Int64) (k : Int32) : Prop := ∃ j : Nat, j ≤ n ∧ k = nI j ∧ x = fo s j x0 ∧ N = n - j
theorem fI_0 {s : Nat → Int64 → Int64} {x0 : Int64} {n : Nat} : ∃ m, fI s x0 n m x0 0 := ⟨n, 0, Nat.zero_le _, rfl, rfl, rfl⟩
theorem fI_e {s : Nat → Int64 → Int64} {x0 x : Int64} {n N : Nat} {k : Int32} (hn : n < 2147483648) (h : fI s x0 n N x k) (z : nI n ≤ k) : x = fo s n x0 := by
  obtain ⟨j, hj, rfl, rfl, _⟩ := h
  rw [hl_end hn hj z]
theorem fI_b {s : Nat → Int64 → Int64} {x0 x : Int64} {n N : Nat} {k : Int32} (hn : n < 2147483648) (h : fI s x0 n N x k) (z : ¬ nI n ≤ k) : ∃ j : Nat, j < n ∧ k = nI j ∧ ∀ y, y = s j x → ∃ q, q < N ∧ fI s x0 n q y (k + 1) := by
  obtain ⟨j, hj, rfl, rfl, rfl⟩ := h
  have h1 := hl_go hn hj z
  refine ⟨j, h1, rfl, fun y hy => ⟨n - (j + 1), by omega, j + 1, h1, nI_1 j, hy, rfl⟩⟩
noncomputable def vO (C : hs_S) (o c r : Int32) : Int32 := Classical.epsilon fun a => ∃ U T, hs_cl U = C ∧ R_Cq_value o c r U a T
noncomputable def fO (C : hs_S) (o c r : Int32) : Int32 := Classical.epsilon fun a => ∃ U T, hs_cl U = C ∧ R_Cq_fault o c r U a T
theorem KS_gt {n : Nat} {S : hs_S} (h : KS n S) : P_Fnd_goTo 0 0 S ∧ fOk S 1 ∧ ∀ k, k < hs_sz S 12 → fOk S (S.2.1 3 (ed S k) 5) := by
  obtain ⟨V, ev, ng, nl, nE, nB, nR, nd, hX, _⟩ := KS_U h
  exact P_goTo_of hX
theorem vO_eq {n o c r : Nat} {S T : hs_S} {a : Int32} (h : KS n S) (hc : c < 4) (hr : r < 6) (hR : R_Cq_value (nI o) (nI c) (nI r) S a T) : a = vO (hs_cl S) (nI o) (nI c) (nI r) := by
  obtain ⟨U, T', hU, hR'⟩ := Classical.epsilon_spec (p := fun a => ∃ U T, hs_cl U = hs_cl S ∧ R_Cq_value (nI o) (nI c) (nI r) U a T) ⟨a, S, T, rfl, hR⟩
  exact det_value hU.symm (KS_gt h).1 (KS_gt h).2 hc hr hR hR'
theorem fO_eq {n o c r : Nat} {S T : hs_S} {a : Int32} (h : KS n S) (hc : c < 4) (hr : r < 6) (hR : R_Cq_fault (nI o) (nI c) (nI r) S a T) : a = fO (hs_cl S) (nI o) (nI c) (nI r) := by
  obtain ⟨U, T', hU, hR'⟩ := Classical.epsilon_spec (p := fun a => ∃ U T, hs_cl U = hs_cl S ∧ R_Cq_fault (nI o) (nI c) (nI r) U a T) ⟨a, S, T, rfl, hR⟩
  exact det_fault hU.symm (KS_gt h).1 (KS_gt h).2 hc hr hR hR'
def sDue (S : hs_S) (w : Nat) : Nat → Int64 → Int64 := fun c y => y * 1000003 + (F_Ldg_dueOf (nI w) (nI c) S).toInt64
def sWho (S : hs_S) : Nat → Int64 → Int64 := fun w x => fo (sDue S w) 4 ((x * 1000003 + (F_Cq_cash (nI w) S).toInt64) * 1000003 + (F_Ldg_exposureOf (nI w) S).toInt64)
def sGot (S : hs_S) : Nat → Int64 → Int64 := fun b x => x * 103 + (F_Cq_got (nI b) S).toInt64
def sRnd (S : hs_S) : Nat → Int64 → Int64 := fun r x => ((x * 1000003 + (F_Cq_round (nI r) 1 S).toInt64) * 10007 + (F_Cq_round (nI r) 2 S).toInt64) * 1009 + (F_Cq_round (nI r) 3 S).toInt64 + (F_Cq_round (nI r) 4 S).toInt64
def sRds (S : hs_S) (k : Nat) : Nat → Int64 → Int64 := fun w y => y * 3 + (if F_Cq_reads (nI w) (nI (k / 6)) (nI (k % 6)) S = 0 then (0 : Int32) else 1).toInt64
noncomputable def sCel (S : hs_S) : Nat → Int64 → Int64 := fun k x => fo (sRds S k) 6 (((x * 7 + (F_Cq_ownerOf (nI (k / 6)) (nI (k % 6)) S).toInt64) * 1000003 + (vO (hs_cl S) (F_Cq_ownerOf (nI (k / 6)) (nI (k % 6)) S) (nI (k / 6)) (nI (k % 6))).toInt64) * 7 + (fO (hs_cl S) (F_Cq_ownerOf (nI (k / 6)) (nI (k % 6)) S) (nI (k / 6)) (nI (k % 6))).toInt64)
noncomputable def fAll (S : hs_S) (nb nr : Nat) : Int64 := fo (sCel S) 24 (fo (sRnd S) nr (fo (sGot S) nb (fo (sWho S) 6 (F_C_events S).toInt64)))
theorem fAll_tw {S U : hs_S} (h : hs_cl S = hs_cl U) (nb nr : Nat) : fAll S nb nr = fAll U nb nr := by
  have e1 : ∀ w, sDue S w = sDue U w := fun w => funext fun c => funext fun y => by unfold sDue; rw [tw_Ldg_dueOf h]
  have e2 : sWho S = sWho U := funext fun w => funext fun x => by unfold sWho; rw [e1, tw_Cq_cash h, tw_Ldg_exposureOf h]
  have e3 : sGot S = sGot U := funext fun w => funext fun x => by unfold sGot; rw [tw_Cq_got h]
  have e4 : sRnd S = sRnd U := funext fun w => funext fun x => by unfold sRnd; rw [tw_Cq_round h, tw_Cq_round h, tw_Cq_round h, tw_Cq_round h]
  have e5 : ∀ k, sRds S k = sRds U k := fun k => funext fun c => funext fun y => by unfold sRds; rw [tw_Cq_reads h]
  have e6 : sCel S = sCel U := funext fun w => funext fun x => by unfold sCel; rw [e5, tw_Cq_ownerOf h, h]
  unfold fAll
  rw [e2, e3, e4, e6, tw_C_events h]
/-! what the law's questions need -/
section
variable {n : Nat} {S : hs_S}
theorem pq_due (h : KS n S) {o c : Nat} (ho : o < 6) (hc : c < 4) : P_Cq_due (nI o) (nI c) S := ⟨⟨o, ho, rfl⟩, ⟨c, hc, rfl⟩, (KS_bf h).1 c hc o ho⟩
theorem pq_got (h : KS n S) {b : Nat} (hb : b < hs_sz S 13) : P_Cq_got (nI b) S := ⟨(KS_sz h).1.2.1, b, hb, rfl, by rw [KS_bd h hb]; exact Nat.succ_ne_zero _⟩
theorem pq_rn (h : KS n S) {r : Nat} (hr : r < hs_sz S 14) : P_Cq_roundNumbered (nI r) S := ⟨(KS_sz h).1.2.2, r, hr, rfl, KS_rd h hr⟩
theorem pq_round (h : KS n S) {r k : Nat} (hr : r < hs_sz S 14) (hk : k < 6) : P_Cq_round (nI r) (nI k) S := ⟨pq_rn h hr, (KS_bf h).2, k, hk, rfl⟩
theorem pq_cell {c r : Nat} (hc : c < 4) (hr : r < 6) : P_Cq_cellAt (nI c) (nI r) S := ⟨⟨c, hc, rfl⟩, r, hr, rfl⟩
theorem pq_frz (h : KS n S) {c : Nat} (hc : c < 4) : P_Cq_isFrozen (nI c) S := ⟨⟨c, hc, rfl⟩, by rw [hl_cl (by omega)]; exact (KS_cur h hc).1⟩
theorem fq_frz {c : Nat} (hc : c < 4) : F_Cq_isFrozen (nI c) S = F_Rnd_wasFrozen (S.2.1 26 1 c) S := by unfold F_Cq_isFrozen; rw [hl_cl (by omega)]
theorem fq_own {c r : Nat} (hc : c < 4) (hr : r < 6) : F_Cq_ownerOf (nI c) (nI r) S = S.1 20 1 (6 * c + r) := by
  unfold F_Cq_ownerOf
  rw [show F_Cq_cellAt (nI c) (nI r) = nI (6 * c + r) from nq_61, hl_cl (by omega)]
theorem fq_edits {c r : Nat} : F_Cq_edits (nI c) (nI r) S = F_Sht_countOf (nI (6 * c + r)) S := by
  unfold F_Cq_edits
  rw [show F_Cq_cellAt (nI c) (nI r) = nI (6 * c + r) from nq_61]
theorem fq_got (h : KS n S) {b : Nat} (hb : b < hs_sz S 13) : F_Cq_got (nI b) S = S.1 0 (b + 1) 9 := by
  have := (KS_sz h).1.2.1
  unfold F_Cq_got
  rw [hl_cl (by omega), KS_bd h hb]
theorem fq_rn (h : KS n S) {r : Nat} (hr : r < hs_sz S 14) : F_Cq_roundNumbered (nI r) S = S.2.1 14 1 r := by
  have := (KS_sz h).1.2.2
  unfold F_Cq_roundNumbered
  rw [hl_cl (by omega)]
theorem pq_val (h : KS n S) {o c r : Nat} (ho : o < 6) (hc : c < 4) (hr : r < 6) (e : S.1 20 1 (6 * c + r) = nI o) : P_Cq_value (nI o) (nI c) (nI r) S := by
  refine ⟨⟨o, ho, rfl⟩, pq_cell hc hr, ?_, (KS_gt h).1, (KS_gt h).2⟩
  rw [show F_Cq_cellAt (nI c) (nI r) = nI (6 * c + r) from nq_61]
  unfold F_Rts_canRead
  rw [hl_cl (by omega), bI_t (Or.inl e)]
  decide
theorem pq_anew (h : KS n S) {r : Nat} (hr : r < hs_sz S 14) : P_Cq_priceAnew (nI r) S := by
  refine ⟨pq_rn h hr, ?_⟩
  obtain ⟨V, ev, ng, nl, nE, nB, nR, nd, hX, _⟩ := KS_U h
  exact P_reckonAll_of hX
end
theorem k6_d {k : Nat} (hk : k < 24) : nI k / 6 = nI (k / 6) := nI_div6 (by omega)
theorem k6_m {k : Nat} (hk : k < 24) : nI k - nI k / 6 * 6 = nI (k % 6) := by
  have e : k = 6 * (k / 6) + k % 6 := by omega
  have := pq_m (d := 6) (x := k / 6) (y := k % 6) (by omega) (by omega) (by omega)
  rw [← e] at this
  exact this
theorem la_all {n nb nr : Nat} {S : hs_S} (h : KS n S) (hw : hs_Wi S) (hb : nb ≤ hs_sz S 13) (hr : nr ≤ hs_sz S 14) : m_L_all (nI nb) (nI nr) S (fun x T => x = fAll S nb nr ∧ hs_cl T = hs_cl S) := by
  obtain ⟨⟨z1, z2, z3⟩, _⟩ := KS_sz h
  refine ok_L_all hw ⟨fI (sWho S) (F_C_events S).toInt64 6, fI_0, fun N x k hI => ⟨fun z => ?_, fun z => ?_⟩⟩
  · have e1 := fI_e (n := 6) (by omega) hI z
    refine ⟨fI (sGot S) x nb, fI_0, fun N2 x2 k2 hI2 => ⟨fun y => ?_, fun y => ?_⟩⟩
    · have e2 := fI_e (by omega) hI2 y
      refine ⟨fI (sRnd S) x2 nr, fI_0, fun N3 x3 k3 hI3 => ⟨fun w => ?_, fun w => ?_⟩⟩
      · have e3 := fI_e (by omega) hI3 w
        refine ⟨fun N4 x4 k4 T => fI (sCel S) x3 24 N4 x4 k4 ∧ hs_cl T = hs_cl S, ?_, fun N4 x4 k4 T hI4 => ⟨fun v => ?_, fun v => ?_⟩⟩
        · obtain ⟨m, hm⟩ := fI_0 (s := sCel S) (x0 := x3) (n := 24)
          exact ⟨m, hm, rfl⟩
        · have e4 := fI_e (n := 24) (by omega) hI4.1 v
          refine ⟨?_, hI4.2⟩
          rw [e4, e3, e2, e1]
          rfl
        · obtain ⟨hI4, hcl⟩ := hI4
          obtain ⟨j, hj, rfl, hn⟩ := fI_b (n := 24) (by omega) hI4 v
          have hT := KS_cl hcl h
          rw [k6_m hj, k6_d hj]
          have hc : j / 6 < 4 := by omega
          have hr6 : j % 6 < 6 := by omega
          obtain ⟨o, ho, eo⟩ := KS_own hT (show 6 * (j / 6) + j % 6 < 24 by omega)
          have eO : F_Cq_ownerOf (nI (j / 6)) (nI (j % 6)) T = nI o := (fq_own hc hr6).trans eo
          have eS : F_Cq_ownerOf (nI (j / 6)) (nI (j % 6)) S = nI o := (tw_Cq_ownerOf hcl).symm.trans eO
          rw [eO]
          refine ⟨pq_cell hc hr6, pq_val hT ho hc hr6 eo, fun a T2 hR => ?_⟩
          have c2 := (cl_value hR).trans hcl
          have hT2 := KS_cl c2 h
          have ea := vO_eq hT hc hr6 hR
          rw [hcl] at ea
          have eo2 : T2.1 20 1 (6 * (j / 6) + j % 6) = nI o := (cl_pt (cl_value hR) rfl).trans eo
          refine ⟨pq_val hT2 ho hc hr6 eo2, fun b T3 hR2 => ?_⟩
          have c3 := (cl_fault hR2).trans c2
          have hT3 := KS_cl c3 h
          have eb := fO_eq hT2 hc hr6 hR2
          rw [c2] at eb
          refine ⟨fI (sRds S j) ((((x4 * 7 + (nI o).toInt64) * 1000003) + a.toInt64) * 7 + b.toInt64) 6, fI_0, fun N5 x5 k5 hI5 => ⟨fun u => ?_, fun u => ?_⟩⟩
          · have e5 := fI_e (n := 6) (by omega) hI5 u
            obtain ⟨q, hq, hq2⟩ := hn x5 (by
              rw [e5, ea, eb]
              unfold sCel
              rw [eS])
            exact ⟨q, hq, hq2, c3⟩
          · obtain ⟨i, hi, rfl, hn5⟩ := fI_b (n := 6) (by omega) hI5 u
            have er : F_Cq_reads (nI i) (nI (j / 6)) (nI (j % 6)) T3 = F_Cq_reads (nI i) (nI (j / 6)) (nI (j % 6)) S := tw_Cq_reads c3
            rw [er]
            refine ⟨⟨⟨i, hi, rfl⟩, pq_cell hc hr6⟩, fun g => hn5 _ ?_, fun g => hn5 _ ?_⟩
            · unfold sRds; rw [if_pos g]
            · unfold sRds; rw [if_neg g]
      · obtain ⟨j, hj, rfl, hn⟩ := fI_b (by omega) hI3 w
        exact ⟨pq_round h (k := 1) (by omega) (by omega), pq_round h (k := 2) (by omega) (by omega), pq_round h (k := 3) (by omega) (by omega), pq_round h (k := 4) (by omega) (by omega), hn _ rfl⟩
    · obtain ⟨j, hj, rfl, hn⟩ := fI_b (by omega) hI2 y
      exact ⟨pq_got h (by omega), hn _ rfl⟩
  · obtain ⟨j, hj, rfl, hn⟩ := fI_b (n := 6) (by omega) hI z
    refine ⟨⟨j, hj, rfl⟩, ⟨⟨j, hj, rfl⟩, (KS_ex h hj).1⟩, fI (sDue S j) ((x * 1000003 + (F_Cq_cash (nI j) S).toInt64) * 1000003 + (F_Ldg_exposureOf (nI j) S).toInt64) 4, fI_0, fun N2 x2 k2 hI2 => ⟨fun y => hn _ (fI_e (n := 4) (by omega) hI2 y), fun y => ?_⟩⟩
    obtain ⟨i, hi, rfl, hn2⟩ := fI_b (n := 4) (by omega) hI2 y
    exact ⟨pq_due h hj hi, hn2 _ rfl⟩
