/-! ===== the law's loop ===== -/
theorem hs_swo0_28 {x : Int32} (c0 : ¬ x = 0) (c1 : ¬ x = 1) (c2 : ¬ x = 2) (c3 : ¬ x = 3) (c4 : ¬ x = 4) (c5 : ¬ x = 5) (c6 : ¬ x = 6) (c7 : ¬ x = 7) (c8 : ¬ x = 8) (c9 : ¬ x = 9) (c10 : ¬ x = 10) (c11 : ¬ x = 11) (c12 : ¬ x = 12) (c13 : ¬ x = 13) (c14 : ¬ x = 14) (c15 : ¬ x = 15) (c16 : ¬ x = 16) (c17 : ¬ x = 17) (c18 : ¬ x = 18) (c19 : ¬ x = 19) (c20 : ¬ x = 20) (c21 : ¬ x = 21) (c22 : ¬ x = 22) (c23 : ¬ x = 23) (c24 : ¬ x = 24) (c25 : ¬ x = 25) (c26 : ¬ x = 26) (c27 : ¬ x = 27) (c28 : ¬ x = 28) : x.toInt < 0 ∨ 28 < x.toInt := by
  have h0 : x.toInt ≠ 0 := hs_ne_toInt c0
  have h1 : x.toInt ≠ 1 := hs_ne_toInt c1
  have h2 : x.toInt ≠ 2 := hs_ne_toInt c2
  have h3 : x.toInt ≠ 3 := hs_ne_toInt c3
  have h4 : x.toInt ≠ 4 := hs_ne_toInt c4
  have h5 : x.toInt ≠ 5 := hs_ne_toInt c5
  have h6 : x.toInt ≠ 6 := hs_ne_toInt c6
  have h7 : x.toInt ≠ 7 := hs_ne_toInt c7
  have h8 : x.toInt ≠ 8 := hs_ne_toInt c8
  have h9 : x.toInt ≠ 9 := hs_ne_toInt c9
  have h10 : x.toInt ≠ 10 := hs_ne_toInt c10
  have h11 : x.toInt ≠ 11 := hs_ne_toInt c11
  have h12 : x.toInt ≠ 12 := hs_ne_toInt c12
  have h13 : x.toInt ≠ 13 := hs_ne_toInt c13
  have h14 : x.toInt ≠ 14 := hs_ne_toInt c14
  have h15 : x.toInt ≠ 15 := hs_ne_toInt c15
  have h16 : x.toInt ≠ 16 := hs_ne_toInt c16
  have h17 : x.toInt ≠ 17 := hs_ne_toInt c17
  have h18 : x.toInt ≠ 18 := hs_ne_toInt c18
  have h19 : x.toInt ≠ 19 := hs_ne_toInt c19
  have h20 : x.toInt ≠ 20 := hs_ne_toInt c20
  have h21 : x.toInt ≠ 21 := hs_ne_toInt c21
  have h22 : x.toInt ≠ 22 := hs_ne_toInt c22
  have h23 : x.toInt ≠ 23 := hs_ne_toInt c23
  have h24 : x.toInt ≠ 24 := hs_ne_toInt c24
  have h25 : x.toInt ≠ 25 := hs_ne_toInt c25
  have h26 : x.toInt ≠ 26 := hs_ne_toInt c26
  have h27 : x.toInt ≠ 27 := hs_ne_toInt c27
  have h28 : x.toInt ≠ 28 := hs_ne_toInt c28
  omega
theorem law_B {L j : Nat} (h7 : L ≤ 3584) (h : 7 * j + 7 ≤ L) (c : Int32) (h0 : 0 ≤ c.toInt) (h1 : c.toInt < 7) : 0 ≤ (nI (7 * j) + c).toInt ∧ (nI (7 * j) + c).toInt < L := by
  have e1 : (nI (7 * j)).toInt = ((7 * j : Nat) : Int) := nI_toInt (by omega)
  rw [i32_add (by omega), e1]
  omega
theorem law_B0 {L j : Nat} (h7 : L ≤ 3584) (h : 7 * j + 7 ≤ L) : 0 ≤ (nI (7 * j)).toInt ∧ (nI (7 * j)).toInt < L := by
  have e1 : (nI (7 * j)).toInt = ((7 * j : Nat) : Int) := nI_toInt (by omega)
  omega
theorem law_go {L j : Nat} (h7 : L ≤ 3584) (h : 7 * j ≤ L) (hc : ¬ Int32.ofNat L - 7 < nI (7 * j)) : 7 * j + 7 ≤ L := by
  have e1 : (nI (7 * j)).toInt = ((7 * j : Nat) : Int) := nI_toInt (by omega)
  have e2 : (Int32.ofNat L).toInt = (L : Int) := nI_toInt (n := L) (by omega)
  have e3 : (7 : Int32).toInt = 7 := rfl
  rw [i32_lt, i32_sub (by omega), e1, e2, e3] at hc
  omega
theorem law_i {j : Nat} : nI (7 * j) + Int32.ofInt 7 = nI (7 * (j + 1)) := by
  show nI (7 * j) + nI 7 = nI (7 * (j + 1))
  rw [nI_add]
  exact congrArg nI (by omega)
set_option maxRecDepth 100000 in
set_option maxHeartbeats 4000000 in
theorem law_step {Z : hs_Z} {L : Nat} {xs : Nat → Int32} {j : Nat} {S : hs_S} (X : hs_C Z RL cL_law 7 room_1) (hL : hs_SC Z L xs) (h7 : L ≤ 3584) (hE : ∀ k n S lv, k ≤ 601024 → n ≤ 7293034 → wa Z k n S 2208 lv [.inl 1]) (hj : 7 * j ≤ L) (h : RR j S) (hw : hs_Wi S) (next : 7 * (j + 1) ≤ L → ∀ T, RR (j + 1) T → hs_Wi T → wa Z (200 + 50 * (j + 1)) (20000 + 1000 * (j + 1)) T 23 (LL (nI (7 * (j + 1)))) []) : wa Z (200 + 50 * j) (20000 + 1000 * j) S 23 (LL (nI (7 * j))) [] := by
  refine wa_iload X 0 rfl dL_law_23 ?_
  refine wa_aload_n X 4 rfl dL_law_25 rfl ?_
  refine wa_slen1 X hL dL_law_26 ?_
  refine wa_bipush X dL_law_27 kb7 ?_
  refine wa_isub X dL_law_29 ?_
  refine wa_icmp_gt X (tgt := 2207) dL_law_30 (by decide) (fun _ => ?_) (fun hc => ?_)
  · refine wa_iconst X dL_law_2207 kc1 ?_
    exact hE _ _ _ _ (by omega) (by omega)
  have h8 : 7 * j + 7 ≤ L := law_go h7 hj hc
  have hj5 : j < 512 := by omega
  refine wa_aload_n X 4 rfl dL_law_33 rfl ?_
  refine wa_iload X 0 rfl dL_law_34 ?_
  refine wa_sald1 X hL dL_law_36 (law_B0 h7 h8) ?_
  refine wa_bipush X (v := 31) dL_law_37 (by decide) ?_
  refine wa_iand X dL_law_39 ?_
  have hk : 200 + 50 * j + 50 ≤ room_1.cells := by show 200 + 50 * j + 50 ≤ 601024; omega
  have hn : 20000 + 1000 * j + 1000 ≤ room_1.slots := by show 20000 + 1000 * j + 1000 ≤ 7293034; omega
  have kk : ∀ T, RR (j + 1) T → hs_Wi T → wa Z (200 + 50 * j + 50) (20000 + 1000 * j + 1000) T 2201 (LL (nI (7 * j))) [] := fun T hR hW => by
    refine wa_iinc X (v := nI (7 * (j + 1))) (lv' := LL (nI (7 * (j + 1)))) 0 rfl dL_law_2201 law_i (by decide) rfl ?_
    refine wa_goto X (tgt := 23) dL_law_2204 (by decide) ?_
    exact wa_wid (by omega) (by omega) (next (by omega) T hR hW)
  have hB := law_B h7 h8
  generalize xs (nI (7 * j)).toNatClampNeg &&& 31 = y
  clear next hc hE
  by_cases c0 : y = 0
  · refine wa_tableIn X (tgt := 172) dL_law_40 (by rw [c0]; decide) (by rw [c0]; decide) (off := 132) (by rw [c0]; rfl) (by decide) ?_
    exact law_c0 X hL hB hk hn h hj5 hw kk
  by_cases c1 : y = 1
  · refine wa_tableIn X (tgt := 264) dL_law_40 (by rw [c1]; decide) (by rw [c1]; decide) (off := 224) (by rw [c1]; rfl) (by decide) ?_
    exact law_c1 X hL hB hk hn h hj5 hw kk
  by_cases c2 : y = 2
  · refine wa_tableIn X (tgt := 398) dL_law_40 (by rw [c2]; decide) (by rw [c2]; decide) (off := 358) (by rw [c2]; rfl) (by decide) ?_
    exact law_c2 X hL hB hk hn h hj5 hw kk
  by_cases c3 : y = 3
  · refine wa_tableIn X (tgt := 466) dL_law_40 (by rw [c3]; decide) (by rw [c3]; decide) (off := 426) (by rw [c3]; rfl) (by decide) ?_
    exact law_c3 X hL hB hk hn h hj5 hw kk
  by_cases c4 : y = 4
  · refine wa_tableIn X (tgt := 553) dL_law_40 (by rw [c4]; decide) (by rw [c4]; decide) (off := 513) (by rw [c4]; rfl) (by decide) ?_
    exact law_c4 X hL hB hk hn h hj5 hw kk
  by_cases c5 : y = 5
  · refine wa_tableIn X (tgt := 633) dL_law_40 (by rw [c5]; decide) (by rw [c5]; decide) (off := 593) (by rw [c5]; rfl) (by decide) ?_
    exact law_c5 X hL hB hk hn h hj5 hw kk
  by_cases c6 : y = 6
  · refine wa_tableIn X (tgt := 646) dL_law_40 (by rw [c6]; decide) (by rw [c6]; decide) (off := 606) (by rw [c6]; rfl) (by decide) ?_
    exact law_c6 X hL hB hk hn h hj5 hw kk
  by_cases c7 : y = 7
  · refine wa_tableIn X (tgt := 726) dL_law_40 (by rw [c7]; decide) (by rw [c7]; decide) (off := 686) (by rw [c7]; rfl) (by decide) ?_
    exact law_c7 X hL hB hk hn h hj5 hw kk
  by_cases c8 : y = 8
  · refine wa_tableIn X (tgt := 806) dL_law_40 (by rw [c8]; decide) (by rw [c8]; decide) (off := 766) (by rw [c8]; rfl) (by decide) ?_
    exact law_c8 X hL hB hk hn h hj5 hw kk
  by_cases c9 : y = 9
  · refine wa_tableIn X (tgt := 874) dL_law_40 (by rw [c9]; decide) (by rw [c9]; decide) (off := 834) (by rw [c9]; rfl) (by decide) ?_
    exact law_c9 X hL hB hk hn h hj5 hw kk
  by_cases c10 : y = 10
  · refine wa_tableIn X (tgt := 954) dL_law_40 (by rw [c10]; decide) (by rw [c10]; decide) (off := 914) (by rw [c10]; rfl) (by decide) ?_
    exact law_c10 X hL hB hk hn h hj5 hw kk
  by_cases c11 : y = 11
  · refine wa_tableIn X (tgt := 1034) dL_law_40 (by rw [c11]; decide) (by rw [c11]; decide) (off := 994) (by rw [c11]; rfl) (by decide) ?_
    exact law_c11 X hL hB hk hn h hj5 hw kk
  by_cases c12 : y = 12
  · refine wa_tableIn X (tgt := 1102) dL_law_40 (by rw [c12]; decide) (by rw [c12]; decide) (off := 1062) (by rw [c12]; rfl) (by decide) ?_
    exact law_c12 X hL hB hk hn h hj5 hw kk
  by_cases c13 : y = 13
  · refine wa_tableIn X (tgt := 1194) dL_law_40 (by rw [c13]; decide) (by rw [c13]; decide) (off := 1154) (by rw [c13]; rfl) (by decide) ?_
    exact law_c13 X hL hB hk hn h hj5 hw kk
  by_cases c14 : y = 14
  · refine wa_tableIn X (tgt := 1314) dL_law_40 (by rw [c14]; decide) (by rw [c14]; decide) (off := 1274) (by rw [c14]; rfl) (by decide) ?_
    exact law_c14 X hL hB hk hn h hj5 hw kk
  by_cases c15 : y = 15
  · refine wa_tableIn X (tgt := 1382) dL_law_40 (by rw [c15]; decide) (by rw [c15]; decide) (off := 1342) (by rw [c15]; rfl) (by decide) ?_
    exact law_c15 X hL hB hk hn h hj5 hw kk
  by_cases c16 : y = 16
  · refine wa_tableIn X (tgt := 1473) dL_law_40 (by rw [c16]; decide) (by rw [c16]; decide) (off := 1433) (by rw [c16]; rfl) (by decide) ?_
    exact law_c16 X hL hB hk hn h hj5 hw kk
  by_cases c17 : y = 17
  · refine wa_tableIn X (tgt := 1529) dL_law_40 (by rw [c17]; decide) (by rw [c17]; decide) (off := 1489) (by rw [c17]; rfl) (by decide) ?_
    exact law_c17 X hL hB hk hn h hj5 hw kk
  by_cases c18 : y = 18
  · refine wa_tableIn X (tgt := 1592) dL_law_40 (by rw [c18]; decide) (by rw [c18]; decide) (off := 1552) (by rw [c18]; rfl) (by decide) ?_
    exact law_c18 X hL hB hk hn h hj5 hw kk
  by_cases c19 : y = 19
  · refine wa_tableIn X (tgt := 1660) dL_law_40 (by rw [c19]; decide) (by rw [c19]; decide) (off := 1620) (by rw [c19]; rfl) (by decide) ?_
    exact law_c19 X hL hB hk hn h hj5 hw kk
  by_cases c20 : y = 20
  · refine wa_tableIn X (tgt := 1716) dL_law_40 (by rw [c20]; decide) (by rw [c20]; decide) (off := 1676) (by rw [c20]; rfl) (by decide) ?_
    exact law_c20 X hL hB hk hn h hj5 hw kk
  by_cases c21 : y = 21
  · refine wa_tableIn X (tgt := 1772) dL_law_40 (by rw [c21]; decide) (by rw [c21]; decide) (off := 1732) (by rw [c21]; rfl) (by decide) ?_
    exact law_c21 X hL hB hk hn h hj5 hw kk
  by_cases c22 : y = 22
  · refine wa_tableIn X (tgt := 1840) dL_law_40 (by rw [c22]; decide) (by rw [c22]; decide) (off := 1800) (by rw [c22]; rfl) (by decide) ?_
    exact law_c22 X hL hB hk hn h hj5 hw kk
  by_cases c23 : y = 23
  · refine wa_tableIn X (tgt := 1896) dL_law_40 (by rw [c23]; decide) (by rw [c23]; decide) (off := 1856) (by rw [c23]; rfl) (by decide) ?_
    exact law_c23 X hL hB hk hn h hj5 hw kk
  by_cases c24 : y = 24
  · refine wa_tableIn X (tgt := 1952) dL_law_40 (by rw [c24]; decide) (by rw [c24]; decide) (off := 1912) (by rw [c24]; rfl) (by decide) ?_
    exact law_c24 X hL hB hk hn h hj5 hw kk
  by_cases c25 : y = 25
  · refine wa_tableIn X (tgt := 2020) dL_law_40 (by rw [c25]; decide) (by rw [c25]; decide) (off := 1980) (by rw [c25]; rfl) (by decide) ?_
    exact law_c25 X hL hB hk hn h hj5 hw kk
  by_cases c26 : y = 26
  · refine wa_tableIn X (tgt := 2076) dL_law_40 (by rw [c26]; decide) (by rw [c26]; decide) (off := 2036) (by rw [c26]; rfl) (by decide) ?_
    exact law_c26 X hL hB hk hn h hj5 hw kk
  by_cases c27 : y = 27
  · refine wa_tableIn X (tgt := 2132) dL_law_40 (by rw [c27]; decide) (by rw [c27]; decide) (off := 2092) (by rw [c27]; rfl) (by decide) ?_
    exact law_c27 X hL hB hk hn h hj5 hw kk
  by_cases c28 : y = 28
  · refine wa_tableIn X (tgt := 2188) dL_law_40 (by rw [c28]; decide) (by rw [c28]; decide) (off := 2148) (by rw [c28]; rfl) (by decide) ?_
    exact law_c28 X hL hB hk hn h hj5 hw kk
  refine wa_tableOut X (tgt := 2201) dL_law_40 (hs_swo0_28 c0 c1 c2 c3 c4 c5 c6 c7 c8 c9 c10 c11 c12 c13 c14 c15 c16 c17 c18 c19 c20 c21 c22 c23 c24 c25 c26 c27 c28) (by decide) ?_
  exact wa_wid (by omega) (by omega) (kk S (RR_up h hj5) hw)
theorem law_loop {Z : hs_Z} {L : Nat} {xs : Nat → Int32} {j : Nat} {S : hs_S} (X : hs_C Z RL cL_law 7 room_1) (hL : hs_SC Z L xs) (h7 : L ≤ 3584) (hE : ∀ k n S lv, k ≤ 601024 → n ≤ 7293034 → wa Z k n S 2208 lv [.inl 1]) : ∀ f : Nat, L ≤ 7 * (j + f) + 6 → 7 * j ≤ L → RR j S → hs_Wi S → wa Z (200 + 50 * j) (20000 + 1000 * j) S 23 (LL (nI (7 * j))) [] := by
  intro f
  induction f generalizing j S with
  | zero => exact fun h1 h2 h hw => law_step X hL h7 hE h2 h hw (fun h3 => absurd h3 (by omega))
  | succ f ih => exact fun h1 h2 h hw => law_step X hL h7 hE h2 h hw (fun h3 T hR hW => ih (by omega) h3 hR hW)
abbrev q0 : Nat → Int32 := fun _ => 0
def sA : hs_S := E_C_init (hs_nw (s0 q0) 10)
def sB : hs_S := E_M_init (hs_nw sA 11)
theorem sB_T : hs_nw sB 100 = sT q0 := rfl
theorem sA_0 : ∀ t, t < 10 ∨ (12 ≤ t ∧ t < 40) → (hs_nw (s0 q0) 10).2.2.2 t = 0 := fun t ht => by
  show (if t = 10 then _ else if t = 101 then 1 else 0) = 0
  rw [if_neg (by omega), if_neg (by omega)]
theorem sA_z : ∀ t, 12 ≤ t → t < 15 → (hs_nw (s0 q0) 10).2.1 t 2 0 = 0 := fun t h1 h2 => by
  show (if t = 10 ∧ 2 = (s0 q0).2.2.2 10 + 1 then 0 else 0) = 0
  rw [if_neg (fun z => by have := z.1; omega)]
set_option maxRecDepth 100000 in
theorem sA_11 : sA.2.2.2 11 = 0 ∧ (hs_nw sA 11).2.2.2 62 = 0 ∧ (hs_nw sA 11).2.2.2 88 = 0 := ⟨rfl, rfl, rfl⟩
set_option maxRecDepth 100000 in
theorem sB_100 : sB.2.2.2 100 + 1 = 1 := rfl
set_option maxRecDepth 100000 in
set_option maxHeartbeats 4000000 in
theorem law_body {Z : hs_Z} {L : Nat} {xs : Nat → Int32} (X : hs_C Z RL cL_law 7 room_1) (hL : hs_SC Z L xs) (h7 : L ≤ 3584) (hE : ∀ k n S lv, k ≤ 601024 → n ≤ 7293034 → wa Z k n S 2208 lv [.inl 1]) : wa Z 0 0 (s0 q0) 0 [(0, .inr (.inr (101, 1)))] [] := by
  refine wa_new1 X (t := 10) hk_10 hc_10 i_10 tyX10 tyX10_ok dv_10 kw_81 kw_82 kw_54 dL_law_0 ⟨Nat.le_of_ble_eq_true rfl, Nat.le_of_ble_eq_true rfl⟩ rfl ?_
  refine wa_dup X dL_law_3 rfl ?_
  refine wa_callI X (As := []) (ok_C_init (v_C_init sA_0 sA_z (Q := fun S' => S' = sA) rfl)) kw_85 kw_54 kw_83 kw_84 rfl nd_X10_init rfl rfl (Nat.le_of_ble_eq_true rfl) dL_law_4 hs_1ne ⟨⟨Nat.le_of_ble_eq_true rfl, Nat.le_of_ble_eq_true rfl⟩, Nat.le_of_ble_eq_true rfl, Nat.le_of_ble_eq_true rfl⟩ (fun _ S1 hq => ?_) (fun _ _ hq => hq.elim)
  obtain ⟨rfl, rfl⟩ := hq
  refine wa_astore_n X (lv' := [(1, .inr (.inr (10, 1))), (0, .inr (.inr (101, 1)))]) dL_law_7 rfl (by decide) rfl ?_
  refine wa_new1 X (t := 11) hk_11 hc_11 i_11 tyX11 tyX11_ok dv_11 kw_1177 kw_1178 kw_66 dL_law_8 ⟨Nat.le_of_ble_eq_true rfl, Nat.le_of_ble_eq_true rfl⟩ sA_11.1 ?_
  refine wa_dup X dL_law_11 rfl ?_
  refine wa_callI X (As := []) (ok_M_init (v_M_init sA_11.2.1 sA_11.2.2 (Q := fun S' => S' = sB) rfl)) kw_1181 kw_66 kw_1179 kw_1180 rfl nd_X11_init rfl rfl (Nat.le_of_ble_eq_true rfl) dL_law_12 hs_1ne ⟨⟨Nat.le_of_ble_eq_true rfl, Nat.le_of_ble_eq_true rfl⟩, Nat.le_of_ble_eq_true rfl, Nat.le_of_ble_eq_true rfl⟩ (fun _ S1 hq => ?_) (fun _ _ hq => hq.elim)
  obtain ⟨rfl, rfl⟩ := hq
  refine wa_astore_n X (lv' := [(2, .inr (.inr (11, 1))), (1, .inr (.inr (10, 1))), (0, .inr (.inr (101, 1)))]) dL_law_15 rfl (by decide) rfl ?_
  refine wa_iconst X dL_law_16 kc1 ?_
  refine wa_newj X hk_100 kw_1365 (by decide) (by decide) (Nat.le_of_ble_eq_true rfl) dL_law_17 ⟨Nat.le_of_ble_eq_true rfl, Nat.le_of_ble_eq_true rfl⟩ ?_
  refine hs_stR sB_100 ?_
  refine wa_astore_n X (lv' := [(3, .inr (.inr (100, 1))), (2, .inr (.inr (11, 1))), (1, .inr (.inr (10, 1))), (0, .inr (.inr (101, 1)))]) dL_law_19 rfl (by decide) rfl ?_
  refine wa_iconst X dL_law_20 kc0 ?_
  refine wa_istore X (lv' := LL (nI (7 * 0))) dL_law_21 (by decide) rfl ?_
  rw [sB_T]
  exact wa_wid (Nat.le_of_ble_eq_true rfl) (Nat.le_of_ble_eq_true rfl) (law_loop (j := 0) X hL h7 hE L (by omega) (by omega) RR_0 sT_Wi)
