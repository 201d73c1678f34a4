/-! ===== from the first byte to the loop ===== -/
theorem kw_50 : Cond.instanceMethod yX10_init ∈ hs_ws := hs_w 50 (by decide +kernel) rfl
theorem kw_51 : Cond.code yX10_init cX10_init 1 none ∈ hs_ws := hs_w 51 (by decide +kernel) rfl
theorem law_rk : 0 + 1 + 57 + 58 + 319 + 528 * 91 ≤ room_1.cells := by
  show 0 + 1 + 57 + 58 + 319 + 528 * 91 ≤ 600074
  omega
theorem law_rn : 0 + 6 + 891 + 897 + 6902 + 11424 * 91 ≤ room_1.slots := by
  show 0 + 6 + 891 + 897 + 6902 + 11424 * 91 ≤ 7301550
  omega
theorem sA_0 : ∀ t, t < 10 ∨ (12 ≤ t ∧ t < 40) → (hs_nw s0 10).2.2.2 t = 0 := fun t ht => by
  show (if t = 10 then _ else if t = 101 then 1 else 0) = 0
  rw [if_neg (by omega), if_neg (by omega)]
theorem sA_zz : ∀ t, 12 ≤ t → t < 15 → (hs_nw s0 10).2.1 t 2 0 = 0 := fun t h1 h2 => by
  show (if t = 10 ∧ 2 = s0.2.2.2 10 + 1 then 0 else 0) = 0
  rw [if_neg (fun z => by have := z.1; omega)]
theorem b_nr_V {Q : hs_S → Prop} : ∀ v S', hs_rV Q v S' → b_nr v := by
  rintro v S' ⟨rfl, _⟩ x hx q
  cases hx
set_option maxRecDepth 100000 in
set_option maxHeartbeats 4000000 in
theorem law_8 {Z : b_Z} {k n : Nat} (X : b_C Z RL cL_law 14 room_1) (hE : ∀ k n S lv, k ≤ room_1.cells → n ≤ room_1.slots → wb Z k n S 604 lv [.inl 1]) (hk : k + 58 + 319 + 528 * 91 ≤ room_1.cells) (hn : n + 897 + 6902 + 11424 * 91 ≤ room_1.slots) :
    wb Z k n (sA, s0) 8 [(1, .inr (.inr (10, 1))), (0, .inr (.inr (101, 1)))] [] := by
  have h1 : k + 1 ≤ room_1.cells := Nat.le_trans (by omega) hk
  have h2 : n + 6 ≤ room_1.slots := Nat.le_trans (by omega) hn
  have h3 : k + 1 + 57 ≤ room_1.cells := Nat.le_trans (by omega) hk
  have h4 : n + 6 + 891 ≤ room_1.slots := Nat.le_trans (by omega) hn
  refine wb_new2 X (t := 10) hk_10 hc_10 i_10 tyX10 tyX10_ok dv_10 kw_47 kw_48 kw_21 dL_law_8 ⟨h1, h2⟩ ?_
  refine wb_dup X dL_law_11 rfl ?_
  refine wb_callI2 X (As := []) (t := 10) (i := 1) (ok_C_init (v_C_init sA_0 sA_zz (Q := fun S' => S' = sA) rfl)) b_nr_V kw_51 kw_21 kw_49 kw_50 rfl nd_X10_init rfl rfl (Nat.le_of_ble_eq_true rfl) dL_law_12 hs_1ne ⟨⟨Nat.le_of_ble_eq_true rfl, Nat.le_of_ble_eq_true rfl⟩, h3, h4⟩ (fun v S1 hq => ?_)
  obtain ⟨rfl, rfl⟩ := hq
  refine wb_astore_n X (lv' := [(2, .inr (.inr (210, 1))), (1, .inr (.inr (10, 1))), (0, .inr (.inr (101, 1)))]) dL_law_15 rfl (by decide) rfl ?_
  refine wb_iconst X dL_law_16 kc0 ?_
  refine wb_istore_n X (lv' := [(3, .inl 0), (2, .inr (.inr (210, 1))), (1, .inr (.inr (10, 1))), (0, .inr (.inr (101, 1)))]) dL_law_17 rfl (by decide) rfl ?_
  refine wb_iconst X dL_law_18 kc0 ?_
  refine wb_istore X (lv' := [(4, .inl 0), (3, .inl 0), (2, .inr (.inr (210, 1))), (1, .inr (.inr (10, 1))), (0, .inr (.inr (101, 1)))]) dL_law_19 (by decide) rfl ?_
  refine wb_iconst X dL_law_21 kc0 ?_
  refine wb_istore X (lv' := [(5, .inl 0), (4, .inl 0), (3, .inl 0), (2, .inr (.inr (210, 1))), (1, .inr (.inr (10, 1))), (0, .inr (.inr (101, 1)))]) dL_law_22 (by decide) rfl ?_
  refine wb_lv (lv' := [(0, .inr (.inr (101, 1))), (1, .inr (.inr (10, 1))), (2, .inr (.inr (210, 1))), (3, .inl 0), (4, .inl 0), (5, .inl 0)]) [5, 4, 3, 2, 1, 0] rfl ?_
  exact law_24 X hE JJ_0 sA_z hk hn sA_Wi sA_Wi
set_option maxRecDepth 100000 in
set_option maxHeartbeats 4000000 in
theorem law_0 {p : Program} {l : Launch} {e : Env} {s : State} {m : MethodId} {args : Array Value} {below : List Frame} {meth : Method} {c : Code} {D : va_G} {DA : hs_DA} {b : Nat} {Qw : State → Prop} (X : hs_C (p, l, e, room_1, s, m, args, below, meth, c, D, DA, (fun q => s.heap.size ≤ q), G0 b, s0, Qw) RL cL_law 14 room_1) (hb1 : DA.2.2.1 = b)
    (hE : ∀ k n S lv, k ≤ room_1.cells → n ≤ room_1.slots → wb (p, l, e, room_1, s, m, args, below, meth, c, D, DA, (fun q => s.heap.size ≤ q), (G0 b, G0 b), (s0, s0), Qw) k n S 604 lv [.inl 1]) : wa (p, l, e, room_1, s, m, args, below, meth, c, D, DA, (fun q => s.heap.size ≤ q), G0 b, s0, Qw) 0 0 s0 0 [(0, .inr (.inr (101, 1)))] [] := by
  have X2 : b_C (p, l, e, room_1, s, m, args, below, meth, c, D, DA, (fun q => s.heap.size ≤ q), (G0 b, G0 b), (s0, s0), Qw) RL cL_law 14 room_1 := X
  refine wa_new1 X (t := 10) hk_10 hc_10 i_10 tyX10 tyX10_ok dv_10 kw_47 kw_48 kw_21 dL_law_0 ⟨Nat.le_of_ble_eq_true rfl, Nat.le_of_ble_eq_true rfl⟩ rfl ?_
  refine wa_dup X dL_law_3 rfl ?_
  refine wa_callI X (As := []) (ok_C_init (v_C_init sA_0 sA_zz (Q := fun S' => S' = sA) rfl)) kw_51 kw_21 kw_49 kw_50 rfl nd_X10_init rfl rfl (Nat.le_of_ble_eq_true rfl) dL_law_4 hs_1ne ⟨⟨Nat.le_of_ble_eq_true rfl, Nat.le_of_ble_eq_true rfl⟩, Nat.le_of_ble_eq_true rfl, Nat.le_of_ble_eq_true rfl⟩ (fun _ S1 hq => ?_) (fun _ _ hq => hq.elim)
  obtain ⟨rfl, rfl⟩ := hq
  refine wa_astore_n X (lv' := [(1, .inr (.inr (10, 1))), (0, .inr (.inr (101, 1)))]) dL_law_7 rfl (by decide) rfl ?_
  intro G H locs la a1 a2 a3 a4 a5 a6
  have w := law_8 (k := 0 + 1 + 57) (n := 0 + 6 + 891) X2 hE law_rk law_rn (G, G0 b) H locs la ⟨a1, hs_x.rf⟩ ⟨fun q => s.heap.size ≤ q ∧ q < H.size, fun _ => False, fun q z => z, fun q z => z.elim, fun q _ z => z, a2.dom, law_P hb1⟩ (fun v hv => by
    have h := a3 v hv
    rcases List.mem_cons.mp hv with rfl | hv
    · exact Or.inr (Or.inl ⟨by decide, h.resolve_left (by decide)⟩)
    · rcases List.mem_cons.mp hv with rfl | hv
      · exact Or.inr (Or.inl ⟨by decide, h.resolve_left (by decide)⟩)
      · cases hv) (fun v hv => by cases hv) a5 a6
  exact w
