theorem jnd_J15_checkIndex_7cf53 : yJ15_checkIndex_7cf53.cls ≠ "java/lang/invoke/MethodHandle" ∧ yJ15_checkIndex_7cf53.cls ≠ "java/lang/invoke/VarHandle" ∧ (parseMethodDescriptor yJ15_checkIndex_7cf53.desc).map (fun d => d.parameters.length) = some 2 := ⟨by decide +kernel, by decide +kernel, by decide +kernel⟩
theorem jnd_J3_checkIndex_8e157 : yJ3_checkIndex_8e157.cls ≠ "java/lang/invoke/MethodHandle" ∧ yJ3_checkIndex_8e157.cls ≠ "java/lang/invoke/VarHandle" ∧ (parseMethodDescriptor yJ3_checkIndex_8e157.desc).map (fun d => d.parameters.length) = some 3 := ⟨by decide +kernel, by decide +kernel, by decide +kernel⟩
theorem jnd_J7_copyOf_1904c : yJ7_copyOf_1904c.cls ≠ "java/lang/invoke/MethodHandle" ∧ yJ7_copyOf_1904c.cls ≠ "java/lang/invoke/VarHandle" ∧ (parseMethodDescriptor yJ7_copyOf_1904c.desc).map (fun d => d.parameters.length) = some 2 := ⟨by decide +kernel, by decide +kernel, by decide +kernel⟩
theorem jnd_J7_copyOf_6403c : yJ7_copyOf_6403c.cls ≠ "java/lang/invoke/MethodHandle" ∧ yJ7_copyOf_6403c.cls ≠ "java/lang/invoke/VarHandle" ∧ (parseMethodDescriptor yJ7_copyOf_6403c.desc).map (fun d => d.parameters.length) = some 3 := ⟨by decide +kernel, by decide +kernel, by decide +kernel⟩
theorem jnd_J8_newLength_cabcc : yJ8_newLength_cabcc.cls ≠ "java/lang/invoke/MethodHandle" ∧ yJ8_newLength_cabcc.cls ≠ "java/lang/invoke/VarHandle" ∧ (parseMethodDescriptor yJ8_newLength_cabcc.desc).map (fun d => d.parameters.length) = some 3 := ⟨by decide +kernel, by decide +kernel, by decide +kernel⟩
theorem jnd_Jx4a65c_add_72be8 : yJx4a65c_add_72be8.cls ≠ "java/lang/invoke/MethodHandle" ∧ yJx4a65c_add_72be8.cls ≠ "java/lang/invoke/VarHandle" ∧ (parseMethodDescriptor yJx4a65c_add_72be8.desc).map (fun d => d.parameters.length) = some 3 := ⟨by decide +kernel, by decide +kernel, by decide +kernel⟩
theorem jnd_Jx4a65c_elementData_915e3 : yJx4a65c_elementData_915e3.cls ≠ "java/lang/invoke/MethodHandle" ∧ yJx4a65c_elementData_915e3.cls ≠ "java/lang/invoke/VarHandle" ∧ (parseMethodDescriptor yJx4a65c_elementData_915e3.desc).map (fun d => d.parameters.length) = some 1 := ⟨by decide +kernel, by decide +kernel, by decide +kernel⟩
theorem jnd_Jx4a65c_grow_92f84 : yJx4a65c_grow_92f84.cls ≠ "java/lang/invoke/MethodHandle" ∧ yJx4a65c_grow_92f84.cls ≠ "java/lang/invoke/VarHandle" ∧ (parseMethodDescriptor yJx4a65c_grow_92f84.desc).map (fun d => d.parameters.length) = some 1 := ⟨by decide +kernel, by decide +kernel, by decide +kernel⟩
theorem jnd_Jx4a65c_grow_d5877 : yJx4a65c_grow_d5877.cls ≠ "java/lang/invoke/MethodHandle" ∧ yJx4a65c_grow_d5877.cls ≠ "java/lang/invoke/VarHandle" ∧ (parseMethodDescriptor yJx4a65c_grow_d5877.desc).map (fun d => d.parameters.length) = some 0 := ⟨by decide +kernel, by decide +kernel, by decide +kernel⟩
theorem jnd_Jxa1e45_init_da8c8 : yJxa1e45_init_da8c8.cls ≠ "java/lang/invoke/MethodHandle" ∧ yJxa1e45_init_da8c8.cls ≠ "java/lang/invoke/VarHandle" ∧ (parseMethodDescriptor yJxa1e45_init_da8c8.desc).map (fun d => d.parameters.length) = some 0 := ⟨by decide +kernel, by decide +kernel, by decide +kernel⟩
theorem jnd_Jxc12de_init_da8c8 : yJxc12de_init_da8c8.cls ≠ "java/lang/invoke/MethodHandle" ∧ yJxc12de_init_da8c8.cls ≠ "java/lang/invoke/VarHandle" ∧ (parseMethodDescriptor yJxc12de_init_da8c8.desc).map (fun d => d.parameters.length) = some 0 := ⟨by decide +kernel, by decide +kernel, by decide +kernel⟩
/-! ===== the JDK's list methods, over any cells ===== -/
abbrev jL (mo : Int32) (b : Nat) (sz : Int32) : va_E := .inr (12, [.int mo, .ref b, .int sz])
abbrev jA (DA : hs_DA) (n : Nat) (f : Nat → Option Nat) : va_E := .inl (DA.1 6, n, .inr (.inr (.inr (.inr f))))
theorem j_sl {ws : va_W} {x y : Nat × va_E} : (ws ++ [x]).set ws.length y = ws ++ [y] := by
  rw [List.set_append_right _ _ (Nat.le_refl _), Nat.sub_self]
  rfl
theorem j_lt {ws : va_W} {k : Nat} {x : Nat × va_E} (h : ws[k]? = some x) : k < ws.length := (List.getElem?_eq_some_iff.mp h).1
theorem j_ap {ws : va_W} {k : Nat} {x y : Nat × va_E} (h : ws[k]? = some x) : (ws ++ [y])[k]? = some x := by
  rw [List.getElem?_append_left (j_lt h)]
  exact h
theorem j_new {ws : va_W} {y : Nat × va_E} : (ws ++ [y])[ws.length]? = some y := by
  rw [List.getElem?_append_right (Nat.le_refl _), Nat.sub_self]
  rfl
theorem j_se {ws : va_W} {k : Nat} {x y : Nat × va_E} (h : ws[k]? = some x) : (ws.set k y)[k]? = some y := List.getElem?_set_self (j_lt h)
theorem j_ne {ws : va_W} {k j : Nat} {x : Nat × va_E} {y : Nat × va_E} (h : ws[k]? = some x) (hne : j ≠ k) : (ws.set j y)[k]? = some x := by
  rw [List.getElem?_set_ne hne]
  exact h
theorem j_ss {ws : va_W} {k : Nat} {x y : Nat × va_E} : (ws.set k x).set k y = ws.set k y := List.set_set _
theorem jp_in {i N : Nat} (h : i < N) (hN : N < 2147483648) : vp_in (nI i) N := nI_in h (by omega)
theorem jn_max {N : Nat} (h : 2 ≤ N) (hN : N ≤ 40000) : (if (1 : Int32) < nI (N / 2) then nI (N / 2) else 1) = nI (N / 2) := by
  by_cases c : 1 < N / 2
  · exact if_pos (nI_lt c (by omega))
  · have e : ¬ (1 : Int32) < nI (N / 2) := nI_nlt (a := 1) (b := N / 2) (by omega) (by decide)
    rw [if_neg e]
    have hd : N / 2 = 1 := by omega
    rw [hd]
    rfl
theorem jn_sub {N : Nat} : nI (N + 1) - nI N = 1 := by
  rw [pk_sub (a := N + 1) (b := N) (by omega), Nat.add_sub_cancel_left]
  rfl
theorem jn_shr {N : Nat} (hN : N ≤ 40000) : nI N >>> ((1 : Int32) &&& 31) = nI (N / 2) := by
  have k := pk_shrN (n := N) (by omega) ((1 : Int32) &&& 31) 1 (by decide)
  rw [Nat.pow_one] at k
  exact k
set_option maxRecDepth 100000 in
theorem jm_size {D : va_G} {DA : hs_DA} {n0 : Nat → Prop} {mi : Nat} {ws : va_W} {qL a b : Nat} {mo sz : Int32} (hL : ws[qL]? = some (a, jL mo b sz)) : j_M D DA n0 mi 1 yJx4a65c_size_8abf5 (.code yJx4a65c_size_8abf5 cJx4a65c_size_8abf5 1 (some FieldType.int)) [.ref a] ws 0 0 (fun v ws' => v = some (.int sz) ∧ ws' = ws) := by
  refine j_body (own := RJx4a65c) (by decide +kernel) rfl (Nat.le_of_ble_eq_true rfl) (fun Z X E => ?_)
  show ja D DA n0 Z 0 0 ws 0 [(0, .ref a)] []
  refine ja_aload_n X 0 rfl dJx4a65c_size_8abf5_0 rfl ?_
  refine ja_get X (j := 2) hL (by decide) jk_93 (Or.inl rfl) rfl dJx4a65c_size_8abf5_1 ?_
  exact ja_ireturn X E dJx4a65c_size_8abf5_4 (Nat.le_refl _) (Nat.le_refl _) (Or.inl rfl) ⟨rfl, rfl⟩
set_option maxRecDepth 100000 in
theorem jm_pre {D : va_G} {DA : hs_DA} {n0 : Nat → Prop} {mi : Nat} {ws : va_W} {i N : Int32} (h0 : ¬ i < 0) (h1 : i < N) : j_M D DA n0 mi 1 yJ3_checkIndex_8e157 (.code yJ3_checkIndex_8e157 cJ3_checkIndex_8e157 3 (some FieldType.int)) [.int i, .int N, .null] ws 0 0 (fun v ws' => v = some (.int i) ∧ ws' = ws) := by
  refine j_body (own := RJ3) (by decide +kernel) rfl (Nat.le_of_ble_eq_true rfl) (fun Z X E => ?_)
  show ja D DA n0 Z 0 0 ws 0 [(0, .int i), (1, .int N), (2, .null)] []
  refine ja_iload_n X 0 rfl dJ3_checkIndex_8e157_0 rfl ?_
  refine ja_if_lt X (tgt := 9) dJ3_checkIndex_8e157_1 (by decide) (fun c => absurd c h0) (fun _ => ?_)
  refine ja_iload_n X 0 rfl dJ3_checkIndex_8e157_4 rfl ?_
  refine ja_iload_n X 1 rfl dJ3_checkIndex_8e157_5 rfl ?_
  refine ja_icmp_lt X (tgt := 16) dJ3_checkIndex_8e157_6 (by decide) (fun _ => ?_) (fun c => absurd h1 c)
  refine ja_iload_n X 0 rfl dJ3_checkIndex_8e157_16 rfl ?_
  exact ja_ireturn X E dJ3_checkIndex_8e157_17 (Nat.le_refl _) (Nat.le_refl _) (Or.inl rfl) ⟨rfl, rfl⟩
set_option maxRecDepth 100000 in
theorem jm_obj {D : va_G} {DA : hs_DA} {n0 : Nat → Prop} {mi : Nat} {ws : va_W} {i N : Int32} (h0 : ¬ i < 0) (h1 : i < N) : j_M D DA n0 mi 2 yJ15_checkIndex_7cf53 (.code yJ15_checkIndex_7cf53 cJ15_checkIndex_7cf53 2 (some FieldType.int)) [.int i, .int N] ws 0 0 (fun v ws' => v = some (.int i) ∧ ws' = ws) := by
  refine j_body (own := RJ15) (by decide +kernel) rfl (Nat.le_of_ble_eq_true rfl) (fun Z X E => ?_)
  show ja D DA n0 Z 0 0 ws 0 [(0, .int i), (1, .int N)] []
  refine ja_iload_n X 0 rfl dJ15_checkIndex_7cf53_0 rfl ?_
  refine ja_iload_n X 1 rfl dJ15_checkIndex_7cf53_1 rfl ?_
  refine ja_null X dJ15_checkIndex_7cf53_2 ?_
  refine ja_callS X (As := [.int i, .int N, .null]) (st := []) (jm_pre h0 h1) jk_453 jk_38 jk_451 jk_452 jnd_J3_checkIndex_8e157 rfl rfl (Nat.le_of_ble_eq_true rfl) dJ15_checkIndex_7cf53_3 ⟨⟨Nat.le_of_ble_eq_true rfl, Nat.le_of_ble_eq_true rfl⟩, Nat.le_of_ble_eq_true rfl, Nat.le_of_ble_eq_true rfl⟩ (fun v ws1 hq => ?_)
  obtain ⟨rfl, rfl⟩ := hq
  exact ja_ireturn X E dJ15_checkIndex_7cf53_6 (Nat.le_refl _) (Nat.le_refl _) (Or.inl rfl) ⟨rfl, rfl⟩
set_option maxRecDepth 100000 in
theorem jm_elem {D : va_G} {DA : hs_DA} {n0 : Nat → Prop} {mi : Nat} {ws : va_W} {qL a b : Nat} {mo sz : Int32} (hL : ws[qL]? = some (a, jL mo b sz)) {qA cap : Nat} {f : Nat → Option Nat} (hA : ws[qA]? = some (b, jA DA cap f)) {i : Int32} {v : Nat} (hi : vp_in i cap) (hv : f i.toNatClampNeg = some v) : j_M D DA n0 mi 1 yJx4a65c_elementData_915e3 (.code yJx4a65c_elementData_915e3 cJx4a65c_elementData_915e3 2 (some (FieldType.object "java/lang/Object"))) [.ref a, .int i] ws 0 0 (fun r ws' => r = some (.ref v) ∧ ws' = ws) := by
  refine j_body (own := RJx4a65c) (by decide +kernel) rfl (Nat.le_of_ble_eq_true rfl) (fun Z X E => ?_)
  show ja D DA n0 Z 0 0 ws 0 [(0, .ref a), (1, .int i)] []
  refine ja_aload_n X 0 rfl dJx4a65c_elementData_915e3_0 rfl ?_
  refine ja_get X (j := 1) hL (by decide) jk_92 (Or.inl rfl) rfl dJx4a65c_elementData_915e3_1 ?_
  refine ja_iload_n X 1 rfl dJx4a65c_elementData_915e3_4 rfl ?_
  refine ja_aald X hA hi hv dJx4a65c_elementData_915e3_5 ?_
  exact ja_areturn X E (Or.inl ⟨_, rfl⟩) dJx4a65c_elementData_915e3_6 (Nat.le_refl _) (Nat.le_refl _) ⟨rfl, rfl⟩
set_option maxRecDepth 100000 in
theorem jm_get {D : va_G} {DA : hs_DA} {n0 : Nat → Prop} {mi : Nat} {ws : va_W} {qL a b : Nat} {mo sz : Int32} (hL : ws[qL]? = some (a, jL mo b sz)) {qA cap : Nat} {f : Nat → Option Nat} (hA : ws[qA]? = some (b, jA DA cap f)) {i : Int32} {v : Nat} (hi : vp_in i cap) (hv : f i.toNatClampNeg = some v) (h0 : ¬ i < 0) (h1 : i < sz) : j_M D DA n0 mi 3 yJx4a65c_get_915e3 (.code yJx4a65c_get_915e3 cJx4a65c_get_915e3 2 (some (FieldType.object "java/lang/Object"))) [.ref a, .int i] ws 0 0 (fun r ws' => r = some (.ref v) ∧ ws' = ws) := by
  refine j_body (own := RJx4a65c) (by decide +kernel) rfl (Nat.le_of_ble_eq_true rfl) (fun Z X E => ?_)
  show ja D DA n0 Z 0 0 ws 0 [(0, .ref a), (1, .int i)] []
  refine ja_iload_n X 1 rfl dJx4a65c_get_915e3_0 rfl ?_
  refine ja_aload_n X 0 rfl dJx4a65c_get_915e3_1 rfl ?_
  refine ja_get X (j := 2) hL (by decide) jk_93 (Or.inl rfl) rfl dJx4a65c_get_915e3_2 ?_
  refine ja_callS X (As := [.int i, .int sz]) (st := []) (jm_obj h0 h1) jk_450 jk_37 jk_448 jk_449 jnd_J15_checkIndex_7cf53 rfl rfl (Nat.le_of_ble_eq_true rfl) dJx4a65c_get_915e3_5 ⟨⟨Nat.le_of_ble_eq_true rfl, Nat.le_of_ble_eq_true rfl⟩, Nat.le_of_ble_eq_true rfl, Nat.le_of_ble_eq_true rfl⟩ (fun r ws1 hq => ?_)
  obtain ⟨rfl, rfl⟩ := hq
  refine ja_pop X dJx4a65c_get_915e3_8 rfl ?_
  refine ja_aload_n X 0 rfl dJx4a65c_get_915e3_9 rfl ?_
  refine ja_iload_n X 1 rfl dJx4a65c_get_915e3_10 rfl ?_
  refine ja_callV X (As := [.int i]) (st := []) (jm_elem hL hA hi hv) hL rfl jk_457 jk_26 jk_454 jk_455 jk_456 jnd_Jx4a65c_elementData_915e3 rfl rfl (Nat.le_of_ble_eq_true rfl) dJx4a65c_get_915e3_11 ⟨⟨Nat.le_of_ble_eq_true rfl, Nat.le_of_ble_eq_true rfl⟩, Nat.le_of_ble_eq_true rfl, Nat.le_of_ble_eq_true rfl⟩ (fun r ws1 hq => ?_)
  obtain ⟨rfl, rfl⟩ := hq
  exact ja_areturn X E (Or.inl ⟨_, rfl⟩) dJx4a65c_get_915e3_14 (Nat.le_refl _) (Nat.le_refl _) ⟨rfl, rfl⟩
set_option maxRecDepth 100000 in
theorem jm_newLen {D : va_G} {DA : hs_DA} {n0 : Nat → Prop} {mi : Nat} {ws : va_W} {N : Nat} (h2 : 2 ≤ N) (hN : N ≤ 40000) : j_M D DA n0 mi 1 yJ8_newLength_cabcc (.code yJ8_newLength_cabcc cJ8_newLength_cabcc 4 (some FieldType.int)) [.int (nI N), .int 1, .int (nI (N / 2))] ws 0 0 (fun v ws' => v = some (.int (nI (N + N / 2))) ∧ ws' = ws) := by
  refine j_body (own := RJ8) (by decide +kernel) rfl (Nat.le_of_ble_eq_true rfl) (fun Z X E => ?_)
  show ja D DA n0 Z 0 0 ws 0 [(0, .int (nI N)), (1, .int 1), (2, .int (nI (N / 2)))] []
  refine ja_iload_n X 0 rfl dJ8_newLength_cabcc_0 rfl ?_
  refine ja_iload_n X 1 rfl dJ8_newLength_cabcc_1 rfl ?_
  refine ja_iload_n X 2 rfl dJ8_newLength_cabcc_2 rfl ?_
  refine ja_mmax X jk_669 jk_607 jk_39 jk_608 (Nat.le_of_ble_eq_true rfl) dJ8_newLength_cabcc_3 ⟨⟨Nat.le_of_ble_eq_true rfl, Nat.le_of_ble_eq_true rfl⟩, Nat.le_of_ble_eq_true rfl, Nat.le_of_ble_eq_true rfl⟩ ?_
  rw [jn_max h2 hN]
  refine ja_iadd X dJ8_newLength_cabcc_6 ?_
  rw [nI_add]
  refine ja_istore_n X (lv' := [(3, .int (nI (N + N / 2))), (0, .int (nI N)), (1, .int 1), (2, .int (nI (N / 2)))]) dJ8_newLength_cabcc_7 rfl (by decide) rfl ?_
  refine ja_iconst X (v := 0) dJ8_newLength_cabcc_8 (by decide) ?_
  refine ja_iload_n X 0 rfl dJ8_newLength_cabcc_9 rfl ?_
  refine ja_icmp_ge X (tgt := 21) dJ8_newLength_cabcc_10 (by decide) (fun c => absurd c (nI_nle (by omega) (by omega))) (fun _ => ?_)
  refine ja_iload_n X 0 rfl dJ8_newLength_cabcc_13 rfl ?_
  refine ja_ldc X jk_670 dJ8_newLength_cabcc_14 ?_
  refine ja_icmp_gt X (tgt := 21) dJ8_newLength_cabcc_16 (by decide) (fun c => absurd c (show ¬ nI 2147483639 < nI (N + N / 2) from nI_nlt (by omega) (by decide))) (fun _ => ?_)
  refine ja_iload_n X 0 rfl dJ8_newLength_cabcc_19 rfl ?_
  exact ja_ireturn X E dJ8_newLength_cabcc_20 (Nat.le_refl _) (Nat.le_refl _) (Or.inl rfl) ⟨rfl, rfl⟩
set_option maxRecDepth 100000 in
theorem jm_copy3 {D : va_G} {DA : hs_DA} {n0 : Nat → Prop} {mi : Nat} {ws : va_W} {ci mS N N2 b qA : Nat} {f : Nat → Option Nat} {rc : vw_C} (hA : ws[qA]? = some (b, jA DA N f)) (hNN : N ≤ N2) (hN2 : N2 ≤ 60000) (hS : N2 ≤ mS) (hc : hs_cl0[ci]? = some rc) (hca : Cond.castable rc.1 "java/lang/Object" ∈ hs_ws) (hel : ∀ (i y : Nat), i < N → f i = some y → ∃ (qk : Nat) (vs : List Value), ws[qk]? = some (y, .inr (ci, vs))) : j_M D DA n0 mi 2 yJ7_copyOf_6403c (.code yJ7_copyOf_6403c cJ7_copyOf_6403c 4 (some (FieldType.array (FieldType.object "java/lang/Object")))) [.ref b, .int (nI N2), .ref mi] ws 1 mS (fun v ws' => ∃ q, v = some (.ref q) ∧ ws' = ws ++ [(q, jA DA N2 (va_cpy f (fun _ => none) 0 0 N))]) := by
  refine j_body (own := RJ7) (by decide +kernel) rfl (Nat.le_of_ble_eq_true rfl) (fun Z X E => ?_)
  show ja D DA n0 Z 0 0 ws 0 [(0, .ref b), (1, .int (nI N2)), (2, .ref mi)] []
  refine ja_aload_n X 2 rfl dJ7_copyOf_6403c_0 rfl ?_
  refine ja_ldcM X jk_699 dJ7_copyOf_6403c_1 ?_
  refine ja_acmp_ne X (tgt := 13) dJ7_copyOf_6403c_3 (by decide) (fun c => absurd rfl c) (fun _ => ?_)
  refine ja_iload_n X 1 rfl dJ7_copyOf_6403c_6 rfl ?_
  refine ja_newq X (N := N2) jk_701 (nI_pos (by omega)) (nI_clamp (by omega)) (by omega) dJ7_copyOf_6403c_7 ⟨Nat.le_of_ble_eq_true rfl, by show 0 + N2 ≤ mS; omega⟩ (fun q => ?_)
  refine ja_goto X (tgt := 24) dJ7_copyOf_6403c_10 (by decide) ?_
  refine ja_astore_n X (lv' := [(3, .ref q), (0, .ref b), (1, .int (nI N2)), (2, .ref mi)]) dJ7_copyOf_6403c_24 rfl (by decide) rfl ?_
  refine ja_aload_n X 1 rfl dJ7_copyOf_6403c_25 rfl ?_
  refine ja_iconst X (v := 0) dJ7_copyOf_6403c_26 (by decide) ?_
  refine ja_aload_n X 0 rfl dJ7_copyOf_6403c_27 rfl ?_
  refine ja_iconst X (v := 0) dJ7_copyOf_6403c_28 (by decide) ?_
  refine ja_aload_n X 1 rfl dJ7_copyOf_6403c_29 rfl ?_
  refine ja_alen X (j_ap hA) dJ7_copyOf_6403c_30 ?_
  refine ja_iload_n X 2 rfl dJ7_copyOf_6403c_31 rfl ?_
  refine ja_mmin X jk_702 jk_703 jk_39 jk_704 (Nat.le_of_ble_eq_true rfl) dJ7_copyOf_6403c_32 ⟨⟨Nat.le_of_ble_eq_true rfl, Nat.le_of_ble_eq_true rfl⟩, Nat.le_of_ble_eq_true rfl, by show 0 + N2 ≤ mS; omega⟩ ?_
  rw [if_neg (nI_nlt hNN (by omega))]
  refine ja_copy X (N := N) (j_ap hA) j_new hc hca (fun i y h1 h2 => ?_) (Nat.le_refl _) hNN (by omega) jk_705 dJ7_copyOf_6403c_35 ⟨Nat.le_of_ble_eq_true rfl, Nat.le_of_ble_eq_true rfl⟩ ?_
  · obtain ⟨qk, vs, hk⟩ := hel i y h1 h2
    exact ⟨qk, vs, j_ap hk⟩
  rw [j_sl]
  refine ja_aload_n X 0 rfl dJ7_copyOf_6403c_38 rfl ?_
  exact ja_areturn X E (Or.inr ⟨_, rfl⟩) dJ7_copyOf_6403c_39 (Nat.le_refl _) (by omega) ⟨q, rfl, rfl⟩
set_option maxRecDepth 100000 in
theorem jm_copy2 {D : va_G} {DA : hs_DA} {n0 : Nat → Prop} {mi : Nat} {ws : va_W} {ci mS N N2 b qA : Nat} {f : Nat → Option Nat} {rc : vw_C} (hA : ws[qA]? = some (b, jA DA N f)) (hNN : N ≤ N2) (hN2 : N2 ≤ 60000) (hS : N2 ≤ mS) (hc : hs_cl0[ci]? = some rc) (hca : Cond.castable rc.1 "java/lang/Object" ∈ hs_ws) (hel : ∀ (i y : Nat), i < N → f i = some y → ∃ (qk : Nat) (vs : List Value), ws[qk]? = some (y, .inr (ci, vs))) : j_M D DA n0 mi 3 yJ7_copyOf_1904c (.code yJ7_copyOf_1904c cJ7_copyOf_1904c 2 (some (FieldType.array (FieldType.object "java/lang/Object")))) [.ref b, .int (nI N2)] ws 1 mS (fun v ws' => ∃ q, v = some (.ref q) ∧ ws' = ws ++ [(q, jA DA N2 (va_cpy f (fun _ => none) 0 0 N))]) := by
  refine j_body (own := RJ7) (by decide +kernel) rfl (Nat.le_of_ble_eq_true rfl) (fun Z X E => ?_)
  show ja D DA n0 Z 0 0 ws 0 [(0, .ref b), (1, .int (nI N2))] []
  refine ja_aload_n X 0 rfl dJ7_copyOf_1904c_0 rfl ?_
  refine ja_iload_n X 1 rfl dJ7_copyOf_1904c_1 rfl ?_
  refine ja_aload_n X 0 rfl dJ7_copyOf_1904c_2 rfl ?_
  refine ja_getC X hA jk_677 dJ7_copyOf_1904c_3 ⟨Nat.le_of_ble_eq_true rfl, Nat.le_of_ble_eq_true rfl⟩ ?_
  refine ja_callS X (As := [.ref b, .int (nI N2), .ref mi]) (st := []) (jm_copy3 hA hNN hN2 hS hc hca hel) jk_698 jk_44 jk_696 jk_697 jnd_J7_copyOf_6403c rfl rfl (Nat.le_of_ble_eq_true rfl) dJ7_copyOf_1904c_6 ⟨⟨Nat.le_of_ble_eq_true rfl, Nat.le_of_ble_eq_true rfl⟩, Nat.le_of_ble_eq_true rfl, Nat.le_of_eq (Nat.zero_add _)⟩ (fun v ws1 hq => ?_)
  obtain ⟨q, rfl, rfl⟩ := hq
  exact ja_areturn X E (Or.inr ⟨_, rfl⟩) dJ7_copyOf_1904c_9 (Nat.le_refl _) (Nat.le_of_eq (Nat.zero_add _)) ⟨q, rfl, rfl⟩
set_option maxRecDepth 100000 in
theorem jm_grow1 {D : va_G} {DA : hs_DA} {n0 : Nat → Prop} {mi : Nat} {ws : va_W} {qL a : Nat} {mo : Int32} {ci mS N b qA : Nat} {f : Nat → Option Nat} {rc : vw_C} (hL : ws[qL]? = some (a, jL mo b (nI N))) (hA : ws[qA]? = some (b, jA DA N f)) (h2 : 2 ≤ N) (hN : N ≤ 40000) (hS : N + N / 2 ≤ mS) (hc : hs_cl0[ci]? = some rc) (hca : Cond.castable rc.1 "java/lang/Object" ∈ hs_ws) (hel : ∀ (i y : Nat), i < N → f i = some y → ∃ (qk : Nat) (vs : List Value), ws[qk]? = some (y, .inr (ci, vs))) : j_M D DA n0 mi 4 yJx4a65c_grow_92f84 (.code yJx4a65c_grow_92f84 cJx4a65c_grow_92f84 4 (some (FieldType.array (FieldType.object "java/lang/Object")))) [.ref a, .int (nI N + 1)] ws 1 mS (fun v ws' => ∃ q, v = some (.ref q) ∧ ws' = (ws ++ [(q, jA DA (N + N / 2) (va_cpy f (fun _ => none) 0 0 N))]).set qL (a, jL mo q (nI N))) := by
  refine j_body (own := RJx4a65c) (by decide +kernel) rfl (Nat.le_of_ble_eq_true rfl) (fun Z X E => ?_)
  show ja D DA n0 Z 0 0 ws 0 [(0, .ref a), (1, .int (nI N + 1))] []
  refine ja_aload_n X 0 rfl dJx4a65c_grow_92f84_0 rfl ?_
  refine ja_get X (j := 1) hL (by decide) jk_92 (Or.inl rfl) rfl dJx4a65c_grow_92f84_1 ?_
  refine ja_alen X hA dJx4a65c_grow_92f84_4 ?_
  refine ja_istore_n X (lv' := [(2, .int (nI N)), (0, .ref a), (1, .int (nI N + 1))]) dJx4a65c_grow_92f84_5 rfl (by decide) rfl ?_
  refine ja_iload_n X 0 rfl dJx4a65c_grow_92f84_6 rfl ?_
  refine ja_if_gt X (tgt := 20) dJx4a65c_grow_92f84_7 (by decide) (fun _ => ?_) (fun c => absurd (show nI 0 < nI N from nI_lt (by omega) (by omega)) c)
  refine ja_iload_n X 0 rfl dJx4a65c_grow_92f84_20 rfl ?_
  refine ja_iload_n X 2 rfl dJx4a65c_grow_92f84_21 rfl ?_
  refine ja_iload_n X 0 rfl dJx4a65c_grow_92f84_22 rfl ?_
  refine ja_isub X dJx4a65c_grow_92f84_23 ?_
  rw [← nI_succ, jn_sub]
  refine ja_iload_n X 0 rfl dJx4a65c_grow_92f84_24 rfl ?_
  refine ja_iconst X (v := 1) dJx4a65c_grow_92f84_25 (by decide) ?_
  refine ja_ishr X dJx4a65c_grow_92f84_26 ?_
  rw [jn_shr hN]
  refine ja_callS X (As := [.int (nI N), .int 1, .int (nI (N / 2))]) (st := []) (jm_newLen h2 hN) jk_668 jk_43 jk_666 jk_667 jnd_J8_newLength_cabcc rfl rfl (Nat.le_of_ble_eq_true rfl) dJx4a65c_grow_92f84_27 ⟨⟨Nat.le_of_ble_eq_true rfl, Nat.le_of_ble_eq_true rfl⟩, Nat.le_of_ble_eq_true rfl, Nat.zero_le _⟩ (fun v ws1 hq => ?_)
  obtain ⟨rfl, rfl⟩ := hq
  refine ja_istore_n X (lv' := [(3, .int (nI (N + N / 2))), (2, .int (nI N)), (0, .ref a), (1, .int (nI (N + 1)))]) dJx4a65c_grow_92f84_30 rfl (by decide) rfl ?_
  refine ja_aload_n X 2 rfl dJx4a65c_grow_92f84_31 rfl ?_
  refine ja_aload_n X 2 rfl dJx4a65c_grow_92f84_32 rfl ?_
  refine ja_get X (j := 1) hL (by decide) jk_92 (Or.inl rfl) rfl dJx4a65c_grow_92f84_33 ?_
  refine ja_iload_n X 0 rfl dJx4a65c_grow_92f84_36 rfl ?_
  refine ja_callS X (As := [.ref b, .int (nI (N + N / 2))]) (st := [.ref a]) (jm_copy2 hA (Nat.le_add_right _ _) (by omega) hS hc hca hel) jk_676 jk_44 jk_674 jk_675 jnd_J7_copyOf_1904c rfl rfl (Nat.le_of_ble_eq_true rfl) dJx4a65c_grow_92f84_37 ⟨⟨Nat.le_of_ble_eq_true rfl, Nat.le_of_ble_eq_true rfl⟩, Nat.le_of_ble_eq_true rfl, Nat.le_of_eq (Nat.zero_add _)⟩ (fun v ws1 hq => ?_)
  obtain ⟨q, rfl, rfl⟩ := hq
  refine ja_dup_x1 X dJx4a65c_grow_92f84_40 rfl rfl ?_
  refine ja_put X (j := 1) (ty := .array (.object "java/lang/Object")) (j_ap hL) (by decide) jk_92 (Or.inl rfl) rfl (by decide +kernel) rfl rfl rfl dJx4a65c_grow_92f84_41 ?_
  exact ja_areturn X E (Or.inr ⟨_, rfl⟩) dJx4a65c_grow_92f84_44 (Nat.le_refl _) (Nat.le_of_eq (Nat.zero_add _)) ⟨q, rfl, rfl⟩
set_option maxRecDepth 100000 in
theorem jm_grow0 {D : va_G} {DA : hs_DA} {n0 : Nat → Prop} {mi : Nat} {ws : va_W} {qL a mS : Nat} {mo : Int32} (hL : ws[qL]? = some (a, jL mo DA.2.1 (nI 0))) (hS : 10 ≤ mS) : j_M D DA n0 mi 4 yJx4a65c_grow_92f84 (.code yJx4a65c_grow_92f84 cJx4a65c_grow_92f84 4 (some (FieldType.array (FieldType.object "java/lang/Object")))) [.ref a, .int (nI 0 + 1)] ws 1 mS (fun v ws' => ∃ q, v = some (.ref q) ∧ ws' = (ws ++ [(q, jA DA 10 (fun _ => none))]).set qL (a, jL mo q (nI 0))) := by
  refine j_body (own := RJx4a65c) (by decide +kernel) rfl (Nat.le_of_ble_eq_true rfl) (fun Z X E => ?_)
  show ja D DA n0 Z 0 0 ws 0 [(0, .ref a), (1, .int (nI 0 + 1))] []
  refine ja_aload_n X 0 rfl dJx4a65c_grow_92f84_0 rfl ?_
  refine ja_get X (j := 1) hL (by decide) jk_92 (Or.inl rfl) rfl dJx4a65c_grow_92f84_1 ?_
  refine ja_alen0 X dJx4a65c_grow_92f84_4 ?_
  refine ja_istore_n X (lv' := [(2, .int 0), (0, .ref a), (1, .int (nI 0 + 1))]) dJx4a65c_grow_92f84_5 rfl (by decide) rfl ?_
  refine ja_iload_n X 0 rfl dJx4a65c_grow_92f84_6 rfl ?_
  refine ja_if_gt X (tgt := 20) dJx4a65c_grow_92f84_7 (by decide) (fun c => absurd c (by decide)) (fun _ => ?_)
  refine ja_aload_n X 1 rfl dJx4a65c_grow_92f84_10 rfl ?_
  refine ja_get X (j := 1) hL (by decide) jk_92 (Or.inl rfl) rfl dJx4a65c_grow_92f84_11 ?_
  refine ja_dcee X jk_90 dJx4a65c_grow_92f84_14 ?_
  refine ja_acmp_eq X (tgt := 45) dJx4a65c_grow_92f84_17 (by decide) (fun _ => ?_) (fun c => absurd rfl c)
  refine ja_aload_n X 1 rfl dJx4a65c_grow_92f84_45 rfl ?_
  refine ja_bipush X (v := 10) dJx4a65c_grow_92f84_46 (by decide) ?_
  refine ja_iload_n X 2 rfl dJx4a65c_grow_92f84_48 rfl ?_
  refine ja_mmax X jk_708 jk_607 jk_39 jk_608 (Nat.le_of_ble_eq_true rfl) dJx4a65c_grow_92f84_49 ⟨⟨Nat.le_of_ble_eq_true rfl, Nat.le_of_ble_eq_true rfl⟩, Nat.le_of_ble_eq_true rfl, Nat.zero_le _⟩ ?_
  refine ja_newq X (N := 10) jk_709 (by decide) (by decide) (by decide) dJx4a65c_grow_92f84_52 ⟨Nat.le_of_ble_eq_true rfl, by show 0 + 10 ≤ mS; omega⟩ (fun q => ?_)
  refine ja_dup_x1 X dJx4a65c_grow_92f84_55 rfl rfl ?_
  refine ja_put X (j := 1) (ty := .array (.object "java/lang/Object")) (j_ap hL) (by decide) jk_92 (Or.inl rfl) rfl (by decide +kernel) rfl rfl rfl dJx4a65c_grow_92f84_56 ?_
  exact ja_areturn X E (Or.inr ⟨_, rfl⟩) dJx4a65c_grow_92f84_59 (Nat.le_refl _) (by omega) ⟨q, rfl, rfl⟩
set_option maxRecDepth 100000 in
theorem jm_growU {D : va_G} {DA : hs_DA} {n0 : Nat → Prop} {mi : Nat} {ws : va_W} {qL a b : Nat} {mo sz : Int32} (hL : ws[qL]? = some (a, jL mo b sz)) {mS : Nat} {Post : Option Value → va_W → Prop} (hM : j_M D DA n0 mi 4 yJx4a65c_grow_92f84 (.code yJx4a65c_grow_92f84 cJx4a65c_grow_92f84 4 (some (FieldType.array (FieldType.object "java/lang/Object")))) [.ref a, .int (sz + 1)] ws 1 mS Post) (hP : ∀ v w, Post v w → ∃ q, v = some (.ref q)) : j_M D DA n0 mi 5 yJx4a65c_grow_d5877 (.code yJx4a65c_grow_d5877 cJx4a65c_grow_d5877 1 (some (FieldType.array (FieldType.object "java/lang/Object")))) [.ref a] ws 1 mS Post := by
  refine j_body (own := RJx4a65c) (by decide +kernel) rfl (Nat.le_of_ble_eq_true rfl) (fun Z X E => ?_)
  show ja D DA n0 Z 0 0 ws 0 [(0, .ref a)] []
  refine ja_aload_n X 0 rfl dJx4a65c_grow_d5877_0 rfl ?_
  refine ja_aload_n X 0 rfl dJx4a65c_grow_d5877_1 rfl ?_
  refine ja_get X (j := 2) hL (by decide) jk_93 (Or.inl rfl) rfl dJx4a65c_grow_d5877_2 ?_
  refine ja_iconst X (v := 1) dJx4a65c_grow_d5877_5 (by decide) ?_
  refine ja_iadd X dJx4a65c_grow_d5877_6 ?_
  refine ja_callV X (As := [.int (sz + 1)]) (st := []) hM hL rfl jk_665 jk_26 jk_662 jk_664 jk_5 jnd_Jx4a65c_grow_92f84 rfl rfl (Nat.le_of_ble_eq_true rfl) dJx4a65c_grow_d5877_7 ⟨⟨Nat.le_of_ble_eq_true rfl, Nat.le_of_ble_eq_true rfl⟩, Nat.le_of_ble_eq_true rfl, Nat.le_of_eq (Nat.zero_add _)⟩ (fun v ws1 hq => ?_)
  obtain ⟨q, rfl⟩ := hP v ws1 hq
  exact ja_areturn X E (Or.inr ⟨_, rfl⟩) dJx4a65c_grow_d5877_10 (Nat.le_refl _) (Nat.le_of_eq (Nat.zero_add _)) hq
theorem j_qk {ws : va_W} {qL a b qk v ci : Nat} {mo sz : Int32} {vs : List Value} (hL : ws[qL]? = some (a, jL mo b sz)) (hV : ws[qk]? = some (v, .inr (ci, vs))) (h12 : ci ≠ 12) : qL ≠ qk := by
  rintro rfl
  rw [hL] at hV
  cases hV
  exact h12 rfl
theorem j_qA {ws : va_W} {DA : hs_DA} {qL a b qA b2 cap : Nat} {f : Nat → Option Nat} {mo sz : Int32} (hL : ws[qL]? = some (a, jL mo b sz)) (hA : ws[qA]? = some (b2, jA DA cap f)) : qL ≠ qA := by
  rintro rfl
  rw [hL] at hA
  cases hA
set_option maxRecDepth 100000 in
theorem jm_helpA {D : va_G} {DA : hs_DA} {n0 : Nat → Prop} {mi : Nat} {ws : va_W} {qL a b sN : Nat} {mo : Int32} (hL : ws[qL]? = some (a, jL mo b (nI sN))) {qA cap : Nat} {f : Nat → Option Nat} (hA : ws[qA]? = some (b, jA DA cap f)) (hs : sN < cap) (hcp : cap ≤ 60000) {mS : Nat} {qk v ci : Nat} {vs : List Value} {rc : vw_C} (hV : ws[qk]? = some (v, .inr (ci, vs))) (hc : hs_cl0[ci]? = some rc) (h12 : ci ≠ 12) (hca : Cond.castable rc.1 "java/lang/Object" ∈ hs_ws) : j_M D DA n0 mi 6 yJx4a65c_add_72be8 (.code yJx4a65c_add_72be8 cJx4a65c_add_72be8 4 none) [.ref a, .ref v, .ref b, .int (nI sN)] ws 1 mS (fun r ws' => r = none ∧ ws' = (ws.set qA (b, jA DA cap (va_up f sN (some v)))).set qL (a, jL mo b (nI (sN + 1)))) := by
  refine j_body (own := RJx4a65c) (by decide +kernel) rfl (Nat.le_of_ble_eq_true rfl) (fun Z X E => ?_)
  show ja D DA n0 Z 0 0 ws 0 [(0, .ref a), (1, .ref v), (2, .ref b), (3, .int (nI sN))] []
  refine ja_iload_n X 3 rfl dJx4a65c_add_72be8_0 rfl ?_
  refine ja_aload_n X 2 rfl dJx4a65c_add_72be8_1 rfl ?_
  refine ja_alen X hA dJx4a65c_add_72be8_2 ?_
  refine ja_icmp_ne X (tgt := 11) dJx4a65c_add_72be8_3 (by decide) (fun _ => ?_) (fun c => absurd ((nI_eq (by omega) (by omega)).mp c) (by omega))
  refine ja_aload_n X 2 rfl dJx4a65c_add_72be8_11 rfl ?_
  refine ja_iload_n X 3 rfl dJx4a65c_add_72be8_12 rfl ?_
  refine ja_aload_n X 1 rfl dJx4a65c_add_72be8_13 rfl ?_
  refine ja_aast X hA (jp_in hs (by omega)) hV hc hca dJx4a65c_add_72be8_14 ?_
  rw [nI_clamp (by omega)]
  refine ja_aload_n X 0 rfl dJx4a65c_add_72be8_15 rfl ?_
  refine ja_iload_n X 3 rfl dJx4a65c_add_72be8_16 rfl ?_
  refine ja_iconst X (v := 1) dJx4a65c_add_72be8_17 (by decide) ?_
  refine ja_iadd X dJx4a65c_add_72be8_18 ?_
  rw [← nI_succ]
  refine ja_put X (j := 2) (ty := .int) (j_ne hL (j_qA hL hA).symm) (by decide) jk_93 (Or.inl rfl) rfl (by decide +kernel) rfl rfl rfl dJx4a65c_add_72be8_19 ?_
  exact ja_return X E dJx4a65c_add_72be8_22 (Nat.zero_le _) (Nat.zero_le _) ⟨rfl, rfl⟩
theorem ja_alenB {D : va_G} {DA : hs_DA} {n0 : Nat → Prop} {mi : Nat} {Z : j_Z} {own : String} {cc : ByteArray} {nL : Nat} {R0 : Room} {k n : Nat} {ws : va_W} {pc : Nat} {lv : List (Nat × Value)} {st : List Value} (X : j_C D DA n0 mi Z own cc nL R0) {b sN : Nat} (hB : (b = DA.2.1 ∧ sN = 0) ∨ ∃ (qA : Nat) (f : Nat → Option Nat), ws[qA]? = some (b, jA DA sN f)) (hd : decode cc pc = .ok (.arraylength, 1)) (kk : ja D DA n0 Z k n ws (pc + 1) lv (.int (nI sN) :: st)) : ja D DA n0 Z k n ws pc lv (.ref b :: st) := by
  rcases hB with ⟨rfl, rfl⟩ | ⟨qA, f, hA⟩
  · exact ja_alen0 X hd kk
  · exact ja_alen X hA hd kk
set_option maxRecDepth 100000 in
theorem jm_helpG {D : va_G} {DA : hs_DA} {n0 : Nat → Prop} {mi : Nat} {ws : va_W} {qL a b sN n' : Nat} {f' : Nat → Option Nat} {mo : Int32} (hL : ws[qL]? = some (a, jL mo b (nI sN))) (hB : (b = DA.2.1 ∧ sN = 0) ∨ ∃ (qA : Nat) (f : Nat → Option Nat), ws[qA]? = some (b, jA DA sN f)) (hs : sN < n') (hcp : n' ≤ 60000) {mS : Nat} {qk v ci : Nat} {vs : List Value} {rc : vw_C} (hV : ws[qk]? = some (v, .inr (ci, vs))) (hc : hs_cl0[ci]? = some rc) (h12 : ci ≠ 12) (hca : Cond.castable rc.1 "java/lang/Object" ∈ hs_ws) (hM : j_M D DA n0 mi 5 yJx4a65c_grow_d5877 (.code yJx4a65c_grow_d5877 cJx4a65c_grow_d5877 1 (some (FieldType.array (FieldType.object "java/lang/Object")))) [.ref a] ws 1 mS (fun r ws' => ∃ q, r = some (.ref q) ∧ ws' = (ws ++ [(q, jA DA n' f')]).set qL (a, jL mo q (nI sN)))) : j_M D DA n0 mi 6 yJx4a65c_add_72be8 (.code yJx4a65c_add_72be8 cJx4a65c_add_72be8 4 none) [.ref a, .ref v, .ref b, .int (nI sN)] ws 1 mS (fun r ws' => r = none ∧ ∃ q, ws' = (((ws ++ [(q, jA DA n' f')]).set qL (a, jL mo q (nI sN))).set ws.length (q, jA DA n' (va_up f' sN (some v)))).set qL (a, jL mo q (nI (sN + 1)))) := by
  refine j_body (own := RJx4a65c) (by decide +kernel) rfl (Nat.le_of_ble_eq_true rfl) (fun Z X E => ?_)
  show ja D DA n0 Z 0 0 ws 0 [(0, .ref a), (1, .ref v), (2, .ref b), (3, .int (nI sN))] []
  refine ja_iload_n X 3 rfl dJx4a65c_add_72be8_0 rfl ?_
  refine ja_aload_n X 2 rfl dJx4a65c_add_72be8_1 rfl ?_
  refine ja_alenB X hB dJx4a65c_add_72be8_2 ?_
  refine ja_icmp_ne X (tgt := 11) dJx4a65c_add_72be8_3 (by decide) (fun c => absurd rfl c) (fun _ => ?_)
  refine ja_aload_n X 0 rfl dJx4a65c_add_72be8_6 rfl ?_
  refine ja_callV X (As := []) (st := []) hM hL rfl jk_661 jk_26 jk_658 jk_660 jk_4 jnd_Jx4a65c_grow_d5877 rfl rfl (Nat.le_of_ble_eq_true rfl) dJx4a65c_add_72be8_7 ⟨⟨Nat.le_of_ble_eq_true rfl, Nat.le_of_ble_eq_true rfl⟩, Nat.le_of_ble_eq_true rfl, Nat.le_of_eq (Nat.zero_add _)⟩ (fun r ws1 hq => ?_)
  obtain ⟨q, rfl, rfl⟩ := hq
  refine ja_astore_n X (lv' := [(2, .ref q), (0, .ref a), (1, .ref v), (3, .int (nI sN))]) dJx4a65c_add_72be8_10 rfl (by decide) rfl ?_
  have hne : qL ≠ ws.length := Nat.ne_of_lt (j_lt hL)
  have hA1 : ((ws ++ [(q, jA DA n' f')]).set qL (a, jL mo q (nI sN)))[ws.length]? = some (q, jA DA n' f') := j_ne j_new hne
  have hV1 := j_ne (y := (a, jL mo q (nI sN))) (j_ap (y := (q, jA DA n' f')) hV) (j_qk hL hV h12)
  have hL1 := j_se (y := (a, jL mo q (nI sN))) (j_ap (y := (q, jA DA n' f')) hL)
  refine ja_aload_n X 0 rfl dJx4a65c_add_72be8_11 rfl ?_
  refine ja_iload_n X 3 rfl dJx4a65c_add_72be8_12 rfl ?_
  refine ja_aload_n X 2 rfl dJx4a65c_add_72be8_13 rfl ?_
  refine ja_aast X hA1 (jp_in hs (by omega)) hV1 hc hca dJx4a65c_add_72be8_14 ?_
  rw [nI_clamp (by omega)]
  refine ja_aload_n X 1 rfl dJx4a65c_add_72be8_15 rfl ?_
  refine ja_iload_n X 3 rfl dJx4a65c_add_72be8_16 rfl ?_
  refine ja_iconst X (v := 1) dJx4a65c_add_72be8_17 (by decide) ?_
  refine ja_iadd X dJx4a65c_add_72be8_18 ?_
  rw [← nI_succ]
  refine ja_put X (j := 2) (ty := .int) (j_ne hL1 hne.symm) (by decide) jk_93 (Or.inl rfl) rfl (by decide +kernel) rfl rfl rfl dJx4a65c_add_72be8_19 ?_
  exact ja_return X E dJx4a65c_add_72be8_22 (Nat.le_refl _) (Nat.le_of_eq (Nat.zero_add _)) ⟨rfl, q, rfl⟩
set_option maxRecDepth 100000 in
theorem jm_add {D : va_G} {DA : hs_DA} {n0 : Nat → Prop} {mi : Nat} {ws : va_W} {qL a b : Nat} {mo sz : Int32} (hL : ws[qL]? = some (a, jL mo b sz)) {v mS : Nat} {Post : Option Value → va_W → Prop} (hM : j_M D DA n0 mi 6 yJx4a65c_add_72be8 (.code yJx4a65c_add_72be8 cJx4a65c_add_72be8 4 none) [.ref a, .ref v, .ref b, .int sz] (ws.set qL (a, jL (mo + 1) b sz)) 1 mS Post) (hP : ∀ r w, Post r w → r = none) : j_M D DA n0 mi 7 yJx4a65c_add_9ea2d (.code yJx4a65c_add_9ea2d cJx4a65c_add_9ea2d 2 (some FieldType.boolean)) [.ref a, .ref v] ws 1 mS (fun r ws' => r = some (.int 1) ∧ Post none ws') := by
  refine j_body (own := RJx4a65c) (by decide +kernel) rfl (Nat.le_of_ble_eq_true rfl) (fun Z X E => ?_)
  show ja D DA n0 Z 0 0 ws 0 [(0, .ref a), (1, .ref v)] []
  refine ja_aload_n X 0 rfl dJx4a65c_add_9ea2d_0 rfl ?_
  refine ja_dup X dJx4a65c_add_9ea2d_1 rfl ?_
  refine ja_get X (j := 0) hL (by decide) jk_95 (Or.inr ⟨rfl, rfl⟩) rfl dJx4a65c_add_9ea2d_2 ?_
  refine ja_iconst X (v := 1) dJx4a65c_add_9ea2d_5 (by decide) ?_
  refine ja_iadd X dJx4a65c_add_9ea2d_6 ?_
  refine ja_put X (j := 0) (ty := .int) hL (by decide) jk_95 (Or.inr ⟨rfl, rfl⟩) rfl (by decide +kernel) rfl rfl rfl dJx4a65c_add_9ea2d_7 ?_
  have hL1 := j_se (y := (a, jL (mo + 1) b sz)) hL
  refine ja_aload_n X 0 rfl dJx4a65c_add_9ea2d_10 rfl ?_
  refine ja_aload_n X 1 rfl dJx4a65c_add_9ea2d_11 rfl ?_
  refine ja_aload_n X 0 rfl dJx4a65c_add_9ea2d_12 rfl ?_
  refine ja_get X (j := 1) hL1 (by decide) jk_92 (Or.inl rfl) rfl dJx4a65c_add_9ea2d_13 ?_
  refine ja_aload_n X 0 rfl dJx4a65c_add_9ea2d_16 rfl ?_
  refine ja_get X (j := 2) hL1 (by decide) jk_93 (Or.inl rfl) rfl dJx4a65c_add_9ea2d_17 ?_
  refine ja_callV X (As := [.ref v, .ref b, .int sz]) (st := []) hM hL1 rfl jk_657 jk_26 jk_654 jk_656 jk_3 jnd_Jx4a65c_add_72be8 rfl rfl (Nat.le_of_ble_eq_true rfl) dJx4a65c_add_9ea2d_20 ⟨⟨Nat.le_of_ble_eq_true rfl, Nat.le_of_ble_eq_true rfl⟩, Nat.le_of_ble_eq_true rfl, Nat.le_of_eq (Nat.zero_add _)⟩ (fun r ws1 hq => ?_)
  have hr := hP r ws1 hq
  subst hr
  refine ja_iconst X (v := 1) dJx4a65c_add_9ea2d_23 (by decide) ?_
  exact ja_ireturn X E dJx4a65c_add_9ea2d_24 (Nat.le_refl _) (Nat.le_of_eq (Nat.zero_add _)) (Or.inr ⟨rfl, Or.inr rfl⟩) ⟨rfl, hq⟩
set_option maxRecDepth 100000 in
theorem jm_ac {D : va_G} {DA : hs_DA} {n0 : Nat → Prop} {mi : Nat} {ws : va_W} {a : Nat} : j_M D DA n0 mi 1 yJxa1e45_init_da8c8 (.code yJxa1e45_init_da8c8 cJxa1e45_init_da8c8 1 none) [.ref a] ws 0 0 (fun r ws' => r = none ∧ ws' = ws) := by
  refine j_body (own := RJxa1e45) (by decide +kernel) rfl (Nat.le_of_ble_eq_true rfl) (fun Z X E => ?_)
  show ja D DA n0 Z 0 0 ws 0 [(0, .ref a)] []
  refine ja_aload_n X 0 rfl dJxa1e45_init_da8c8_0 rfl ?_
  refine ja_objInit X jk_89 jk_53 jk_54 dJxa1e45_init_da8c8_1 ⟨Nat.le_of_ble_eq_true rfl, Nat.le_of_ble_eq_true rfl⟩ ?_
  exact ja_return X E dJxa1e45_init_da8c8_4 (Nat.le_refl _) (Nat.le_refl _) ⟨rfl, rfl⟩
set_option maxRecDepth 100000 in
theorem jm_al {D : va_G} {DA : hs_DA} {n0 : Nat → Prop} {mi : Nat} {ws : va_W} {qL a : Nat} {fs : List Value} (hL : ws[qL]? = some (a, .inr (12, fs))) (h3 : fs.length = 3) : j_M D DA n0 mi 2 yJxc12de_init_da8c8 (.code yJxc12de_init_da8c8 cJxc12de_init_da8c8 1 none) [.ref a] ws 0 0 (fun r ws' => r = none ∧ ws' = ws.set qL (a, .inr (12, fs.set 0 (.int 0)))) := by
  refine j_body (own := RJxc12de) (by decide +kernel) rfl (Nat.le_of_ble_eq_true rfl) (fun Z X E => ?_)
  show ja D DA n0 Z 0 0 ws 0 [(0, .ref a)] []
  refine ja_aload_n X 0 rfl dJxc12de_init_da8c8_0 rfl ?_
  refine ja_callI X (As := []) (st := []) jm_ac jk_88 jk_24 jk_86 jk_87 rfl jnd_Jxa1e45_init_da8c8 rfl rfl (Nat.le_of_ble_eq_true rfl) dJxc12de_init_da8c8_1 ⟨⟨Nat.le_of_ble_eq_true rfl, Nat.le_of_ble_eq_true rfl⟩, Nat.le_of_ble_eq_true rfl, Nat.le_of_ble_eq_true rfl⟩ (fun r ws1 hq => ?_)
  obtain ⟨rfl, rfl⟩ := hq
  refine ja_aload_n X 0 rfl dJxc12de_init_da8c8_4 rfl ?_
  refine ja_iconst X (v := 0) dJxc12de_init_da8c8_5 (by decide) ?_
  refine ja_put X (j := 0) (ty := .int) hL (by decide) jk_94 (Or.inl rfl) rfl (by decide +kernel) rfl rfl h3 dJxc12de_init_da8c8_6 ?_
  exact ja_return X E dJxc12de_init_da8c8_9 (Nat.le_refl _) (Nat.le_refl _) ⟨rfl, rfl⟩
set_option maxRecDepth 100000 in
theorem jm_init {D : va_G} {DA : hs_DA} {n0 : Nat → Prop} {mi : Nat} {ws : va_W} {qL a : Nat} (hL : ws[qL]? = some (a, .inr (12, [.int 0, .null, .int 0]))) : j_M D DA n0 mi 3 yJx4a65c_init_da8c8 (.code yJx4a65c_init_da8c8 cJx4a65c_init_da8c8 1 none) [.ref a] ws 0 0 (fun r ws' => r = none ∧ ws' = ws.set qL (a, jL 0 DA.2.1 0)) := by
  refine j_body (own := RJx4a65c) (by decide +kernel) rfl (Nat.le_of_ble_eq_true rfl) (fun Z X E => ?_)
  show ja D DA n0 Z 0 0 ws 0 [(0, .ref a)] []
  refine ja_aload_n X 0 rfl dJx4a65c_init_da8c8_0 rfl ?_
  refine ja_callI X (As := []) (st := []) (jm_al hL rfl) jk_85 jk_25 jk_83 jk_84 rfl jnd_Jxc12de_init_da8c8 rfl rfl (Nat.le_of_ble_eq_true rfl) dJx4a65c_init_da8c8_1 ⟨⟨Nat.le_of_ble_eq_true rfl, Nat.le_of_ble_eq_true rfl⟩, Nat.le_of_ble_eq_true rfl, Nat.le_of_ble_eq_true rfl⟩ (fun r ws1 hq => ?_)
  obtain ⟨rfl, rfl⟩ := hq
  refine ja_aload_n X 0 rfl dJx4a65c_init_da8c8_4 rfl ?_
  refine ja_dcee X jk_90 dJx4a65c_init_da8c8_5 ?_
  refine ja_put X (j := 1) (ty := .array (.object "java/lang/Object")) (j_se hL) (by decide) jk_92 (Or.inl rfl) rfl (by decide +kernel) rfl rfl rfl dJx4a65c_init_da8c8_8 ?_
  refine ja_return X E dJx4a65c_init_da8c8_11 (Nat.le_refl _) (Nat.le_refl _) ⟨rfl, ?_⟩
  rw [j_ss]
  rfl
