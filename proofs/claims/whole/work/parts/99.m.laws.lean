theorem kw_1178 : Cond.instantiable "CellmarketModel" 60 ∈ hs_ws := hs_w 1178 (by decide +kernel) rfl
theorem kw_1180 : Cond.instanceMethod yX11_init ∈ hs_ws := hs_w 1180 (by decide +kernel) rfl
theorem kw_1181 : Cond.code yX11_init cX11_init 2 none ∈ hs_ws := hs_w 1181 (by decide +kernel) rfl
theorem kw_1367 : Cond.instanceMethod yX11_thrown ∈ hs_ws := hs_w 1367 (by decide +kernel) rfl
theorem kw_1368 : Cond.selects "CellmarketModel" yX11_thrown yX11_thrown ∈ hs_ws := hs_w 1368 (by decide +kernel) rfl
theorem kw_1369 : Cond.code yX11_thrown cX11_thrown 1 (some FieldType.int) ∈ hs_ws := hs_w 1369 (by decide +kernel) rfl
theorem kw_1371 : Cond.instanceMethod yX11_give ∈ hs_ws := hs_w 1371 (by decide +kernel) rfl
theorem kw_1372 : Cond.selects "CellmarketModel" yX11_give yX11_give ∈ hs_ws := hs_w 1372 (by decide +kernel) rfl
theorem kw_1373 : Cond.code yX11_give cX11_give 8 (some FieldType.int) ∈ hs_ws := hs_w 1373 (by decide +kernel) rfl
theorem kw_1393 : Cond.instanceMethod yX11_let ∈ hs_ws := hs_w 1393 (by decide +kernel) rfl
theorem kw_1394 : Cond.selects "CellmarketModel" yX11_let yX11_let ∈ hs_ws := hs_w 1394 (by decide +kernel) rfl
theorem kw_1395 : Cond.code yX11_let cX11_let 9 (some FieldType.int) ∈ hs_ws := hs_w 1395 (by decide +kernel) rfl
theorem kw_1401 : Cond.instanceMethod yX11_ownerOf ∈ hs_ws := hs_w 1401 (by decide +kernel) rfl
theorem kw_1402 : Cond.selects "CellmarketModel" yX11_ownerOf yX11_ownerOf ∈ hs_ws := hs_w 1402 (by decide +kernel) rfl
theorem kw_1403 : Cond.code yX11_ownerOf cX11_ownerOf 3 (some FieldType.int) ∈ hs_ws := hs_w 1403 (by decide +kernel) rfl
theorem kw_1405 : Cond.instanceMethod yX11_reads ∈ hs_ws := hs_w 1405 (by decide +kernel) rfl
theorem kw_1406 : Cond.selects "CellmarketModel" yX11_reads yX11_reads ∈ hs_ws := hs_w 1406 (by decide +kernel) rfl
theorem kw_1407 : Cond.code yX11_reads cX11_reads 4 (some FieldType.boolean) ∈ hs_ws := hs_w 1407 (by decide +kernel) rfl
theorem kw_1413 : Cond.instanceMethod yX11_word ∈ hs_ws := hs_w 1413 (by decide +kernel) rfl
theorem kw_1414 : Cond.selects "CellmarketModel" yX11_word yX11_word ∈ hs_ws := hs_w 1414 (by decide +kernel) rfl
theorem kw_1415 : Cond.code yX11_word cX11_word 5 (some FieldType.int) ∈ hs_ws := hs_w 1415 (by decide +kernel) rfl
theorem kw_1429 : Cond.instanceMethod yX11_wipe ∈ hs_ws := hs_w 1429 (by decide +kernel) rfl
theorem kw_1430 : Cond.selects "CellmarketModel" yX11_wipe yX11_wipe ∈ hs_ws := hs_w 1430 (by decide +kernel) rfl
theorem kw_1431 : Cond.code yX11_wipe cX11_wipe 2 (some FieldType.int) ∈ hs_ws := hs_w 1431 (by decide +kernel) rfl
theorem kw_1433 : Cond.instanceMethod yX11_enter ∈ hs_ws := hs_w 1433 (by decide +kernel) rfl
theorem kw_1434 : Cond.selects "CellmarketModel" yX11_enter yX11_enter ∈ hs_ws := hs_w 1434 (by decide +kernel) rfl
theorem kw_1435 : Cond.code yX11_enter cX11_enter 5 (some FieldType.int) ∈ hs_ws := hs_w 1435 (by decide +kernel) rfl
theorem kw_1441 : Cond.instanceMethod yX11_empty ∈ hs_ws := hs_w 1441 (by decide +kernel) rfl
theorem kw_1442 : Cond.selects "CellmarketModel" yX11_empty yX11_empty ∈ hs_ws := hs_w 1442 (by decide +kernel) rfl
theorem kw_1443 : Cond.code yX11_empty cX11_empty 4 (some FieldType.int) ∈ hs_ws := hs_w 1443 (by decide +kernel) rfl
theorem kw_1445 : Cond.instanceMethod yX11_notice ∈ hs_ws := hs_w 1445 (by decide +kernel) rfl
theorem kw_1446 : Cond.selects "CellmarketModel" yX11_notice yX11_notice ∈ hs_ws := hs_w 1446 (by decide +kernel) rfl
theorem kw_1447 : Cond.code yX11_notice cX11_notice 4 (some FieldType.int) ∈ hs_ws := hs_w 1447 (by decide +kernel) rfl
theorem kw_1449 : Cond.instanceMethod yX11_value ∈ hs_ws := hs_w 1449 (by decide +kernel) rfl
theorem kw_1450 : Cond.selects "CellmarketModel" yX11_value yX11_value ∈ hs_ws := hs_w 1450 (by decide +kernel) rfl
theorem kw_1451 : Cond.code yX11_value cX11_value 4 (some FieldType.int) ∈ hs_ws := hs_w 1451 (by decide +kernel) rfl
theorem kw_1503 : Cond.instanceMethod yX11_fault ∈ hs_ws := hs_w 1503 (by decide +kernel) rfl
theorem kw_1504 : Cond.selects "CellmarketModel" yX11_fault yX11_fault ∈ hs_ws := hs_w 1504 (by decide +kernel) rfl
theorem kw_1505 : Cond.code yX11_fault cX11_fault 4 (some FieldType.int) ∈ hs_ws := hs_w 1505 (by decide +kernel) rfl
theorem kw_1507 : Cond.instanceMethod yX11_edits ∈ hs_ws := hs_w 1507 (by decide +kernel) rfl
theorem kw_1508 : Cond.selects "CellmarketModel" yX11_edits yX11_edits ∈ hs_ws := hs_w 1508 (by decide +kernel) rfl
theorem kw_1509 : Cond.code yX11_edits cX11_edits 3 (some FieldType.int) ∈ hs_ws := hs_w 1509 (by decide +kernel) rfl
theorem kw_1515 : Cond.instanceMethod yX11_edit ∈ hs_ws := hs_w 1515 (by decide +kernel) rfl
theorem kw_1516 : Cond.selects "CellmarketModel" yX11_edit yX11_edit ∈ hs_ws := hs_w 1516 (by decide +kernel) rfl
theorem kw_1517 : Cond.code yX11_edit cX11_edit 8 (some FieldType.int) ∈ hs_ws := hs_w 1517 (by decide +kernel) rfl
theorem kw_1519 : Cond.instanceMethod yX11_bid ∈ hs_ws := hs_w 1519 (by decide +kernel) rfl
theorem kw_1520 : Cond.selects "CellmarketModel" yX11_bid yX11_bid ∈ hs_ws := hs_w 1520 (by decide +kernel) rfl
theorem kw_1521 : Cond.code yX11_bid cX11_bid 6 (some FieldType.int) ∈ hs_ws := hs_w 1521 (by decide +kernel) rfl
theorem kw_1544 : Cond.instanceMethod yX11_withdraw ∈ hs_ws := hs_w 1544 (by decide +kernel) rfl
theorem kw_1545 : Cond.selects "CellmarketModel" yX11_withdraw yX11_withdraw ∈ hs_ws := hs_w 1545 (by decide +kernel) rfl
theorem kw_1546 : Cond.code yX11_withdraw cX11_withdraw 3 (some FieldType.int) ∈ hs_ws := hs_w 1546 (by decide +kernel) rfl
theorem kw_1552 : Cond.instanceMethod yX11_share ∈ hs_ws := hs_w 1552 (by decide +kernel) rfl
theorem kw_1553 : Cond.selects "CellmarketModel" yX11_share yX11_share ∈ hs_ws := hs_w 1553 (by decide +kernel) rfl
theorem kw_1554 : Cond.code yX11_share cX11_share 4 (some FieldType.boolean) ∈ hs_ws := hs_w 1554 (by decide +kernel) rfl
theorem kw_1556 : Cond.instanceMethod yX11_bell ∈ hs_ws := hs_w 1556 (by decide +kernel) rfl
theorem kw_1557 : Cond.selects "CellmarketModel" yX11_bell yX11_bell ∈ hs_ws := hs_w 1557 (by decide +kernel) rfl
theorem kw_1558 : Cond.code yX11_bell cX11_bell 4 (some FieldType.int) ∈ hs_ws := hs_w 1558 (by decide +kernel) rfl
theorem kw_1580 : Cond.instanceMethod yX11_isFrozen ∈ hs_ws := hs_w 1580 (by decide +kernel) rfl
theorem kw_1581 : Cond.selects "CellmarketModel" yX11_isFrozen yX11_isFrozen ∈ hs_ws := hs_w 1581 (by decide +kernel) rfl
theorem kw_1582 : Cond.code yX11_isFrozen cX11_isFrozen 2 (some FieldType.boolean) ∈ hs_ws := hs_w 1582 (by decide +kernel) rfl
theorem kw_1584 : Cond.instanceMethod yX11_round ∈ hs_ws := hs_w 1584 (by decide +kernel) rfl
theorem kw_1585 : Cond.selects "CellmarketModel" yX11_round yX11_round ∈ hs_ws := hs_w 1585 (by decide +kernel) rfl
theorem kw_1586 : Cond.code yX11_round cX11_round 3 (some FieldType.int) ∈ hs_ws := hs_w 1586 (by decide +kernel) rfl
theorem kw_1588 : Cond.instanceMethod yX11_priceAnew ∈ hs_ws := hs_w 1588 (by decide +kernel) rfl
theorem kw_1589 : Cond.selects "CellmarketModel" yX11_priceAnew yX11_priceAnew ∈ hs_ws := hs_w 1589 (by decide +kernel) rfl
theorem kw_1590 : Cond.code yX11_priceAnew cX11_priceAnew 2 (some FieldType.int) ∈ hs_ws := hs_w 1590 (by decide +kernel) rfl
theorem kw_1592 : Cond.instanceMethod yX11_got ∈ hs_ws := hs_w 1592 (by decide +kernel) rfl
theorem kw_1593 : Cond.selects "CellmarketModel" yX11_got yX11_got ∈ hs_ws := hs_w 1593 (by decide +kernel) rfl
theorem kw_1594 : Cond.code yX11_got cX11_got 2 (some FieldType.int) ∈ hs_ws := hs_w 1594 (by decide +kernel) rfl
theorem kw_1596 : Cond.instanceMethod yX11_due ∈ hs_ws := hs_w 1596 (by decide +kernel) rfl
theorem kw_1597 : Cond.selects "CellmarketModel" yX11_due yX11_due ∈ hs_ws := hs_w 1597 (by decide +kernel) rfl
theorem kw_1598 : Cond.code yX11_due cX11_due 3 (some FieldType.int) ∈ hs_ws := hs_w 1598 (by decide +kernel) rfl
theorem kw_1600 : Cond.instanceMethod yX11_settle ∈ hs_ws := hs_w 1600 (by decide +kernel) rfl
theorem kw_1601 : Cond.selects "CellmarketModel" yX11_settle yX11_settle ∈ hs_ws := hs_w 1601 (by decide +kernel) rfl
theorem kw_1602 : Cond.code yX11_settle cX11_settle 10 (some FieldType.int) ∈ hs_ws := hs_w 1602 (by decide +kernel) rfl
theorem kw_1613 : Cond.instanceMethod yX11_cash ∈ hs_ws := hs_w 1613 (by decide +kernel) rfl
theorem kw_1614 : Cond.selects "CellmarketModel" yX11_cash yX11_cash ∈ hs_ws := hs_w 1614 (by decide +kernel) rfl
theorem kw_1615 : Cond.code yX11_cash cX11_cash 2 (some FieldType.int) ∈ hs_ws := hs_w 1615 (by decide +kernel) rfl
theorem kw_1617 : Cond.instanceMethod yX11_limit ∈ hs_ws := hs_w 1617 (by decide +kernel) rfl
theorem kw_1618 : Cond.selects "CellmarketModel" yX11_limit yX11_limit ∈ hs_ws := hs_w 1618 (by decide +kernel) rfl
theorem kw_1619 : Cond.code yX11_limit cX11_limit 4 (some FieldType.int) ∈ hs_ws := hs_w 1619 (by decide +kernel) rfl
theorem kw_1622 : Cond.instanceMethod yX11_exposure ∈ hs_ws := hs_w 1622 (by decide +kernel) rfl
theorem kw_1623 : Cond.selects "CellmarketModel" yX11_exposure yX11_exposure ∈ hs_ws := hs_w 1623 (by decide +kernel) rfl
theorem kw_1624 : Cond.code yX11_exposure cX11_exposure 2 (some FieldType.int) ∈ hs_ws := hs_w 1624 (by decide +kernel) rfl
theorem kw_1626 : Cond.instanceMethod yX11_strikeBid ∈ hs_ws := hs_w 1626 (by decide +kernel) rfl
theorem kw_1627 : Cond.selects "CellmarketModel" yX11_strikeBid yX11_strikeBid ∈ hs_ws := hs_w 1627 (by decide +kernel) rfl
theorem kw_1628 : Cond.code yX11_strikeBid cX11_strikeBid 2 (some FieldType.int) ∈ hs_ws := hs_w 1628 (by decide +kernel) rfl
theorem kw_1634 : Cond.instanceMethod yX11_strikeEdit ∈ hs_ws := hs_w 1634 (by decide +kernel) rfl
theorem kw_1635 : Cond.selects "CellmarketModel" yX11_strikeEdit yX11_strikeEdit ∈ hs_ws := hs_w 1635 (by decide +kernel) rfl
theorem kw_1636 : Cond.code yX11_strikeEdit cX11_strikeEdit 2 (some FieldType.int) ∈ hs_ws := hs_w 1636 (by decide +kernel) rfl
theorem kw_1638 : Cond.instanceMethod yX11_events ∈ hs_ws := hs_w 1638 (by decide +kernel) rfl
theorem kw_1639 : Cond.selects "CellmarketModel" yX11_events yX11_events ∈ hs_ws := hs_w 1639 (by decide +kernel) rfl
theorem kw_1640 : Cond.code yX11_events cX11_events 1 (some FieldType.int) ∈ hs_ws := hs_w 1640 (by decide +kernel) rfl
theorem kw_381 : Cond.instanceMethod yX10_wipe ∈ hs_ws := hs_w 381 (by decide +kernel) rfl
theorem kw_382 : Cond.selects "Cellmarket" yX10_wipe yX10_wipe ∈ hs_ws := hs_w 382 (by decide +kernel) rfl
theorem kw_383 : Cond.code yX10_wipe cX10_wipe 2 (some FieldType.int) ∈ hs_ws := hs_w 383 (by decide +kernel) rfl
theorem kw_389 : Cond.instanceMethod yX10_events ∈ hs_ws := hs_w 389 (by decide +kernel) rfl
theorem kw_390 : Cond.selects "Cellmarket" yX10_events yX10_events ∈ hs_ws := hs_w 390 (by decide +kernel) rfl
theorem kw_391 : Cond.code yX10_events cX10_events 1 (some FieldType.int) ∈ hs_ws := hs_w 391 (by decide +kernel) rfl
theorem kw_82 : Cond.instantiable "Cellmarket" 6 ∈ hs_ws := hs_w 82 (by decide +kernel) rfl
theorem kw_84 : Cond.instanceMethod yX10_init ∈ hs_ws := hs_w 84 (by decide +kernel) rfl
theorem kw_85 : Cond.code yX10_init cX10_init 1 none ∈ hs_ws := hs_w 85 (by decide +kernel) rfl
theorem kc6 : Int32.ofInt 6 = 6 := by decide
/-! ===== rules of the law's walk ===== -/
theorem hs_callW {R : Room} {s : State} {args : Array Value} {own : String} {ix maxL d mc mS nA : Nat} {y : MethodName} {bytes : ByteArray} {ret : Option FieldType} {hh : List (Nat × Nat × Nat × Nat)} (hts : ∀ w ∈ hs_ws, w.before args s = true) (hcw : Cond.codeWith y bytes maxL ret hh ∈ hs_ws) (hin : Cond.initialized y.cls ∈ hs_ws) (hlk : Cond.methodLink own ix y ∈ hs_ws) (hstat : Cond.static y ∈ hs_ws)
    (hd : y.cls ≠ "java/lang/invoke/MethodHandle" ∧ y.cls ≠ "java/lang/invoke/VarHandle" ∧ (parseMethodDescriptor y.desc).map (fun d => d.parameters.length) = some nA) (hR : d + 1 ≤ R.frames ∧ 8 + (maxL + 11) + 64 * d ≤ R.locals) :
    vx_CSW R s args own ix y bytes maxL ret hh (Cond.codeWith y bytes maxL ret hh :: hs_ws) (hs_rm d mc mS) mc mS nA := by
  refine ⟨⟨rfl, rfl, hR.1, hR.2, fun w hw a' U hU => ?_, List.mem_cons_self⟩, hts _ hcw, hts _ hin, ⟨hd.1, hd.2.1⟩, fun sig h => ?_, hts _ hlk, hts _ hstat⟩
  · have hw2 : w ∈ hs_ws := (List.mem_cons.mp hw).elim (fun e => e ▸ hcw) id
    exact hs_mv (List.mem_filter.mp hw2).2 hU (hts w hw2)
  · have h2 := hd.2.2
    rw [h] at h2
    exact (Option.some.inj h2).symm
theorem wa_callSW {Z : hs_Z} {own : String} {cc : ByteArray} {nL : Nat} {R0 : Room} {k n : Nat} {S : hs_S} {pc : Nat} {lv : List (Nat × hs_V)} {st st0 : List hs_V} (X : hs_C Z own cc nL R0) {d mc mS ix maxL nA : Nat} {y : MethodName} {bytes : ByteArray} {ret : Option FieldType} {hh : List (Nat × Nat × Nat × Nat)} {As : List hs_V} {Q : Option hs_V → hs_S → Prop} {E : String → hs_S → Prop}
    (hM : hs_M d y (.codeWith y bytes maxL ret hh) As S mc mS Q E) (hcw : Cond.codeWith y bytes maxL ret hh ∈ hs_ws) (hin : Cond.initialized y.cls ∈ hs_ws) (hlk : Cond.methodLink own ix y ∈ hs_ws) (hstat : Cond.static y ∈ hs_ws)
    (hdd : y.cls ≠ "java/lang/invoke/MethodHandle" ∧ y.cls ≠ "java/lang/invoke/VarHandle" ∧ (parseMethodDescriptor y.desc).map (fun d => d.parameters.length) = some nA) (hnA : As.length = nA) (hst : st0 = As.reverse ++ st) (hcat : (st.map hs_cat).sum ≤ 8) (hd : decode cc pc = .ok (.invokestatic ix, 3))
    (hR : (d + 1 ≤ R0.frames ∧ 8 + (maxL + 11) + 64 * d ≤ R0.locals) ∧ k + mc ≤ R0.cells ∧ n + mS ≤ R0.slots)
    (kk : ∀ v S', Q v S' → wa Z (k + mc) (n + mS) S' (pc + 3) lv (v.toList ++ st)) (kx : ∀ Ex S', E Ex S' → wx Z (k + mc) (n + mS) S' pc lv Ex) : wa Z k n S pc lv st0 := by
  subst hst
  refine wa_run X (Q := Q) (E := E) ?_ (fun v hv => List.mem_append_right _ hv) kk kx
  rintro p l e R s m args below meth c D DA n0 G0 S0 Qw rfl G H locs la a2 a4 a5 hsz
  obtain ⟨hx, hb, hml, hown, hts, hlk0, hst0, hW, rfl⟩ := X
  have hav : ∀ v ∈ As, hs_vv S v := fun v hv => a4 v (List.mem_append_left _ (List.mem_reverse.mpr hv))
  have hM1 := hM l D DA n0 G hst0 hav
  have hs0 : ((As.reverse ++ st).map (hs_c G.1)) = (As.map (hs_c G.1)).reverse ++ st.map (hs_c G.1) := by
    rw [List.map_append, List.map_reverse]
  rw [hs0]
  exact ⟨_, vx_runSX (hh := hh) (Ts := hs_ws) (own := own) (As := As.map (hs_c G.1)) ⟨hx, hb, hml, hown, hts⟩ hM1 (hs_callW hts hcw hin hlk hstat hdd hR.1) ⟨hs_blind, hs_told (av := As) hW a2 a5⟩ rfl (by rw [List.length_map]; exact hnA) (hsz.trans hml) rfl (hs_W8 hcat) hd hR.2⟩
/-- the script, named 1 -/
def hs_SC (Z : hs_Z) (L : Nat) (xs : Nat → Int32) : Prop := ∀ p l e R s m args below meth c D DA n0 G0 S0 Qw, Z = (p, l, e, R, s, m, args, below, meth, c, D, DA, n0, G0, S0, Qw) → DA.2.2.2 = (L, xs)
theorem wa_sald1 {Z : hs_Z} {own : String} {cc : ByteArray} {nL : Nat} {R0 : Room} {k n : Nat} {S : hs_S} {pc : Nat} {lv : List (Nat × hs_V)} {st : List hs_V} (X : hs_C Z own cc nL R0) {L : Nat} {xs : Nat → Int32} {x : Int32} (hL : hs_SC Z L xs) (hd : decode cc pc = .ok (.iaload, 1)) (hr : 0 ≤ x.toInt ∧ x.toInt < L) (kk : wa Z k n S (pc + 1) lv (.inl (xs x.toNatClampNeg) :: st)) : wa Z k n S pc lv (.inl x :: .inr (.inr (101, 1)) :: st) := by
  obtain ⟨p, l, e, R, s, m, args, below, meth, c, D, DA, n0, G0, S0, Qw⟩ := Z
  have hL := hL _ _ _ _ _ _ _ _ _ _ _ _ _ _ _ _ rfl
  obtain ⟨hx, hb, hml, hown, hts, hlk, hst, hW, hR⟩ := X
  intro G H locs la a1 a2 a3 a4 a5 a6
  obtain ⟨keys, b1, b2, b3, b4, b5, b6⟩ := id a2
  obtain ⟨⟨c1, c2, c3⟩, c4⟩ := hW.2.2.2.2.2.2.2.2
  rw [hL] at c1
  rw [List.map_cons, List.map_cons, hs_c_ref hs_1ne, b6]
  exact va_sld hx hb c1 (Nat.lt_of_lt_of_le c2 c4) (by omega) a5 (hs_ix hr) hd (kk G H locs la a1 a2 a3 (hs_pu trivial (hs_n2 a4)) a5 a6)
theorem wa_slen1 {Z : hs_Z} {own : String} {cc : ByteArray} {nL : Nat} {R0 : Room} {k n : Nat} {S : hs_S} {pc : Nat} {lv : List (Nat × hs_V)} {st : List hs_V} (X : hs_C Z own cc nL R0) {L : Nat} {xs : Nat → Int32} (hL : hs_SC Z L xs) (hd : decode cc pc = .ok (.arraylength, 1)) (kk : wa Z k n S (pc + 1) lv (.inl (Int32.ofNat L) :: st)) : wa Z k n S pc lv (.inr (.inr (101, 1)) :: st) := by
  obtain ⟨p, l, e, R, s, m, args, below, meth, c, D, DA, n0, G0, S0, Qw⟩ := Z
  have hL := hL _ _ _ _ _ _ _ _ _ _ _ _ _ _ _ _ rfl
  obtain ⟨hx, hb, hml, hown, hts, hlk, hst, hW, hR⟩ := X
  intro G H locs la a1 a2 a3 a4 a5 a6
  obtain ⟨keys, b1, b2, b3, b4, b5, b6⟩ := id a2
  obtain ⟨⟨c1, c2, c3⟩, c4⟩ := hW.2.2.2.2.2.2.2.2
  rw [hL] at c1
  rw [List.map_cons, hs_c_ref hs_1ne, b6]
  exact va_slen hx hb c1 (Nat.lt_of_lt_of_le c2 c4) (by omega) a5 hd (kk G H locs la a1 a2 a3 (hs_pu trivial (hs_n1 a4)) a5 a6)
theorem wa_sc1 {Z : hs_Z} {own : String} {cc : ByteArray} {nL : Nat} {R0 : Room} {k n : Nat} {S : hs_S} {pc : Nat} {lv : List (Nat × hs_V)} {st : List hs_V} (X : hs_C Z own cc nL R0) {L : Nat} {xs : Nat → Int32} (hL : hs_SC Z L xs) {x c : Int32} {z : Int} (q0 q4 : Nat) (h0 : lv[q0]? = some (0, .inr (.inr (101, 1)))) (h4 : lv[q4]? = some (4, .inl x)) (d0 : decode cc pc = .ok (.aload_n 0, 1)) (d1 : decode cc (pc + 1) = .ok (.iload 4, 2)) (d3 : decode cc (pc + 3) = .ok (.iconst z, 1)) (hz : Int32.ofInt z = c) (d4 : decode cc (pc + 4) = .ok (.iadd, 1)) (d5 : decode cc (pc + 5) = .ok (.iaload, 1)) (hr : 0 ≤ (x + c).toInt ∧ (x + c).toInt < L)
    (kk : wa Z k n S (pc + 6) lv (.inl (xs (x + c).toNatClampNeg) :: st)) : wa Z k n S pc lv st :=
  wa_aload_n X q0 h0 d0 rfl (wa_iload X q4 h4 d1 (wa_iconst X d3 hz (wa_iadd X d4 (wa_sald1 X hL d5 hr kk))))
theorem wa_sc2 {Z : hs_Z} {own : String} {cc : ByteArray} {nL : Nat} {R0 : Room} {k n : Nat} {S : hs_S} {pc : Nat} {lv : List (Nat × hs_V)} {st : List hs_V} (X : hs_C Z own cc nL R0) {L : Nat} {xs : Nat → Int32} (hL : hs_SC Z L xs) {x c : Int32} {z : Int} (q0 q4 : Nat) (h0 : lv[q0]? = some (0, .inr (.inr (101, 1)))) (h4 : lv[q4]? = some (4, .inl x)) (d0 : decode cc pc = .ok (.aload_n 0, 1)) (d1 : decode cc (pc + 1) = .ok (.iload 4, 2)) (d3 : decode cc (pc + 3) = .ok (.bipush z, 2)) (hz : (Int8.ofInt z).toInt32 = c) (d4 : decode cc (pc + 5) = .ok (.iadd, 1)) (d5 : decode cc (pc + 6) = .ok (.iaload, 1)) (hr : 0 ≤ (x + c).toInt ∧ (x + c).toInt < L)
    (kk : wa Z k n S (pc + 7) lv (.inl (xs (x + c).toNatClampNeg) :: st)) : wa Z k n S pc lv st :=
  wa_aload_n X q0 h0 d0 rfl (wa_iload X q4 h4 d1 (wa_bipush X d3 hz (wa_iadd X d4 (wa_sald1 X hL d5 hr kk))))
/-- a test against 0, laid as a boolean -/
def b01 (x : Int32) : Int32 := if x = 0 then 0 else 1
theorem b01_or (x : Int32) : b01 x = 0 ∨ b01 x = 1 := by
  unfold b01
  by_cases h : x = 0
  · exact Or.inl (if_pos h)
  · exact Or.inr (if_neg h)
theorem wa_nz {Z : hs_Z} {own : String} {cc : ByteArray} {nL : Nat} {R0 : Room} {k n : Nat} {S : hs_S} {pc : Nat} {lv : List (Nat × hs_V)} {st : List hs_V} (X : hs_C Z own cc nL R0) {x : Int32} (d0 : decode cc pc = .ok (.ifCond .eq 7, 3)) (d3 : decode cc (pc + 3) = .ok (.iconst 1, 1)) (d4 : decode cc (pc + 4) = .ok (.goto 4, 3)) (d7 : decode cc (pc + 7) = .ok (.iconst 0, 1)) (kk : wa Z k n S (pc + 8) lv (.inl (b01 x) :: st)) : wa Z k n S pc lv (.inl x :: st) := by
  refine wa_if_eq X (tgt := pc + 7) d0 (by omega) (fun h => ?_) (fun h => ?_)
  · refine wa_iconst X d7 kc0 ?_
    rw [show b01 x = 0 from if_pos h] at kk
    exact kk
  · refine wa_iconst X d3 kc1 (wa_goto X (tgt := pc + 8) d4 (by omega) ?_)
    rw [show b01 x = 1 from if_neg h] at kk
    exact kk
theorem law_cmp0 {x y : Int64} (h : x = y) : lg_cmp x y = 0 := by
  subst h
  unfold lg_cmp
  rw [if_neg (fun h : x > x => Int64.lt_irrefl h), if_pos rfl]
/-- the law's locals at its loop's head -/
def LL (i : Int32) : List (Nat × hs_V) := [(4, .inl i), (3, .inr (.inr (100, 1))), (2, .inr (.inr (11, 1))), (1, .inr (.inr (10, 1))), (0, .inr (.inr (101, 1)))]
/-- behind a call: what was answered is compared; pc: ahead of 'thrown' -/
theorem law_tail {Z : hs_Z} {L : Nat} {xs : Nat → Int32} {k n j : Nat} {T : hs_S} {i r1 r2 : Int32} {pc : Nat} {off : Int} (X : hs_C Z RL cL_law 7 room_1) (hk : k ≤ room_1.cells) (hn : n ≤ room_1.slots) (hw2 : hs_Wi T) (hOK : OK j r1 r2 T)
    (e0 : decode cL_law pc = .ok (.aload_n 2, 1)) (e1 : decode cL_law (pc + 1) = .ok (.invokevirtual 115, 3)) (e4 : decode cL_law (pc + 4) = .ok (.iload 5, 2)) (e6 : decode cL_law (pc + 6) = .ok (.if_icmp .eq 5, 3)) (e11 : decode cL_law (pc + 11) = .ok (.iload 5, 2)) (e13 : decode cL_law (pc + 13) = .ok (.ifCond .ne 15, 3)) (e16 : decode cL_law (pc + 16) = .ok (.aload_n 3, 1)) (e17 : decode cL_law (pc + 17) = .ok (.iconst 0, 1)) (e18 : decode cL_law (pc + 18) = .ok (.laload, 1)) (e19 : decode cL_law (pc + 19) = .ok (.iload 6, 2)) (e21 : decode cL_law (pc + 21) = .ok (.i2l, 1)) (e22 : decode cL_law (pc + 22) = .ok (.lcmp, 1)) (e23 : decode cL_law (pc + 23) = .ok (.ifCond .eq 5, 3)) (e28 : decode cL_law (pc + 28) = .ok (.goto off, 3)) (ho : ((pc + 28 : Nat) : Int) + off = ((2201 : Nat) : Int))
    (kk : ∀ T, RR (j + 1) T → hs_Wi T → wa Z k n T 2201 (LL i) []) : wa Z k n T pc ((6, .inl r2) :: (5, .inl r1) :: LL i) [] := by
  obtain ⟨hRR, hth, hans⟩ := hOK
  refine wa_aload_n X 4 rfl e0 rfl ?_
  refine wa_callV X (As := []) (f_M_thrown hw2) hk_11 hc_11 rfl kw_1369 kw_66 kw_1366 kw_1367 kw_1368 nd_X11_thrown rfl rfl (Nat.le_of_ble_eq_true rfl) e1 hs_1ne ⟨⟨Nat.le_of_ble_eq_true rfl, Nat.le_of_ble_eq_true rfl⟩, hk, hn⟩ (hs_pdk0 ?_) (fun _ _ h => h.elim)
  refine wa_iload X 1 rfl e4 ?_
  refine wa_icmp_eq X (tgt := pc + 11) e6 (by omega) (fun _ => ?_) (fun hc => absurd hth hc)
  refine wa_iload X 1 rfl e11 ?_
  have fin : wa Z k n T (pc + 28) ((6, .inl r2) :: (5, .inl r1) :: LL i) [] := by
    refine wa_goto X (tgt := 2201) e28 ho ?_
    exact wa_lv [2, 3, 4, 5, 6] rfl (kk T hRR hw2)
  refine wa_if_ne X (tgt := pc + 28) e13 (by omega) (fun _ => fin) (fun h0 => ?_)
  refine wa_aload_n X 3 rfl e16 rfl ?_
  refine wa_iconst X e17 kc0 ?_
  refine wa_lald X hk_100 e18 hs_1ne (by decide) ?_
  refine wa_iload X 0 rfl e19 ?_
  refine wa_i2l X e21 ?_
  refine wa_lcmp X e22 ?_
  exact wa_if_eq X (tgt := pc + 28) e23 (by omega) (fun _ => fin) (fun hc => absurd (law_cmp0 (hans h0)) hc)
/-- the same, for an answer that is true or false -/
theorem law_tailb {Z : hs_Z} {L : Nat} {xs : Nat → Int32} {k n j : Nat} {T : hs_S} {i r1 r2 : Int32} {pc : Nat} {off : Int} (X : hs_C Z RL cL_law 7 room_1) (hk : k ≤ room_1.cells) (hn : n ≤ room_1.slots) (hw2 : hs_Wi T) (hOK : OKb j r1 r2 T)
    (e0 : decode cL_law pc = .ok (.aload_n 2, 1)) (e1 : decode cL_law (pc + 1) = .ok (.invokevirtual 115, 3)) (e4 : decode cL_law (pc + 4) = .ok (.iload 5, 2)) (e6 : decode cL_law (pc + 6) = .ok (.if_icmp .eq 5, 3)) (e11 : decode cL_law (pc + 11) = .ok (.iload 5, 2)) (e13 : decode cL_law (pc + 13) = .ok (.ifCond .ne 22, 3)) (e16 : decode cL_law (pc + 16) = .ok (.aload_n 3, 1)) (e17 : decode cL_law (pc + 17) = .ok (.iconst 0, 1)) (e18 : decode cL_law (pc + 18) = .ok (.laload, 1)) (e19 : decode cL_law (pc + 19) = .ok (.iload 6, 2)) (e21 : decode cL_law (pc + 21) = .ok (.ifCond .eq 7, 3)) (e24 : decode cL_law (pc + 24) = .ok (.lconst 1, 1)) (e25 : decode cL_law (pc + 25) = .ok (.goto 4, 3)) (e28 : decode cL_law (pc + 28) = .ok (.lconst 0, 1)) (e29 : decode cL_law (pc + 29) = .ok (.lcmp, 1)) (e30 : decode cL_law (pc + 30) = .ok (.ifCond .eq 5, 3)) (e35 : decode cL_law (pc + 35) = .ok (.goto off, 3)) (ho : ((pc + 35 : Nat) : Int) + off = ((2201 : Nat) : Int))
    (kk : ∀ T, RR (j + 1) T → hs_Wi T → wa Z k n T 2201 (LL i) []) : wa Z k n T pc ((6, .inl r2) :: (5, .inl r1) :: LL i) [] := by
  obtain ⟨⟨hRR, hth, hans⟩, hb⟩ := hOK
  refine wa_aload_n X 4 rfl e0 rfl ?_
  refine wa_callV X (As := []) (f_M_thrown hw2) hk_11 hc_11 rfl kw_1369 kw_66 kw_1366 kw_1367 kw_1368 nd_X11_thrown rfl rfl (Nat.le_of_ble_eq_true rfl) e1 hs_1ne ⟨⟨Nat.le_of_ble_eq_true rfl, Nat.le_of_ble_eq_true rfl⟩, hk, hn⟩ (hs_pdk0 ?_) (fun _ _ h => h.elim)
  refine wa_iload X 1 rfl e4 ?_
  refine wa_icmp_eq X (tgt := pc + 11) e6 (by omega) (fun _ => ?_) (fun hc => absurd hth hc)
  refine wa_iload X 1 rfl e11 ?_
  have fin : wa Z k n T (pc + 35) ((6, .inl r2) :: (5, .inl r1) :: LL i) [] := by
    refine wa_goto X (tgt := 2201) e35 ho ?_
    exact wa_lv [2, 3, 4, 5, 6] rfl (kk T hRR hw2)
  refine wa_if_ne X (tgt := pc + 35) e13 (by omega) (fun _ => fin) (fun h0 => ?_)
  have hans := hans h0
  refine wa_aload_n X 3 rfl e16 rfl ?_
  refine wa_iconst X e17 kc0 ?_
  refine wa_lald X hk_100 e18 hs_1ne (by decide) ?_
  refine wa_iload X 0 rfl e19 ?_
  refine wa_if_eq X (tgt := pc + 28) e21 (by omega) (fun hr => ?_) (fun hr => ?_)
  · refine wa_lconst X e28 kl0 ?_
    refine wa_lcmp X e29 ?_
    exact wa_if_eq X (tgt := pc + 35) e30 (by omega) (fun _ => fin) (fun hc => absurd (law_cmp0 (hans.trans (by rw [hr]; rfl))) hc)
  · refine wa_lconst X e24 kl1 ?_
    refine wa_goto X (tgt := pc + 29) e25 (by omega) ?_
    refine wa_lcmp X e29 ?_
    exact wa_if_eq X (tgt := pc + 35) e30 (by omega) (fun _ => fin) (fun hc => absurd (law_cmp0 (hans.trans (by rw [(hb h0).resolve_left hr]; rfl))) hc)
