/-! ===== calls: what they need ===== -/
theorem qI_mono {d : Nat} {y : MethodName} {w : Cond} {av : List hs_V} {S : hs_S} {mc mS : Nat} {Q Q' : Int32 → hs_S → Prop} {X : String → hs_S → Prop} (h : hs_M d y w av S mc mS (hs_qI Q) X) (hQ : ∀ r T, Q r T → Q' r T) : hs_M d y w av S mc mS (hs_qI Q') X := h.mono (fun v S' q => by obtain ⟨hw, r, e, q⟩ := q; exact ⟨hw, r, e, hQ r S' q⟩) (fun _ _ q => q)
theorem lt_of {a : Int32} {N : Nat} (hN : N < 2147483648) (h1 : ¬ a < 0) (h2 : a < nI N) : ∃ o : Nat, o < N ∧ a = nI o := by
  rw [i32_lt] at h1 h2
  rw [nI_toInt (by omega)] at h2
  have z0 : (0 : Int32).toInt = 0 := rfl
  obtain ⟨k, hk, _, e⟩ := hl_of (x := a) (n := N) ⟨by omega, h2⟩
  exact ⟨k, hk, e⟩
theorem le_of {a : Int32} {N : Nat} (hN : N < 2147483648) (h1 : ¬ a < 0) (h2 : a ≤ nI N) : ∃ o : Nat, o ≤ N ∧ a = nI o := by
  rw [i32_lt] at h1
  rw [i32_le] at h2
  rw [nI_toInt (by omega)] at h2
  have z0 : (0 : Int32).toInt = 0 := rfl
  obtain ⟨k, hk, _, e⟩ := hl_of (x := a) (n := N + 1) ⟨by omega, by omega⟩
  exact ⟨k, by omega, e⟩
theorem nI_lo {o : Nat} (h : o < 2147483648) : ¬ nI o < 0 := nI_nn h
theorem nI_lt2 {o N : Nat} (hN : N < 2147483648) (h : o < N) : nI o < nI N := (hl_lt (by omega) hN).mpr h
theorem own_iff {a : Int32} : F_isOwner a = 0 ↔ ¬ ∃ o : Nat, o < 6 ∧ a = nI o := by
  unfold F_isOwner
  rw [bI_eq0]
  refine not_congr ⟨fun h => lt_of (N := 6) (by omega) (fun z => ?_) h.2, ?_⟩
  · have h1 := h.1
    rw [i32_le] at h1
    rw [i32_lt] at z
    omega
  · rintro ⟨o, ho, rfl⟩
    refine ⟨?_, nI_lt2 (N := 6) (by omega) ho⟩
    have := nI_lo (o := o) (by omega)
    rw [i32_lt] at this
    rw [i32_le]
    omega
theorem cell_iff {a b : Int32} : F_isCell a b = 0 ↔ ¬ ((∃ c : Nat, c < 4 ∧ a = nI c) ∧ ∃ r : Nat, r < 6 ∧ b = nI r) := by
  have go : ∀ (x : Int32) (N : Nat), N < 100 → ((0 ≤ x ∧ x < nI N) ↔ ∃ o : Nat, o < N ∧ x = nI o) := fun x N hN => by
    refine ⟨fun h => lt_of (by omega) (fun z => ?_) h.2, ?_⟩
    · have h1 := h.1
      rw [i32_le] at h1
      rw [i32_lt] at z
      omega
    · rintro ⟨o, ho, rfl⟩
      refine ⟨?_, nI_lt2 (by omega) ho⟩
      have := nI_lo (o := o) (by omega)
      rw [i32_lt] at this
      rw [i32_le]
      omega
  unfold F_isCell
  rw [bI_eq0]
  exact not_congr (and_congr (go a 4 (by omega)) (go b 6 (by omega)))
theorem col_iff {a : Int32} : (¬ a < 0 ∧ ¬ 4 ≤ a) ↔ ∃ c : Nat, c < 4 ∧ a = nI c := by
  refine ⟨fun h => lt_of (N := 4) (by omega) h.1 ?_, ?_⟩
  · have := h.2
    rw [i32_le] at this
    rw [i32_lt]
    have z4 : (4 : Int32).toInt = 4 := rfl
    have z4' : (nI 4).toInt = 4 := rfl
    omega
  · rintro ⟨c, hc, rfl⟩
    exact ⟨nI_lo (by omega), fun z => absurd ((hl_le (a := 4) (b := c) (by omega) (by omega)).mp z) (by omega)⟩
abbrev iIO : String := "java/lang/IndexOutOfBoundsException"
abbrev iIS : String := "java/lang/IllegalStateException"
abbrev iIA : String := "java/lang/IllegalArgumentException"
theorem t_needOwner {a : Int32} {S : hs_S} {Q : hs_S → Prop} {Ex : String → hs_S → Prop} (hw : hs_Wi S) (h1 : ∀ o : Nat, o < 6 → a = nI o → Q S) (h2 : F_isOwner a = 0 → Ex iIO S) : m_C_needOwner a S Q Ex := by
  refine ok_C_needOwner hw ⟨fun c => h2 (own_iff.mpr ?_), fun c => ⟨fun d => ?_, fun d => h2 (own_iff.mpr ?_)⟩⟩
  · rintro ⟨o, ho, rfl⟩; exact nI_lo (by omega) c
  · obtain ⟨o, ho, e⟩ := lt_of (N := 6) (by omega) c d
    exact h1 o ho e
  · rintro ⟨o, ho, rfl⟩; exact d (nI_lt2 (N := 6) (by omega) ho)
theorem t_needColumn {a : Int32} {S : hs_S} {Q : hs_S → Prop} {Ex : String → hs_S → Prop} (hw : hs_Wi S) (h1 : ∀ c : Nat, c < 4 → a = nI c → Q S) (h2 : ¬ (∃ c : Nat, c < 4 ∧ a = nI c) → Ex iIO S) : m_C_needColumn a S Q Ex := by
  refine ok_C_needColumn hw ⟨fun c => h2 ?_, fun c => ⟨fun d => ?_, fun d => h2 ?_⟩⟩
  · rintro ⟨o, ho, rfl⟩; exact nI_lo (by omega) c
  · obtain ⟨o, ho, e⟩ := lt_of (N := 4) (by omega) c d
    exact h1 o ho e
  · rintro ⟨o, ho, rfl⟩; exact d (nI_lt2 (N := 4) (by omega) ho)
theorem t_cellAt {a b : Int32} {S : hs_S} {Q : Int32 → hs_S → Prop} {Ex : String → hs_S → Prop} (hw : hs_Wi S) (h1 : ∀ c r : Nat, c < 4 → r < 6 → a = nI c → b = nI r → Q (nI (6 * c + r)) S) (h2 : F_isCell a b = 0 → Ex iIO S) : m_C_cellAt a b S Q Ex := by
  refine ok_C_cellAt hw fun _ => t_needColumn hw (fun c hc ec => ⟨fun d => h2 (cell_iff.mpr ?_), fun d => ⟨fun q => ?_, fun q => h2 (cell_iff.mpr ?_)⟩⟩) (fun q => h2 (cell_iff.mpr fun z => q z.1))
  · rintro ⟨_, r, hr, rfl⟩; exact nI_lo (by omega) d
  · obtain ⟨r, hr, er⟩ := lt_of (N := 6) (by omega) d q
    have := h1 c r hc hr ec er
    rw [ec, er]
    rw [nI_61]
    exact this
  · rintro ⟨_, r, hr, rfl⟩; exact q (nI_lt2 (N := 6) (by omega) hr)
theorem t_needOwnCell {a : Int32} {k : Nat} {S : hs_S} {Q : hs_S → Prop} {Ex : String → hs_S → Prop} (hw : hs_Wi S) (hk : k < 24) (h1 : S.1 20 1 k = a → Q S) (h2 : ¬ S.1 20 1 k = a → Ex iIS S) : m_C_needOwnCell a (nI k) S Q Ex := by
  refine ok_C_needOwnCell hw ?_
  unfold vc_C_needOwnCell
  rw [cl24 hk]
  exact ⟨hl_ix (by omega) (by omega), h1, h2⟩
theorem t_needReader {a : Int32} {k : Nat} {S : hs_S} {Q : hs_S → Prop} {Ex : String → hs_S → Prop} (hw : hs_Wi S) (hk : k < 24) (h1 : ¬ F_Rts_canRead 1 a (nI k) S = 0 → Q S) (h2 : F_Rts_canRead 1 a (nI k) S = 0 → Ex iIS S) : m_C_needReader a (nI k) S Q Ex :=
  ok_C_needReader hw ⟨hl_ix (by omega) (by omega), h1, h2⟩
theorem t_needEditable {a : Int32} {k : Nat} {S : hs_S} {Q : hs_S → Prop} {Ex : String → hs_S → Prop} (hw : hs_Wi S) (hk : k < 24) (hr : S.2.1 26 1 (k / 6) ≠ 0) (hz : hs_sz S 12 ≤ 60) (h1 : S.1 20 1 k = a → S.1 8 (S.2.1 26 1 (k / 6)) 1 = 2147483647 → hs_sz S 12 < 60 → Q S) (h2 : ¬ (S.1 20 1 k = a ∧ S.1 8 (S.2.1 26 1 (k / 6)) 1 = 2147483647 ∧ hs_sz S 12 < 60) → Ex iIS S) : m_C_needEditable a (nI k) S Q Ex := by
  refine ok_C_needEditable hw fun _ => t_needOwnCell hw hk (fun e => ?_) (fun e => h2 fun z => e z.1)
  rw [nI_div6 (by omega), hl_cl (by omega)]
  refine ⟨hl_ix (by omega) (by omega), hr, fun q => ⟨fun q2 => ?_, fun q2 => h2 fun z => q2 ?_⟩, fun q => h2 fun z => q ?_⟩
  · have e1 : S.1 8 (S.2.1 26 1 (k / 6)) 1 = 2147483647 := Classical.not_not.mp (bI_eq0.mp q)
    exact h1 e e1 ((hl_lt (a := hs_sz S 12) (b := 60) (by omega) (by omega)).mp q2)
  · exact nI_lt2 (N := 60) (by omega) z.2.2
  · exact bI_eq0.mpr (Classical.not_not.mpr z.2.1)
theorem t_bidNumbered {a : Int32} {S : hs_S} {Q : Nat → hs_S → Prop} {Ex : String → hs_S → Prop} (hw : hs_Wi S) (hz : hs_sz S 13 ≤ 80) (hid : ∀ b, b < hs_sz S 13 → S.2.1 13 1 b = b + 1) (h1 : ∀ b : Nat, b < hs_sz S 13 → a = nI b → Q (b + 1) S) (h2 : ¬ (∃ b : Nat, b < hs_sz S 13 ∧ a = nI b) → Ex iIO S) : m_C_bidNumbered a S Q Ex := by
  refine ok_C_bidNumbered hw ⟨fun c => h2 ?_, fun c => ⟨fun d => ?_, fun d => h2 ?_⟩⟩
  · rintro ⟨o, ho, rfl⟩; exact nI_lo (by omega) c
  · obtain ⟨b, hb, e⟩ := lt_of (by omega) c d
    rw [e, hl_cl (by omega), hid b hb]
    exact ⟨hl_ix (by omega) (by omega), by omega, h1 b hb e⟩
  · rintro ⟨o, ho, rfl⟩; exact d (nI_lt2 (by omega) ho)
theorem t_roundNumbered {a : Int32} {S : hs_S} {Q : Nat → hs_S → Prop} {Ex : String → hs_S → Prop} (hw : hs_Wi S) (hz : hs_sz S 14 ≤ 30) (hid : ∀ b, b < hs_sz S 14 → S.2.1 14 1 b ≠ 0) (h1 : ∀ b : Nat, b < hs_sz S 14 → a = nI b → Q (S.2.1 14 1 b) S) (h2 : ¬ (∃ b : Nat, b < hs_sz S 14 ∧ a = nI b) → Ex iIO S) : m_C_roundNumbered a S Q Ex := by
  refine ok_C_roundNumbered hw ⟨fun c => h2 ?_, fun c => ⟨fun d => ?_, fun d => h2 ?_⟩⟩
  · rintro ⟨o, ho, rfl⟩; exact nI_lo (by omega) c
  · obtain ⟨b, hb, e⟩ := lt_of (by omega) c d
    rw [e, hl_cl (by omega)]
    exact ⟨hl_ix (by omega) (by omega), hid b hb, h1 b hb e⟩
  · rintro ⟨o, ho, rfl⟩; exact d (nI_lt2 (by omega) ho)
/-! ===== one call ===== -/
def OK (n : Nat) (k : Int32) (r : Int32) (T : hs_S) : Prop := RR (n + 1) T ∧ T.1 11 1 59 = k ∧ (k = 0 → T.2.2.1 100 1 0 = r.toInt64)
theorem RX_up {n : Nat} {U V : hs_S} {ev ng nl nE nB nR nd : Nat} (h : RX n U V ev ng nl nE nB nR nd) (hn : n < 512) : RX (n + 1) U V ev ng nl nE nB nR nd := ⟨⟨⟨⟨by have := h.1.1.1.1; omega, by omega⟩, h.1.1.2⟩, h.1.2⟩, h.2⟩
theorem RR_up {n : Nat} {S : hs_S} (h : RR n S) (hn : n < 512) : RR (n + 1) S := by
  obtain ⟨ev, ng, nl, nE, nB, nR, nd, hX, h⟩ := h
  exact ⟨ev, ng, nl, nE, nB, nR, nd, RX_up hX hn, h⟩
theorem RR_th {n : Nat} {S : hs_S} {x : Int32} (h : RR n S) : RR n (hs_wI S 11 1 59 x) := by
  obtain ⟨ev, ng, nl, nE, nB, nR, nd, ⟨a, b, c, d, e, f, g, i⟩, hL, hQ, hM⟩ := h
  exact ⟨ev, ng, nl, nE, nB, nR, nd, ⟨a, b, c, d, e, f, g, i⟩, hL, hQ, hM⟩
theorem RR_ol {n : Nat} {S : hs_S} {y : Int64} (h : RR n S) : RR n (hs_wL S 100 1 0 y) := by
  obtain ⟨ev, ng, nl, nE, nB, nR, nd, ⟨a, b, c, d, e, f, g, i⟩, hL, hQ, hM⟩ := h
  exact ⟨ev, ng, nl, nE, nB, nR, nd, ⟨a, b, c, d, e, f, g, i⟩, hL, hQ, hM⟩
