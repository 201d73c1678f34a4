/-! ===== the first state is wired ===== -/
theorem Wi_dec : ∀ t : Fin 12, ∀ i : Fin 6, ∀ j : Fin 60, hs_wi t.val j.val ≠ 0 → 1 ≤ i.val → i.val ≤ (sT (fun _ => 0)).2.2.2 t.val → (sT (fun _ => 0)).2.1 t.val i.val j.val = hs_wv (hs_wi t.val j.val) i.val := by decide +kernel
theorem N_dec : ∀ t : Fin 12, (sT (fun _ => 0)).2.2.2 t.val < 6 := by decide +kernel
theorem W32_dec : ∀ j : Fin 8, (sT (fun _ => 0)).2.1 32 1 j.val = j.val + 1 := by decide +kernel
theorem wi_hi {t j : Nat} (h : hs_wi t j ≠ 0) : t < 12 ∧ j < 60 := by
  unfold hs_wi at h
  split at h
  all_goals (first | exact absurd rfl h | skip)
  all_goals (split at h <;> first | exact absurd rfl h | exact ⟨by omega, by omega⟩)
theorem sT_Wi : hs_Wi (sT (fun _ => 0)) := by
  refine ⟨fun t i j hw hok => ?_, fun j hj _ => W32_dec ⟨j, hj⟩⟩
  obtain ⟨h1, h2⟩ := wi_hi hw
  have hN : (sT (fun _ => 0)).2.2.2 t < 6 := N_dec ⟨t, h1⟩
  exact Wi_dec ⟨t, h1⟩ ⟨i, Nat.lt_of_le_of_lt hok.2.2.2 hN⟩ ⟨j, h2⟩ hw hok.2.2.1 hok.2.2.2
