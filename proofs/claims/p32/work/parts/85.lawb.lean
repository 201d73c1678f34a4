/-! ===== the law, from its bytecode ===== -/
theorem kb28 : (Int8.ofInt 28).toInt32 = 28 := by decide
theorem kb55 : (Int8.ofInt 55).toInt32 = 55 := by decide
theorem kb75 : (Int8.ofInt 75).toInt32 = 75 := by decide
theorem kb90 : (Int8.ofInt 90).toInt32 = 90 := by decide
def vc_LA (S U : hs_S) (Kb : Int32 → Int32 → Int32 → Int32 → Int32 → hs_S → hs_S → Prop) : Prop := (hs_Wi S → m_L_refused (0 : Int32) (0 : Int32) (0 : Int32) S (fun r2 S1 => (¬ r2 = 0 ∧ (hs_Wi S1 → m_L_all (0 : Int32) (0 : Int32) S1 (fun r5 S4 => (hs_Wi U → m_L_all (0 : Int32) (0 : Int32) U (fun r7 S6 => ((lg_cmp r5 r7) = 0 ∧ (Kb (0 : Int32) (0 : Int32) (0 : Int32) (1 : Int32) (0 : Int32) S4 S6)))))))))
set_option maxRecDepth 100000 in
set_option maxHeartbeats 4000000 in
theorem ok_LA {Z : b_Z} {k n : Nat} {S U : hs_S} {Kb : Int32 → Int32 → Int32 → Int32 → Int32 → hs_S → hs_S → Prop} (X : b_C Z RL cL_law 14 room_1) (hk : k + 319 ≤ room_1.cells) (hn : n + 6902 ≤ room_1.slots) (hw : hs_Wi S) (hu : hs_Wi U) (hKb : ∀ (y3 y4 y5 y6 y7 : Int32) (S U : hs_S), hs_Wi S → hs_Wi U → Kb y3 y4 y5 y6 y7 S U → wb Z (k + 319) (n + 6902) (S, U) 60 [(0, .inr (.inr (101, 1))), (1, .inr (.inr (10, 1))), (2, .inr (.inr (210, 1))), (3, .inl y3), (4, .inl y4), (5, .inl y5), (6, .inl y6), (7, .inl y7)] []) (hv : vc_LA S U Kb) : wb Z k n (S, U) 24 [(0, .inr (.inr (101, 1))), (1, .inr (.inr (10, 1))), (2, .inr (.inr (210, 1))), (3, .inl (0 : Int32)), (4, .inl (0 : Int32)), (5, .inl (0 : Int32))] [] := by
  unfold vc_LA at hv
  refine wb_aload_n X 1 rfl dL_law_24 rfl ?_
  refine wb_iconst X dL_law_25 kc0 ?_
  refine wb_iconst X dL_law_26 kc0 ?_
  refine wb_iconst X dL_law_27 kc0 ?_
  refine wb_callS1 X (As := [.inr (.inr (10, 1)), .inl (0 : Int32), .inl (0 : Int32), .inl (0 : Int32)]) (hv hw) rfl b_nr_I kw_1110 kw_20 kw_1108 kw_1109 nd_L_refused rfl rfl (Nat.le_of_ble_eq_true rfl) dL_law_28 ⟨⟨Nat.le_of_ble_eq_true rfl, Nat.le_of_ble_eq_true rfl⟩, by omega, by omega⟩ (fun v S1 h => ?_)
  obtain ⟨hw, r2, rfl, hv⟩ := h
  obtain ⟨c3, hv⟩ := hv
  refine wb_if_eq X (tgt := 54) dL_law_31 (by decide) (fun c => absurd c c3) (fun _ => ?_)
  refine wb_aload_n X 1 rfl dL_law_34 rfl ?_
  refine wb_iconst X dL_law_35 kc0 ?_
  refine wb_iconst X dL_law_36 kc0 ?_
  refine wb_callS1 X (As := [.inr (.inr (10, 1)), .inl (0 : Int32), .inl (0 : Int32)]) (hv hw) rfl b_nr_L kw_1068 kw_20 kw_1066 kw_1067 nd_L_all rfl rfl (Nat.le_of_ble_eq_true rfl) dL_law_37 ⟨⟨Nat.le_of_ble_eq_true rfl, Nat.le_of_ble_eq_true rfl⟩, by omega, by omega⟩ (fun v S4 h => ?_)
  obtain ⟨hw, r5, rfl, hv⟩ := h
  refine wb_aload_n X 2 rfl dL_law_40 rfl ?_
  refine wb_iconst X dL_law_41 kc0 ?_
  refine wb_iconst X dL_law_42 kc0 ?_
  refine wb_callS2 X (As := [.inr (.inr (10, 1)), .inl (0 : Int32), .inl (0 : Int32)]) (hv hu) b_nr_L kw_1068 kw_20 kw_1066 kw_1067 nd_L_all rfl rfl (Nat.le_of_ble_eq_true rfl) dL_law_43 ⟨⟨Nat.le_of_ble_eq_true rfl, Nat.le_of_ble_eq_true rfl⟩, by omega, by omega⟩ (fun v S6 h => ?_)
  obtain ⟨hu, r7, rfl, hv⟩ := h
  refine wb_lcmp X dL_law_46 ?_
  obtain ⟨c8, hv⟩ := hv
  refine wb_if_ne X (tgt := 54) dL_law_47 (by decide) (fun c => absurd c8 c) (fun _ => ?_)
  refine wb_iconst X dL_law_50 kc1 ?_
  refine wb_goto X (tgt := 55) dL_law_51 (by decide) ?_
  refine wb_istore X (lv' := [(6, .inl (1 : Int32)), (0, .inr (.inr (101, 1))), (1, .inr (.inr (10, 1))), (2, .inr (.inr (210, 1))), (3, .inl (0 : Int32)), (4, .inl (0 : Int32)), (5, .inl (0 : Int32))]) dL_law_55 (by decide) rfl ?_
  refine wb_iconst X dL_law_57 kc0 ?_
  refine wb_istore X (lv' := [(7, .inl (0 : Int32)), (6, .inl (1 : Int32)), (0, .inr (.inr (101, 1))), (1, .inr (.inr (10, 1))), (2, .inr (.inr (210, 1))), (3, .inl (0 : Int32)), (4, .inl (0 : Int32)), (5, .inl (0 : Int32))]) dL_law_58 (by decide) rfl ?_
  refine wb_lv (lv' := [(0, .inr (.inr (101, 1))), (1, .inr (.inr (10, 1))), (2, .inr (.inr (210, 1))), (3, .inl (0 : Int32)), (4, .inl (0 : Int32)), (5, .inl (0 : Int32)), (6, .inl (1 : Int32)), (7, .inl (0 : Int32))]) [2, 3, 4, 5, 6, 7, 1, 0] rfl ?_
  exact wb_wid (by omega) (by omega) (hKb _ _ _ _ _  _ _ hw hu hv)
def vc_LB (x3 x4 x5 x6 x7 : Int32) (S U : hs_S) (Kb : Int32 → Int32 → Int32 → Int32 → Int32 → hs_S → hs_S → Prop) (Ke : Int32 → Int32 → Int32 → hs_S → hs_S → Prop) : Prop := (((90 : Int32) ≤ x7 → (Ke x4 x5 x6 S U)) ∧ (¬ (90 : Int32) ≤ x7 → ((x6 = 0 → (Ke x4 x5 x6 S U)) ∧ (¬ x6 = 0 → ((P_L_cell ((2 : Int32) * x7) S) ∧ (∀ r4 : Int32, ∀ S3 : hs_S, R_L_cell ((2 : Int32) * x7) S r4 S3 → ((P_L_cell (((2 : Int32) * x7) + (1 : Int32)) S3) ∧ (∀ r8 : Int32, ∀ S7 : hs_S, R_L_cell (((2 : Int32) * x7) + (1 : Int32)) S3 r8 S7 → ((P_L_some r4 (20 : Int32) S7) ∧ (∀ K18 : Int32 → Int32 → Int32 → Int32 → hs_S → hs_S → Prop, (∀ (x12 : Int32) (x13 : Int32) (x14 : Int32) (x15 : Int32) (S16 U17 : hs_S), (¬ x15 = 0 ∧ ((0 < (x7 - x7 / (5 : Int32) * (5 : Int32)) → ((0 < (x7 - x7 / (20 : Int32) * (20 : Int32)) → (Kb x12 x13 x14 (1 : Int32) (x7 + 1) S16 U17)) ∧ (¬ 0 < (x7 - x7 / (20 : Int32) * (20 : Int32)) → (hs_Wi S16 → m_L_refused x12 x13 x14 S16 (fun r23 S22 => (¬ r23 = 0 ∧ (Kb x12 x13 x14 (1 : Int32) (x7 + 1) S22 U17))))))) ∧ (¬ 0 < (x7 - x7 / (5 : Int32) * (5 : Int32)) → (hs_Wi S16 → m_L_all x13 x14 S16 (fun r26 S25 => (hs_Wi U17 → m_L_all x13 x14 U17 (fun r28 S27 => ((lg_cmp r26 r28) = 0 ∧ ((0 < (x7 - x7 / (20 : Int32) * (20 : Int32)) → (Kb x12 x13 x14 (1 : Int32) (x7 + 1) S25 S27)) ∧ (¬ 0 < (x7 - x7 / (20 : Int32) * (20 : Int32)) → (hs_Wi S25 → m_L_refused x12 x13 x14 S25 (fun r32 S31 => (¬ r32 = 0 ∧ (Kb x12 x13 x14 (1 : Int32) (x7 + 1) S31 S27)))))))))))))) → K18 x12 x13 x14 x15 S16 U17) → (((2 : Int32) ≤ (F_L_some r4 (20 : Int32)) → (((6 : Int32) ≤ (F_L_some r4 (20 : Int32)) → (((4 : Int32) ≤ x7 → (((13 : Int32) ≤ (F_L_some r4 (20 : Int32)) → (((16 : Int32) ≤ (F_L_some r4 (20 : Int32)) → (((17 : Int32) ≤ (F_L_some r4 (20 : Int32)) → (((18 : Int32) ≤ (F_L_some r4 (20 : Int32)) → (hs_Wi S7 → hs_Wi U → m_L_strikes x3 x4 x5 r8 S7 U (fun r43 S41 U42 => (K18 x3 x4 x5 r43 S41 U42)))) ∧ (¬ (18 : Int32) ≤ (F_L_some r4 (20 : Int32)) → ((P_L_some r8 (2 : Int32) S7) ∧ (hs_Wi S7 → hs_Wi U → m_L_both (19 : Int32) (F_L_some r8 (2 : Int32)) (0 : Int32) (0 : Int32) S7 U (fun r47 S45 U46 => (¬ r47 < 0 ∧ (∃ I51 : Nat → Int32 → Int32 → Prop, (∃ n55, I51 n55 (1 : Int32) (0 : Int32)) ∧ (∀ N52 : Nat, ∀ x49 : Int32, ∀ x50 : Int32, I51 N52 x49 x50 → (∀ K61 : hs_S → hs_S → Prop, (∀  (S59 U60 : hs_S), (¬ x49 = 0 ∧ (hs_Wi S59 → hs_Wi U60 → m_L_both (19 : Int32) (F_L_some r8 (2 : Int32)) (0 : Int32) (0 : Int32) S59 U60 (fun r65 S63 U64 => (r65 = 0 ∧ (K18 x3 x4 x5 (1 : Int32) S63 U64))))) → K61  S59 U60) → (((6 : Int32) ≤ x50 → (K61 S45 U46)) ∧ (¬ (6 : Int32) ≤ x50 → ((x49 = 0 → (K61 S45 U46)) ∧ (¬ x49 = 0 → ((P_Cq_due x50 (F_L_some r8 (2 : Int32)) S45) ∧ ((F_Ldg_dueOf x50 (F_L_some r8 (2 : Int32)) S45) = 0 ∧ (∃ q71, q71 < N52 ∧ I51 q71 (1 : Int32) (x50 + 1)))))))))))))))))) ∧ (¬ (17 : Int32) ≤ (F_L_some r4 (20 : Int32)) → ((P_L_some r8 (4 : Int32) S7) ∧ ((P_L_some (r8 >>> ((3 : Int32) &&& 31)) (2 : Int32) S7) ∧ (hs_Wi S7 → hs_Wi U → m_L_both (12 : Int32) (F_L_some r8 (4 : Int32)) (F_L_some (r8 >>> ((3 : Int32) &&& 31)) (2 : Int32)) (0 : Int32) S7 U (fun r77 S75 U76 => ((r77 = 0 → (hs_Wi S75 → hs_Wi U76 → m_L_both (12 : Int32) (F_L_some r8 (4 : Int32)) (F_L_some (r8 >>> ((3 : Int32) &&& 31)) (2 : Int32)) (0 : Int32) S75 U76 (fun r81 S79 U80 => (r81 = (F_L_some (r8 >>> ((3 : Int32) &&& 31)) (2 : Int32)) ∧ (K18 x3 x4 x5 (1 : Int32) S79 U80))))) ∧ (¬ r77 = 0 → (r77 = (1 : Int32) ∧ (hs_Wi S75 → hs_Wi U76 → m_L_both (12 : Int32) (F_L_some r8 (4 : Int32)) (F_L_some (r8 >>> ((3 : Int32) &&& 31)) (2 : Int32)) (0 : Int32) S75 U76 (fun r86 S84 U85 => (r86 = (F_L_some (r8 >>> ((3 : Int32) &&& 31)) (2 : Int32)) ∧ (K18 x3 x4 x5 (1 : Int32) S84 U85)))))))))))))) ∧ (¬ (16 : Int32) ≤ (F_L_some r4 (20 : Int32)) → (∀ K90 : hs_S → hs_S → Prop, (∀  (S88 U89 : hs_S), (hs_Wi S88 → m_L_call (15 : Int32) x5 (0 : Int32) (0 : Int32) S88 (fun r92 S91 => ((r92 < 0 → (K18 x3 x4 (x5 + (0 : Int32)) (1 : Int32) S91 U89)) ∧ (¬ r92 < 0 → (K18 x3 x4 (x5 + (1 : Int32)) (1 : Int32) S91 U89))))) → K90  S88 U89) → ((x5 = (28 : Int32) → (K90 S7 U)) ∧ (¬ x5 = (28 : Int32) → (hs_Wi S7 → hs_Wi U → m_L_rings x4 x5 r8 S7 U (fun r97 S95 U96 => (¬ r97 = 0 ∧ (K90 S95 U96)))))))))) ∧ (¬ (13 : Int32) ≤ (F_L_some r4 (20 : Int32)) → (((75 : Int32) ≤ x4 → (((16 : Int32) ≤ (F_L_some r4 (20 : Int32)) → (((17 : Int32) ≤ (F_L_some r4 (20 : Int32)) → (((18 : Int32) ≤ (F_L_some r4 (20 : Int32)) → (hs_Wi S7 → hs_Wi U → m_L_strikes x3 x4 x5 r8 S7 U (fun r105 S103 U104 => (K18 x3 x4 x5 r105 S103 U104)))) ∧ (¬ (18 : Int32) ≤ (F_L_some r4 (20 : Int32)) → ((P_L_some r8 (2 : Int32) S7) ∧ (hs_Wi S7 → hs_Wi U → m_L_both (19 : Int32) (F_L_some r8 (2 : Int32)) (0 : Int32) (0 : Int32) S7 U (fun r109 S107 U108 => (¬ r109 < 0 ∧ (∃ I113 : Nat → Int32 → Int32 → Prop, (∃ n117, I113 n117 (1 : Int32) (0 : Int32)) ∧ (∀ N114 : Nat, ∀ x111 : Int32, ∀ x112 : Int32, I113 N114 x111 x112 → (∀ K123 : hs_S → hs_S → Prop, (∀  (S121 U122 : hs_S), (¬ x111 = 0 ∧ (hs_Wi S121 → hs_Wi U122 → m_L_both (19 : Int32) (F_L_some r8 (2 : Int32)) (0 : Int32) (0 : Int32) S121 U122 (fun r127 S125 U126 => (r127 = 0 ∧ (K18 x3 x4 x5 (1 : Int32) S125 U126))))) → K123  S121 U122) → (((6 : Int32) ≤ x112 → (K123 S107 U108)) ∧ (¬ (6 : Int32) ≤ x112 → ((x111 = 0 → (K123 S107 U108)) ∧ (¬ x111 = 0 → ((P_Cq_due x112 (F_L_some r8 (2 : Int32)) S107) ∧ ((F_Ldg_dueOf x112 (F_L_some r8 (2 : Int32)) S107) = 0 ∧ (∃ q133, q133 < N114 ∧ I113 q133 (1 : Int32) (x112 + 1)))))))))))))))))) ∧ (¬ (17 : Int32) ≤ (F_L_some r4 (20 : Int32)) → ((P_L_some r8 (4 : Int32) S7) ∧ ((P_L_some (r8 >>> ((3 : Int32) &&& 31)) (2 : Int32) S7) ∧ (hs_Wi S7 → hs_Wi U → m_L_both (12 : Int32) (F_L_some r8 (4 : Int32)) (F_L_some (r8 >>> ((3 : Int32) &&& 31)) (2 : Int32)) (0 : Int32) S7 U (fun r139 S137 U138 => ((r139 = 0 → (hs_Wi S137 → hs_Wi U138 → m_L_both (12 : Int32) (F_L_some r8 (4 : Int32)) (F_L_some (r8 >>> ((3 : Int32) &&& 31)) (2 : Int32)) (0 : Int32) S137 U138 (fun r143 S141 U142 => (r143 = (F_L_some (r8 >>> ((3 : Int32) &&& 31)) (2 : Int32)) ∧ (K18 x3 x4 x5 (1 : Int32) S141 U142))))) ∧ (¬ r139 = 0 → (r139 = (1 : Int32) ∧ (hs_Wi S137 → hs_Wi U138 → m_L_both (12 : Int32) (F_L_some r8 (4 : Int32)) (F_L_some (r8 >>> ((3 : Int32) &&& 31)) (2 : Int32)) (0 : Int32) S137 U138 (fun r148 S146 U147 => (r148 = (F_L_some (r8 >>> ((3 : Int32) &&& 31)) (2 : Int32)) ∧ (K18 x3 x4 x5 (1 : Int32) S146 U147)))))))))))))) ∧ (¬ (16 : Int32) ≤ (F_L_some r4 (20 : Int32)) → (∀ K152 : hs_S → hs_S → Prop, (∀  (S150 U151 : hs_S), (hs_Wi S150 → m_L_call (15 : Int32) x5 (0 : Int32) (0 : Int32) S150 (fun r154 S153 => ((r154 < 0 → (K18 x3 x4 (x5 + (0 : Int32)) (1 : Int32) S153 U151)) ∧ (¬ r154 < 0 → (K18 x3 x4 (x5 + (1 : Int32)) (1 : Int32) S153 U151))))) → K152  S150 U151) → ((x5 = (28 : Int32) → (K152 S7 U)) ∧ (¬ x5 = (28 : Int32) → (hs_Wi S7 → hs_Wi U → m_L_rings x4 x5 r8 S7 U (fun r159 S157 U158 => (¬ r159 = 0 ∧ (K152 S157 U158)))))))))) ∧ (¬ (75 : Int32) ≤ x4 → (hs_Wi S7 → hs_Wi U → m_L_bids x4 r8 S7 U (fun r163 S161 U162 => (hs_Wi S161 → m_L_call (17 : Int32) x4 (0 : Int32) (0 : Int32) S161 (fun r165 S164 => ((¬ r165 = 0 → (K18 x3 (x4 + (0 : Int32)) x5 r163 S164 U162)) ∧ (r165 = 0 → (K18 x3 (x4 + (1 : Int32)) x5 r163 S164 U162)))))))))))) ∧ (¬ (4 : Int32) ≤ x7 → (hs_Wi S7 → hs_Wi U → m_L_edits x3 (r4 >>> ((3 : Int32) &&& 31)) r8 S7 U (fun r169 S167 U168 => (∃ I172 : Nat → Int32 → Int32 → Prop, (∃ n176, I172 n176 (0 : Int32) (0 : Int32)) ∧ (∀ N173 : Nat, ∀ x170 : Int32, ∀ x171 : Int32, I172 N173 x170 x171 → (((24 : Int32) ≤ x171 → (K18 x170 x4 x5 r169 S167 U168)) ∧ (¬ (24 : Int32) ≤ x171 → ((P_Cq_edits (x171 / (6 : Int32)) (x171 - x171 / (6 : Int32) * (6 : Int32)) S167) ∧ (∃ q182, q182 < N173 ∧ I172 q182 (x170 + (F_Cq_edits (x171 / (6 : Int32)) (x171 - x171 / (6 : Int32) * (6 : Int32)) S167)) (x171 + 1)))))))))))) ∧ (¬ (6 : Int32) ≤ (F_L_some r4 (20 : Int32)) → ((x3 < (55 : Int32) → (hs_Wi S7 → hs_Wi U → m_L_edits x3 (r4 >>> ((3 : Int32) &&& 31)) r8 S7 U (fun r187 S185 U186 => (∃ I190 : Nat → Int32 → Int32 → Prop, (∃ n194, I190 n194 (0 : Int32) (0 : Int32)) ∧ (∀ N191 : Nat, ∀ x188 : Int32, ∀ x189 : Int32, I190 N191 x188 x189 → (((24 : Int32) ≤ x189 → (K18 x188 x4 x5 r187 S185 U186)) ∧ (¬ (24 : Int32) ≤ x189 → ((P_Cq_edits (x189 / (6 : Int32)) (x189 - x189 / (6 : Int32) * (6 : Int32)) S185) ∧ (∃ q200, q200 < N191 ∧ I190 q200 (x188 + (F_Cq_edits (x189 / (6 : Int32)) (x189 - x189 / (6 : Int32) * (6 : Int32)) S185)) (x189 + 1)))))))))) ∧ (¬ x3 < (55 : Int32) → (((4 : Int32) ≤ x7 → (((13 : Int32) ≤ (F_L_some r4 (20 : Int32)) → (((16 : Int32) ≤ (F_L_some r4 (20 : Int32)) → (((17 : Int32) ≤ (F_L_some r4 (20 : Int32)) → (((18 : Int32) ≤ (F_L_some r4 (20 : Int32)) → (hs_Wi S7 → hs_Wi U → m_L_strikes x3 x4 x5 r8 S7 U (fun r209 S207 U208 => (K18 x3 x4 x5 r209 S207 U208)))) ∧ (¬ (18 : Int32) ≤ (F_L_some r4 (20 : Int32)) → ((P_L_some r8 (2 : Int32) S7) ∧ (hs_Wi S7 → hs_Wi U → m_L_both (19 : Int32) (F_L_some r8 (2 : Int32)) (0 : Int32) (0 : Int32) S7 U (fun r213 S211 U212 => (¬ r213 < 0 ∧ (∃ I217 : Nat → Int32 → Int32 → Prop, (∃ n221, I217 n221 (1 : Int32) (0 : Int32)) ∧ (∀ N218 : Nat, ∀ x215 : Int32, ∀ x216 : Int32, I217 N218 x215 x216 → (∀ K227 : hs_S → hs_S → Prop, (∀  (S225 U226 : hs_S), (¬ x215 = 0 ∧ (hs_Wi S225 → hs_Wi U226 → m_L_both (19 : Int32) (F_L_some r8 (2 : Int32)) (0 : Int32) (0 : Int32) S225 U226 (fun r231 S229 U230 => (r231 = 0 ∧ (K18 x3 x4 x5 (1 : Int32) S229 U230))))) → K227  S225 U226) → (((6 : Int32) ≤ x216 → (K227 S211 U212)) ∧ (¬ (6 : Int32) ≤ x216 → ((x215 = 0 → (K227 S211 U212)) ∧ (¬ x215 = 0 → ((P_Cq_due x216 (F_L_some r8 (2 : Int32)) S211) ∧ ((F_Ldg_dueOf x216 (F_L_some r8 (2 : Int32)) S211) = 0 ∧ (∃ q237, q237 < N218 ∧ I217 q237 (1 : Int32) (x216 + 1)))))))))))))))))) ∧ (¬ (17 : Int32) ≤ (F_L_some r4 (20 : Int32)) → ((P_L_some r8 (4 : Int32) S7) ∧ ((P_L_some (r8 >>> ((3 : Int32) &&& 31)) (2 : Int32) S7) ∧ (hs_Wi S7 → hs_Wi U → m_L_both (12 : Int32) (F_L_some r8 (4 : Int32)) (F_L_some (r8 >>> ((3 : Int32) &&& 31)) (2 : Int32)) (0 : Int32) S7 U (fun r243 S241 U242 => ((r243 = 0 → (hs_Wi S241 → hs_Wi U242 → m_L_both (12 : Int32) (F_L_some r8 (4 : Int32)) (F_L_some (r8 >>> ((3 : Int32) &&& 31)) (2 : Int32)) (0 : Int32) S241 U242 (fun r247 S245 U246 => (r247 = (F_L_some (r8 >>> ((3 : Int32) &&& 31)) (2 : Int32)) ∧ (K18 x3 x4 x5 (1 : Int32) S245 U246))))) ∧ (¬ r243 = 0 → (r243 = (1 : Int32) ∧ (hs_Wi S241 → hs_Wi U242 → m_L_both (12 : Int32) (F_L_some r8 (4 : Int32)) (F_L_some (r8 >>> ((3 : Int32) &&& 31)) (2 : Int32)) (0 : Int32) S241 U242 (fun r252 S250 U251 => (r252 = (F_L_some (r8 >>> ((3 : Int32) &&& 31)) (2 : Int32)) ∧ (K18 x3 x4 x5 (1 : Int32) S250 U251)))))))))))))) ∧ (¬ (16 : Int32) ≤ (F_L_some r4 (20 : Int32)) → (∀ K256 : hs_S → hs_S → Prop, (∀  (S254 U255 : hs_S), (hs_Wi S254 → m_L_call (15 : Int32) x5 (0 : Int32) (0 : Int32) S254 (fun r258 S257 => ((r258 < 0 → (K18 x3 x4 (x5 + (0 : Int32)) (1 : Int32) S257 U255)) ∧ (¬ r258 < 0 → (K18 x3 x4 (x5 + (1 : Int32)) (1 : Int32) S257 U255))))) → K256  S254 U255) → ((x5 = (28 : Int32) → (K256 S7 U)) ∧ (¬ x5 = (28 : Int32) → (hs_Wi S7 → hs_Wi U → m_L_rings x4 x5 r8 S7 U (fun r263 S261 U262 => (¬ r263 = 0 ∧ (K256 S261 U262)))))))))) ∧ (¬ (13 : Int32) ≤ (F_L_some r4 (20 : Int32)) → (((75 : Int32) ≤ x4 → (((16 : Int32) ≤ (F_L_some r4 (20 : Int32)) → (((17 : Int32) ≤ (F_L_some r4 (20 : Int32)) → (((18 : Int32) ≤ (F_L_some r4 (20 : Int32)) → (hs_Wi S7 → hs_Wi U → m_L_strikes x3 x4 x5 r8 S7 U (fun r271 S269 U270 => (K18 x3 x4 x5 r271 S269 U270)))) ∧ (¬ (18 : Int32) ≤ (F_L_some r4 (20 : Int32)) → ((P_L_some r8 (2 : Int32) S7) ∧ (hs_Wi S7 → hs_Wi U → m_L_both (19 : Int32) (F_L_some r8 (2 : Int32)) (0 : Int32) (0 : Int32) S7 U (fun r275 S273 U274 => (¬ r275 < 0 ∧ (∃ I279 : Nat → Int32 → Int32 → Prop, (∃ n283, I279 n283 (1 : Int32) (0 : Int32)) ∧ (∀ N280 : Nat, ∀ x277 : Int32, ∀ x278 : Int32, I279 N280 x277 x278 → (∀ K289 : hs_S → hs_S → Prop, (∀  (S287 U288 : hs_S), (¬ x277 = 0 ∧ (hs_Wi S287 → hs_Wi U288 → m_L_both (19 : Int32) (F_L_some r8 (2 : Int32)) (0 : Int32) (0 : Int32) S287 U288 (fun r293 S291 U292 => (r293 = 0 ∧ (K18 x3 x4 x5 (1 : Int32) S291 U292))))) → K289  S287 U288) → (((6 : Int32) ≤ x278 → (K289 S273 U274)) ∧ (¬ (6 : Int32) ≤ x278 → ((x277 = 0 → (K289 S273 U274)) ∧ (¬ x277 = 0 → ((P_Cq_due x278 (F_L_some r8 (2 : Int32)) S273) ∧ ((F_Ldg_dueOf x278 (F_L_some r8 (2 : Int32)) S273) = 0 ∧ (∃ q299, q299 < N280 ∧ I279 q299 (1 : Int32) (x278 + 1)))))))))))))))))) ∧ (¬ (17 : Int32) ≤ (F_L_some r4 (20 : Int32)) → ((P_L_some r8 (4 : Int32) S7) ∧ ((P_L_some (r8 >>> ((3 : Int32) &&& 31)) (2 : Int32) S7) ∧ (hs_Wi S7 → hs_Wi U → m_L_both (12 : Int32) (F_L_some r8 (4 : Int32)) (F_L_some (r8 >>> ((3 : Int32) &&& 31)) (2 : Int32)) (0 : Int32) S7 U (fun r305 S303 U304 => ((r305 = 0 → (hs_Wi S303 → hs_Wi U304 → m_L_both (12 : Int32) (F_L_some r8 (4 : Int32)) (F_L_some (r8 >>> ((3 : Int32) &&& 31)) (2 : Int32)) (0 : Int32) S303 U304 (fun r309 S307 U308 => (r309 = (F_L_some (r8 >>> ((3 : Int32) &&& 31)) (2 : Int32)) ∧ (K18 x3 x4 x5 (1 : Int32) S307 U308))))) ∧ (¬ r305 = 0 → (r305 = (1 : Int32) ∧ (hs_Wi S303 → hs_Wi U304 → m_L_both (12 : Int32) (F_L_some r8 (4 : Int32)) (F_L_some (r8 >>> ((3 : Int32) &&& 31)) (2 : Int32)) (0 : Int32) S303 U304 (fun r314 S312 U313 => (r314 = (F_L_some (r8 >>> ((3 : Int32) &&& 31)) (2 : Int32)) ∧ (K18 x3 x4 x5 (1 : Int32) S312 U313)))))))))))))) ∧ (¬ (16 : Int32) ≤ (F_L_some r4 (20 : Int32)) → (∀ K318 : hs_S → hs_S → Prop, (∀  (S316 U317 : hs_S), (hs_Wi S316 → m_L_call (15 : Int32) x5 (0 : Int32) (0 : Int32) S316 (fun r320 S319 => ((r320 < 0 → (K18 x3 x4 (x5 + (0 : Int32)) (1 : Int32) S319 U317)) ∧ (¬ r320 < 0 → (K18 x3 x4 (x5 + (1 : Int32)) (1 : Int32) S319 U317))))) → K318  S316 U317) → ((x5 = (28 : Int32) → (K318 S7 U)) ∧ (¬ x5 = (28 : Int32) → (hs_Wi S7 → hs_Wi U → m_L_rings x4 x5 r8 S7 U (fun r325 S323 U324 => (¬ r325 = 0 ∧ (K318 S323 U324)))))))))) ∧ (¬ (75 : Int32) ≤ x4 → (hs_Wi S7 → hs_Wi U → m_L_bids x4 r8 S7 U (fun r329 S327 U328 => (hs_Wi S327 → m_L_call (17 : Int32) x4 (0 : Int32) (0 : Int32) S327 (fun r331 S330 => ((¬ r331 = 0 → (K18 x3 (x4 + (0 : Int32)) x5 r329 S330 U328)) ∧ (r331 = 0 → (K18 x3 (x4 + (1 : Int32)) x5 r329 S330 U328)))))))))))) ∧ (¬ (4 : Int32) ≤ x7 → (hs_Wi S7 → hs_Wi U → m_L_edits x3 (r4 >>> ((3 : Int32) &&& 31)) r8 S7 U (fun r335 S333 U334 => (∃ I338 : Nat → Int32 → Int32 → Prop, (∃ n342, I338 n342 (0 : Int32) (0 : Int32)) ∧ (∀ N339 : Nat, ∀ x336 : Int32, ∀ x337 : Int32, I338 N339 x336 x337 → (((24 : Int32) ≤ x337 → (K18 x336 x4 x5 r335 S333 U334)) ∧ (¬ (24 : Int32) ≤ x337 → ((P_Cq_edits (x337 / (6 : Int32)) (x337 - x337 / (6 : Int32) * (6 : Int32)) S333) ∧ (∃ q348, q348 < N339 ∧ I338 q348 (x336 + (F_Cq_edits (x337 / (6 : Int32)) (x337 - x337 / (6 : Int32) * (6 : Int32)) S333)) (x337 + 1)))))))))))))))) ∧ (¬ (2 : Int32) ≤ (F_L_some r4 (20 : Int32)) → (hs_Wi S7 → hs_Wi U → m_L_gives r8 S7 U (fun r352 S350 U351 => (K18 x3 x4 x5 r352 S350 U351)))))))))))))))
set_option maxRecDepth 100000 in
set_option maxHeartbeats 4000000 in
theorem ok_LB {Z : b_Z} {k n : Nat} {x3 x4 x5 x6 x7 : Int32} {S U : hs_S} {Kb : Int32 → Int32 → Int32 → Int32 → Int32 → hs_S → hs_S → Prop} {Ke : Int32 → Int32 → Int32 → hs_S → hs_S → Prop} (X : b_C Z RL cL_law 14 room_1) (hk : k + 528 ≤ room_1.cells) (hn : n + 11424 ≤ room_1.slots) (hw : hs_Wi S) (hu : hs_Wi U) (hKb : ∀ (y3 y4 y5 y6 y7 : Int32) (S U : hs_S), hs_Wi S → hs_Wi U → Kb y3 y4 y5 y6 y7 S U → wb Z (k + 528) (n + 11424) (S, U) 60 [(0, .inr (.inr (101, 1))), (1, .inr (.inr (10, 1))), (2, .inr (.inr (210, 1))), (3, .inl y3), (4, .inl y4), (5, .inl y5), (6, .inl y6), (7, .inl y7)] []) (hKe : ∀ (y4 y5 y6 : Int32) (S U : hs_S), hs_Wi S → hs_Wi U → Ke y4 y5 y6 S U → wb Z (k + 528) (n + 11424) (S, U) 574 [(1, .inr (.inr (10, 1))), (2, .inr (.inr (210, 1))), (4, .inl y4), (5, .inl y5), (6, .inl y6)] []) (hv : vc_LB x3 x4 x5 x6 x7 S U Kb Ke) : wb Z k n (S, U) 60 [(0, .inr (.inr (101, 1))), (1, .inr (.inr (10, 1))), (2, .inr (.inr (210, 1))), (3, .inl x3), (4, .inl x4), (5, .inl x5), (6, .inl x6), (7, .inl x7)] [] := by
  unfold vc_LB at hv
  refine wb_iload X 7 rfl dL_law_60 ?_
  refine wb_bipush X dL_law_62 kb90 ?_
  refine wb_icmp_ge X (tgt := 574) dL_law_64 (by decide) (fun c1 => ?_) (fun c1 => ?_)
  · replace hv := hv.1 c1
    refine wb_lv (lv' := [(1, .inr (.inr (10, 1))), (2, .inr (.inr (210, 1))), (4, .inl x4), (5, .inl x5), (6, .inl x6)]) [1, 2, 4, 5, 6] rfl ?_
    exact wb_wid (by omega) (by omega) (hKe _ _ _  _ _ hw hu hv)
  · replace hv := hv.2 c1
    refine wb_iload X 6 rfl dL_law_67 ?_
    refine wb_if_eq X (tgt := 574) dL_law_69 (by decide) (fun c2 => ?_) (fun c2 => ?_)
    · replace hv := hv.1 c2
      refine wb_lv (lv' := [(1, .inr (.inr (10, 1))), (2, .inr (.inr (210, 1))), (4, .inl x4), (5, .inl x5), (6, .inl x6)]) [1, 2, 4, 5, 6] rfl ?_
      exact wb_wid (by omega) (by omega) (hKe _ _ _  _ _ hw hu hv)
    · replace hv := hv.2 c2
      refine wb_aload_n X 0 rfl dL_law_72 rfl ?_
      refine wb_iconst X dL_law_73 kc2 ?_
      refine wb_iload X 7 rfl dL_law_74 ?_
      refine wb_imul X dL_law_76 ?_
      obtain ⟨o5, hv⟩ := hv
      refine wb_callS1 X (As := [.inr (.inr (101, 1)), .inl ((2 : Int32) * x7)]) (ok_L_cell hw (v_L_cell o5)) rfl b_nr_I kw_499 kw_20 kw_497 kw_498 nd_L_cell rfl rfl (Nat.le_of_ble_eq_true rfl) dL_law_77 ⟨⟨Nat.le_of_ble_eq_true rfl, Nat.le_of_ble_eq_true rfl⟩, by omega, by omega⟩ (fun v S3 h => ?_)
      obtain ⟨hw, r4, rfl, g6⟩ := h
      replace hv := hv r4 S3 g6
      refine wb_istore X (lv' := [(8, .inl r4), (0, .inr (.inr (101, 1))), (1, .inr (.inr (10, 1))), (2, .inr (.inr (210, 1))), (3, .inl x3), (4, .inl x4), (5, .inl x5), (6, .inl x6), (7, .inl x7)]) dL_law_80 (by decide) rfl ?_
      refine wb_aload_n X 1 rfl dL_law_82 rfl ?_
      refine wb_iconst X dL_law_83 kc2 ?_
      refine wb_iload X 8 rfl dL_law_84 ?_
      refine wb_imul X dL_law_86 ?_
      refine wb_iconst X dL_law_87 kc1 ?_
      refine wb_iadd X dL_law_88 ?_
      obtain ⟨o9, hv⟩ := hv
      refine wb_callS1 X (As := [.inr (.inr (101, 1)), .inl (((2 : Int32) * x7) + (1 : Int32))]) (ok_L_cell hw (v_L_cell o9)) rfl b_nr_I kw_499 kw_20 kw_497 kw_498 nd_L_cell rfl rfl (Nat.le_of_ble_eq_true rfl) dL_law_89 ⟨⟨Nat.le_of_ble_eq_true rfl, Nat.le_of_ble_eq_true rfl⟩, by omega, by omega⟩ (fun v S7 h => ?_)
      obtain ⟨hw, r8, rfl, g10⟩ := h
      replace hv := hv r8 S7 g10
      refine wb_istore X (lv' := [(9, .inl r8), (8, .inl r4), (0, .inr (.inr (101, 1))), (1, .inr (.inr (10, 1))), (2, .inr (.inr (210, 1))), (3, .inl x3), (4, .inl x4), (5, .inl x5), (6, .inl x6), (7, .inl x7)]) dL_law_92 (by decide) rfl ?_
      refine wb_iload X 1 rfl dL_law_94 ?_
      refine wb_bipush X dL_law_96 kb20 ?_
      obtain ⟨o11, hv⟩ := hv
      refine wb_callS1 X (As := [.inl r4, .inl (20 : Int32)]) (f_L_some hw o11) rfl b_nr_pI kw_504 kw_20 kw_502 kw_503 nd_L_some rfl rfl (Nat.le_of_ble_eq_true rfl) dL_law_98 ⟨⟨Nat.le_of_ble_eq_true rfl, Nat.le_of_ble_eq_true rfl⟩, by omega, by omega⟩ (b_pdk1 ?_)
      refine wb_istore X (lv' := [(10, .inl (F_L_some r4 (20 : Int32))), (9, .inl r8), (8, .inl r4), (0, .inr (.inr (101, 1))), (1, .inr (.inr (10, 1))), (2, .inr (.inr (210, 1))), (3, .inl x3), (4, .inl x4), (5, .inl x5), (6, .inl x6), (7, .inl x7)]) dL_law_101 (by decide) rfl ?_
      refine wb_iload X 0 rfl dL_law_103 ?_
      refine wb_iconst X dL_law_105 kc2 ?_
      replace hv := hv (fun x12 x13 x14 x15 S16 U17 => hs_Wi S16 → hs_Wi U17 → wb Z (k + 209) (n + 4522) (S16, U17) 509 [(0, .inr (.inr (101, 1))), (1, .inr (.inr (10, 1))), (2, .inr (.inr (210, 1))), (3, .inl x12), (4, .inl x13), (5, .inl x14), (6, .inl x15), (7, .inl x7)] []) (fun x12 x13 x14 x15 S16 U17 hv hw hu => by
        refine wb_iload X 6 rfl dL_law_509 ?_
        obtain ⟨c19, hv⟩ := hv
        refine wb_if_eq X (tgt := 565) dL_law_511 (by decide) (fun c => absurd c c19) (fun _ => ?_)
        refine wb_iload X 7 rfl dL_law_514 ?_
        refine wb_iconst X dL_law_516 kc5 ?_
        refine wb_irem X dL_law_517 (by decide) ?_
        refine wb_if_gt X (tgt := 541) dL_law_518 (by decide) (fun c20 => ?_) (fun c20 => ?_)
        · replace hv := hv.1 c20
          refine wb_iload X 7 rfl dL_law_541 ?_
          refine wb_bipush X dL_law_543 kb20 ?_
          refine wb_irem X dL_law_545 (by decide) ?_
          refine wb_if_gt X (tgt := 561) dL_law_546 (by decide) (fun c21 => ?_) (fun c21 => ?_)
          · replace hv := hv.1 c21
            refine wb_iconst X dL_law_561 kc1 ?_
            refine wb_goto X (tgt := 566) dL_law_562 (by decide) ?_
            refine wb_istore X (lv' := [(6, .inl (1 : Int32)), (0, .inr (.inr (101, 1))), (1, .inr (.inr (10, 1))), (2, .inr (.inr (210, 1))), (3, .inl x12), (4, .inl x13), (5, .inl x14), (7, .inl x7)]) dL_law_566 (by decide) rfl ?_
            refine wb_iinc X (v := (x7 + 1)) (lv' := [(7, .inl (x7 + 1)), (6, .inl (1 : Int32)), (0, .inr (.inr (101, 1))), (1, .inr (.inr (10, 1))), (2, .inr (.inr (210, 1))), (3, .inl x12), (4, .inl x13), (5, .inl x14)]) 7 rfl dL_law_568 rfl (by decide) rfl ?_
            refine wb_goto X (tgt := 60) dL_law_571 (by decide) ?_
            refine wb_lv (lv' := [(0, .inr (.inr (101, 1))), (1, .inr (.inr (10, 1))), (2, .inr (.inr (210, 1))), (3, .inl x12), (4, .inl x13), (5, .inl x14), (6, .inl (1 : Int32)), (7, .inl (x7 + 1))]) [2, 3, 4, 5, 6, 7, 1, 0] rfl ?_
            exact wb_wid (by omega) (by omega) (hKb _ _ _ _ _  _ _ hw hu hv)
          · replace hv := hv.2 c21
            refine wb_aload_n X 1 rfl dL_law_549 rfl ?_
            refine wb_iload_n X 3 rfl dL_law_550 rfl ?_
            refine wb_iload X 4 rfl dL_law_551 ?_
            refine wb_iload X 5 rfl dL_law_553 ?_
            refine wb_callS1 X (As := [.inr (.inr (10, 1)), .inl x12, .inl x13, .inl x14]) (hv hw) rfl b_nr_I kw_1110 kw_20 kw_1108 kw_1109 nd_L_refused rfl rfl (Nat.le_of_ble_eq_true rfl) dL_law_555 ⟨⟨Nat.le_of_ble_eq_true rfl, Nat.le_of_ble_eq_true rfl⟩, by omega, by omega⟩ (fun v S22 h => ?_)
            obtain ⟨hw, r23, rfl, hv⟩ := h
            obtain ⟨c24, hv⟩ := hv
            refine wb_if_eq X (tgt := 565) dL_law_558 (by decide) (fun c => absurd c c24) (fun _ => ?_)
            refine wb_iconst X dL_law_561 kc1 ?_
            refine wb_goto X (tgt := 566) dL_law_562 (by decide) ?_
            refine wb_istore X (lv' := [(6, .inl (1 : Int32)), (0, .inr (.inr (101, 1))), (1, .inr (.inr (10, 1))), (2, .inr (.inr (210, 1))), (3, .inl x12), (4, .inl x13), (5, .inl x14), (7, .inl x7)]) dL_law_566 (by decide) rfl ?_
            refine wb_iinc X (v := (x7 + 1)) (lv' := [(7, .inl (x7 + 1)), (6, .inl (1 : Int32)), (0, .inr (.inr (101, 1))), (1, .inr (.inr (10, 1))), (2, .inr (.inr (210, 1))), (3, .inl x12), (4, .inl x13), (5, .inl x14)]) 7 rfl dL_law_568 rfl (by decide) rfl ?_
            refine wb_goto X (tgt := 60) dL_law_571 (by decide) ?_
            refine wb_lv (lv' := [(0, .inr (.inr (101, 1))), (1, .inr (.inr (10, 1))), (2, .inr (.inr (210, 1))), (3, .inl x12), (4, .inl x13), (5, .inl x14), (6, .inl (1 : Int32)), (7, .inl (x7 + 1))]) [2, 3, 4, 5, 6, 7, 1, 0] rfl ?_
            exact wb_wid (by omega) (by omega) (hKb _ _ _ _ _  _ _ hw hu hv)
        · replace hv := hv.2 c20
          refine wb_aload_n X 1 rfl dL_law_521 rfl ?_
          refine wb_iload X 4 rfl dL_law_522 ?_
          refine wb_iload X 5 rfl dL_law_524 ?_
          refine wb_callS1 X (As := [.inr (.inr (10, 1)), .inl x13, .inl x14]) (hv hw) rfl b_nr_L kw_1068 kw_20 kw_1066 kw_1067 nd_L_all rfl rfl (Nat.le_of_ble_eq_true rfl) dL_law_526 ⟨⟨Nat.le_of_ble_eq_true rfl, Nat.le_of_ble_eq_true rfl⟩, by omega, by omega⟩ (fun v S25 h => ?_)
          obtain ⟨hw, r26, rfl, hv⟩ := h
          refine wb_aload_n X 2 rfl dL_law_529 rfl ?_
          refine wb_iload X 4 rfl dL_law_530 ?_
          refine wb_iload X 5 rfl dL_law_532 ?_
          refine wb_callS2 X (As := [.inr (.inr (10, 1)), .inl x13, .inl x14]) (hv hu) b_nr_L kw_1068 kw_20 kw_1066 kw_1067 nd_L_all rfl rfl (Nat.le_of_ble_eq_true rfl) dL_law_534 ⟨⟨Nat.le_of_ble_eq_true rfl, Nat.le_of_ble_eq_true rfl⟩, by omega, by omega⟩ (fun v S27 h => ?_)
          obtain ⟨hu, r28, rfl, hv⟩ := h
          refine wb_lcmp X dL_law_537 ?_
          obtain ⟨c29, hv⟩ := hv
          refine wb_if_ne X (tgt := 565) dL_law_538 (by decide) (fun c => absurd c29 c) (fun _ => ?_)
          refine wb_iload X 7 rfl dL_law_541 ?_
          refine wb_bipush X dL_law_543 kb20 ?_
          refine wb_irem X dL_law_545 (by decide) ?_
          refine wb_if_gt X (tgt := 561) dL_law_546 (by decide) (fun c30 => ?_) (fun c30 => ?_)
          · replace hv := hv.1 c30
            refine wb_iconst X dL_law_561 kc1 ?_
            refine wb_goto X (tgt := 566) dL_law_562 (by decide) ?_
            refine wb_istore X (lv' := [(6, .inl (1 : Int32)), (0, .inr (.inr (101, 1))), (1, .inr (.inr (10, 1))), (2, .inr (.inr (210, 1))), (3, .inl x12), (4, .inl x13), (5, .inl x14), (7, .inl x7)]) dL_law_566 (by decide) rfl ?_
            refine wb_iinc X (v := (x7 + 1)) (lv' := [(7, .inl (x7 + 1)), (6, .inl (1 : Int32)), (0, .inr (.inr (101, 1))), (1, .inr (.inr (10, 1))), (2, .inr (.inr (210, 1))), (3, .inl x12), (4, .inl x13), (5, .inl x14)]) 7 rfl dL_law_568 rfl (by decide) rfl ?_
            refine wb_goto X (tgt := 60) dL_law_571 (by decide) ?_
            refine wb_lv (lv' := [(0, .inr (.inr (101, 1))), (1, .inr (.inr (10, 1))), (2, .inr (.inr (210, 1))), (3, .inl x12), (4, .inl x13), (5, .inl x14), (6, .inl (1 : Int32)), (7, .inl (x7 + 1))]) [2, 3, 4, 5, 6, 7, 1, 0] rfl ?_
            exact wb_wid (by omega) (by omega) (hKb _ _ _ _ _  _ _ hw hu hv)
          · replace hv := hv.2 c30
            refine wb_aload_n X 1 rfl dL_law_549 rfl ?_
            refine wb_iload_n X 3 rfl dL_law_550 rfl ?_
            refine wb_iload X 4 rfl dL_law_551 ?_
            refine wb_iload X 5 rfl dL_law_553 ?_
            refine wb_callS1 X (As := [.inr (.inr (10, 1)), .inl x12, .inl x13, .inl x14]) (hv hw) rfl b_nr_I kw_1110 kw_20 kw_1108 kw_1109 nd_L_refused rfl rfl (Nat.le_of_ble_eq_true rfl) dL_law_555 ⟨⟨Nat.le_of_ble_eq_true rfl, Nat.le_of_ble_eq_true rfl⟩, by omega, by omega⟩ (fun v S31 h => ?_)
            obtain ⟨hw, r32, rfl, hv⟩ := h
            obtain ⟨c33, hv⟩ := hv
            refine wb_if_eq X (tgt := 565) dL_law_558 (by decide) (fun c => absurd c c33) (fun _ => ?_)
            refine wb_iconst X dL_law_561 kc1 ?_
            refine wb_goto X (tgt := 566) dL_law_562 (by decide) ?_
            refine wb_istore X (lv' := [(6, .inl (1 : Int32)), (0, .inr (.inr (101, 1))), (1, .inr (.inr (10, 1))), (2, .inr (.inr (210, 1))), (3, .inl x12), (4, .inl x13), (5, .inl x14), (7, .inl x7)]) dL_law_566 (by decide) rfl ?_
            refine wb_iinc X (v := (x7 + 1)) (lv' := [(7, .inl (x7 + 1)), (6, .inl (1 : Int32)), (0, .inr (.inr (101, 1))), (1, .inr (.inr (10, 1))), (2, .inr (.inr (210, 1))), (3, .inl x12), (4, .inl x13), (5, .inl x14)]) 7 rfl dL_law_568 rfl (by decide) rfl ?_
            refine wb_goto X (tgt := 60) dL_law_571 (by decide) ?_
            refine wb_lv (lv' := [(0, .inr (.inr (101, 1))), (1, .inr (.inr (10, 1))), (2, .inr (.inr (210, 1))), (3, .inl x12), (4, .inl x13), (5, .inl x14), (6, .inl (1 : Int32)), (7, .inl (x7 + 1))]) [2, 3, 4, 5, 6, 7, 1, 0] rfl ?_
            exact wb_wid (by omega) (by omega) (hKb _ _ _ _ _  _ _ hw hu hv))
      refine wb_icmp_ge X (tgt := 121) dL_law_106 (by decide) (fun c34 => ?_) (fun c34 => ?_)
      · replace hv := hv.1 c34
        refine wb_iload X 0 rfl dL_law_121 ?_
        refine wb_bipush X dL_law_123 kb6 ?_
        refine wb_icmp_ge X (tgt := 134) dL_law_125 (by decide) (fun c35 => ?_) (fun c35 => ?_)
        · replace hv := hv.1 c35
          refine wb_iload X 10 rfl dL_law_134 ?_
          refine wb_iconst X dL_law_136 kc4 ?_
          refine wb_icmp_ge X (tgt := 198) dL_law_137 (by decide) (fun c36 => ?_) (fun c36 => ?_)
          · replace hv := hv.1 c36
            refine wb_iload X 0 rfl dL_law_198 ?_
            refine wb_bipush X dL_law_200 kb13 ?_
            refine wb_icmp_ge X (tgt := 249) dL_law_202 (by decide) (fun c37 => ?_) (fun c37 => ?_)
            · replace hv := hv.1 c37
              refine wb_iload X 0 rfl dL_law_249 ?_
              refine wb_bipush X dL_law_251 kb16 ?_
              refine wb_icmp_ge X (tgt := 310) dL_law_253 (by decide) (fun c38 => ?_) (fun c38 => ?_)
              · replace hv := hv.1 c38
                refine wb_iload X 0 rfl dL_law_310 ?_
                refine wb_bipush X dL_law_312 kb17 ?_
                refine wb_icmp_ge X (tgt := 387) dL_law_314 (by decide) (fun c39 => ?_) (fun c39 => ?_)
                · replace hv := hv.1 c39
                  refine wb_iload X 0 rfl dL_law_387 ?_
                  refine wb_bipush X dL_law_389 kb18 ?_
                  refine wb_icmp_ge X (tgt := 495) dL_law_391 (by decide) (fun c40 => ?_) (fun c40 => ?_)
                  · replace hv := hv.1 c40
                    refine wb_aload_n X 4 rfl dL_law_495 rfl ?_
                    refine wb_aload_n X 5 rfl dL_law_496 rfl ?_
                    refine wb_iload_n X 6 rfl dL_law_497 rfl ?_
                    refine wb_iload X 7 rfl dL_law_498 ?_
                    refine wb_iload X 8 rfl dL_law_500 ?_
                    refine wb_iload X 1 rfl dL_law_502 ?_
                    refine wb_callB X (As := [.inr (.inr (10, 1)), .inr (.inr (210, 1)), .inl x3, .inl x4, .inl x5, .inl r8]) (hv hw hu) kw_1107 kw_20 kw_1105 kw_1106 nd_L_strikes rfl rfl (Nat.le_of_ble_eq_true rfl) dL_law_504 ⟨⟨Nat.le_of_ble_eq_true rfl, Nat.le_of_ble_eq_true rfl⟩, by omega, by omega⟩ (fun v SS41 h => ?_)
                    obtain ⟨S41, U42⟩ := SS41
                    obtain ⟨hw, hu, r43, rfl, hv⟩ := h
                    refine wb_istore X (lv' := [(6, .inl r43), (10, .inl (F_L_some r4 (20 : Int32))), (9, .inl r8), (8, .inl r4), (0, .inr (.inr (101, 1))), (1, .inr (.inr (10, 1))), (2, .inr (.inr (210, 1))), (3, .inl x3), (4, .inl x4), (5, .inl x5), (7, .inl x7)]) dL_law_507 (by decide) rfl ?_
                    refine wb_lv (lv' := [(0, .inr (.inr (101, 1))), (1, .inr (.inr (10, 1))), (2, .inr (.inr (210, 1))), (3, .inl x3), (4, .inl x4), (5, .inl x5), (6, .inl r43), (7, .inl x7)]) [4, 5, 6, 7, 8, 9, 0, 10] rfl ?_
                    exact wb_wid (by omega) (by omega) (hv hw hu)
                  · replace hv := hv.2 c40
                    refine wb_iload X 1 rfl dL_law_394 ?_
                    refine wb_iconst X dL_law_396 kc2 ?_
                    obtain ⟨o44, hv⟩ := hv
                    refine wb_callS1 X (As := [.inl r8, .inl (2 : Int32)]) (f_L_some hw o44) rfl b_nr_pI kw_504 kw_20 kw_502 kw_503 nd_L_some rfl rfl (Nat.le_of_ble_eq_true rfl) dL_law_397 ⟨⟨Nat.le_of_ble_eq_true rfl, Nat.le_of_ble_eq_true rfl⟩, by omega, by omega⟩ (b_pdk1 ?_)
                    refine wb_istore X (lv' := [(11, .inl (F_L_some r8 (2 : Int32))), (10, .inl (F_L_some r4 (20 : Int32))), (9, .inl r8), (8, .inl r4), (0, .inr (.inr (101, 1))), (1, .inr (.inr (10, 1))), (2, .inr (.inr (210, 1))), (3, .inl x3), (4, .inl x4), (5, .inl x5), (6, .inl x6), (7, .inl x7)]) dL_law_400 (by decide) rfl ?_
                    refine wb_aload_n X 5 rfl dL_law_402 rfl ?_
                    refine wb_aload_n X 6 rfl dL_law_403 rfl ?_
                    refine wb_bipush X dL_law_404 kb19 ?_
                    refine wb_iload X 0 rfl dL_law_406 ?_
                    refine wb_iconst X dL_law_408 kc0 ?_
                    refine wb_iconst X dL_law_409 kc0 ?_
                    refine wb_callB X (As := [.inr (.inr (10, 1)), .inr (.inr (210, 1)), .inl (19 : Int32), .inl (F_L_some r8 (2 : Int32)), .inl (0 : Int32), .inl (0 : Int32)]) (hv hw hu) kw_1081 kw_20 kw_1079 kw_1080 nd_L_both rfl rfl (Nat.le_of_ble_eq_true rfl) dL_law_410 ⟨⟨Nat.le_of_ble_eq_true rfl, Nat.le_of_ble_eq_true rfl⟩, by omega, by omega⟩ (fun v SS45 h => ?_)
                    obtain ⟨S45, U46⟩ := SS45
                    obtain ⟨hw, hu, r47, rfl, hv⟩ := h
                    refine wb_istore X (lv' := [(12, .inl r47), (11, .inl (F_L_some r8 (2 : Int32))), (10, .inl (F_L_some r4 (20 : Int32))), (9, .inl r8), (8, .inl r4), (0, .inr (.inr (101, 1))), (1, .inr (.inr (10, 1))), (2, .inr (.inr (210, 1))), (3, .inl x3), (4, .inl x4), (5, .inl x5), (6, .inl x6), (7, .inl x7)]) dL_law_413 (by decide) rfl ?_
                    refine wb_iload X 0 rfl dL_law_415 ?_
                    obtain ⟨c48, hv⟩ := hv
                    refine wb_if_lt X (tgt := 424) dL_law_417 (by decide) (fun c => absurd c c48) (fun _ => ?_)
                    refine wb_iconst X dL_law_420 kc1 ?_
                    refine wb_goto X (tgt := 425) dL_law_421 (by decide) ?_
                    refine wb_istore X (lv' := [(6, .inl (1 : Int32)), (12, .inl r47), (11, .inl (F_L_some r8 (2 : Int32))), (10, .inl (F_L_some r4 (20 : Int32))), (9, .inl r8), (8, .inl r4), (0, .inr (.inr (101, 1))), (1, .inr (.inr (10, 1))), (2, .inr (.inr (210, 1))), (3, .inl x3), (4, .inl x4), (5, .inl x5), (7, .inl x7)]) dL_law_425 (by decide) rfl ?_
                    refine wb_iconst X dL_law_427 kc0 ?_
                    refine wb_istore X (lv' := [(13, .inl (0 : Int32)), (6, .inl (1 : Int32)), (12, .inl r47), (11, .inl (F_L_some r8 (2 : Int32))), (10, .inl (F_L_some r4 (20 : Int32))), (9, .inl r8), (8, .inl r4), (0, .inr (.inr (101, 1))), (1, .inr (.inr (10, 1))), (2, .inr (.inr (210, 1))), (3, .inl x3), (4, .inl x4), (5, .inl x5), (7, .inl x7)]) dL_law_428 (by decide) rfl ?_
                    obtain ⟨I51, ⟨n55, i53⟩, b54⟩ := hv
                    refine wb_lv (lv' := [(0, .inr (.inr (101, 1))), (1, .inr (.inr (10, 1))), (2, .inr (.inr (210, 1))), (3, .inl x3), (4, .inl x4), (5, .inl x5), (6, .inl (1 : Int32)), (7, .inl x7), (11, .inl (F_L_some r8 (2 : Int32))), (13, .inl (0 : Int32))]) [7, 8, 9, 10, 11, 12, 1, 13, 3, 0] rfl ?_
                    suffices L56 : ∀ N52 : Nat, ∀ x49 : Int32, ∀ x50 : Int32, I51 N52 x49 x50 → wb Z (k + 22) (n + 476) (S45, U46) 430 [(0, .inr (.inr (101, 1))), (1, .inr (.inr (10, 1))), (2, .inr (.inr (210, 1))), (3, .inl x3), (4, .inl x4), (5, .inl x5), (6, .inl x49), (7, .inl x7), (11, .inl (F_L_some r8 (2 : Int32))), (13, .inl x50)] [] from L56 _ _ _ i53
                    clear i53
                    intro N52
                    induction N52 using Nat.strongRecOn with
                    | _ N52 h57 =>
                      intro x49 x50 j58
                      have hv := b54 N52 x49 x50 j58
                      refine wb_iload X 9 rfl dL_law_430 ?_
                      refine wb_bipush X dL_law_432 kb6 ?_
                      replace hv := hv (fun  S59 U60 => hs_Wi S59 → hs_Wi U60 → wb Z (k + 22) (n + 476) (S59, U60) 466 [(0, .inr (.inr (101, 1))), (1, .inr (.inr (10, 1))), (2, .inr (.inr (210, 1))), (3, .inl x3), (4, .inl x4), (5, .inl x5), (6, .inl x49), (7, .inl x7), (11, .inl (F_L_some r8 (2 : Int32)))] []) (fun  S59 U60 hv hw hu => by
                        refine wb_iload X 6 rfl dL_law_466 ?_
                        obtain ⟨c62, hv⟩ := hv
                        refine wb_if_eq X (tgt := 489) dL_law_468 (by decide) (fun c => absurd c c62) (fun _ => ?_)
                        refine wb_aload_n X 1 rfl dL_law_471 rfl ?_
                        refine wb_aload_n X 2 rfl dL_law_472 rfl ?_
                        refine wb_bipush X dL_law_473 kb19 ?_
                        refine wb_iload X 8 rfl dL_law_475 ?_
                        refine wb_iconst X dL_law_477 kc0 ?_
                        refine wb_iconst X dL_law_478 kc0 ?_
                        refine wb_callB X (As := [.inr (.inr (10, 1)), .inr (.inr (210, 1)), .inl (19 : Int32), .inl (F_L_some r8 (2 : Int32)), .inl (0 : Int32), .inl (0 : Int32)]) (hv hw hu) kw_1081 kw_20 kw_1079 kw_1080 nd_L_both rfl rfl (Nat.le_of_ble_eq_true rfl) dL_law_479 ⟨⟨Nat.le_of_ble_eq_true rfl, Nat.le_of_ble_eq_true rfl⟩, by omega, by omega⟩ (fun v SS63 h => ?_)
                        obtain ⟨S63, U64⟩ := SS63
                        obtain ⟨hw, hu, r65, rfl, hv⟩ := h
                        obtain ⟨c66, hv⟩ := hv
                        refine wb_if_ne X (tgt := 489) dL_law_482 (by decide) (fun c => absurd c66 c) (fun _ => ?_)
                        refine wb_iconst X dL_law_485 kc1 ?_
                        refine wb_goto X (tgt := 490) dL_law_486 (by decide) ?_
                        refine wb_istore X (lv' := [(6, .inl (1 : Int32)), (0, .inr (.inr (101, 1))), (1, .inr (.inr (10, 1))), (2, .inr (.inr (210, 1))), (3, .inl x3), (4, .inl x4), (5, .inl x5), (7, .inl x7), (11, .inl (F_L_some r8 (2 : Int32)))]) dL_law_490 (by decide) rfl ?_
                        refine wb_goto X (tgt := 509) dL_law_492 (by decide) ?_
                        refine wb_lv (lv' := [(0, .inr (.inr (101, 1))), (1, .inr (.inr (10, 1))), (2, .inr (.inr (210, 1))), (3, .inl x3), (4, .inl x4), (5, .inl x5), (6, .inl (1 : Int32)), (7, .inl x7)]) [1, 2, 3, 4, 5, 6, 0, 7] rfl ?_
                        exact wb_wid (by omega) (by omega) (hv hw hu))
                      refine wb_icmp_ge X (tgt := 466) dL_law_434 (by decide) (fun c67 => ?_) (fun c67 => ?_)
                      · replace hv := hv.1 c67
                        refine wb_lv (lv' := [(0, .inr (.inr (101, 1))), (1, .inr (.inr (10, 1))), (2, .inr (.inr (210, 1))), (3, .inl x3), (4, .inl x4), (5, .inl x5), (6, .inl x49), (7, .inl x7), (11, .inl (F_L_some r8 (2 : Int32)))]) [0, 1, 2, 3, 4, 5, 6, 7, 8] rfl ?_
                        exact wb_wid (by omega) (by omega) (hv hw hu)
                      · replace hv := hv.2 c67
                        refine wb_iload X 6 rfl dL_law_437 ?_
                        refine wb_if_eq X (tgt := 466) dL_law_439 (by decide) (fun c68 => ?_) (fun c68 => ?_)
                        · replace hv := hv.1 c68
                          refine wb_lv (lv' := [(0, .inr (.inr (101, 1))), (1, .inr (.inr (10, 1))), (2, .inr (.inr (210, 1))), (3, .inl x3), (4, .inl x4), (5, .inl x5), (6, .inl x49), (7, .inl x7), (11, .inl (F_L_some r8 (2 : Int32)))]) [0, 1, 2, 3, 4, 5, 6, 7, 8] rfl ?_
                          exact wb_wid (by omega) (by omega) (hv hw hu)
                        · replace hv := hv.2 c68
                          refine wb_aload_n X 1 rfl dL_law_442 rfl ?_
                          refine wb_iload X 9 rfl dL_law_443 ?_
                          refine wb_iload X 8 rfl dL_law_445 ?_
                          obtain ⟨o69, hv⟩ := hv
                          refine wb_callV1 X (As := [.inl x50, .inl (F_L_some r8 (2 : Int32))]) (f_Cq_due hw o69) rfl b_nr_pI hk_10 hc_10 rfl kw_462 kw_21 kw_459 kw_460 kw_461 nd_X10_due rfl rfl (Nat.le_of_ble_eq_true rfl) dL_law_447 hs_1ne (by decide) ⟨⟨Nat.le_of_ble_eq_true rfl, Nat.le_of_ble_eq_true rfl⟩, by omega, by omega⟩ (b_pdk1 ?_)
                          obtain ⟨c70, hv⟩ := hv
                          refine wb_if_ne X (tgt := 457) dL_law_450 (by decide) (fun c => absurd c70 c) (fun _ => ?_)
                          refine wb_iconst X dL_law_453 kc1 ?_
                          refine wb_goto X (tgt := 458) dL_law_454 (by decide) ?_
                          refine wb_istore X (lv' := [(6, .inl (1 : Int32)), (0, .inr (.inr (101, 1))), (1, .inr (.inr (10, 1))), (2, .inr (.inr (210, 1))), (3, .inl x3), (4, .inl x4), (5, .inl x5), (7, .inl x7), (11, .inl (F_L_some r8 (2 : Int32))), (13, .inl x50)]) dL_law_458 (by decide) rfl ?_
                          refine wb_iinc X (v := (x50 + 1)) (lv' := [(13, .inl (x50 + 1)), (6, .inl (1 : Int32)), (0, .inr (.inr (101, 1))), (1, .inr (.inr (10, 1))), (2, .inr (.inr (210, 1))), (3, .inl x3), (4, .inl x4), (5, .inl x5), (7, .inl x7), (11, .inl (F_L_some r8 (2 : Int32)))]) 9 rfl dL_law_460 rfl (by decide) rfl ?_
                          refine wb_goto X (tgt := 430) dL_law_463 (by decide) ?_
                          obtain ⟨q71, p72, hv⟩ := hv
                          refine wb_lv (lv' := [(0, .inr (.inr (101, 1))), (1, .inr (.inr (10, 1))), (2, .inr (.inr (210, 1))), (3, .inl x3), (4, .inl x4), (5, .inl x5), (6, .inl (1 : Int32)), (7, .inl x7), (11, .inl (F_L_some r8 (2 : Int32))), (13, .inl (x50 + 1))]) [2, 3, 4, 5, 6, 7, 1, 8, 9, 0] rfl ?_
                          exact h57 q71 p72 _ _ hv
                · replace hv := hv.2 c39
                  refine wb_iload X 1 rfl dL_law_317 ?_
                  refine wb_iconst X dL_law_319 kc4 ?_
                  obtain ⟨o73, hv⟩ := hv
                  refine wb_callS1 X (As := [.inl r8, .inl (4 : Int32)]) (f_L_some hw o73) rfl b_nr_pI kw_504 kw_20 kw_502 kw_503 nd_L_some rfl rfl (Nat.le_of_ble_eq_true rfl) dL_law_320 ⟨⟨Nat.le_of_ble_eq_true rfl, Nat.le_of_ble_eq_true rfl⟩, by omega, by omega⟩ (b_pdk1 ?_)
                  refine wb_istore X (lv' := [(11, .inl (F_L_some r8 (4 : Int32))), (10, .inl (F_L_some r4 (20 : Int32))), (9, .inl r8), (8, .inl r4), (0, .inr (.inr (101, 1))), (1, .inr (.inr (10, 1))), (2, .inr (.inr (210, 1))), (3, .inl x3), (4, .inl x4), (5, .inl x5), (6, .inl x6), (7, .inl x7)]) dL_law_323 (by decide) rfl ?_
                  refine wb_iload X 2 rfl dL_law_325 ?_
                  refine wb_iconst X dL_law_327 kc3 ?_
                  refine wb_ishr X dL_law_328 ?_
                  refine wb_iconst X dL_law_329 kc2 ?_
                  obtain ⟨o74, hv⟩ := hv
                  refine wb_callS1 X (As := [.inl (r8 >>> ((3 : Int32) &&& 31)), .inl (2 : Int32)]) (f_L_some hw o74) rfl b_nr_pI kw_504 kw_20 kw_502 kw_503 nd_L_some rfl rfl (Nat.le_of_ble_eq_true rfl) dL_law_330 ⟨⟨Nat.le_of_ble_eq_true rfl, Nat.le_of_ble_eq_true rfl⟩, by omega, by omega⟩ (b_pdk1 ?_)
                  refine wb_istore X (lv' := [(12, .inl (F_L_some (r8 >>> ((3 : Int32) &&& 31)) (2 : Int32))), (11, .inl (F_L_some r8 (4 : Int32))), (10, .inl (F_L_some r4 (20 : Int32))), (9, .inl r8), (8, .inl r4), (0, .inr (.inr (101, 1))), (1, .inr (.inr (10, 1))), (2, .inr (.inr (210, 1))), (3, .inl x3), (4, .inl x4), (5, .inl x5), (6, .inl x6), (7, .inl x7)]) dL_law_333 (by decide) rfl ?_
                  refine wb_aload_n X 6 rfl dL_law_335 rfl ?_
                  refine wb_aload_n X 7 rfl dL_law_336 rfl ?_
                  refine wb_bipush X dL_law_337 kb12 ?_
                  refine wb_iload X 1 rfl dL_law_339 ?_
                  refine wb_iload X 0 rfl dL_law_341 ?_
                  refine wb_iconst X dL_law_343 kc0 ?_
                  refine wb_callB X (As := [.inr (.inr (10, 1)), .inr (.inr (210, 1)), .inl (12 : Int32), .inl (F_L_some r8 (4 : Int32)), .inl (F_L_some (r8 >>> ((3 : Int32) &&& 31)) (2 : Int32)), .inl (0 : Int32)]) (hv hw hu) kw_1081 kw_20 kw_1079 kw_1080 nd_L_both rfl rfl (Nat.le_of_ble_eq_true rfl) dL_law_344 ⟨⟨Nat.le_of_ble_eq_true rfl, Nat.le_of_ble_eq_true rfl⟩, by omega, by omega⟩ (fun v SS75 h => ?_)
                  obtain ⟨S75, U76⟩ := SS75
                  obtain ⟨hw, hu, r77, rfl, hv⟩ := h
                  refine wb_istore X (lv' := [(13, .inl r77), (12, .inl (F_L_some (r8 >>> ((3 : Int32) &&& 31)) (2 : Int32))), (11, .inl (F_L_some r8 (4 : Int32))), (10, .inl (F_L_some r4 (20 : Int32))), (9, .inl r8), (8, .inl r4), (0, .inr (.inr (101, 1))), (1, .inr (.inr (10, 1))), (2, .inr (.inr (210, 1))), (3, .inl x3), (4, .inl x4), (5, .inl x5), (6, .inl x6), (7, .inl x7)]) dL_law_347 (by decide) rfl ?_
                  refine wb_iload X 0 rfl dL_law_349 ?_
                  refine wb_if_eq X (tgt := 360) dL_law_351 (by decide) (fun c78 => ?_) (fun c78 => ?_)
                  · replace hv := hv.1 c78
                    refine wb_aload_n X 7 rfl dL_law_360 rfl ?_
                    refine wb_aload_n X 8 rfl dL_law_361 rfl ?_
                    refine wb_bipush X dL_law_362 kb12 ?_
                    refine wb_iload X 2 rfl dL_law_364 ?_
                    refine wb_iload X 1 rfl dL_law_366 ?_
                    refine wb_iconst X dL_law_368 kc0 ?_
                    refine wb_callB X (As := [.inr (.inr (10, 1)), .inr (.inr (210, 1)), .inl (12 : Int32), .inl (F_L_some r8 (4 : Int32)), .inl (F_L_some (r8 >>> ((3 : Int32) &&& 31)) (2 : Int32)), .inl (0 : Int32)]) (hv hw hu) kw_1081 kw_20 kw_1079 kw_1080 nd_L_both rfl rfl (Nat.le_of_ble_eq_true rfl) dL_law_369 ⟨⟨Nat.le_of_ble_eq_true rfl, Nat.le_of_ble_eq_true rfl⟩, by omega, by omega⟩ (fun v SS79 h => ?_)
                    obtain ⟨S79, U80⟩ := SS79
                    obtain ⟨hw, hu, r81, rfl, hv⟩ := h
                    refine wb_iload X 1 rfl dL_law_372 ?_
                    obtain ⟨c82, hv⟩ := hv
                    refine wb_icmp_ne X (tgt := 381) dL_law_374 (by decide) (fun c => absurd c82 c) (fun _ => ?_)
                    refine wb_iconst X dL_law_377 kc1 ?_
                    refine wb_goto X (tgt := 382) dL_law_378 (by decide) ?_
                    refine wb_istore X (lv' := [(6, .inl (1 : Int32)), (13, .inl r77), (12, .inl (F_L_some (r8 >>> ((3 : Int32) &&& 31)) (2 : Int32))), (11, .inl (F_L_some r8 (4 : Int32))), (10, .inl (F_L_some r4 (20 : Int32))), (9, .inl r8), (8, .inl r4), (0, .inr (.inr (101, 1))), (1, .inr (.inr (10, 1))), (2, .inr (.inr (210, 1))), (3, .inl x3), (4, .inl x4), (5, .inl x5), (7, .inl x7)]) dL_law_382 (by decide) rfl ?_
                    refine wb_goto X (tgt := 509) dL_law_384 (by decide) ?_
                    refine wb_lv (lv' := [(0, .inr (.inr (101, 1))), (1, .inr (.inr (10, 1))), (2, .inr (.inr (210, 1))), (3, .inl x3), (4, .inl x4), (5, .inl x5), (6, .inl (1 : Int32)), (7, .inl x7)]) [7, 8, 9, 10, 11, 12, 0, 13] rfl ?_
                    exact wb_wid (by omega) (by omega) (hv hw hu)
                  · replace hv := hv.2 c78
                    refine wb_iload X 0 rfl dL_law_354 ?_
                    refine wb_iconst X dL_law_356 kc1 ?_
                    obtain ⟨c83, hv⟩ := hv
                    refine wb_icmp_ne X (tgt := 381) dL_law_357 (by decide) (fun c => absurd c83 c) (fun _ => ?_)
                    refine wb_aload_n X 7 rfl dL_law_360 rfl ?_
                    refine wb_aload_n X 8 rfl dL_law_361 rfl ?_
                    refine wb_bipush X dL_law_362 kb12 ?_
                    refine wb_iload X 2 rfl dL_law_364 ?_
                    refine wb_iload X 1 rfl dL_law_366 ?_
                    refine wb_iconst X dL_law_368 kc0 ?_
                    refine wb_callB X (As := [.inr (.inr (10, 1)), .inr (.inr (210, 1)), .inl (12 : Int32), .inl (F_L_some r8 (4 : Int32)), .inl (F_L_some (r8 >>> ((3 : Int32) &&& 31)) (2 : Int32)), .inl (0 : Int32)]) (hv hw hu) kw_1081 kw_20 kw_1079 kw_1080 nd_L_both rfl rfl (Nat.le_of_ble_eq_true rfl) dL_law_369 ⟨⟨Nat.le_of_ble_eq_true rfl, Nat.le_of_ble_eq_true rfl⟩, by omega, by omega⟩ (fun v SS84 h => ?_)
                    obtain ⟨S84, U85⟩ := SS84
                    obtain ⟨hw, hu, r86, rfl, hv⟩ := h
                    refine wb_iload X 1 rfl dL_law_372 ?_
                    obtain ⟨c87, hv⟩ := hv
                    refine wb_icmp_ne X (tgt := 381) dL_law_374 (by decide) (fun c => absurd c87 c) (fun _ => ?_)
                    refine wb_iconst X dL_law_377 kc1 ?_
                    refine wb_goto X (tgt := 382) dL_law_378 (by decide) ?_
                    refine wb_istore X (lv' := [(6, .inl (1 : Int32)), (13, .inl r77), (12, .inl (F_L_some (r8 >>> ((3 : Int32) &&& 31)) (2 : Int32))), (11, .inl (F_L_some r8 (4 : Int32))), (10, .inl (F_L_some r4 (20 : Int32))), (9, .inl r8), (8, .inl r4), (0, .inr (.inr (101, 1))), (1, .inr (.inr (10, 1))), (2, .inr (.inr (210, 1))), (3, .inl x3), (4, .inl x4), (5, .inl x5), (7, .inl x7)]) dL_law_382 (by decide) rfl ?_
                    refine wb_goto X (tgt := 509) dL_law_384 (by decide) ?_
                    refine wb_lv (lv' := [(0, .inr (.inr (101, 1))), (1, .inr (.inr (10, 1))), (2, .inr (.inr (210, 1))), (3, .inl x3), (4, .inl x4), (5, .inl x5), (6, .inl (1 : Int32)), (7, .inl x7)]) [7, 8, 9, 10, 11, 12, 0, 13] rfl ?_
                    exact wb_wid (by omega) (by omega) (hv hw hu)
              · replace hv := hv.2 c38
                refine wb_iload X 8 rfl dL_law_256 ?_
                refine wb_bipush X dL_law_258 kb28 ?_
                replace hv := hv (fun  S88 U89 => hs_Wi S88 → hs_Wi U89 → wb Z (k + 55) (n + 1190) (S88, U89) 282 [(0, .inr (.inr (101, 1))), (1, .inr (.inr (10, 1))), (2, .inr (.inr (210, 1))), (3, .inl x3), (4, .inl x4), (5, .inl x5), (7, .inl x7)] [.inl (1 : Int32)]) (fun  S88 U89 hv hw hu => by
                  refine wb_istore X (lv' := [(6, .inl (1 : Int32)), (0, .inr (.inr (101, 1))), (1, .inr (.inr (10, 1))), (2, .inr (.inr (210, 1))), (3, .inl x3), (4, .inl x4), (5, .inl x5), (7, .inl x7)]) dL_law_282 (by decide) rfl ?_
                  refine wb_iload X 6 rfl dL_law_284 ?_
                  refine wb_aload_n X 2 rfl dL_law_286 rfl ?_
                  refine wb_bipush X dL_law_287 kb15 ?_
                  refine wb_iload X 6 rfl dL_law_289 ?_
                  refine wb_iconst X dL_law_291 kc0 ?_
                  refine wb_iconst X dL_law_292 kc0 ?_
                  refine wb_callW1 X (As := [.inr (.inr (10, 1)), .inl (15 : Int32), .inl x5, .inl (0 : Int32), .inl (0 : Int32)]) (hv hw) rfl b_nr_I kw_507 kw_20 kw_505 kw_506 nd_L_call rfl rfl (Nat.le_of_ble_eq_true rfl) dL_law_293 ⟨⟨Nat.le_of_ble_eq_true rfl, Nat.le_of_ble_eq_true rfl⟩, by omega, by omega⟩ (fun v S91 h => ?_)
                  obtain ⟨hw, r92, rfl, hv⟩ := h
                  refine wb_if_lt X (tgt := 303) dL_law_296 (by decide) (fun c93 => ?_) (fun c93 => ?_)
                  · replace hv := hv.1 c93
                    refine wb_iconst X dL_law_303 kc0 ?_
                    refine wb_iadd X dL_law_304 ?_
                    refine wb_istore X (lv' := [(5, .inl (x5 + (0 : Int32))), (6, .inl (1 : Int32)), (0, .inr (.inr (101, 1))), (1, .inr (.inr (10, 1))), (2, .inr (.inr (210, 1))), (3, .inl x3), (4, .inl x4), (7, .inl x7)]) dL_law_305 (by decide) rfl ?_
                    refine wb_goto X (tgt := 509) dL_law_307 (by decide) ?_
                    refine wb_lv (lv' := [(0, .inr (.inr (101, 1))), (1, .inr (.inr (10, 1))), (2, .inr (.inr (210, 1))), (3, .inl x3), (4, .inl x4), (5, .inl (x5 + (0 : Int32))), (6, .inl (1 : Int32)), (7, .inl x7)]) [2, 3, 4, 5, 6, 0, 1, 7] rfl ?_
                    exact wb_wid (by omega) (by omega) (hv hw hu)
                  · replace hv := hv.2 c93
                    refine wb_iconst X dL_law_299 kc1 ?_
                    refine wb_goto X (tgt := 304) dL_law_300 (by decide) ?_
                    refine wb_iadd X dL_law_304 ?_
                    refine wb_istore X (lv' := [(5, .inl (x5 + (1 : Int32))), (6, .inl (1 : Int32)), (0, .inr (.inr (101, 1))), (1, .inr (.inr (10, 1))), (2, .inr (.inr (210, 1))), (3, .inl x3), (4, .inl x4), (7, .inl x7)]) dL_law_305 (by decide) rfl ?_
                    refine wb_goto X (tgt := 509) dL_law_307 (by decide) ?_
                    refine wb_lv (lv' := [(0, .inr (.inr (101, 1))), (1, .inr (.inr (10, 1))), (2, .inr (.inr (210, 1))), (3, .inl x3), (4, .inl x4), (5, .inl (x5 + (1 : Int32))), (6, .inl (1 : Int32)), (7, .inl x7)]) [2, 3, 4, 5, 6, 0, 1, 7] rfl ?_
                    exact wb_wid (by omega) (by omega) (hv hw hu))
                refine wb_icmp_eq X (tgt := 277) dL_law_260 (by decide) (fun c94 => ?_) (fun c94 => ?_)
                · replace hv := hv.1 c94
                  refine wb_iconst X dL_law_277 kc1 ?_
                  refine wb_goto X (tgt := 282) dL_law_278 (by decide) ?_
                  refine wb_lv (lv' := [(0, .inr (.inr (101, 1))), (1, .inr (.inr (10, 1))), (2, .inr (.inr (210, 1))), (3, .inl x3), (4, .inl x4), (5, .inl x5), (7, .inl x7)]) [3, 4, 5, 6, 7, 8, 10] rfl ?_
                  exact wb_wid (by omega) (by omega) (hv hw hu)
                · replace hv := hv.2 c94
                  refine wb_aload_n X 4 rfl dL_law_263 rfl ?_
                  refine wb_aload_n X 5 rfl dL_law_264 rfl ?_
                  refine wb_iload X 7 rfl dL_law_265 ?_
                  refine wb_iload X 8 rfl dL_law_267 ?_
                  refine wb_iload X 1 rfl dL_law_269 ?_
                  refine wb_callB X (As := [.inr (.inr (10, 1)), .inr (.inr (210, 1)), .inl x4, .inl x5, .inl r8]) (hv hw hu) kw_1102 kw_20 kw_1100 kw_1101 nd_L_rings rfl rfl (Nat.le_of_ble_eq_true rfl) dL_law_271 ⟨⟨Nat.le_of_ble_eq_true rfl, Nat.le_of_ble_eq_true rfl⟩, by omega, by omega⟩ (fun v SS95 h => ?_)
                  obtain ⟨S95, U96⟩ := SS95
                  obtain ⟨hw, hu, r97, rfl, hv⟩ := h
                  obtain ⟨c98, hv⟩ := hv
                  refine wb_if_eq X (tgt := 281) dL_law_274 (by decide) (fun c => absurd c c98) (fun _ => ?_)
                  refine wb_iconst X dL_law_277 kc1 ?_
                  refine wb_goto X (tgt := 282) dL_law_278 (by decide) ?_
                  refine wb_lv (lv' := [(0, .inr (.inr (101, 1))), (1, .inr (.inr (10, 1))), (2, .inr (.inr (210, 1))), (3, .inl x3), (4, .inl x4), (5, .inl x5), (7, .inl x7)]) [3, 4, 5, 6, 7, 8, 10] rfl ?_
                  exact wb_wid (by omega) (by omega) (hv hw hu)
            · replace hv := hv.2 c37
              refine wb_iload X 7 rfl dL_law_205 ?_
              refine wb_bipush X dL_law_207 kb75 ?_
              refine wb_icmp_ge X (tgt := 249) dL_law_209 (by decide) (fun c99 => ?_) (fun c99 => ?_)
              · replace hv := hv.1 c99
                refine wb_iload X 0 rfl dL_law_249 ?_
                refine wb_bipush X dL_law_251 kb16 ?_
                refine wb_icmp_ge X (tgt := 310) dL_law_253 (by decide) (fun c100 => ?_) (fun c100 => ?_)
                · replace hv := hv.1 c100
                  refine wb_iload X 0 rfl dL_law_310 ?_
                  refine wb_bipush X dL_law_312 kb17 ?_
                  refine wb_icmp_ge X (tgt := 387) dL_law_314 (by decide) (fun c101 => ?_) (fun c101 => ?_)
                  · replace hv := hv.1 c101
                    refine wb_iload X 0 rfl dL_law_387 ?_
                    refine wb_bipush X dL_law_389 kb18 ?_
                    refine wb_icmp_ge X (tgt := 495) dL_law_391 (by decide) (fun c102 => ?_) (fun c102 => ?_)
                    · replace hv := hv.1 c102
                      refine wb_aload_n X 4 rfl dL_law_495 rfl ?_
                      refine wb_aload_n X 5 rfl dL_law_496 rfl ?_
                      refine wb_iload_n X 6 rfl dL_law_497 rfl ?_
                      refine wb_iload X 7 rfl dL_law_498 ?_
                      refine wb_iload X 8 rfl dL_law_500 ?_
                      refine wb_iload X 1 rfl dL_law_502 ?_
                      refine wb_callB X (As := [.inr (.inr (10, 1)), .inr (.inr (210, 1)), .inl x3, .inl x4, .inl x5, .inl r8]) (hv hw hu) kw_1107 kw_20 kw_1105 kw_1106 nd_L_strikes rfl rfl (Nat.le_of_ble_eq_true rfl) dL_law_504 ⟨⟨Nat.le_of_ble_eq_true rfl, Nat.le_of_ble_eq_true rfl⟩, by omega, by omega⟩ (fun v SS103 h => ?_)
                      obtain ⟨S103, U104⟩ := SS103
                      obtain ⟨hw, hu, r105, rfl, hv⟩ := h
                      refine wb_istore X (lv' := [(6, .inl r105), (10, .inl (F_L_some r4 (20 : Int32))), (9, .inl r8), (8, .inl r4), (0, .inr (.inr (101, 1))), (1, .inr (.inr (10, 1))), (2, .inr (.inr (210, 1))), (3, .inl x3), (4, .inl x4), (5, .inl x5), (7, .inl x7)]) dL_law_507 (by decide) rfl ?_
                      refine wb_lv (lv' := [(0, .inr (.inr (101, 1))), (1, .inr (.inr (10, 1))), (2, .inr (.inr (210, 1))), (3, .inl x3), (4, .inl x4), (5, .inl x5), (6, .inl r105), (7, .inl x7)]) [4, 5, 6, 7, 8, 9, 0, 10] rfl ?_
                      exact wb_wid (by omega) (by omega) (hv hw hu)
                    · replace hv := hv.2 c102
                      refine wb_iload X 1 rfl dL_law_394 ?_
                      refine wb_iconst X dL_law_396 kc2 ?_
                      obtain ⟨o106, hv⟩ := hv
                      refine wb_callS1 X (As := [.inl r8, .inl (2 : Int32)]) (f_L_some hw o106) rfl b_nr_pI kw_504 kw_20 kw_502 kw_503 nd_L_some rfl rfl (Nat.le_of_ble_eq_true rfl) dL_law_397 ⟨⟨Nat.le_of_ble_eq_true rfl, Nat.le_of_ble_eq_true rfl⟩, by omega, by omega⟩ (b_pdk1 ?_)
                      refine wb_istore X (lv' := [(11, .inl (F_L_some r8 (2 : Int32))), (10, .inl (F_L_some r4 (20 : Int32))), (9, .inl r8), (8, .inl r4), (0, .inr (.inr (101, 1))), (1, .inr (.inr (10, 1))), (2, .inr (.inr (210, 1))), (3, .inl x3), (4, .inl x4), (5, .inl x5), (6, .inl x6), (7, .inl x7)]) dL_law_400 (by decide) rfl ?_
                      refine wb_aload_n X 5 rfl dL_law_402 rfl ?_
                      refine wb_aload_n X 6 rfl dL_law_403 rfl ?_
                      refine wb_bipush X dL_law_404 kb19 ?_
                      refine wb_iload X 0 rfl dL_law_406 ?_
                      refine wb_iconst X dL_law_408 kc0 ?_
                      refine wb_iconst X dL_law_409 kc0 ?_
                      refine wb_callB X (As := [.inr (.inr (10, 1)), .inr (.inr (210, 1)), .inl (19 : Int32), .inl (F_L_some r8 (2 : Int32)), .inl (0 : Int32), .inl (0 : Int32)]) (hv hw hu) kw_1081 kw_20 kw_1079 kw_1080 nd_L_both rfl rfl (Nat.le_of_ble_eq_true rfl) dL_law_410 ⟨⟨Nat.le_of_ble_eq_true rfl, Nat.le_of_ble_eq_true rfl⟩, by omega, by omega⟩ (fun v SS107 h => ?_)
                      obtain ⟨S107, U108⟩ := SS107
                      obtain ⟨hw, hu, r109, rfl, hv⟩ := h
                      refine wb_istore X (lv' := [(12, .inl r109), (11, .inl (F_L_some r8 (2 : Int32))), (10, .inl (F_L_some r4 (20 : Int32))), (9, .inl r8), (8, .inl r4), (0, .inr (.inr (101, 1))), (1, .inr (.inr (10, 1))), (2, .inr (.inr (210, 1))), (3, .inl x3), (4, .inl x4), (5, .inl x5), (6, .inl x6), (7, .inl x7)]) dL_law_413 (by decide) rfl ?_
                      refine wb_iload X 0 rfl dL_law_415 ?_
                      obtain ⟨c110, hv⟩ := hv
                      refine wb_if_lt X (tgt := 424) dL_law_417 (by decide) (fun c => absurd c c110) (fun _ => ?_)
                      refine wb_iconst X dL_law_420 kc1 ?_
                      refine wb_goto X (tgt := 425) dL_law_421 (by decide) ?_
                      refine wb_istore X (lv' := [(6, .inl (1 : Int32)), (12, .inl r109), (11, .inl (F_L_some r8 (2 : Int32))), (10, .inl (F_L_some r4 (20 : Int32))), (9, .inl r8), (8, .inl r4), (0, .inr (.inr (101, 1))), (1, .inr (.inr (10, 1))), (2, .inr (.inr (210, 1))), (3, .inl x3), (4, .inl x4), (5, .inl x5), (7, .inl x7)]) dL_law_425 (by decide) rfl ?_
                      refine wb_iconst X dL_law_427 kc0 ?_
                      refine wb_istore X (lv' := [(13, .inl (0 : Int32)), (6, .inl (1 : Int32)), (12, .inl r109), (11, .inl (F_L_some r8 (2 : Int32))), (10, .inl (F_L_some r4 (20 : Int32))), (9, .inl r8), (8, .inl r4), (0, .inr (.inr (101, 1))), (1, .inr (.inr (10, 1))), (2, .inr (.inr (210, 1))), (3, .inl x3), (4, .inl x4), (5, .inl x5), (7, .inl x7)]) dL_law_428 (by decide) rfl ?_
                      obtain ⟨I113, ⟨n117, i115⟩, b116⟩ := hv
                      refine wb_lv (lv' := [(0, .inr (.inr (101, 1))), (1, .inr (.inr (10, 1))), (2, .inr (.inr (210, 1))), (3, .inl x3), (4, .inl x4), (5, .inl x5), (6, .inl (1 : Int32)), (7, .inl x7), (11, .inl (F_L_some r8 (2 : Int32))), (13, .inl (0 : Int32))]) [7, 8, 9, 10, 11, 12, 1, 13, 3, 0] rfl ?_
                      suffices L118 : ∀ N114 : Nat, ∀ x111 : Int32, ∀ x112 : Int32, I113 N114 x111 x112 → wb Z (k + 22) (n + 476) (S107, U108) 430 [(0, .inr (.inr (101, 1))), (1, .inr (.inr (10, 1))), (2, .inr (.inr (210, 1))), (3, .inl x3), (4, .inl x4), (5, .inl x5), (6, .inl x111), (7, .inl x7), (11, .inl (F_L_some r8 (2 : Int32))), (13, .inl x112)] [] from L118 _ _ _ i115
                      clear i115
                      intro N114
                      induction N114 using Nat.strongRecOn with
                      | _ N114 h119 =>
                        intro x111 x112 j120
                        have hv := b116 N114 x111 x112 j120
                        refine wb_iload X 9 rfl dL_law_430 ?_
                        refine wb_bipush X dL_law_432 kb6 ?_
                        replace hv := hv (fun  S121 U122 => hs_Wi S121 → hs_Wi U122 → wb Z (k + 22) (n + 476) (S121, U122) 466 [(0, .inr (.inr (101, 1))), (1, .inr (.inr (10, 1))), (2, .inr (.inr (210, 1))), (3, .inl x3), (4, .inl x4), (5, .inl x5), (6, .inl x111), (7, .inl x7), (11, .inl (F_L_some r8 (2 : Int32)))] []) (fun  S121 U122 hv hw hu => by
                          refine wb_iload X 6 rfl dL_law_466 ?_
                          obtain ⟨c124, hv⟩ := hv
                          refine wb_if_eq X (tgt := 489) dL_law_468 (by decide) (fun c => absurd c c124) (fun _ => ?_)
                          refine wb_aload_n X 1 rfl dL_law_471 rfl ?_
                          refine wb_aload_n X 2 rfl dL_law_472 rfl ?_
                          refine wb_bipush X dL_law_473 kb19 ?_
                          refine wb_iload X 8 rfl dL_law_475 ?_
                          refine wb_iconst X dL_law_477 kc0 ?_
                          refine wb_iconst X dL_law_478 kc0 ?_
                          refine wb_callB X (As := [.inr (.inr (10, 1)), .inr (.inr (210, 1)), .inl (19 : Int32), .inl (F_L_some r8 (2 : Int32)), .inl (0 : Int32), .inl (0 : Int32)]) (hv hw hu) kw_1081 kw_20 kw_1079 kw_1080 nd_L_both rfl rfl (Nat.le_of_ble_eq_true rfl) dL_law_479 ⟨⟨Nat.le_of_ble_eq_true rfl, Nat.le_of_ble_eq_true rfl⟩, by omega, by omega⟩ (fun v SS125 h => ?_)
                          obtain ⟨S125, U126⟩ := SS125
                          obtain ⟨hw, hu, r127, rfl, hv⟩ := h
                          obtain ⟨c128, hv⟩ := hv
                          refine wb_if_ne X (tgt := 489) dL_law_482 (by decide) (fun c => absurd c128 c) (fun _ => ?_)
                          refine wb_iconst X dL_law_485 kc1 ?_
                          refine wb_goto X (tgt := 490) dL_law_486 (by decide) ?_
                          refine wb_istore X (lv' := [(6, .inl (1 : Int32)), (0, .inr (.inr (101, 1))), (1, .inr (.inr (10, 1))), (2, .inr (.inr (210, 1))), (3, .inl x3), (4, .inl x4), (5, .inl x5), (7, .inl x7), (11, .inl (F_L_some r8 (2 : Int32)))]) dL_law_490 (by decide) rfl ?_
                          refine wb_goto X (tgt := 509) dL_law_492 (by decide) ?_
                          refine wb_lv (lv' := [(0, .inr (.inr (101, 1))), (1, .inr (.inr (10, 1))), (2, .inr (.inr (210, 1))), (3, .inl x3), (4, .inl x4), (5, .inl x5), (6, .inl (1 : Int32)), (7, .inl x7)]) [1, 2, 3, 4, 5, 6, 0, 7] rfl ?_
                          exact wb_wid (by omega) (by omega) (hv hw hu))
                        refine wb_icmp_ge X (tgt := 466) dL_law_434 (by decide) (fun c129 => ?_) (fun c129 => ?_)
                        · replace hv := hv.1 c129
                          refine wb_lv (lv' := [(0, .inr (.inr (101, 1))), (1, .inr (.inr (10, 1))), (2, .inr (.inr (210, 1))), (3, .inl x3), (4, .inl x4), (5, .inl x5), (6, .inl x111), (7, .inl x7), (11, .inl (F_L_some r8 (2 : Int32)))]) [0, 1, 2, 3, 4, 5, 6, 7, 8] rfl ?_
                          exact wb_wid (by omega) (by omega) (hv hw hu)
                        · replace hv := hv.2 c129
                          refine wb_iload X 6 rfl dL_law_437 ?_
                          refine wb_if_eq X (tgt := 466) dL_law_439 (by decide) (fun c130 => ?_) (fun c130 => ?_)
                          · replace hv := hv.1 c130
                            refine wb_lv (lv' := [(0, .inr (.inr (101, 1))), (1, .inr (.inr (10, 1))), (2, .inr (.inr (210, 1))), (3, .inl x3), (4, .inl x4), (5, .inl x5), (6, .inl x111), (7, .inl x7), (11, .inl (F_L_some r8 (2 : Int32)))]) [0, 1, 2, 3, 4, 5, 6, 7, 8] rfl ?_
                            exact wb_wid (by omega) (by omega) (hv hw hu)
                          · replace hv := hv.2 c130
                            refine wb_aload_n X 1 rfl dL_law_442 rfl ?_
                            refine wb_iload X 9 rfl dL_law_443 ?_
                            refine wb_iload X 8 rfl dL_law_445 ?_
                            obtain ⟨o131, hv⟩ := hv
                            refine wb_callV1 X (As := [.inl x112, .inl (F_L_some r8 (2 : Int32))]) (f_Cq_due hw o131) rfl b_nr_pI hk_10 hc_10 rfl kw_462 kw_21 kw_459 kw_460 kw_461 nd_X10_due rfl rfl (Nat.le_of_ble_eq_true rfl) dL_law_447 hs_1ne (by decide) ⟨⟨Nat.le_of_ble_eq_true rfl, Nat.le_of_ble_eq_true rfl⟩, by omega, by omega⟩ (b_pdk1 ?_)
                            obtain ⟨c132, hv⟩ := hv
                            refine wb_if_ne X (tgt := 457) dL_law_450 (by decide) (fun c => absurd c132 c) (fun _ => ?_)
                            refine wb_iconst X dL_law_453 kc1 ?_
                            refine wb_goto X (tgt := 458) dL_law_454 (by decide) ?_
                            refine wb_istore X (lv' := [(6, .inl (1 : Int32)), (0, .inr (.inr (101, 1))), (1, .inr (.inr (10, 1))), (2, .inr (.inr (210, 1))), (3, .inl x3), (4, .inl x4), (5, .inl x5), (7, .inl x7), (11, .inl (F_L_some r8 (2 : Int32))), (13, .inl x112)]) dL_law_458 (by decide) rfl ?_
                            refine wb_iinc X (v := (x112 + 1)) (lv' := [(13, .inl (x112 + 1)), (6, .inl (1 : Int32)), (0, .inr (.inr (101, 1))), (1, .inr (.inr (10, 1))), (2, .inr (.inr (210, 1))), (3, .inl x3), (4, .inl x4), (5, .inl x5), (7, .inl x7), (11, .inl (F_L_some r8 (2 : Int32)))]) 9 rfl dL_law_460 rfl (by decide) rfl ?_
                            refine wb_goto X (tgt := 430) dL_law_463 (by decide) ?_
                            obtain ⟨q133, p134, hv⟩ := hv
                            refine wb_lv (lv' := [(0, .inr (.inr (101, 1))), (1, .inr (.inr (10, 1))), (2, .inr (.inr (210, 1))), (3, .inl x3), (4, .inl x4), (5, .inl x5), (6, .inl (1 : Int32)), (7, .inl x7), (11, .inl (F_L_some r8 (2 : Int32))), (13, .inl (x112 + 1))]) [2, 3, 4, 5, 6, 7, 1, 8, 9, 0] rfl ?_
                            exact h119 q133 p134 _ _ hv
                  · replace hv := hv.2 c101
                    refine wb_iload X 1 rfl dL_law_317 ?_
                    refine wb_iconst X dL_law_319 kc4 ?_
                    obtain ⟨o135, hv⟩ := hv
                    refine wb_callS1 X (As := [.inl r8, .inl (4 : Int32)]) (f_L_some hw o135) rfl b_nr_pI kw_504 kw_20 kw_502 kw_503 nd_L_some rfl rfl (Nat.le_of_ble_eq_true rfl) dL_law_320 ⟨⟨Nat.le_of_ble_eq_true rfl, Nat.le_of_ble_eq_true rfl⟩, by omega, by omega⟩ (b_pdk1 ?_)
                    refine wb_istore X (lv' := [(11, .inl (F_L_some r8 (4 : Int32))), (10, .inl (F_L_some r4 (20 : Int32))), (9, .inl r8), (8, .inl r4), (0, .inr (.inr (101, 1))), (1, .inr (.inr (10, 1))), (2, .inr (.inr (210, 1))), (3, .inl x3), (4, .inl x4), (5, .inl x5), (6, .inl x6), (7, .inl x7)]) dL_law_323 (by decide) rfl ?_
                    refine wb_iload X 2 rfl dL_law_325 ?_
                    refine wb_iconst X dL_law_327 kc3 ?_
                    refine wb_ishr X dL_law_328 ?_
                    refine wb_iconst X dL_law_329 kc2 ?_
                    obtain ⟨o136, hv⟩ := hv
                    refine wb_callS1 X (As := [.inl (r8 >>> ((3 : Int32) &&& 31)), .inl (2 : Int32)]) (f_L_some hw o136) rfl b_nr_pI kw_504 kw_20 kw_502 kw_503 nd_L_some rfl rfl (Nat.le_of_ble_eq_true rfl) dL_law_330 ⟨⟨Nat.le_of_ble_eq_true rfl, Nat.le_of_ble_eq_true rfl⟩, by omega, by omega⟩ (b_pdk1 ?_)
                    refine wb_istore X (lv' := [(12, .inl (F_L_some (r8 >>> ((3 : Int32) &&& 31)) (2 : Int32))), (11, .inl (F_L_some r8 (4 : Int32))), (10, .inl (F_L_some r4 (20 : Int32))), (9, .inl r8), (8, .inl r4), (0, .inr (.inr (101, 1))), (1, .inr (.inr (10, 1))), (2, .inr (.inr (210, 1))), (3, .inl x3), (4, .inl x4), (5, .inl x5), (6, .inl x6), (7, .inl x7)]) dL_law_333 (by decide) rfl ?_
                    refine wb_aload_n X 6 rfl dL_law_335 rfl ?_
                    refine wb_aload_n X 7 rfl dL_law_336 rfl ?_
                    refine wb_bipush X dL_law_337 kb12 ?_
                    refine wb_iload X 1 rfl dL_law_339 ?_
                    refine wb_iload X 0 rfl dL_law_341 ?_
                    refine wb_iconst X dL_law_343 kc0 ?_
                    refine wb_callB X (As := [.inr (.inr (10, 1)), .inr (.inr (210, 1)), .inl (12 : Int32), .inl (F_L_some r8 (4 : Int32)), .inl (F_L_some (r8 >>> ((3 : Int32) &&& 31)) (2 : Int32)), .inl (0 : Int32)]) (hv hw hu) kw_1081 kw_20 kw_1079 kw_1080 nd_L_both rfl rfl (Nat.le_of_ble_eq_true rfl) dL_law_344 ⟨⟨Nat.le_of_ble_eq_true rfl, Nat.le_of_ble_eq_true rfl⟩, by omega, by omega⟩ (fun v SS137 h => ?_)
                    obtain ⟨S137, U138⟩ := SS137
                    obtain ⟨hw, hu, r139, rfl, hv⟩ := h
                    refine wb_istore X (lv' := [(13, .inl r139), (12, .inl (F_L_some (r8 >>> ((3 : Int32) &&& 31)) (2 : Int32))), (11, .inl (F_L_some r8 (4 : Int32))), (10, .inl (F_L_some r4 (20 : Int32))), (9, .inl r8), (8, .inl r4), (0, .inr (.inr (101, 1))), (1, .inr (.inr (10, 1))), (2, .inr (.inr (210, 1))), (3, .inl x3), (4, .inl x4), (5, .inl x5), (6, .inl x6), (7, .inl x7)]) dL_law_347 (by decide) rfl ?_
                    refine wb_iload X 0 rfl dL_law_349 ?_
                    refine wb_if_eq X (tgt := 360) dL_law_351 (by decide) (fun c140 => ?_) (fun c140 => ?_)
                    · replace hv := hv.1 c140
                      refine wb_aload_n X 7 rfl dL_law_360 rfl ?_
                      refine wb_aload_n X 8 rfl dL_law_361 rfl ?_
                      refine wb_bipush X dL_law_362 kb12 ?_
                      refine wb_iload X 2 rfl dL_law_364 ?_
                      refine wb_iload X 1 rfl dL_law_366 ?_
                      refine wb_iconst X dL_law_368 kc0 ?_
                      refine wb_callB X (As := [.inr (.inr (10, 1)), .inr (.inr (210, 1)), .inl (12 : Int32), .inl (F_L_some r8 (4 : Int32)), .inl (F_L_some (r8 >>> ((3 : Int32) &&& 31)) (2 : Int32)), .inl (0 : Int32)]) (hv hw hu) kw_1081 kw_20 kw_1079 kw_1080 nd_L_both rfl rfl (Nat.le_of_ble_eq_true rfl) dL_law_369 ⟨⟨Nat.le_of_ble_eq_true rfl, Nat.le_of_ble_eq_true rfl⟩, by omega, by omega⟩ (fun v SS141 h => ?_)
                      obtain ⟨S141, U142⟩ := SS141
                      obtain ⟨hw, hu, r143, rfl, hv⟩ := h
                      refine wb_iload X 1 rfl dL_law_372 ?_
                      obtain ⟨c144, hv⟩ := hv
                      refine wb_icmp_ne X (tgt := 381) dL_law_374 (by decide) (fun c => absurd c144 c) (fun _ => ?_)
                      refine wb_iconst X dL_law_377 kc1 ?_
                      refine wb_goto X (tgt := 382) dL_law_378 (by decide) ?_
                      refine wb_istore X (lv' := [(6, .inl (1 : Int32)), (13, .inl r139), (12, .inl (F_L_some (r8 >>> ((3 : Int32) &&& 31)) (2 : Int32))), (11, .inl (F_L_some r8 (4 : Int32))), (10, .inl (F_L_some r4 (20 : Int32))), (9, .inl r8), (8, .inl r4), (0, .inr (.inr (101, 1))), (1, .inr (.inr (10, 1))), (2, .inr (.inr (210, 1))), (3, .inl x3), (4, .inl x4), (5, .inl x5), (7, .inl x7)]) dL_law_382 (by decide) rfl ?_
                      refine wb_goto X (tgt := 509) dL_law_384 (by decide) ?_
                      refine wb_lv (lv' := [(0, .inr (.inr (101, 1))), (1, .inr (.inr (10, 1))), (2, .inr (.inr (210, 1))), (3, .inl x3), (4, .inl x4), (5, .inl x5), (6, .inl (1 : Int32)), (7, .inl x7)]) [7, 8, 9, 10, 11, 12, 0, 13] rfl ?_
                      exact wb_wid (by omega) (by omega) (hv hw hu)
                    · replace hv := hv.2 c140
                      refine wb_iload X 0 rfl dL_law_354 ?_
                      refine wb_iconst X dL_law_356 kc1 ?_
                      obtain ⟨c145, hv⟩ := hv
                      refine wb_icmp_ne X (tgt := 381) dL_law_357 (by decide) (fun c => absurd c145 c) (fun _ => ?_)
                      refine wb_aload_n X 7 rfl dL_law_360 rfl ?_
                      refine wb_aload_n X 8 rfl dL_law_361 rfl ?_
                      refine wb_bipush X dL_law_362 kb12 ?_
                      refine wb_iload X 2 rfl dL_law_364 ?_
                      refine wb_iload X 1 rfl dL_law_366 ?_
                      refine wb_iconst X dL_law_368 kc0 ?_
                      refine wb_callB X (As := [.inr (.inr (10, 1)), .inr (.inr (210, 1)), .inl (12 : Int32), .inl (F_L_some r8 (4 : Int32)), .inl (F_L_some (r8 >>> ((3 : Int32) &&& 31)) (2 : Int32)), .inl (0 : Int32)]) (hv hw hu) kw_1081 kw_20 kw_1079 kw_1080 nd_L_both rfl rfl (Nat.le_of_ble_eq_true rfl) dL_law_369 ⟨⟨Nat.le_of_ble_eq_true rfl, Nat.le_of_ble_eq_true rfl⟩, by omega, by omega⟩ (fun v SS146 h => ?_)
                      obtain ⟨S146, U147⟩ := SS146
                      obtain ⟨hw, hu, r148, rfl, hv⟩ := h
                      refine wb_iload X 1 rfl dL_law_372 ?_
                      obtain ⟨c149, hv⟩ := hv
                      refine wb_icmp_ne X (tgt := 381) dL_law_374 (by decide) (fun c => absurd c149 c) (fun _ => ?_)
                      refine wb_iconst X dL_law_377 kc1 ?_
                      refine wb_goto X (tgt := 382) dL_law_378 (by decide) ?_
                      refine wb_istore X (lv' := [(6, .inl (1 : Int32)), (13, .inl r139), (12, .inl (F_L_some (r8 >>> ((3 : Int32) &&& 31)) (2 : Int32))), (11, .inl (F_L_some r8 (4 : Int32))), (10, .inl (F_L_some r4 (20 : Int32))), (9, .inl r8), (8, .inl r4), (0, .inr (.inr (101, 1))), (1, .inr (.inr (10, 1))), (2, .inr (.inr (210, 1))), (3, .inl x3), (4, .inl x4), (5, .inl x5), (7, .inl x7)]) dL_law_382 (by decide) rfl ?_
                      refine wb_goto X (tgt := 509) dL_law_384 (by decide) ?_
                      refine wb_lv (lv' := [(0, .inr (.inr (101, 1))), (1, .inr (.inr (10, 1))), (2, .inr (.inr (210, 1))), (3, .inl x3), (4, .inl x4), (5, .inl x5), (6, .inl (1 : Int32)), (7, .inl x7)]) [7, 8, 9, 10, 11, 12, 0, 13] rfl ?_
                      exact wb_wid (by omega) (by omega) (hv hw hu)
                · replace hv := hv.2 c100
                  refine wb_iload X 8 rfl dL_law_256 ?_
                  refine wb_bipush X dL_law_258 kb28 ?_
                  replace hv := hv (fun  S150 U151 => hs_Wi S150 → hs_Wi U151 → wb Z (k + 55) (n + 1190) (S150, U151) 282 [(0, .inr (.inr (101, 1))), (1, .inr (.inr (10, 1))), (2, .inr (.inr (210, 1))), (3, .inl x3), (4, .inl x4), (5, .inl x5), (7, .inl x7)] [.inl (1 : Int32)]) (fun  S150 U151 hv hw hu => by
                    refine wb_istore X (lv' := [(6, .inl (1 : Int32)), (0, .inr (.inr (101, 1))), (1, .inr (.inr (10, 1))), (2, .inr (.inr (210, 1))), (3, .inl x3), (4, .inl x4), (5, .inl x5), (7, .inl x7)]) dL_law_282 (by decide) rfl ?_
                    refine wb_iload X 6 rfl dL_law_284 ?_
                    refine wb_aload_n X 2 rfl dL_law_286 rfl ?_
                    refine wb_bipush X dL_law_287 kb15 ?_
                    refine wb_iload X 6 rfl dL_law_289 ?_
                    refine wb_iconst X dL_law_291 kc0 ?_
                    refine wb_iconst X dL_law_292 kc0 ?_
                    refine wb_callW1 X (As := [.inr (.inr (10, 1)), .inl (15 : Int32), .inl x5, .inl (0 : Int32), .inl (0 : Int32)]) (hv hw) rfl b_nr_I kw_507 kw_20 kw_505 kw_506 nd_L_call rfl rfl (Nat.le_of_ble_eq_true rfl) dL_law_293 ⟨⟨Nat.le_of_ble_eq_true rfl, Nat.le_of_ble_eq_true rfl⟩, by omega, by omega⟩ (fun v S153 h => ?_)
                    obtain ⟨hw, r154, rfl, hv⟩ := h
                    refine wb_if_lt X (tgt := 303) dL_law_296 (by decide) (fun c155 => ?_) (fun c155 => ?_)
                    · replace hv := hv.1 c155
                      refine wb_iconst X dL_law_303 kc0 ?_
                      refine wb_iadd X dL_law_304 ?_
                      refine wb_istore X (lv' := [(5, .inl (x5 + (0 : Int32))), (6, .inl (1 : Int32)), (0, .inr (.inr (101, 1))), (1, .inr (.inr (10, 1))), (2, .inr (.inr (210, 1))), (3, .inl x3), (4, .inl x4), (7, .inl x7)]) dL_law_305 (by decide) rfl ?_
                      refine wb_goto X (tgt := 509) dL_law_307 (by decide) ?_
                      refine wb_lv (lv' := [(0, .inr (.inr (101, 1))), (1, .inr (.inr (10, 1))), (2, .inr (.inr (210, 1))), (3, .inl x3), (4, .inl x4), (5, .inl (x5 + (0 : Int32))), (6, .inl (1 : Int32)), (7, .inl x7)]) [2, 3, 4, 5, 6, 0, 1, 7] rfl ?_
                      exact wb_wid (by omega) (by omega) (hv hw hu)
                    · replace hv := hv.2 c155
                      refine wb_iconst X dL_law_299 kc1 ?_
                      refine wb_goto X (tgt := 304) dL_law_300 (by decide) ?_
                      refine wb_iadd X dL_law_304 ?_
                      refine wb_istore X (lv' := [(5, .inl (x5 + (1 : Int32))), (6, .inl (1 : Int32)), (0, .inr (.inr (101, 1))), (1, .inr (.inr (10, 1))), (2, .inr (.inr (210, 1))), (3, .inl x3), (4, .inl x4), (7, .inl x7)]) dL_law_305 (by decide) rfl ?_
                      refine wb_goto X (tgt := 509) dL_law_307 (by decide) ?_
                      refine wb_lv (lv' := [(0, .inr (.inr (101, 1))), (1, .inr (.inr (10, 1))), (2, .inr (.inr (210, 1))), (3, .inl x3), (4, .inl x4), (5, .inl (x5 + (1 : Int32))), (6, .inl (1 : Int32)), (7, .inl x7)]) [2, 3, 4, 5, 6, 0, 1, 7] rfl ?_
                      exact wb_wid (by omega) (by omega) (hv hw hu))
                  refine wb_icmp_eq X (tgt := 277) dL_law_260 (by decide) (fun c156 => ?_) (fun c156 => ?_)
                  · replace hv := hv.1 c156
                    refine wb_iconst X dL_law_277 kc1 ?_
                    refine wb_goto X (tgt := 282) dL_law_278 (by decide) ?_
                    refine wb_lv (lv' := [(0, .inr (.inr (101, 1))), (1, .inr (.inr (10, 1))), (2, .inr (.inr (210, 1))), (3, .inl x3), (4, .inl x4), (5, .inl x5), (7, .inl x7)]) [3, 4, 5, 6, 7, 8, 10] rfl ?_
                    exact wb_wid (by omega) (by omega) (hv hw hu)
                  · replace hv := hv.2 c156
                    refine wb_aload_n X 4 rfl dL_law_263 rfl ?_
                    refine wb_aload_n X 5 rfl dL_law_264 rfl ?_
                    refine wb_iload X 7 rfl dL_law_265 ?_
                    refine wb_iload X 8 rfl dL_law_267 ?_
                    refine wb_iload X 1 rfl dL_law_269 ?_
                    refine wb_callB X (As := [.inr (.inr (10, 1)), .inr (.inr (210, 1)), .inl x4, .inl x5, .inl r8]) (hv hw hu) kw_1102 kw_20 kw_1100 kw_1101 nd_L_rings rfl rfl (Nat.le_of_ble_eq_true rfl) dL_law_271 ⟨⟨Nat.le_of_ble_eq_true rfl, Nat.le_of_ble_eq_true rfl⟩, by omega, by omega⟩ (fun v SS157 h => ?_)
                    obtain ⟨S157, U158⟩ := SS157
                    obtain ⟨hw, hu, r159, rfl, hv⟩ := h
                    obtain ⟨c160, hv⟩ := hv
                    refine wb_if_eq X (tgt := 281) dL_law_274 (by decide) (fun c => absurd c c160) (fun _ => ?_)
                    refine wb_iconst X dL_law_277 kc1 ?_
                    refine wb_goto X (tgt := 282) dL_law_278 (by decide) ?_
                    refine wb_lv (lv' := [(0, .inr (.inr (101, 1))), (1, .inr (.inr (10, 1))), (2, .inr (.inr (210, 1))), (3, .inl x3), (4, .inl x4), (5, .inl x5), (7, .inl x7)]) [3, 4, 5, 6, 7, 8, 10] rfl ?_
                    exact wb_wid (by omega) (by omega) (hv hw hu)
              · replace hv := hv.2 c99
                refine wb_aload_n X 4 rfl dL_law_212 rfl ?_
                refine wb_aload_n X 5 rfl dL_law_213 rfl ?_
                refine wb_iload X 7 rfl dL_law_214 ?_
                refine wb_iload X 1 rfl dL_law_216 ?_
                refine wb_callB X (As := [.inr (.inr (10, 1)), .inr (.inr (210, 1)), .inl x4, .inl r8]) (hv hw hu) kw_1099 kw_20 kw_1097 kw_1098 nd_L_bids rfl rfl (Nat.le_of_ble_eq_true rfl) dL_law_218 ⟨⟨Nat.le_of_ble_eq_true rfl, Nat.le_of_ble_eq_true rfl⟩, by omega, by omega⟩ (fun v SS161 h => ?_)
                obtain ⟨S161, U162⟩ := SS161
                obtain ⟨hw, hu, r163, rfl, hv⟩ := h
                refine wb_istore X (lv' := [(6, .inl r163), (10, .inl (F_L_some r4 (20 : Int32))), (9, .inl r8), (8, .inl r4), (0, .inr (.inr (101, 1))), (1, .inr (.inr (10, 1))), (2, .inr (.inr (210, 1))), (3, .inl x3), (4, .inl x4), (5, .inl x5), (7, .inl x7)]) dL_law_221 (by decide) rfl ?_
                refine wb_iload X 8 rfl dL_law_223 ?_
                refine wb_aload_n X 5 rfl dL_law_225 rfl ?_
                refine wb_bipush X dL_law_226 kb17 ?_
                refine wb_iload X 8 rfl dL_law_228 ?_
                refine wb_iconst X dL_law_230 kc0 ?_
                refine wb_iconst X dL_law_231 kc0 ?_
                refine wb_callW1 X (As := [.inr (.inr (10, 1)), .inl (17 : Int32), .inl x4, .inl (0 : Int32), .inl (0 : Int32)]) (hv hw) rfl b_nr_I kw_507 kw_20 kw_505 kw_506 nd_L_call rfl rfl (Nat.le_of_ble_eq_true rfl) dL_law_232 ⟨⟨Nat.le_of_ble_eq_true rfl, Nat.le_of_ble_eq_true rfl⟩, by omega, by omega⟩ (fun v S164 h => ?_)
                obtain ⟨hw, r165, rfl, hv⟩ := h
                refine wb_if_ne X (tgt := 242) dL_law_235 (by decide) (fun c166 => ?_) (fun c166 => ?_)
                · replace hv := hv.1 c166
                  refine wb_iconst X dL_law_242 kc0 ?_
                  refine wb_iadd X dL_law_243 ?_
                  refine wb_istore X (lv' := [(4, .inl (x4 + (0 : Int32))), (6, .inl r163), (10, .inl (F_L_some r4 (20 : Int32))), (9, .inl r8), (8, .inl r4), (0, .inr (.inr (101, 1))), (1, .inr (.inr (10, 1))), (2, .inr (.inr (210, 1))), (3, .inl x3), (5, .inl x5), (7, .inl x7)]) dL_law_244 (by decide) rfl ?_
                  refine wb_goto X (tgt := 509) dL_law_246 (by decide) ?_
                  refine wb_lv (lv' := [(0, .inr (.inr (101, 1))), (1, .inr (.inr (10, 1))), (2, .inr (.inr (210, 1))), (3, .inl x3), (4, .inl (x4 + (0 : Int32))), (5, .inl x5), (6, .inl r163), (7, .inl x7)]) [5, 6, 7, 8, 0, 9, 1, 10] rfl ?_
                  exact wb_wid (by omega) (by omega) (hv hw hu)
                · replace hv := hv.2 c166
                  refine wb_iconst X dL_law_238 kc1 ?_
                  refine wb_goto X (tgt := 243) dL_law_239 (by decide) ?_
                  refine wb_iadd X dL_law_243 ?_
                  refine wb_istore X (lv' := [(4, .inl (x4 + (1 : Int32))), (6, .inl r163), (10, .inl (F_L_some r4 (20 : Int32))), (9, .inl r8), (8, .inl r4), (0, .inr (.inr (101, 1))), (1, .inr (.inr (10, 1))), (2, .inr (.inr (210, 1))), (3, .inl x3), (5, .inl x5), (7, .inl x7)]) dL_law_244 (by decide) rfl ?_
                  refine wb_goto X (tgt := 509) dL_law_246 (by decide) ?_
                  refine wb_lv (lv' := [(0, .inr (.inr (101, 1))), (1, .inr (.inr (10, 1))), (2, .inr (.inr (210, 1))), (3, .inl x3), (4, .inl (x4 + (1 : Int32))), (5, .inl x5), (6, .inl r163), (7, .inl x7)]) [5, 6, 7, 8, 0, 9, 1, 10] rfl ?_
                  exact wb_wid (by omega) (by omega) (hv hw hu)
          · replace hv := hv.2 c36
            refine wb_aload_n X 4 rfl dL_law_140 rfl ?_
            refine wb_aload_n X 5 rfl dL_law_141 rfl ?_
            refine wb_iload_n X 6 rfl dL_law_142 rfl ?_
            refine wb_iload X 2 rfl dL_law_143 ?_
            refine wb_iconst X dL_law_145 kc3 ?_
            refine wb_ishr X dL_law_146 ?_
            refine wb_iload X 1 rfl dL_law_147 ?_
            refine wb_callB X (As := [.inr (.inr (10, 1)), .inr (.inr (210, 1)), .inl x3, .inl (r4 >>> ((3 : Int32) &&& 31)), .inl r8]) (hv hw hu) kw_1088 kw_20 kw_1086 kw_1087 nd_L_edits rfl rfl (Nat.le_of_ble_eq_true rfl) dL_law_149 ⟨⟨Nat.le_of_ble_eq_true rfl, Nat.le_of_ble_eq_true rfl⟩, by omega, by omega⟩ (fun v SS167 h => ?_)
            obtain ⟨S167, U168⟩ := SS167
            obtain ⟨hw, hu, r169, rfl, hv⟩ := h
            refine wb_istore X (lv' := [(6, .inl r169), (10, .inl (F_L_some r4 (20 : Int32))), (9, .inl r8), (8, .inl r4), (0, .inr (.inr (101, 1))), (1, .inr (.inr (10, 1))), (2, .inr (.inr (210, 1))), (3, .inl x3), (4, .inl x4), (5, .inl x5), (7, .inl x7)]) dL_law_152 (by decide) rfl ?_
            refine wb_iconst X dL_law_154 kc0 ?_
            refine wb_istore X (lv' := [(11, .inl (0 : Int32)), (6, .inl r169), (10, .inl (F_L_some r4 (20 : Int32))), (9, .inl r8), (8, .inl r4), (0, .inr (.inr (101, 1))), (1, .inr (.inr (10, 1))), (2, .inr (.inr (210, 1))), (3, .inl x3), (4, .inl x4), (5, .inl x5), (7, .inl x7)]) dL_law_155 (by decide) rfl ?_
            refine wb_iconst X dL_law_157 kc0 ?_
            refine wb_istore X (lv' := [(12, .inl (0 : Int32)), (11, .inl (0 : Int32)), (6, .inl r169), (10, .inl (F_L_some r4 (20 : Int32))), (9, .inl r8), (8, .inl r4), (0, .inr (.inr (101, 1))), (1, .inr (.inr (10, 1))), (2, .inr (.inr (210, 1))), (3, .inl x3), (4, .inl x4), (5, .inl x5), (7, .inl x7)]) dL_law_158 (by decide) rfl ?_
            obtain ⟨I172, ⟨n176, i174⟩, b175⟩ := hv
            refine wb_lv (lv' := [(0, .inr (.inr (101, 1))), (1, .inr (.inr (10, 1))), (2, .inr (.inr (210, 1))), (4, .inl x4), (5, .inl x5), (6, .inl r169), (7, .inl x7), (11, .inl (0 : Int32)), (12, .inl (0 : Int32))]) [6, 7, 8, 10, 11, 2, 12, 1, 0] rfl ?_
            suffices L177 : ∀ N173 : Nat, ∀ x170 : Int32, ∀ x171 : Int32, I172 N173 x170 x171 → wb Z (k + 209) (n + 4522) (S167, U168) 160 [(0, .inr (.inr (101, 1))), (1, .inr (.inr (10, 1))), (2, .inr (.inr (210, 1))), (4, .inl x4), (5, .inl x5), (6, .inl r169), (7, .inl x7), (11, .inl x170), (12, .inl x171)] [] from L177 _ _ _ i174
            clear i174
            intro N173
            induction N173 using Nat.strongRecOn with
            | _ N173 h178 =>
              intro x170 x171 j179
              have hv := b175 N173 x170 x171 j179
              refine wb_iload X 8 rfl dL_law_160 ?_
              refine wb_bipush X dL_law_162 kb24 ?_
              refine wb_icmp_ge X (tgt := 192) dL_law_164 (by decide) (fun c180 => ?_) (fun c180 => ?_)
              · replace hv := hv.1 c180
                refine wb_iload X 7 rfl dL_law_192 ?_
                refine wb_istore_n X (lv' := [(3, .inl x170), (0, .inr (.inr (101, 1))), (1, .inr (.inr (10, 1))), (2, .inr (.inr (210, 1))), (4, .inl x4), (5, .inl x5), (6, .inl r169), (7, .inl x7), (11, .inl x170), (12, .inl x171)]) dL_law_194 rfl (by decide) rfl ?_
                refine wb_goto X (tgt := 509) dL_law_195 (by decide) ?_
                refine wb_lv (lv' := [(0, .inr (.inr (101, 1))), (1, .inr (.inr (10, 1))), (2, .inr (.inr (210, 1))), (3, .inl x170), (4, .inl x4), (5, .inl x5), (6, .inl r169), (7, .inl x7)]) [1, 2, 3, 0, 4, 5, 6, 7] rfl ?_
                exact wb_wid (by omega) (by omega) (hv hw hu)
              · replace hv := hv.2 c180
                refine wb_iload X 7 rfl dL_law_167 ?_
                refine wb_aload_n X 1 rfl dL_law_169 rfl ?_
                refine wb_iload X 8 rfl dL_law_170 ?_
                refine wb_bipush X dL_law_172 kb6 ?_
                refine wb_idiv X dL_law_174 (by decide) ?_
                refine wb_iload X 8 rfl dL_law_175 ?_
                refine wb_bipush X dL_law_177 kb6 ?_
                refine wb_irem X dL_law_179 (by decide) ?_
                obtain ⟨o181, hv⟩ := hv
                refine wb_callV1 X (As := [.inl (x171 / (6 : Int32)), .inl (x171 - x171 / (6 : Int32) * (6 : Int32))]) (f_Cq_edits hw o181) rfl b_nr_pI hk_10 hc_10 rfl kw_349 kw_21 kw_346 kw_347 kw_348 nd_X10_edits rfl rfl (Nat.le_of_ble_eq_true rfl) dL_law_180 hs_1ne (by decide) ⟨⟨Nat.le_of_ble_eq_true rfl, Nat.le_of_ble_eq_true rfl⟩, by omega, by omega⟩ (b_pdk1 ?_)
                refine wb_iadd X dL_law_183 ?_
                refine wb_istore X (lv' := [(11, .inl (x170 + (F_Cq_edits (x171 / (6 : Int32)) (x171 - x171 / (6 : Int32) * (6 : Int32)) S167))), (0, .inr (.inr (101, 1))), (1, .inr (.inr (10, 1))), (2, .inr (.inr (210, 1))), (4, .inl x4), (5, .inl x5), (6, .inl r169), (7, .inl x7), (12, .inl x171)]) dL_law_184 (by decide) rfl ?_
                refine wb_iinc X (v := (x171 + 1)) (lv' := [(12, .inl (x171 + 1)), (11, .inl (x170 + (F_Cq_edits (x171 / (6 : Int32)) (x171 - x171 / (6 : Int32) * (6 : Int32)) S167))), (0, .inr (.inr (101, 1))), (1, .inr (.inr (10, 1))), (2, .inr (.inr (210, 1))), (4, .inl x4), (5, .inl x5), (6, .inl r169), (7, .inl x7)]) 8 rfl dL_law_186 rfl (by decide) rfl ?_
                refine wb_goto X (tgt := 160) dL_law_189 (by decide) ?_
                obtain ⟨q182, p183, hv⟩ := hv
                refine wb_lv (lv' := [(0, .inr (.inr (101, 1))), (1, .inr (.inr (10, 1))), (2, .inr (.inr (210, 1))), (4, .inl x4), (5, .inl x5), (6, .inl r169), (7, .inl x7), (11, .inl (x170 + (F_Cq_edits (x171 / (6 : Int32)) (x171 - x171 / (6 : Int32) * (6 : Int32)) S167))), (12, .inl (x171 + 1))]) [2, 3, 4, 5, 6, 7, 8, 1, 0] rfl ?_
                exact h178 q182 p183 _ _ hv
        · replace hv := hv.2 c35
          refine wb_iload_n X 6 rfl dL_law_128 rfl ?_
          refine wb_bipush X dL_law_129 kb55 ?_
          refine wb_icmp_lt X (tgt := 140) dL_law_131 (by decide) (fun c184 => ?_) (fun c184 => ?_)
          · replace hv := hv.1 c184
            refine wb_aload_n X 4 rfl dL_law_140 rfl ?_
            refine wb_aload_n X 5 rfl dL_law_141 rfl ?_
            refine wb_iload_n X 6 rfl dL_law_142 rfl ?_
            refine wb_iload X 2 rfl dL_law_143 ?_
            refine wb_iconst X dL_law_145 kc3 ?_
            refine wb_ishr X dL_law_146 ?_
            refine wb_iload X 1 rfl dL_law_147 ?_
            refine wb_callB X (As := [.inr (.inr (10, 1)), .inr (.inr (210, 1)), .inl x3, .inl (r4 >>> ((3 : Int32) &&& 31)), .inl r8]) (hv hw hu) kw_1088 kw_20 kw_1086 kw_1087 nd_L_edits rfl rfl (Nat.le_of_ble_eq_true rfl) dL_law_149 ⟨⟨Nat.le_of_ble_eq_true rfl, Nat.le_of_ble_eq_true rfl⟩, by omega, by omega⟩ (fun v SS185 h => ?_)
            obtain ⟨S185, U186⟩ := SS185
            obtain ⟨hw, hu, r187, rfl, hv⟩ := h
            refine wb_istore X (lv' := [(6, .inl r187), (10, .inl (F_L_some r4 (20 : Int32))), (9, .inl r8), (8, .inl r4), (0, .inr (.inr (101, 1))), (1, .inr (.inr (10, 1))), (2, .inr (.inr (210, 1))), (3, .inl x3), (4, .inl x4), (5, .inl x5), (7, .inl x7)]) dL_law_152 (by decide) rfl ?_
            refine wb_iconst X dL_law_154 kc0 ?_
            refine wb_istore X (lv' := [(11, .inl (0 : Int32)), (6, .inl r187), (10, .inl (F_L_some r4 (20 : Int32))), (9, .inl r8), (8, .inl r4), (0, .inr (.inr (101, 1))), (1, .inr (.inr (10, 1))), (2, .inr (.inr (210, 1))), (3, .inl x3), (4, .inl x4), (5, .inl x5), (7, .inl x7)]) dL_law_155 (by decide) rfl ?_
            refine wb_iconst X dL_law_157 kc0 ?_
            refine wb_istore X (lv' := [(12, .inl (0 : Int32)), (11, .inl (0 : Int32)), (6, .inl r187), (10, .inl (F_L_some r4 (20 : Int32))), (9, .inl r8), (8, .inl r4), (0, .inr (.inr (101, 1))), (1, .inr (.inr (10, 1))), (2, .inr (.inr (210, 1))), (3, .inl x3), (4, .inl x4), (5, .inl x5), (7, .inl x7)]) dL_law_158 (by decide) rfl ?_
            obtain ⟨I190, ⟨n194, i192⟩, b193⟩ := hv
            refine wb_lv (lv' := [(0, .inr (.inr (101, 1))), (1, .inr (.inr (10, 1))), (2, .inr (.inr (210, 1))), (4, .inl x4), (5, .inl x5), (6, .inl r187), (7, .inl x7), (11, .inl (0 : Int32)), (12, .inl (0 : Int32))]) [6, 7, 8, 10, 11, 2, 12, 1, 0] rfl ?_
            suffices L195 : ∀ N191 : Nat, ∀ x188 : Int32, ∀ x189 : Int32, I190 N191 x188 x189 → wb Z (k + 209) (n + 4522) (S185, U186) 160 [(0, .inr (.inr (101, 1))), (1, .inr (.inr (10, 1))), (2, .inr (.inr (210, 1))), (4, .inl x4), (5, .inl x5), (6, .inl r187), (7, .inl x7), (11, .inl x188), (12, .inl x189)] [] from L195 _ _ _ i192
            clear i192
            intro N191
            induction N191 using Nat.strongRecOn with
            | _ N191 h196 =>
              intro x188 x189 j197
              have hv := b193 N191 x188 x189 j197
              refine wb_iload X 8 rfl dL_law_160 ?_
              refine wb_bipush X dL_law_162 kb24 ?_
              refine wb_icmp_ge X (tgt := 192) dL_law_164 (by decide) (fun c198 => ?_) (fun c198 => ?_)
              · replace hv := hv.1 c198
                refine wb_iload X 7 rfl dL_law_192 ?_
                refine wb_istore_n X (lv' := [(3, .inl x188), (0, .inr (.inr (101, 1))), (1, .inr (.inr (10, 1))), (2, .inr (.inr (210, 1))), (4, .inl x4), (5, .inl x5), (6, .inl r187), (7, .inl x7), (11, .inl x188), (12, .inl x189)]) dL_law_194 rfl (by decide) rfl ?_
                refine wb_goto X (tgt := 509) dL_law_195 (by decide) ?_
                refine wb_lv (lv' := [(0, .inr (.inr (101, 1))), (1, .inr (.inr (10, 1))), (2, .inr (.inr (210, 1))), (3, .inl x188), (4, .inl x4), (5, .inl x5), (6, .inl r187), (7, .inl x7)]) [1, 2, 3, 0, 4, 5, 6, 7] rfl ?_
                exact wb_wid (by omega) (by omega) (hv hw hu)
              · replace hv := hv.2 c198
                refine wb_iload X 7 rfl dL_law_167 ?_
                refine wb_aload_n X 1 rfl dL_law_169 rfl ?_
                refine wb_iload X 8 rfl dL_law_170 ?_
                refine wb_bipush X dL_law_172 kb6 ?_
                refine wb_idiv X dL_law_174 (by decide) ?_
                refine wb_iload X 8 rfl dL_law_175 ?_
                refine wb_bipush X dL_law_177 kb6 ?_
                refine wb_irem X dL_law_179 (by decide) ?_
                obtain ⟨o199, hv⟩ := hv
                refine wb_callV1 X (As := [.inl (x189 / (6 : Int32)), .inl (x189 - x189 / (6 : Int32) * (6 : Int32))]) (f_Cq_edits hw o199) rfl b_nr_pI hk_10 hc_10 rfl kw_349 kw_21 kw_346 kw_347 kw_348 nd_X10_edits rfl rfl (Nat.le_of_ble_eq_true rfl) dL_law_180 hs_1ne (by decide) ⟨⟨Nat.le_of_ble_eq_true rfl, Nat.le_of_ble_eq_true rfl⟩, by omega, by omega⟩ (b_pdk1 ?_)
                refine wb_iadd X dL_law_183 ?_
                refine wb_istore X (lv' := [(11, .inl (x188 + (F_Cq_edits (x189 / (6 : Int32)) (x189 - x189 / (6 : Int32) * (6 : Int32)) S185))), (0, .inr (.inr (101, 1))), (1, .inr (.inr (10, 1))), (2, .inr (.inr (210, 1))), (4, .inl x4), (5, .inl x5), (6, .inl r187), (7, .inl x7), (12, .inl x189)]) dL_law_184 (by decide) rfl ?_
                refine wb_iinc X (v := (x189 + 1)) (lv' := [(12, .inl (x189 + 1)), (11, .inl (x188 + (F_Cq_edits (x189 / (6 : Int32)) (x189 - x189 / (6 : Int32) * (6 : Int32)) S185))), (0, .inr (.inr (101, 1))), (1, .inr (.inr (10, 1))), (2, .inr (.inr (210, 1))), (4, .inl x4), (5, .inl x5), (6, .inl r187), (7, .inl x7)]) 8 rfl dL_law_186 rfl (by decide) rfl ?_
                refine wb_goto X (tgt := 160) dL_law_189 (by decide) ?_
                obtain ⟨q200, p201, hv⟩ := hv
                refine wb_lv (lv' := [(0, .inr (.inr (101, 1))), (1, .inr (.inr (10, 1))), (2, .inr (.inr (210, 1))), (4, .inl x4), (5, .inl x5), (6, .inl r187), (7, .inl x7), (11, .inl (x188 + (F_Cq_edits (x189 / (6 : Int32)) (x189 - x189 / (6 : Int32) * (6 : Int32)) S185))), (12, .inl (x189 + 1))]) [2, 3, 4, 5, 6, 7, 8, 1, 0] rfl ?_
                exact h196 q200 p201 _ _ hv
          · replace hv := hv.2 c184
            refine wb_iload X 10 rfl dL_law_134 ?_
            refine wb_iconst X dL_law_136 kc4 ?_
            refine wb_icmp_ge X (tgt := 198) dL_law_137 (by decide) (fun c202 => ?_) (fun c202 => ?_)
            · replace hv := hv.1 c202
              refine wb_iload X 0 rfl dL_law_198 ?_
              refine wb_bipush X dL_law_200 kb13 ?_
              refine wb_icmp_ge X (tgt := 249) dL_law_202 (by decide) (fun c203 => ?_) (fun c203 => ?_)
              · replace hv := hv.1 c203
                refine wb_iload X 0 rfl dL_law_249 ?_
                refine wb_bipush X dL_law_251 kb16 ?_
                refine wb_icmp_ge X (tgt := 310) dL_law_253 (by decide) (fun c204 => ?_) (fun c204 => ?_)
                · replace hv := hv.1 c204
                  refine wb_iload X 0 rfl dL_law_310 ?_
                  refine wb_bipush X dL_law_312 kb17 ?_
                  refine wb_icmp_ge X (tgt := 387) dL_law_314 (by decide) (fun c205 => ?_) (fun c205 => ?_)
                  · replace hv := hv.1 c205
                    refine wb_iload X 0 rfl dL_law_387 ?_
                    refine wb_bipush X dL_law_389 kb18 ?_
                    refine wb_icmp_ge X (tgt := 495) dL_law_391 (by decide) (fun c206 => ?_) (fun c206 => ?_)
                    · replace hv := hv.1 c206
                      refine wb_aload_n X 4 rfl dL_law_495 rfl ?_
                      refine wb_aload_n X 5 rfl dL_law_496 rfl ?_
                      refine wb_iload_n X 6 rfl dL_law_497 rfl ?_
                      refine wb_iload X 7 rfl dL_law_498 ?_
                      refine wb_iload X 8 rfl dL_law_500 ?_
                      refine wb_iload X 1 rfl dL_law_502 ?_
                      refine wb_callB X (As := [.inr (.inr (10, 1)), .inr (.inr (210, 1)), .inl x3, .inl x4, .inl x5, .inl r8]) (hv hw hu) kw_1107 kw_20 kw_1105 kw_1106 nd_L_strikes rfl rfl (Nat.le_of_ble_eq_true rfl) dL_law_504 ⟨⟨Nat.le_of_ble_eq_true rfl, Nat.le_of_ble_eq_true rfl⟩, by omega, by omega⟩ (fun v SS207 h => ?_)
                      obtain ⟨S207, U208⟩ := SS207
                      obtain ⟨hw, hu, r209, rfl, hv⟩ := h
                      refine wb_istore X (lv' := [(6, .inl r209), (10, .inl (F_L_some r4 (20 : Int32))), (9, .inl r8), (8, .inl r4), (0, .inr (.inr (101, 1))), (1, .inr (.inr (10, 1))), (2, .inr (.inr (210, 1))), (3, .inl x3), (4, .inl x4), (5, .inl x5), (7, .inl x7)]) dL_law_507 (by decide) rfl ?_
                      refine wb_lv (lv' := [(0, .inr (.inr (101, 1))), (1, .inr (.inr (10, 1))), (2, .inr (.inr (210, 1))), (3, .inl x3), (4, .inl x4), (5, .inl x5), (6, .inl r209), (7, .inl x7)]) [4, 5, 6, 7, 8, 9, 0, 10] rfl ?_
                      exact wb_wid (by omega) (by omega) (hv hw hu)
                    · replace hv := hv.2 c206
                      refine wb_iload X 1 rfl dL_law_394 ?_
                      refine wb_iconst X dL_law_396 kc2 ?_
                      obtain ⟨o210, hv⟩ := hv
                      refine wb_callS1 X (As := [.inl r8, .inl (2 : Int32)]) (f_L_some hw o210) rfl b_nr_pI kw_504 kw_20 kw_502 kw_503 nd_L_some rfl rfl (Nat.le_of_ble_eq_true rfl) dL_law_397 ⟨⟨Nat.le_of_ble_eq_true rfl, Nat.le_of_ble_eq_true rfl⟩, by omega, by omega⟩ (b_pdk1 ?_)
                      refine wb_istore X (lv' := [(11, .inl (F_L_some r8 (2 : Int32))), (10, .inl (F_L_some r4 (20 : Int32))), (9, .inl r8), (8, .inl r4), (0, .inr (.inr (101, 1))), (1, .inr (.inr (10, 1))), (2, .inr (.inr (210, 1))), (3, .inl x3), (4, .inl x4), (5, .inl x5), (6, .inl x6), (7, .inl x7)]) dL_law_400 (by decide) rfl ?_
                      refine wb_aload_n X 5 rfl dL_law_402 rfl ?_
                      refine wb_aload_n X 6 rfl dL_law_403 rfl ?_
                      refine wb_bipush X dL_law_404 kb19 ?_
                      refine wb_iload X 0 rfl dL_law_406 ?_
                      refine wb_iconst X dL_law_408 kc0 ?_
                      refine wb_iconst X dL_law_409 kc0 ?_
                      refine wb_callB X (As := [.inr (.inr (10, 1)), .inr (.inr (210, 1)), .inl (19 : Int32), .inl (F_L_some r8 (2 : Int32)), .inl (0 : Int32), .inl (0 : Int32)]) (hv hw hu) kw_1081 kw_20 kw_1079 kw_1080 nd_L_both rfl rfl (Nat.le_of_ble_eq_true rfl) dL_law_410 ⟨⟨Nat.le_of_ble_eq_true rfl, Nat.le_of_ble_eq_true rfl⟩, by omega, by omega⟩ (fun v SS211 h => ?_)
                      obtain ⟨S211, U212⟩ := SS211
                      obtain ⟨hw, hu, r213, rfl, hv⟩ := h
                      refine wb_istore X (lv' := [(12, .inl r213), (11, .inl (F_L_some r8 (2 : Int32))), (10, .inl (F_L_some r4 (20 : Int32))), (9, .inl r8), (8, .inl r4), (0, .inr (.inr (101, 1))), (1, .inr (.inr (10, 1))), (2, .inr (.inr (210, 1))), (3, .inl x3), (4, .inl x4), (5, .inl x5), (6, .inl x6), (7, .inl x7)]) dL_law_413 (by decide) rfl ?_
                      refine wb_iload X 0 rfl dL_law_415 ?_
                      obtain ⟨c214, hv⟩ := hv
                      refine wb_if_lt X (tgt := 424) dL_law_417 (by decide) (fun c => absurd c c214) (fun _ => ?_)
                      refine wb_iconst X dL_law_420 kc1 ?_
                      refine wb_goto X (tgt := 425) dL_law_421 (by decide) ?_
                      refine wb_istore X (lv' := [(6, .inl (1 : Int32)), (12, .inl r213), (11, .inl (F_L_some r8 (2 : Int32))), (10, .inl (F_L_some r4 (20 : Int32))), (9, .inl r8), (8, .inl r4), (0, .inr (.inr (101, 1))), (1, .inr (.inr (10, 1))), (2, .inr (.inr (210, 1))), (3, .inl x3), (4, .inl x4), (5, .inl x5), (7, .inl x7)]) dL_law_425 (by decide) rfl ?_
                      refine wb_iconst X dL_law_427 kc0 ?_
                      refine wb_istore X (lv' := [(13, .inl (0 : Int32)), (6, .inl (1 : Int32)), (12, .inl r213), (11, .inl (F_L_some r8 (2 : Int32))), (10, .inl (F_L_some r4 (20 : Int32))), (9, .inl r8), (8, .inl r4), (0, .inr (.inr (101, 1))), (1, .inr (.inr (10, 1))), (2, .inr (.inr (210, 1))), (3, .inl x3), (4, .inl x4), (5, .inl x5), (7, .inl x7)]) dL_law_428 (by decide) rfl ?_
                      obtain ⟨I217, ⟨n221, i219⟩, b220⟩ := hv
                      refine wb_lv (lv' := [(0, .inr (.inr (101, 1))), (1, .inr (.inr (10, 1))), (2, .inr (.inr (210, 1))), (3, .inl x3), (4, .inl x4), (5, .inl x5), (6, .inl (1 : Int32)), (7, .inl x7), (11, .inl (F_L_some r8 (2 : Int32))), (13, .inl (0 : Int32))]) [7, 8, 9, 10, 11, 12, 1, 13, 3, 0] rfl ?_
                      suffices L222 : ∀ N218 : Nat, ∀ x215 : Int32, ∀ x216 : Int32, I217 N218 x215 x216 → wb Z (k + 22) (n + 476) (S211, U212) 430 [(0, .inr (.inr (101, 1))), (1, .inr (.inr (10, 1))), (2, .inr (.inr (210, 1))), (3, .inl x3), (4, .inl x4), (5, .inl x5), (6, .inl x215), (7, .inl x7), (11, .inl (F_L_some r8 (2 : Int32))), (13, .inl x216)] [] from L222 _ _ _ i219
                      clear i219
                      intro N218
                      induction N218 using Nat.strongRecOn with
                      | _ N218 h223 =>
                        intro x215 x216 j224
                        have hv := b220 N218 x215 x216 j224
                        refine wb_iload X 9 rfl dL_law_430 ?_
                        refine wb_bipush X dL_law_432 kb6 ?_
                        replace hv := hv (fun  S225 U226 => hs_Wi S225 → hs_Wi U226 → wb Z (k + 22) (n + 476) (S225, U226) 466 [(0, .inr (.inr (101, 1))), (1, .inr (.inr (10, 1))), (2, .inr (.inr (210, 1))), (3, .inl x3), (4, .inl x4), (5, .inl x5), (6, .inl x215), (7, .inl x7), (11, .inl (F_L_some r8 (2 : Int32)))] []) (fun  S225 U226 hv hw hu => by
                          refine wb_iload X 6 rfl dL_law_466 ?_
                          obtain ⟨c228, hv⟩ := hv
                          refine wb_if_eq X (tgt := 489) dL_law_468 (by decide) (fun c => absurd c c228) (fun _ => ?_)
                          refine wb_aload_n X 1 rfl dL_law_471 rfl ?_
                          refine wb_aload_n X 2 rfl dL_law_472 rfl ?_
                          refine wb_bipush X dL_law_473 kb19 ?_
                          refine wb_iload X 8 rfl dL_law_475 ?_
                          refine wb_iconst X dL_law_477 kc0 ?_
                          refine wb_iconst X dL_law_478 kc0 ?_
                          refine wb_callB X (As := [.inr (.inr (10, 1)), .inr (.inr (210, 1)), .inl (19 : Int32), .inl (F_L_some r8 (2 : Int32)), .inl (0 : Int32), .inl (0 : Int32)]) (hv hw hu) kw_1081 kw_20 kw_1079 kw_1080 nd_L_both rfl rfl (Nat.le_of_ble_eq_true rfl) dL_law_479 ⟨⟨Nat.le_of_ble_eq_true rfl, Nat.le_of_ble_eq_true rfl⟩, by omega, by omega⟩ (fun v SS229 h => ?_)
                          obtain ⟨S229, U230⟩ := SS229
                          obtain ⟨hw, hu, r231, rfl, hv⟩ := h
                          obtain ⟨c232, hv⟩ := hv
                          refine wb_if_ne X (tgt := 489) dL_law_482 (by decide) (fun c => absurd c232 c) (fun _ => ?_)
                          refine wb_iconst X dL_law_485 kc1 ?_
                          refine wb_goto X (tgt := 490) dL_law_486 (by decide) ?_
                          refine wb_istore X (lv' := [(6, .inl (1 : Int32)), (0, .inr (.inr (101, 1))), (1, .inr (.inr (10, 1))), (2, .inr (.inr (210, 1))), (3, .inl x3), (4, .inl x4), (5, .inl x5), (7, .inl x7), (11, .inl (F_L_some r8 (2 : Int32)))]) dL_law_490 (by decide) rfl ?_
                          refine wb_goto X (tgt := 509) dL_law_492 (by decide) ?_
                          refine wb_lv (lv' := [(0, .inr (.inr (101, 1))), (1, .inr (.inr (10, 1))), (2, .inr (.inr (210, 1))), (3, .inl x3), (4, .inl x4), (5, .inl x5), (6, .inl (1 : Int32)), (7, .inl x7)]) [1, 2, 3, 4, 5, 6, 0, 7] rfl ?_
                          exact wb_wid (by omega) (by omega) (hv hw hu))
                        refine wb_icmp_ge X (tgt := 466) dL_law_434 (by decide) (fun c233 => ?_) (fun c233 => ?_)
                        · replace hv := hv.1 c233
                          refine wb_lv (lv' := [(0, .inr (.inr (101, 1))), (1, .inr (.inr (10, 1))), (2, .inr (.inr (210, 1))), (3, .inl x3), (4, .inl x4), (5, .inl x5), (6, .inl x215), (7, .inl x7), (11, .inl (F_L_some r8 (2 : Int32)))]) [0, 1, 2, 3, 4, 5, 6, 7, 8] rfl ?_
                          exact wb_wid (by omega) (by omega) (hv hw hu)
                        · replace hv := hv.2 c233
                          refine wb_iload X 6 rfl dL_law_437 ?_
                          refine wb_if_eq X (tgt := 466) dL_law_439 (by decide) (fun c234 => ?_) (fun c234 => ?_)
                          · replace hv := hv.1 c234
                            refine wb_lv (lv' := [(0, .inr (.inr (101, 1))), (1, .inr (.inr (10, 1))), (2, .inr (.inr (210, 1))), (3, .inl x3), (4, .inl x4), (5, .inl x5), (6, .inl x215), (7, .inl x7), (11, .inl (F_L_some r8 (2 : Int32)))]) [0, 1, 2, 3, 4, 5, 6, 7, 8] rfl ?_
                            exact wb_wid (by omega) (by omega) (hv hw hu)
                          · replace hv := hv.2 c234
                            refine wb_aload_n X 1 rfl dL_law_442 rfl ?_
                            refine wb_iload X 9 rfl dL_law_443 ?_
                            refine wb_iload X 8 rfl dL_law_445 ?_
                            obtain ⟨o235, hv⟩ := hv
                            refine wb_callV1 X (As := [.inl x216, .inl (F_L_some r8 (2 : Int32))]) (f_Cq_due hw o235) rfl b_nr_pI hk_10 hc_10 rfl kw_462 kw_21 kw_459 kw_460 kw_461 nd_X10_due rfl rfl (Nat.le_of_ble_eq_true rfl) dL_law_447 hs_1ne (by decide) ⟨⟨Nat.le_of_ble_eq_true rfl, Nat.le_of_ble_eq_true rfl⟩, by omega, by omega⟩ (b_pdk1 ?_)
                            obtain ⟨c236, hv⟩ := hv
                            refine wb_if_ne X (tgt := 457) dL_law_450 (by decide) (fun c => absurd c236 c) (fun _ => ?_)
                            refine wb_iconst X dL_law_453 kc1 ?_
                            refine wb_goto X (tgt := 458) dL_law_454 (by decide) ?_
                            refine wb_istore X (lv' := [(6, .inl (1 : Int32)), (0, .inr (.inr (101, 1))), (1, .inr (.inr (10, 1))), (2, .inr (.inr (210, 1))), (3, .inl x3), (4, .inl x4), (5, .inl x5), (7, .inl x7), (11, .inl (F_L_some r8 (2 : Int32))), (13, .inl x216)]) dL_law_458 (by decide) rfl ?_
                            refine wb_iinc X (v := (x216 + 1)) (lv' := [(13, .inl (x216 + 1)), (6, .inl (1 : Int32)), (0, .inr (.inr (101, 1))), (1, .inr (.inr (10, 1))), (2, .inr (.inr (210, 1))), (3, .inl x3), (4, .inl x4), (5, .inl x5), (7, .inl x7), (11, .inl (F_L_some r8 (2 : Int32)))]) 9 rfl dL_law_460 rfl (by decide) rfl ?_
                            refine wb_goto X (tgt := 430) dL_law_463 (by decide) ?_
                            obtain ⟨q237, p238, hv⟩ := hv
                            refine wb_lv (lv' := [(0, .inr (.inr (101, 1))), (1, .inr (.inr (10, 1))), (2, .inr (.inr (210, 1))), (3, .inl x3), (4, .inl x4), (5, .inl x5), (6, .inl (1 : Int32)), (7, .inl x7), (11, .inl (F_L_some r8 (2 : Int32))), (13, .inl (x216 + 1))]) [2, 3, 4, 5, 6, 7, 1, 8, 9, 0] rfl ?_
                            exact h223 q237 p238 _ _ hv
                  · replace hv := hv.2 c205
                    refine wb_iload X 1 rfl dL_law_317 ?_
                    refine wb_iconst X dL_law_319 kc4 ?_
                    obtain ⟨o239, hv⟩ := hv
                    refine wb_callS1 X (As := [.inl r8, .inl (4 : Int32)]) (f_L_some hw o239) rfl b_nr_pI kw_504 kw_20 kw_502 kw_503 nd_L_some rfl rfl (Nat.le_of_ble_eq_true rfl) dL_law_320 ⟨⟨Nat.le_of_ble_eq_true rfl, Nat.le_of_ble_eq_true rfl⟩, by omega, by omega⟩ (b_pdk1 ?_)
                    refine wb_istore X (lv' := [(11, .inl (F_L_some r8 (4 : Int32))), (10, .inl (F_L_some r4 (20 : Int32))), (9, .inl r8), (8, .inl r4), (0, .inr (.inr (101, 1))), (1, .inr (.inr (10, 1))), (2, .inr (.inr (210, 1))), (3, .inl x3), (4, .inl x4), (5, .inl x5), (6, .inl x6), (7, .inl x7)]) dL_law_323 (by decide) rfl ?_
                    refine wb_iload X 2 rfl dL_law_325 ?_
                    refine wb_iconst X dL_law_327 kc3 ?_
                    refine wb_ishr X dL_law_328 ?_
                    refine wb_iconst X dL_law_329 kc2 ?_
                    obtain ⟨o240, hv⟩ := hv
                    refine wb_callS1 X (As := [.inl (r8 >>> ((3 : Int32) &&& 31)), .inl (2 : Int32)]) (f_L_some hw o240) rfl b_nr_pI kw_504 kw_20 kw_502 kw_503 nd_L_some rfl rfl (Nat.le_of_ble_eq_true rfl) dL_law_330 ⟨⟨Nat.le_of_ble_eq_true rfl, Nat.le_of_ble_eq_true rfl⟩, by omega, by omega⟩ (b_pdk1 ?_)
                    refine wb_istore X (lv' := [(12, .inl (F_L_some (r8 >>> ((3 : Int32) &&& 31)) (2 : Int32))), (11, .inl (F_L_some r8 (4 : Int32))), (10, .inl (F_L_some r4 (20 : Int32))), (9, .inl r8), (8, .inl r4), (0, .inr (.inr (101, 1))), (1, .inr (.inr (10, 1))), (2, .inr (.inr (210, 1))), (3, .inl x3), (4, .inl x4), (5, .inl x5), (6, .inl x6), (7, .inl x7)]) dL_law_333 (by decide) rfl ?_
                    refine wb_aload_n X 6 rfl dL_law_335 rfl ?_
                    refine wb_aload_n X 7 rfl dL_law_336 rfl ?_
                    refine wb_bipush X dL_law_337 kb12 ?_
                    refine wb_iload X 1 rfl dL_law_339 ?_
                    refine wb_iload X 0 rfl dL_law_341 ?_
                    refine wb_iconst X dL_law_343 kc0 ?_
                    refine wb_callB X (As := [.inr (.inr (10, 1)), .inr (.inr (210, 1)), .inl (12 : Int32), .inl (F_L_some r8 (4 : Int32)), .inl (F_L_some (r8 >>> ((3 : Int32) &&& 31)) (2 : Int32)), .inl (0 : Int32)]) (hv hw hu) kw_1081 kw_20 kw_1079 kw_1080 nd_L_both rfl rfl (Nat.le_of_ble_eq_true rfl) dL_law_344 ⟨⟨Nat.le_of_ble_eq_true rfl, Nat.le_of_ble_eq_true rfl⟩, by omega, by omega⟩ (fun v SS241 h => ?_)
                    obtain ⟨S241, U242⟩ := SS241
                    obtain ⟨hw, hu, r243, rfl, hv⟩ := h
                    refine wb_istore X (lv' := [(13, .inl r243), (12, .inl (F_L_some (r8 >>> ((3 : Int32) &&& 31)) (2 : Int32))), (11, .inl (F_L_some r8 (4 : Int32))), (10, .inl (F_L_some r4 (20 : Int32))), (9, .inl r8), (8, .inl r4), (0, .inr (.inr (101, 1))), (1, .inr (.inr (10, 1))), (2, .inr (.inr (210, 1))), (3, .inl x3), (4, .inl x4), (5, .inl x5), (6, .inl x6), (7, .inl x7)]) dL_law_347 (by decide) rfl ?_
                    refine wb_iload X 0 rfl dL_law_349 ?_
                    refine wb_if_eq X (tgt := 360) dL_law_351 (by decide) (fun c244 => ?_) (fun c244 => ?_)
                    · replace hv := hv.1 c244
                      refine wb_aload_n X 7 rfl dL_law_360 rfl ?_
                      refine wb_aload_n X 8 rfl dL_law_361 rfl ?_
                      refine wb_bipush X dL_law_362 kb12 ?_
                      refine wb_iload X 2 rfl dL_law_364 ?_
                      refine wb_iload X 1 rfl dL_law_366 ?_
                      refine wb_iconst X dL_law_368 kc0 ?_
                      refine wb_callB X (As := [.inr (.inr (10, 1)), .inr (.inr (210, 1)), .inl (12 : Int32), .inl (F_L_some r8 (4 : Int32)), .inl (F_L_some (r8 >>> ((3 : Int32) &&& 31)) (2 : Int32)), .inl (0 : Int32)]) (hv hw hu) kw_1081 kw_20 kw_1079 kw_1080 nd_L_both rfl rfl (Nat.le_of_ble_eq_true rfl) dL_law_369 ⟨⟨Nat.le_of_ble_eq_true rfl, Nat.le_of_ble_eq_true rfl⟩, by omega, by omega⟩ (fun v SS245 h => ?_)
                      obtain ⟨S245, U246⟩ := SS245
                      obtain ⟨hw, hu, r247, rfl, hv⟩ := h
                      refine wb_iload X 1 rfl dL_law_372 ?_
                      obtain ⟨c248, hv⟩ := hv
                      refine wb_icmp_ne X (tgt := 381) dL_law_374 (by decide) (fun c => absurd c248 c) (fun _ => ?_)
                      refine wb_iconst X dL_law_377 kc1 ?_
                      refine wb_goto X (tgt := 382) dL_law_378 (by decide) ?_
                      refine wb_istore X (lv' := [(6, .inl (1 : Int32)), (13, .inl r243), (12, .inl (F_L_some (r8 >>> ((3 : Int32) &&& 31)) (2 : Int32))), (11, .inl (F_L_some r8 (4 : Int32))), (10, .inl (F_L_some r4 (20 : Int32))), (9, .inl r8), (8, .inl r4), (0, .inr (.inr (101, 1))), (1, .inr (.inr (10, 1))), (2, .inr (.inr (210, 1))), (3, .inl x3), (4, .inl x4), (5, .inl x5), (7, .inl x7)]) dL_law_382 (by decide) rfl ?_
                      refine wb_goto X (tgt := 509) dL_law_384 (by decide) ?_
                      refine wb_lv (lv' := [(0, .inr (.inr (101, 1))), (1, .inr (.inr (10, 1))), (2, .inr (.inr (210, 1))), (3, .inl x3), (4, .inl x4), (5, .inl x5), (6, .inl (1 : Int32)), (7, .inl x7)]) [7, 8, 9, 10, 11, 12, 0, 13] rfl ?_
                      exact wb_wid (by omega) (by omega) (hv hw hu)
                    · replace hv := hv.2 c244
                      refine wb_iload X 0 rfl dL_law_354 ?_
                      refine wb_iconst X dL_law_356 kc1 ?_
                      obtain ⟨c249, hv⟩ := hv
                      refine wb_icmp_ne X (tgt := 381) dL_law_357 (by decide) (fun c => absurd c249 c) (fun _ => ?_)
                      refine wb_aload_n X 7 rfl dL_law_360 rfl ?_
                      refine wb_aload_n X 8 rfl dL_law_361 rfl ?_
                      refine wb_bipush X dL_law_362 kb12 ?_
                      refine wb_iload X 2 rfl dL_law_364 ?_
                      refine wb_iload X 1 rfl dL_law_366 ?_
                      refine wb_iconst X dL_law_368 kc0 ?_
                      refine wb_callB X (As := [.inr (.inr (10, 1)), .inr (.inr (210, 1)), .inl (12 : Int32), .inl (F_L_some r8 (4 : Int32)), .inl (F_L_some (r8 >>> ((3 : Int32) &&& 31)) (2 : Int32)), .inl (0 : Int32)]) (hv hw hu) kw_1081 kw_20 kw_1079 kw_1080 nd_L_both rfl rfl (Nat.le_of_ble_eq_true rfl) dL_law_369 ⟨⟨Nat.le_of_ble_eq_true rfl, Nat.le_of_ble_eq_true rfl⟩, by omega, by omega⟩ (fun v SS250 h => ?_)
                      obtain ⟨S250, U251⟩ := SS250
                      obtain ⟨hw, hu, r252, rfl, hv⟩ := h
                      refine wb_iload X 1 rfl dL_law_372 ?_
                      obtain ⟨c253, hv⟩ := hv
                      refine wb_icmp_ne X (tgt := 381) dL_law_374 (by decide) (fun c => absurd c253 c) (fun _ => ?_)
                      refine wb_iconst X dL_law_377 kc1 ?_
                      refine wb_goto X (tgt := 382) dL_law_378 (by decide) ?_
                      refine wb_istore X (lv' := [(6, .inl (1 : Int32)), (13, .inl r243), (12, .inl (F_L_some (r8 >>> ((3 : Int32) &&& 31)) (2 : Int32))), (11, .inl (F_L_some r8 (4 : Int32))), (10, .inl (F_L_some r4 (20 : Int32))), (9, .inl r8), (8, .inl r4), (0, .inr (.inr (101, 1))), (1, .inr (.inr (10, 1))), (2, .inr (.inr (210, 1))), (3, .inl x3), (4, .inl x4), (5, .inl x5), (7, .inl x7)]) dL_law_382 (by decide) rfl ?_
                      refine wb_goto X (tgt := 509) dL_law_384 (by decide) ?_
                      refine wb_lv (lv' := [(0, .inr (.inr (101, 1))), (1, .inr (.inr (10, 1))), (2, .inr (.inr (210, 1))), (3, .inl x3), (4, .inl x4), (5, .inl x5), (6, .inl (1 : Int32)), (7, .inl x7)]) [7, 8, 9, 10, 11, 12, 0, 13] rfl ?_
                      exact wb_wid (by omega) (by omega) (hv hw hu)
                · replace hv := hv.2 c204
                  refine wb_iload X 8 rfl dL_law_256 ?_
                  refine wb_bipush X dL_law_258 kb28 ?_
                  replace hv := hv (fun  S254 U255 => hs_Wi S254 → hs_Wi U255 → wb Z (k + 55) (n + 1190) (S254, U255) 282 [(0, .inr (.inr (101, 1))), (1, .inr (.inr (10, 1))), (2, .inr (.inr (210, 1))), (3, .inl x3), (4, .inl x4), (5, .inl x5), (7, .inl x7)] [.inl (1 : Int32)]) (fun  S254 U255 hv hw hu => by
                    refine wb_istore X (lv' := [(6, .inl (1 : Int32)), (0, .inr (.inr (101, 1))), (1, .inr (.inr (10, 1))), (2, .inr (.inr (210, 1))), (3, .inl x3), (4, .inl x4), (5, .inl x5), (7, .inl x7)]) dL_law_282 (by decide) rfl ?_
                    refine wb_iload X 6 rfl dL_law_284 ?_
                    refine wb_aload_n X 2 rfl dL_law_286 rfl ?_
                    refine wb_bipush X dL_law_287 kb15 ?_
                    refine wb_iload X 6 rfl dL_law_289 ?_
                    refine wb_iconst X dL_law_291 kc0 ?_
                    refine wb_iconst X dL_law_292 kc0 ?_
                    refine wb_callW1 X (As := [.inr (.inr (10, 1)), .inl (15 : Int32), .inl x5, .inl (0 : Int32), .inl (0 : Int32)]) (hv hw) rfl b_nr_I kw_507 kw_20 kw_505 kw_506 nd_L_call rfl rfl (Nat.le_of_ble_eq_true rfl) dL_law_293 ⟨⟨Nat.le_of_ble_eq_true rfl, Nat.le_of_ble_eq_true rfl⟩, by omega, by omega⟩ (fun v S257 h => ?_)
                    obtain ⟨hw, r258, rfl, hv⟩ := h
                    refine wb_if_lt X (tgt := 303) dL_law_296 (by decide) (fun c259 => ?_) (fun c259 => ?_)
                    · replace hv := hv.1 c259
                      refine wb_iconst X dL_law_303 kc0 ?_
                      refine wb_iadd X dL_law_304 ?_
                      refine wb_istore X (lv' := [(5, .inl (x5 + (0 : Int32))), (6, .inl (1 : Int32)), (0, .inr (.inr (101, 1))), (1, .inr (.inr (10, 1))), (2, .inr (.inr (210, 1))), (3, .inl x3), (4, .inl x4), (7, .inl x7)]) dL_law_305 (by decide) rfl ?_
                      refine wb_goto X (tgt := 509) dL_law_307 (by decide) ?_
                      refine wb_lv (lv' := [(0, .inr (.inr (101, 1))), (1, .inr (.inr (10, 1))), (2, .inr (.inr (210, 1))), (3, .inl x3), (4, .inl x4), (5, .inl (x5 + (0 : Int32))), (6, .inl (1 : Int32)), (7, .inl x7)]) [2, 3, 4, 5, 6, 0, 1, 7] rfl ?_
                      exact wb_wid (by omega) (by omega) (hv hw hu)
                    · replace hv := hv.2 c259
                      refine wb_iconst X dL_law_299 kc1 ?_
                      refine wb_goto X (tgt := 304) dL_law_300 (by decide) ?_
                      refine wb_iadd X dL_law_304 ?_
                      refine wb_istore X (lv' := [(5, .inl (x5 + (1 : Int32))), (6, .inl (1 : Int32)), (0, .inr (.inr (101, 1))), (1, .inr (.inr (10, 1))), (2, .inr (.inr (210, 1))), (3, .inl x3), (4, .inl x4), (7, .inl x7)]) dL_law_305 (by decide) rfl ?_
                      refine wb_goto X (tgt := 509) dL_law_307 (by decide) ?_
                      refine wb_lv (lv' := [(0, .inr (.inr (101, 1))), (1, .inr (.inr (10, 1))), (2, .inr (.inr (210, 1))), (3, .inl x3), (4, .inl x4), (5, .inl (x5 + (1 : Int32))), (6, .inl (1 : Int32)), (7, .inl x7)]) [2, 3, 4, 5, 6, 0, 1, 7] rfl ?_
                      exact wb_wid (by omega) (by omega) (hv hw hu))
                  refine wb_icmp_eq X (tgt := 277) dL_law_260 (by decide) (fun c260 => ?_) (fun c260 => ?_)
                  · replace hv := hv.1 c260
                    refine wb_iconst X dL_law_277 kc1 ?_
                    refine wb_goto X (tgt := 282) dL_law_278 (by decide) ?_
                    refine wb_lv (lv' := [(0, .inr (.inr (101, 1))), (1, .inr (.inr (10, 1))), (2, .inr (.inr (210, 1))), (3, .inl x3), (4, .inl x4), (5, .inl x5), (7, .inl x7)]) [3, 4, 5, 6, 7, 8, 10] rfl ?_
                    exact wb_wid (by omega) (by omega) (hv hw hu)
                  · replace hv := hv.2 c260
                    refine wb_aload_n X 4 rfl dL_law_263 rfl ?_
                    refine wb_aload_n X 5 rfl dL_law_264 rfl ?_
                    refine wb_iload X 7 rfl dL_law_265 ?_
                    refine wb_iload X 8 rfl dL_law_267 ?_
                    refine wb_iload X 1 rfl dL_law_269 ?_
                    refine wb_callB X (As := [.inr (.inr (10, 1)), .inr (.inr (210, 1)), .inl x4, .inl x5, .inl r8]) (hv hw hu) kw_1102 kw_20 kw_1100 kw_1101 nd_L_rings rfl rfl (Nat.le_of_ble_eq_true rfl) dL_law_271 ⟨⟨Nat.le_of_ble_eq_true rfl, Nat.le_of_ble_eq_true rfl⟩, by omega, by omega⟩ (fun v SS261 h => ?_)
                    obtain ⟨S261, U262⟩ := SS261
                    obtain ⟨hw, hu, r263, rfl, hv⟩ := h
                    obtain ⟨c264, hv⟩ := hv
                    refine wb_if_eq X (tgt := 281) dL_law_274 (by decide) (fun c => absurd c c264) (fun _ => ?_)
                    refine wb_iconst X dL_law_277 kc1 ?_
                    refine wb_goto X (tgt := 282) dL_law_278 (by decide) ?_
                    refine wb_lv (lv' := [(0, .inr (.inr (101, 1))), (1, .inr (.inr (10, 1))), (2, .inr (.inr (210, 1))), (3, .inl x3), (4, .inl x4), (5, .inl x5), (7, .inl x7)]) [3, 4, 5, 6, 7, 8, 10] rfl ?_
                    exact wb_wid (by omega) (by omega) (hv hw hu)
              · replace hv := hv.2 c203
                refine wb_iload X 7 rfl dL_law_205 ?_
                refine wb_bipush X dL_law_207 kb75 ?_
                refine wb_icmp_ge X (tgt := 249) dL_law_209 (by decide) (fun c265 => ?_) (fun c265 => ?_)
                · replace hv := hv.1 c265
                  refine wb_iload X 0 rfl dL_law_249 ?_
                  refine wb_bipush X dL_law_251 kb16 ?_
                  refine wb_icmp_ge X (tgt := 310) dL_law_253 (by decide) (fun c266 => ?_) (fun c266 => ?_)
                  · replace hv := hv.1 c266
                    refine wb_iload X 0 rfl dL_law_310 ?_
                    refine wb_bipush X dL_law_312 kb17 ?_
                    refine wb_icmp_ge X (tgt := 387) dL_law_314 (by decide) (fun c267 => ?_) (fun c267 => ?_)
                    · replace hv := hv.1 c267
                      refine wb_iload X 0 rfl dL_law_387 ?_
                      refine wb_bipush X dL_law_389 kb18 ?_
                      refine wb_icmp_ge X (tgt := 495) dL_law_391 (by decide) (fun c268 => ?_) (fun c268 => ?_)
                      · replace hv := hv.1 c268
                        refine wb_aload_n X 4 rfl dL_law_495 rfl ?_
                        refine wb_aload_n X 5 rfl dL_law_496 rfl ?_
                        refine wb_iload_n X 6 rfl dL_law_497 rfl ?_
                        refine wb_iload X 7 rfl dL_law_498 ?_
                        refine wb_iload X 8 rfl dL_law_500 ?_
                        refine wb_iload X 1 rfl dL_law_502 ?_
                        refine wb_callB X (As := [.inr (.inr (10, 1)), .inr (.inr (210, 1)), .inl x3, .inl x4, .inl x5, .inl r8]) (hv hw hu) kw_1107 kw_20 kw_1105 kw_1106 nd_L_strikes rfl rfl (Nat.le_of_ble_eq_true rfl) dL_law_504 ⟨⟨Nat.le_of_ble_eq_true rfl, Nat.le_of_ble_eq_true rfl⟩, by omega, by omega⟩ (fun v SS269 h => ?_)
                        obtain ⟨S269, U270⟩ := SS269
                        obtain ⟨hw, hu, r271, rfl, hv⟩ := h
                        refine wb_istore X (lv' := [(6, .inl r271), (10, .inl (F_L_some r4 (20 : Int32))), (9, .inl r8), (8, .inl r4), (0, .inr (.inr (101, 1))), (1, .inr (.inr (10, 1))), (2, .inr (.inr (210, 1))), (3, .inl x3), (4, .inl x4), (5, .inl x5), (7, .inl x7)]) dL_law_507 (by decide) rfl ?_
                        refine wb_lv (lv' := [(0, .inr (.inr (101, 1))), (1, .inr (.inr (10, 1))), (2, .inr (.inr (210, 1))), (3, .inl x3), (4, .inl x4), (5, .inl x5), (6, .inl r271), (7, .inl x7)]) [4, 5, 6, 7, 8, 9, 0, 10] rfl ?_
                        exact wb_wid (by omega) (by omega) (hv hw hu)
                      · replace hv := hv.2 c268
                        refine wb_iload X 1 rfl dL_law_394 ?_
                        refine wb_iconst X dL_law_396 kc2 ?_
                        obtain ⟨o272, hv⟩ := hv
                        refine wb_callS1 X (As := [.inl r8, .inl (2 : Int32)]) (f_L_some hw o272) rfl b_nr_pI kw_504 kw_20 kw_502 kw_503 nd_L_some rfl rfl (Nat.le_of_ble_eq_true rfl) dL_law_397 ⟨⟨Nat.le_of_ble_eq_true rfl, Nat.le_of_ble_eq_true rfl⟩, by omega, by omega⟩ (b_pdk1 ?_)
                        refine wb_istore X (lv' := [(11, .inl (F_L_some r8 (2 : Int32))), (10, .inl (F_L_some r4 (20 : Int32))), (9, .inl r8), (8, .inl r4), (0, .inr (.inr (101, 1))), (1, .inr (.inr (10, 1))), (2, .inr (.inr (210, 1))), (3, .inl x3), (4, .inl x4), (5, .inl x5), (6, .inl x6), (7, .inl x7)]) dL_law_400 (by decide) rfl ?_
                        refine wb_aload_n X 5 rfl dL_law_402 rfl ?_
                        refine wb_aload_n X 6 rfl dL_law_403 rfl ?_
                        refine wb_bipush X dL_law_404 kb19 ?_
                        refine wb_iload X 0 rfl dL_law_406 ?_
                        refine wb_iconst X dL_law_408 kc0 ?_
                        refine wb_iconst X dL_law_409 kc0 ?_
                        refine wb_callB X (As := [.inr (.inr (10, 1)), .inr (.inr (210, 1)), .inl (19 : Int32), .inl (F_L_some r8 (2 : Int32)), .inl (0 : Int32), .inl (0 : Int32)]) (hv hw hu) kw_1081 kw_20 kw_1079 kw_1080 nd_L_both rfl rfl (Nat.le_of_ble_eq_true rfl) dL_law_410 ⟨⟨Nat.le_of_ble_eq_true rfl, Nat.le_of_ble_eq_true rfl⟩, by omega, by omega⟩ (fun v SS273 h => ?_)
                        obtain ⟨S273, U274⟩ := SS273
                        obtain ⟨hw, hu, r275, rfl, hv⟩ := h
                        refine wb_istore X (lv' := [(12, .inl r275), (11, .inl (F_L_some r8 (2 : Int32))), (10, .inl (F_L_some r4 (20 : Int32))), (9, .inl r8), (8, .inl r4), (0, .inr (.inr (101, 1))), (1, .inr (.inr (10, 1))), (2, .inr (.inr (210, 1))), (3, .inl x3), (4, .inl x4), (5, .inl x5), (6, .inl x6), (7, .inl x7)]) dL_law_413 (by decide) rfl ?_
                        refine wb_iload X 0 rfl dL_law_415 ?_
                        obtain ⟨c276, hv⟩ := hv
                        refine wb_if_lt X (tgt := 424) dL_law_417 (by decide) (fun c => absurd c c276) (fun _ => ?_)
                        refine wb_iconst X dL_law_420 kc1 ?_
                        refine wb_goto X (tgt := 425) dL_law_421 (by decide) ?_
                        refine wb_istore X (lv' := [(6, .inl (1 : Int32)), (12, .inl r275), (11, .inl (F_L_some r8 (2 : Int32))), (10, .inl (F_L_some r4 (20 : Int32))), (9, .inl r8), (8, .inl r4), (0, .inr (.inr (101, 1))), (1, .inr (.inr (10, 1))), (2, .inr (.inr (210, 1))), (3, .inl x3), (4, .inl x4), (5, .inl x5), (7, .inl x7)]) dL_law_425 (by decide) rfl ?_
                        refine wb_iconst X dL_law_427 kc0 ?_
                        refine wb_istore X (lv' := [(13, .inl (0 : Int32)), (6, .inl (1 : Int32)), (12, .inl r275), (11, .inl (F_L_some r8 (2 : Int32))), (10, .inl (F_L_some r4 (20 : Int32))), (9, .inl r8), (8, .inl r4), (0, .inr (.inr (101, 1))), (1, .inr (.inr (10, 1))), (2, .inr (.inr (210, 1))), (3, .inl x3), (4, .inl x4), (5, .inl x5), (7, .inl x7)]) dL_law_428 (by decide) rfl ?_
                        obtain ⟨I279, ⟨n283, i281⟩, b282⟩ := hv
                        refine wb_lv (lv' := [(0, .inr (.inr (101, 1))), (1, .inr (.inr (10, 1))), (2, .inr (.inr (210, 1))), (3, .inl x3), (4, .inl x4), (5, .inl x5), (6, .inl (1 : Int32)), (7, .inl x7), (11, .inl (F_L_some r8 (2 : Int32))), (13, .inl (0 : Int32))]) [7, 8, 9, 10, 11, 12, 1, 13, 3, 0] rfl ?_
                        suffices L284 : ∀ N280 : Nat, ∀ x277 : Int32, ∀ x278 : Int32, I279 N280 x277 x278 → wb Z (k + 22) (n + 476) (S273, U274) 430 [(0, .inr (.inr (101, 1))), (1, .inr (.inr (10, 1))), (2, .inr (.inr (210, 1))), (3, .inl x3), (4, .inl x4), (5, .inl x5), (6, .inl x277), (7, .inl x7), (11, .inl (F_L_some r8 (2 : Int32))), (13, .inl x278)] [] from L284 _ _ _ i281
                        clear i281
                        intro N280
                        induction N280 using Nat.strongRecOn with
                        | _ N280 h285 =>
                          intro x277 x278 j286
                          have hv := b282 N280 x277 x278 j286
                          refine wb_iload X 9 rfl dL_law_430 ?_
                          refine wb_bipush X dL_law_432 kb6 ?_
                          replace hv := hv (fun  S287 U288 => hs_Wi S287 → hs_Wi U288 → wb Z (k + 22) (n + 476) (S287, U288) 466 [(0, .inr (.inr (101, 1))), (1, .inr (.inr (10, 1))), (2, .inr (.inr (210, 1))), (3, .inl x3), (4, .inl x4), (5, .inl x5), (6, .inl x277), (7, .inl x7), (11, .inl (F_L_some r8 (2 : Int32)))] []) (fun  S287 U288 hv hw hu => by
                            refine wb_iload X 6 rfl dL_law_466 ?_
                            obtain ⟨c290, hv⟩ := hv
                            refine wb_if_eq X (tgt := 489) dL_law_468 (by decide) (fun c => absurd c c290) (fun _ => ?_)
                            refine wb_aload_n X 1 rfl dL_law_471 rfl ?_
                            refine wb_aload_n X 2 rfl dL_law_472 rfl ?_
                            refine wb_bipush X dL_law_473 kb19 ?_
                            refine wb_iload X 8 rfl dL_law_475 ?_
                            refine wb_iconst X dL_law_477 kc0 ?_
                            refine wb_iconst X dL_law_478 kc0 ?_
                            refine wb_callB X (As := [.inr (.inr (10, 1)), .inr (.inr (210, 1)), .inl (19 : Int32), .inl (F_L_some r8 (2 : Int32)), .inl (0 : Int32), .inl (0 : Int32)]) (hv hw hu) kw_1081 kw_20 kw_1079 kw_1080 nd_L_both rfl rfl (Nat.le_of_ble_eq_true rfl) dL_law_479 ⟨⟨Nat.le_of_ble_eq_true rfl, Nat.le_of_ble_eq_true rfl⟩, by omega, by omega⟩ (fun v SS291 h => ?_)
                            obtain ⟨S291, U292⟩ := SS291
                            obtain ⟨hw, hu, r293, rfl, hv⟩ := h
                            obtain ⟨c294, hv⟩ := hv
                            refine wb_if_ne X (tgt := 489) dL_law_482 (by decide) (fun c => absurd c294 c) (fun _ => ?_)
                            refine wb_iconst X dL_law_485 kc1 ?_
                            refine wb_goto X (tgt := 490) dL_law_486 (by decide) ?_
                            refine wb_istore X (lv' := [(6, .inl (1 : Int32)), (0, .inr (.inr (101, 1))), (1, .inr (.inr (10, 1))), (2, .inr (.inr (210, 1))), (3, .inl x3), (4, .inl x4), (5, .inl x5), (7, .inl x7), (11, .inl (F_L_some r8 (2 : Int32)))]) dL_law_490 (by decide) rfl ?_
                            refine wb_goto X (tgt := 509) dL_law_492 (by decide) ?_
                            refine wb_lv (lv' := [(0, .inr (.inr (101, 1))), (1, .inr (.inr (10, 1))), (2, .inr (.inr (210, 1))), (3, .inl x3), (4, .inl x4), (5, .inl x5), (6, .inl (1 : Int32)), (7, .inl x7)]) [1, 2, 3, 4, 5, 6, 0, 7] rfl ?_
                            exact wb_wid (by omega) (by omega) (hv hw hu))
                          refine wb_icmp_ge X (tgt := 466) dL_law_434 (by decide) (fun c295 => ?_) (fun c295 => ?_)
                          · replace hv := hv.1 c295
                            refine wb_lv (lv' := [(0, .inr (.inr (101, 1))), (1, .inr (.inr (10, 1))), (2, .inr (.inr (210, 1))), (3, .inl x3), (4, .inl x4), (5, .inl x5), (6, .inl x277), (7, .inl x7), (11, .inl (F_L_some r8 (2 : Int32)))]) [0, 1, 2, 3, 4, 5, 6, 7, 8] rfl ?_
                            exact wb_wid (by omega) (by omega) (hv hw hu)
                          · replace hv := hv.2 c295
                            refine wb_iload X 6 rfl dL_law_437 ?_
                            refine wb_if_eq X (tgt := 466) dL_law_439 (by decide) (fun c296 => ?_) (fun c296 => ?_)
                            · replace hv := hv.1 c296
                              refine wb_lv (lv' := [(0, .inr (.inr (101, 1))), (1, .inr (.inr (10, 1))), (2, .inr (.inr (210, 1))), (3, .inl x3), (4, .inl x4), (5, .inl x5), (6, .inl x277), (7, .inl x7), (11, .inl (F_L_some r8 (2 : Int32)))]) [0, 1, 2, 3, 4, 5, 6, 7, 8] rfl ?_
                              exact wb_wid (by omega) (by omega) (hv hw hu)
                            · replace hv := hv.2 c296
                              refine wb_aload_n X 1 rfl dL_law_442 rfl ?_
                              refine wb_iload X 9 rfl dL_law_443 ?_
                              refine wb_iload X 8 rfl dL_law_445 ?_
                              obtain ⟨o297, hv⟩ := hv
                              refine wb_callV1 X (As := [.inl x278, .inl (F_L_some r8 (2 : Int32))]) (f_Cq_due hw o297) rfl b_nr_pI hk_10 hc_10 rfl kw_462 kw_21 kw_459 kw_460 kw_461 nd_X10_due rfl rfl (Nat.le_of_ble_eq_true rfl) dL_law_447 hs_1ne (by decide) ⟨⟨Nat.le_of_ble_eq_true rfl, Nat.le_of_ble_eq_true rfl⟩, by omega, by omega⟩ (b_pdk1 ?_)
                              obtain ⟨c298, hv⟩ := hv
                              refine wb_if_ne X (tgt := 457) dL_law_450 (by decide) (fun c => absurd c298 c) (fun _ => ?_)
                              refine wb_iconst X dL_law_453 kc1 ?_
                              refine wb_goto X (tgt := 458) dL_law_454 (by decide) ?_
                              refine wb_istore X (lv' := [(6, .inl (1 : Int32)), (0, .inr (.inr (101, 1))), (1, .inr (.inr (10, 1))), (2, .inr (.inr (210, 1))), (3, .inl x3), (4, .inl x4), (5, .inl x5), (7, .inl x7), (11, .inl (F_L_some r8 (2 : Int32))), (13, .inl x278)]) dL_law_458 (by decide) rfl ?_
                              refine wb_iinc X (v := (x278 + 1)) (lv' := [(13, .inl (x278 + 1)), (6, .inl (1 : Int32)), (0, .inr (.inr (101, 1))), (1, .inr (.inr (10, 1))), (2, .inr (.inr (210, 1))), (3, .inl x3), (4, .inl x4), (5, .inl x5), (7, .inl x7), (11, .inl (F_L_some r8 (2 : Int32)))]) 9 rfl dL_law_460 rfl (by decide) rfl ?_
                              refine wb_goto X (tgt := 430) dL_law_463 (by decide) ?_
                              obtain ⟨q299, p300, hv⟩ := hv
                              refine wb_lv (lv' := [(0, .inr (.inr (101, 1))), (1, .inr (.inr (10, 1))), (2, .inr (.inr (210, 1))), (3, .inl x3), (4, .inl x4), (5, .inl x5), (6, .inl (1 : Int32)), (7, .inl x7), (11, .inl (F_L_some r8 (2 : Int32))), (13, .inl (x278 + 1))]) [2, 3, 4, 5, 6, 7, 1, 8, 9, 0] rfl ?_
                              exact h285 q299 p300 _ _ hv
                    · replace hv := hv.2 c267
                      refine wb_iload X 1 rfl dL_law_317 ?_
                      refine wb_iconst X dL_law_319 kc4 ?_
                      obtain ⟨o301, hv⟩ := hv
                      refine wb_callS1 X (As := [.inl r8, .inl (4 : Int32)]) (f_L_some hw o301) rfl b_nr_pI kw_504 kw_20 kw_502 kw_503 nd_L_some rfl rfl (Nat.le_of_ble_eq_true rfl) dL_law_320 ⟨⟨Nat.le_of_ble_eq_true rfl, Nat.le_of_ble_eq_true rfl⟩, by omega, by omega⟩ (b_pdk1 ?_)
                      refine wb_istore X (lv' := [(11, .inl (F_L_some r8 (4 : Int32))), (10, .inl (F_L_some r4 (20 : Int32))), (9, .inl r8), (8, .inl r4), (0, .inr (.inr (101, 1))), (1, .inr (.inr (10, 1))), (2, .inr (.inr (210, 1))), (3, .inl x3), (4, .inl x4), (5, .inl x5), (6, .inl x6), (7, .inl x7)]) dL_law_323 (by decide) rfl ?_
                      refine wb_iload X 2 rfl dL_law_325 ?_
                      refine wb_iconst X dL_law_327 kc3 ?_
                      refine wb_ishr X dL_law_328 ?_
                      refine wb_iconst X dL_law_329 kc2 ?_
                      obtain ⟨o302, hv⟩ := hv
                      refine wb_callS1 X (As := [.inl (r8 >>> ((3 : Int32) &&& 31)), .inl (2 : Int32)]) (f_L_some hw o302) rfl b_nr_pI kw_504 kw_20 kw_502 kw_503 nd_L_some rfl rfl (Nat.le_of_ble_eq_true rfl) dL_law_330 ⟨⟨Nat.le_of_ble_eq_true rfl, Nat.le_of_ble_eq_true rfl⟩, by omega, by omega⟩ (b_pdk1 ?_)
                      refine wb_istore X (lv' := [(12, .inl (F_L_some (r8 >>> ((3 : Int32) &&& 31)) (2 : Int32))), (11, .inl (F_L_some r8 (4 : Int32))), (10, .inl (F_L_some r4 (20 : Int32))), (9, .inl r8), (8, .inl r4), (0, .inr (.inr (101, 1))), (1, .inr (.inr (10, 1))), (2, .inr (.inr (210, 1))), (3, .inl x3), (4, .inl x4), (5, .inl x5), (6, .inl x6), (7, .inl x7)]) dL_law_333 (by decide) rfl ?_
                      refine wb_aload_n X 6 rfl dL_law_335 rfl ?_
                      refine wb_aload_n X 7 rfl dL_law_336 rfl ?_
                      refine wb_bipush X dL_law_337 kb12 ?_
                      refine wb_iload X 1 rfl dL_law_339 ?_
                      refine wb_iload X 0 rfl dL_law_341 ?_
                      refine wb_iconst X dL_law_343 kc0 ?_
                      refine wb_callB X (As := [.inr (.inr (10, 1)), .inr (.inr (210, 1)), .inl (12 : Int32), .inl (F_L_some r8 (4 : Int32)), .inl (F_L_some (r8 >>> ((3 : Int32) &&& 31)) (2 : Int32)), .inl (0 : Int32)]) (hv hw hu) kw_1081 kw_20 kw_1079 kw_1080 nd_L_both rfl rfl (Nat.le_of_ble_eq_true rfl) dL_law_344 ⟨⟨Nat.le_of_ble_eq_true rfl, Nat.le_of_ble_eq_true rfl⟩, by omega, by omega⟩ (fun v SS303 h => ?_)
                      obtain ⟨S303, U304⟩ := SS303
                      obtain ⟨hw, hu, r305, rfl, hv⟩ := h
                      refine wb_istore X (lv' := [(13, .inl r305), (12, .inl (F_L_some (r8 >>> ((3 : Int32) &&& 31)) (2 : Int32))), (11, .inl (F_L_some r8 (4 : Int32))), (10, .inl (F_L_some r4 (20 : Int32))), (9, .inl r8), (8, .inl r4), (0, .inr (.inr (101, 1))), (1, .inr (.inr (10, 1))), (2, .inr (.inr (210, 1))), (3, .inl x3), (4, .inl x4), (5, .inl x5), (6, .inl x6), (7, .inl x7)]) dL_law_347 (by decide) rfl ?_
                      refine wb_iload X 0 rfl dL_law_349 ?_
                      refine wb_if_eq X (tgt := 360) dL_law_351 (by decide) (fun c306 => ?_) (fun c306 => ?_)
                      · replace hv := hv.1 c306
                        refine wb_aload_n X 7 rfl dL_law_360 rfl ?_
                        refine wb_aload_n X 8 rfl dL_law_361 rfl ?_
                        refine wb_bipush X dL_law_362 kb12 ?_
                        refine wb_iload X 2 rfl dL_law_364 ?_
                        refine wb_iload X 1 rfl dL_law_366 ?_
                        refine wb_iconst X dL_law_368 kc0 ?_
                        refine wb_callB X (As := [.inr (.inr (10, 1)), .inr (.inr (210, 1)), .inl (12 : Int32), .inl (F_L_some r8 (4 : Int32)), .inl (F_L_some (r8 >>> ((3 : Int32) &&& 31)) (2 : Int32)), .inl (0 : Int32)]) (hv hw hu) kw_1081 kw_20 kw_1079 kw_1080 nd_L_both rfl rfl (Nat.le_of_ble_eq_true rfl) dL_law_369 ⟨⟨Nat.le_of_ble_eq_true rfl, Nat.le_of_ble_eq_true rfl⟩, by omega, by omega⟩ (fun v SS307 h => ?_)
                        obtain ⟨S307, U308⟩ := SS307
                        obtain ⟨hw, hu, r309, rfl, hv⟩ := h
                        refine wb_iload X 1 rfl dL_law_372 ?_
                        obtain ⟨c310, hv⟩ := hv
                        refine wb_icmp_ne X (tgt := 381) dL_law_374 (by decide) (fun c => absurd c310 c) (fun _ => ?_)
                        refine wb_iconst X dL_law_377 kc1 ?_
                        refine wb_goto X (tgt := 382) dL_law_378 (by decide) ?_
                        refine wb_istore X (lv' := [(6, .inl (1 : Int32)), (13, .inl r305), (12, .inl (F_L_some (r8 >>> ((3 : Int32) &&& 31)) (2 : Int32))), (11, .inl (F_L_some r8 (4 : Int32))), (10, .inl (F_L_some r4 (20 : Int32))), (9, .inl r8), (8, .inl r4), (0, .inr (.inr (101, 1))), (1, .inr (.inr (10, 1))), (2, .inr (.inr (210, 1))), (3, .inl x3), (4, .inl x4), (5, .inl x5), (7, .inl x7)]) dL_law_382 (by decide) rfl ?_
                        refine wb_goto X (tgt := 509) dL_law_384 (by decide) ?_
                        refine wb_lv (lv' := [(0, .inr (.inr (101, 1))), (1, .inr (.inr (10, 1))), (2, .inr (.inr (210, 1))), (3, .inl x3), (4, .inl x4), (5, .inl x5), (6, .inl (1 : Int32)), (7, .inl x7)]) [7, 8, 9, 10, 11, 12, 0, 13] rfl ?_
                        exact wb_wid (by omega) (by omega) (hv hw hu)
                      · replace hv := hv.2 c306
                        refine wb_iload X 0 rfl dL_law_354 ?_
                        refine wb_iconst X dL_law_356 kc1 ?_
                        obtain ⟨c311, hv⟩ := hv
                        refine wb_icmp_ne X (tgt := 381) dL_law_357 (by decide) (fun c => absurd c311 c) (fun _ => ?_)
                        refine wb_aload_n X 7 rfl dL_law_360 rfl ?_
                        refine wb_aload_n X 8 rfl dL_law_361 rfl ?_
                        refine wb_bipush X dL_law_362 kb12 ?_
                        refine wb_iload X 2 rfl dL_law_364 ?_
                        refine wb_iload X 1 rfl dL_law_366 ?_
                        refine wb_iconst X dL_law_368 kc0 ?_
                        refine wb_callB X (As := [.inr (.inr (10, 1)), .inr (.inr (210, 1)), .inl (12 : Int32), .inl (F_L_some r8 (4 : Int32)), .inl (F_L_some (r8 >>> ((3 : Int32) &&& 31)) (2 : Int32)), .inl (0 : Int32)]) (hv hw hu) kw_1081 kw_20 kw_1079 kw_1080 nd_L_both rfl rfl (Nat.le_of_ble_eq_true rfl) dL_law_369 ⟨⟨Nat.le_of_ble_eq_true rfl, Nat.le_of_ble_eq_true rfl⟩, by omega, by omega⟩ (fun v SS312 h => ?_)
                        obtain ⟨S312, U313⟩ := SS312
                        obtain ⟨hw, hu, r314, rfl, hv⟩ := h
                        refine wb_iload X 1 rfl dL_law_372 ?_
                        obtain ⟨c315, hv⟩ := hv
                        refine wb_icmp_ne X (tgt := 381) dL_law_374 (by decide) (fun c => absurd c315 c) (fun _ => ?_)
                        refine wb_iconst X dL_law_377 kc1 ?_
                        refine wb_goto X (tgt := 382) dL_law_378 (by decide) ?_
                        refine wb_istore X (lv' := [(6, .inl (1 : Int32)), (13, .inl r305), (12, .inl (F_L_some (r8 >>> ((3 : Int32) &&& 31)) (2 : Int32))), (11, .inl (F_L_some r8 (4 : Int32))), (10, .inl (F_L_some r4 (20 : Int32))), (9, .inl r8), (8, .inl r4), (0, .inr (.inr (101, 1))), (1, .inr (.inr (10, 1))), (2, .inr (.inr (210, 1))), (3, .inl x3), (4, .inl x4), (5, .inl x5), (7, .inl x7)]) dL_law_382 (by decide) rfl ?_
                        refine wb_goto X (tgt := 509) dL_law_384 (by decide) ?_
                        refine wb_lv (lv' := [(0, .inr (.inr (101, 1))), (1, .inr (.inr (10, 1))), (2, .inr (.inr (210, 1))), (3, .inl x3), (4, .inl x4), (5, .inl x5), (6, .inl (1 : Int32)), (7, .inl x7)]) [7, 8, 9, 10, 11, 12, 0, 13] rfl ?_
                        exact wb_wid (by omega) (by omega) (hv hw hu)
                  · replace hv := hv.2 c266
                    refine wb_iload X 8 rfl dL_law_256 ?_
                    refine wb_bipush X dL_law_258 kb28 ?_
                    replace hv := hv (fun  S316 U317 => hs_Wi S316 → hs_Wi U317 → wb Z (k + 55) (n + 1190) (S316, U317) 282 [(0, .inr (.inr (101, 1))), (1, .inr (.inr (10, 1))), (2, .inr (.inr (210, 1))), (3, .inl x3), (4, .inl x4), (5, .inl x5), (7, .inl x7)] [.inl (1 : Int32)]) (fun  S316 U317 hv hw hu => by
                      refine wb_istore X (lv' := [(6, .inl (1 : Int32)), (0, .inr (.inr (101, 1))), (1, .inr (.inr (10, 1))), (2, .inr (.inr (210, 1))), (3, .inl x3), (4, .inl x4), (5, .inl x5), (7, .inl x7)]) dL_law_282 (by decide) rfl ?_
                      refine wb_iload X 6 rfl dL_law_284 ?_
                      refine wb_aload_n X 2 rfl dL_law_286 rfl ?_
                      refine wb_bipush X dL_law_287 kb15 ?_
                      refine wb_iload X 6 rfl dL_law_289 ?_
                      refine wb_iconst X dL_law_291 kc0 ?_
                      refine wb_iconst X dL_law_292 kc0 ?_
                      refine wb_callW1 X (As := [.inr (.inr (10, 1)), .inl (15 : Int32), .inl x5, .inl (0 : Int32), .inl (0 : Int32)]) (hv hw) rfl b_nr_I kw_507 kw_20 kw_505 kw_506 nd_L_call rfl rfl (Nat.le_of_ble_eq_true rfl) dL_law_293 ⟨⟨Nat.le_of_ble_eq_true rfl, Nat.le_of_ble_eq_true rfl⟩, by omega, by omega⟩ (fun v S319 h => ?_)
                      obtain ⟨hw, r320, rfl, hv⟩ := h
                      refine wb_if_lt X (tgt := 303) dL_law_296 (by decide) (fun c321 => ?_) (fun c321 => ?_)
                      · replace hv := hv.1 c321
                        refine wb_iconst X dL_law_303 kc0 ?_
                        refine wb_iadd X dL_law_304 ?_
                        refine wb_istore X (lv' := [(5, .inl (x5 + (0 : Int32))), (6, .inl (1 : Int32)), (0, .inr (.inr (101, 1))), (1, .inr (.inr (10, 1))), (2, .inr (.inr (210, 1))), (3, .inl x3), (4, .inl x4), (7, .inl x7)]) dL_law_305 (by decide) rfl ?_
                        refine wb_goto X (tgt := 509) dL_law_307 (by decide) ?_
                        refine wb_lv (lv' := [(0, .inr (.inr (101, 1))), (1, .inr (.inr (10, 1))), (2, .inr (.inr (210, 1))), (3, .inl x3), (4, .inl x4), (5, .inl (x5 + (0 : Int32))), (6, .inl (1 : Int32)), (7, .inl x7)]) [2, 3, 4, 5, 6, 0, 1, 7] rfl ?_
                        exact wb_wid (by omega) (by omega) (hv hw hu)
                      · replace hv := hv.2 c321
                        refine wb_iconst X dL_law_299 kc1 ?_
                        refine wb_goto X (tgt := 304) dL_law_300 (by decide) ?_
                        refine wb_iadd X dL_law_304 ?_
                        refine wb_istore X (lv' := [(5, .inl (x5 + (1 : Int32))), (6, .inl (1 : Int32)), (0, .inr (.inr (101, 1))), (1, .inr (.inr (10, 1))), (2, .inr (.inr (210, 1))), (3, .inl x3), (4, .inl x4), (7, .inl x7)]) dL_law_305 (by decide) rfl ?_
                        refine wb_goto X (tgt := 509) dL_law_307 (by decide) ?_
                        refine wb_lv (lv' := [(0, .inr (.inr (101, 1))), (1, .inr (.inr (10, 1))), (2, .inr (.inr (210, 1))), (3, .inl x3), (4, .inl x4), (5, .inl (x5 + (1 : Int32))), (6, .inl (1 : Int32)), (7, .inl x7)]) [2, 3, 4, 5, 6, 0, 1, 7] rfl ?_
                        exact wb_wid (by omega) (by omega) (hv hw hu))
                    refine wb_icmp_eq X (tgt := 277) dL_law_260 (by decide) (fun c322 => ?_) (fun c322 => ?_)
                    · replace hv := hv.1 c322
                      refine wb_iconst X dL_law_277 kc1 ?_
                      refine wb_goto X (tgt := 282) dL_law_278 (by decide) ?_
                      refine wb_lv (lv' := [(0, .inr (.inr (101, 1))), (1, .inr (.inr (10, 1))), (2, .inr (.inr (210, 1))), (3, .inl x3), (4, .inl x4), (5, .inl x5), (7, .inl x7)]) [3, 4, 5, 6, 7, 8, 10] rfl ?_
                      exact wb_wid (by omega) (by omega) (hv hw hu)
                    · replace hv := hv.2 c322
                      refine wb_aload_n X 4 rfl dL_law_263 rfl ?_
                      refine wb_aload_n X 5 rfl dL_law_264 rfl ?_
                      refine wb_iload X 7 rfl dL_law_265 ?_
                      refine wb_iload X 8 rfl dL_law_267 ?_
                      refine wb_iload X 1 rfl dL_law_269 ?_
                      refine wb_callB X (As := [.inr (.inr (10, 1)), .inr (.inr (210, 1)), .inl x4, .inl x5, .inl r8]) (hv hw hu) kw_1102 kw_20 kw_1100 kw_1101 nd_L_rings rfl rfl (Nat.le_of_ble_eq_true rfl) dL_law_271 ⟨⟨Nat.le_of_ble_eq_true rfl, Nat.le_of_ble_eq_true rfl⟩, by omega, by omega⟩ (fun v SS323 h => ?_)
                      obtain ⟨S323, U324⟩ := SS323
                      obtain ⟨hw, hu, r325, rfl, hv⟩ := h
                      obtain ⟨c326, hv⟩ := hv
                      refine wb_if_eq X (tgt := 281) dL_law_274 (by decide) (fun c => absurd c c326) (fun _ => ?_)
                      refine wb_iconst X dL_law_277 kc1 ?_
                      refine wb_goto X (tgt := 282) dL_law_278 (by decide) ?_
                      refine wb_lv (lv' := [(0, .inr (.inr (101, 1))), (1, .inr (.inr (10, 1))), (2, .inr (.inr (210, 1))), (3, .inl x3), (4, .inl x4), (5, .inl x5), (7, .inl x7)]) [3, 4, 5, 6, 7, 8, 10] rfl ?_
                      exact wb_wid (by omega) (by omega) (hv hw hu)
                · replace hv := hv.2 c265
                  refine wb_aload_n X 4 rfl dL_law_212 rfl ?_
                  refine wb_aload_n X 5 rfl dL_law_213 rfl ?_
                  refine wb_iload X 7 rfl dL_law_214 ?_
                  refine wb_iload X 1 rfl dL_law_216 ?_
                  refine wb_callB X (As := [.inr (.inr (10, 1)), .inr (.inr (210, 1)), .inl x4, .inl r8]) (hv hw hu) kw_1099 kw_20 kw_1097 kw_1098 nd_L_bids rfl rfl (Nat.le_of_ble_eq_true rfl) dL_law_218 ⟨⟨Nat.le_of_ble_eq_true rfl, Nat.le_of_ble_eq_true rfl⟩, by omega, by omega⟩ (fun v SS327 h => ?_)
                  obtain ⟨S327, U328⟩ := SS327
                  obtain ⟨hw, hu, r329, rfl, hv⟩ := h
                  refine wb_istore X (lv' := [(6, .inl r329), (10, .inl (F_L_some r4 (20 : Int32))), (9, .inl r8), (8, .inl r4), (0, .inr (.inr (101, 1))), (1, .inr (.inr (10, 1))), (2, .inr (.inr (210, 1))), (3, .inl x3), (4, .inl x4), (5, .inl x5), (7, .inl x7)]) dL_law_221 (by decide) rfl ?_
                  refine wb_iload X 8 rfl dL_law_223 ?_
                  refine wb_aload_n X 5 rfl dL_law_225 rfl ?_
                  refine wb_bipush X dL_law_226 kb17 ?_
                  refine wb_iload X 8 rfl dL_law_228 ?_
                  refine wb_iconst X dL_law_230 kc0 ?_
                  refine wb_iconst X dL_law_231 kc0 ?_
                  refine wb_callW1 X (As := [.inr (.inr (10, 1)), .inl (17 : Int32), .inl x4, .inl (0 : Int32), .inl (0 : Int32)]) (hv hw) rfl b_nr_I kw_507 kw_20 kw_505 kw_506 nd_L_call rfl rfl (Nat.le_of_ble_eq_true rfl) dL_law_232 ⟨⟨Nat.le_of_ble_eq_true rfl, Nat.le_of_ble_eq_true rfl⟩, by omega, by omega⟩ (fun v S330 h => ?_)
                  obtain ⟨hw, r331, rfl, hv⟩ := h
                  refine wb_if_ne X (tgt := 242) dL_law_235 (by decide) (fun c332 => ?_) (fun c332 => ?_)
                  · replace hv := hv.1 c332
                    refine wb_iconst X dL_law_242 kc0 ?_
                    refine wb_iadd X dL_law_243 ?_
                    refine wb_istore X (lv' := [(4, .inl (x4 + (0 : Int32))), (6, .inl r329), (10, .inl (F_L_some r4 (20 : Int32))), (9, .inl r8), (8, .inl r4), (0, .inr (.inr (101, 1))), (1, .inr (.inr (10, 1))), (2, .inr (.inr (210, 1))), (3, .inl x3), (5, .inl x5), (7, .inl x7)]) dL_law_244 (by decide) rfl ?_
                    refine wb_goto X (tgt := 509) dL_law_246 (by decide) ?_
                    refine wb_lv (lv' := [(0, .inr (.inr (101, 1))), (1, .inr (.inr (10, 1))), (2, .inr (.inr (210, 1))), (3, .inl x3), (4, .inl (x4 + (0 : Int32))), (5, .inl x5), (6, .inl r329), (7, .inl x7)]) [5, 6, 7, 8, 0, 9, 1, 10] rfl ?_
                    exact wb_wid (by omega) (by omega) (hv hw hu)
                  · replace hv := hv.2 c332
                    refine wb_iconst X dL_law_238 kc1 ?_
                    refine wb_goto X (tgt := 243) dL_law_239 (by decide) ?_
                    refine wb_iadd X dL_law_243 ?_
                    refine wb_istore X (lv' := [(4, .inl (x4 + (1 : Int32))), (6, .inl r329), (10, .inl (F_L_some r4 (20 : Int32))), (9, .inl r8), (8, .inl r4), (0, .inr (.inr (101, 1))), (1, .inr (.inr (10, 1))), (2, .inr (.inr (210, 1))), (3, .inl x3), (5, .inl x5), (7, .inl x7)]) dL_law_244 (by decide) rfl ?_
                    refine wb_goto X (tgt := 509) dL_law_246 (by decide) ?_
                    refine wb_lv (lv' := [(0, .inr (.inr (101, 1))), (1, .inr (.inr (10, 1))), (2, .inr (.inr (210, 1))), (3, .inl x3), (4, .inl (x4 + (1 : Int32))), (5, .inl x5), (6, .inl r329), (7, .inl x7)]) [5, 6, 7, 8, 0, 9, 1, 10] rfl ?_
                    exact wb_wid (by omega) (by omega) (hv hw hu)
            · replace hv := hv.2 c202
              refine wb_aload_n X 4 rfl dL_law_140 rfl ?_
              refine wb_aload_n X 5 rfl dL_law_141 rfl ?_
              refine wb_iload_n X 6 rfl dL_law_142 rfl ?_
              refine wb_iload X 2 rfl dL_law_143 ?_
              refine wb_iconst X dL_law_145 kc3 ?_
              refine wb_ishr X dL_law_146 ?_
              refine wb_iload X 1 rfl dL_law_147 ?_
              refine wb_callB X (As := [.inr (.inr (10, 1)), .inr (.inr (210, 1)), .inl x3, .inl (r4 >>> ((3 : Int32) &&& 31)), .inl r8]) (hv hw hu) kw_1088 kw_20 kw_1086 kw_1087 nd_L_edits rfl rfl (Nat.le_of_ble_eq_true rfl) dL_law_149 ⟨⟨Nat.le_of_ble_eq_true rfl, Nat.le_of_ble_eq_true rfl⟩, by omega, by omega⟩ (fun v SS333 h => ?_)
              obtain ⟨S333, U334⟩ := SS333
              obtain ⟨hw, hu, r335, rfl, hv⟩ := h
              refine wb_istore X (lv' := [(6, .inl r335), (10, .inl (F_L_some r4 (20 : Int32))), (9, .inl r8), (8, .inl r4), (0, .inr (.inr (101, 1))), (1, .inr (.inr (10, 1))), (2, .inr (.inr (210, 1))), (3, .inl x3), (4, .inl x4), (5, .inl x5), (7, .inl x7)]) dL_law_152 (by decide) rfl ?_
              refine wb_iconst X dL_law_154 kc0 ?_
              refine wb_istore X (lv' := [(11, .inl (0 : Int32)), (6, .inl r335), (10, .inl (F_L_some r4 (20 : Int32))), (9, .inl r8), (8, .inl r4), (0, .inr (.inr (101, 1))), (1, .inr (.inr (10, 1))), (2, .inr (.inr (210, 1))), (3, .inl x3), (4, .inl x4), (5, .inl x5), (7, .inl x7)]) dL_law_155 (by decide) rfl ?_
              refine wb_iconst X dL_law_157 kc0 ?_
              refine wb_istore X (lv' := [(12, .inl (0 : Int32)), (11, .inl (0 : Int32)), (6, .inl r335), (10, .inl (F_L_some r4 (20 : Int32))), (9, .inl r8), (8, .inl r4), (0, .inr (.inr (101, 1))), (1, .inr (.inr (10, 1))), (2, .inr (.inr (210, 1))), (3, .inl x3), (4, .inl x4), (5, .inl x5), (7, .inl x7)]) dL_law_158 (by decide) rfl ?_
              obtain ⟨I338, ⟨n342, i340⟩, b341⟩ := hv
              refine wb_lv (lv' := [(0, .inr (.inr (101, 1))), (1, .inr (.inr (10, 1))), (2, .inr (.inr (210, 1))), (4, .inl x4), (5, .inl x5), (6, .inl r335), (7, .inl x7), (11, .inl (0 : Int32)), (12, .inl (0 : Int32))]) [6, 7, 8, 10, 11, 2, 12, 1, 0] rfl ?_
              suffices L343 : ∀ N339 : Nat, ∀ x336 : Int32, ∀ x337 : Int32, I338 N339 x336 x337 → wb Z (k + 209) (n + 4522) (S333, U334) 160 [(0, .inr (.inr (101, 1))), (1, .inr (.inr (10, 1))), (2, .inr (.inr (210, 1))), (4, .inl x4), (5, .inl x5), (6, .inl r335), (7, .inl x7), (11, .inl x336), (12, .inl x337)] [] from L343 _ _ _ i340
              clear i340
              intro N339
              induction N339 using Nat.strongRecOn with
              | _ N339 h344 =>
                intro x336 x337 j345
                have hv := b341 N339 x336 x337 j345
                refine wb_iload X 8 rfl dL_law_160 ?_
                refine wb_bipush X dL_law_162 kb24 ?_
                refine wb_icmp_ge X (tgt := 192) dL_law_164 (by decide) (fun c346 => ?_) (fun c346 => ?_)
                · replace hv := hv.1 c346
                  refine wb_iload X 7 rfl dL_law_192 ?_
                  refine wb_istore_n X (lv' := [(3, .inl x336), (0, .inr (.inr (101, 1))), (1, .inr (.inr (10, 1))), (2, .inr (.inr (210, 1))), (4, .inl x4), (5, .inl x5), (6, .inl r335), (7, .inl x7), (11, .inl x336), (12, .inl x337)]) dL_law_194 rfl (by decide) rfl ?_
                  refine wb_goto X (tgt := 509) dL_law_195 (by decide) ?_
                  refine wb_lv (lv' := [(0, .inr (.inr (101, 1))), (1, .inr (.inr (10, 1))), (2, .inr (.inr (210, 1))), (3, .inl x336), (4, .inl x4), (5, .inl x5), (6, .inl r335), (7, .inl x7)]) [1, 2, 3, 0, 4, 5, 6, 7] rfl ?_
                  exact wb_wid (by omega) (by omega) (hv hw hu)
                · replace hv := hv.2 c346
                  refine wb_iload X 7 rfl dL_law_167 ?_
                  refine wb_aload_n X 1 rfl dL_law_169 rfl ?_
                  refine wb_iload X 8 rfl dL_law_170 ?_
                  refine wb_bipush X dL_law_172 kb6 ?_
                  refine wb_idiv X dL_law_174 (by decide) ?_
                  refine wb_iload X 8 rfl dL_law_175 ?_
                  refine wb_bipush X dL_law_177 kb6 ?_
                  refine wb_irem X dL_law_179 (by decide) ?_
                  obtain ⟨o347, hv⟩ := hv
                  refine wb_callV1 X (As := [.inl (x337 / (6 : Int32)), .inl (x337 - x337 / (6 : Int32) * (6 : Int32))]) (f_Cq_edits hw o347) rfl b_nr_pI hk_10 hc_10 rfl kw_349 kw_21 kw_346 kw_347 kw_348 nd_X10_edits rfl rfl (Nat.le_of_ble_eq_true rfl) dL_law_180 hs_1ne (by decide) ⟨⟨Nat.le_of_ble_eq_true rfl, Nat.le_of_ble_eq_true rfl⟩, by omega, by omega⟩ (b_pdk1 ?_)
                  refine wb_iadd X dL_law_183 ?_
                  refine wb_istore X (lv' := [(11, .inl (x336 + (F_Cq_edits (x337 / (6 : Int32)) (x337 - x337 / (6 : Int32) * (6 : Int32)) S333))), (0, .inr (.inr (101, 1))), (1, .inr (.inr (10, 1))), (2, .inr (.inr (210, 1))), (4, .inl x4), (5, .inl x5), (6, .inl r335), (7, .inl x7), (12, .inl x337)]) dL_law_184 (by decide) rfl ?_
                  refine wb_iinc X (v := (x337 + 1)) (lv' := [(12, .inl (x337 + 1)), (11, .inl (x336 + (F_Cq_edits (x337 / (6 : Int32)) (x337 - x337 / (6 : Int32) * (6 : Int32)) S333))), (0, .inr (.inr (101, 1))), (1, .inr (.inr (10, 1))), (2, .inr (.inr (210, 1))), (4, .inl x4), (5, .inl x5), (6, .inl r335), (7, .inl x7)]) 8 rfl dL_law_186 rfl (by decide) rfl ?_
                  refine wb_goto X (tgt := 160) dL_law_189 (by decide) ?_
                  obtain ⟨q348, p349, hv⟩ := hv
                  refine wb_lv (lv' := [(0, .inr (.inr (101, 1))), (1, .inr (.inr (10, 1))), (2, .inr (.inr (210, 1))), (4, .inl x4), (5, .inl x5), (6, .inl r335), (7, .inl x7), (11, .inl (x336 + (F_Cq_edits (x337 / (6 : Int32)) (x337 - x337 / (6 : Int32) * (6 : Int32)) S333))), (12, .inl (x337 + 1))]) [2, 3, 4, 5, 6, 7, 8, 1, 0] rfl ?_
                  exact h344 q348 p349 _ _ hv
      · replace hv := hv.2 c34
        refine wb_aload_n X 4 rfl dL_law_109 rfl ?_
        refine wb_aload_n X 5 rfl dL_law_110 rfl ?_
        refine wb_iload X 1 rfl dL_law_111 ?_
        refine wb_callB X (As := [.inr (.inr (10, 1)), .inr (.inr (210, 1)), .inl r8]) (hv hw hu) kw_1085 kw_20 kw_1083 kw_1084 nd_L_gives rfl rfl (Nat.le_of_ble_eq_true rfl) dL_law_113 ⟨⟨Nat.le_of_ble_eq_true rfl, Nat.le_of_ble_eq_true rfl⟩, by omega, by omega⟩ (fun v SS350 h => ?_)
        obtain ⟨S350, U351⟩ := SS350
        obtain ⟨hw, hu, r352, rfl, hv⟩ := h
        refine wb_istore X (lv' := [(6, .inl r352), (10, .inl (F_L_some r4 (20 : Int32))), (9, .inl r8), (8, .inl r4), (0, .inr (.inr (101, 1))), (1, .inr (.inr (10, 1))), (2, .inr (.inr (210, 1))), (3, .inl x3), (4, .inl x4), (5, .inl x5), (7, .inl x7)]) dL_law_116 (by decide) rfl ?_
        refine wb_goto X (tgt := 509) dL_law_118 (by decide) ?_
        refine wb_lv (lv' := [(0, .inr (.inr (101, 1))), (1, .inr (.inr (10, 1))), (2, .inr (.inr (210, 1))), (3, .inl x3), (4, .inl x4), (5, .inl x5), (6, .inl r352), (7, .inl x7)]) [4, 5, 6, 7, 8, 9, 0, 10] rfl ?_
        exact wb_wid (by omega) (by omega) (hv hw hu)
def vc_LC (x4 x5 x6 : Int32) (S U : hs_S) : Prop := (¬ x6 = 0 ∧ (hs_Wi S → m_L_all x4 x5 S (fun r3 S2 => (hs_Wi U → m_L_all x4 x5 U (fun r5 S4 => ((lg_cmp r3 r5) = 0 ∧ True))))))
set_option maxRecDepth 100000 in
set_option maxHeartbeats 4000000 in
theorem ok_LC {Z : b_Z} {k n : Nat} {x4 x5 x6 : Int32} {S U : hs_S} (X : b_C Z RL cL_law 14 room_1) (hk : k + 0 ≤ room_1.cells) (hn : n + 0 ≤ room_1.slots) (hw : hs_Wi S) (hu : hs_Wi U) (hE : ∀ k n S lv, k ≤ room_1.cells → n ≤ room_1.slots → wb Z k n S 604 lv [.inl 1]) (hv : vc_LC x4 x5 x6 S U) : wb Z k n (S, U) 574 [(1, .inr (.inr (10, 1))), (2, .inr (.inr (210, 1))), (4, .inl x4), (5, .inl x5), (6, .inl x6)] [] := by
  unfold vc_LC at hv
  refine wb_iload X 4 rfl dL_law_574 ?_
  obtain ⟨c1, hv⟩ := hv
  refine wb_if_eq X (tgt := 603) dL_law_576 (by decide) (fun c => absurd c c1) (fun _ => ?_)
  refine wb_aload_n X 0 rfl dL_law_579 rfl ?_
  refine wb_iload X 2 rfl dL_law_580 ?_
  refine wb_iload X 3 rfl dL_law_582 ?_
  refine wb_callS1 X (As := [.inr (.inr (10, 1)), .inl x4, .inl x5]) (hv hw) rfl b_nr_L kw_1068 kw_20 kw_1066 kw_1067 nd_L_all rfl rfl (Nat.le_of_ble_eq_true rfl) dL_law_584 ⟨⟨Nat.le_of_ble_eq_true rfl, Nat.le_of_ble_eq_true rfl⟩, by omega, by omega⟩ (fun v S2 h => ?_)
  obtain ⟨hw, r3, rfl, hv⟩ := h
  refine wb_aload_n X 1 rfl dL_law_587 rfl ?_
  refine wb_iload X 2 rfl dL_law_588 ?_
  refine wb_iload X 3 rfl dL_law_590 ?_
  refine wb_callS2 X (As := [.inr (.inr (10, 1)), .inl x4, .inl x5]) (hv hu) b_nr_L kw_1068 kw_20 kw_1066 kw_1067 nd_L_all rfl rfl (Nat.le_of_ble_eq_true rfl) dL_law_592 ⟨⟨Nat.le_of_ble_eq_true rfl, Nat.le_of_ble_eq_true rfl⟩, by omega, by omega⟩ (fun v S4 h => ?_)
  obtain ⟨hu, r5, rfl, hv⟩ := h
  refine wb_lcmp X dL_law_595 ?_
  obtain ⟨c6, hv⟩ := hv
  refine wb_if_ne X (tgt := 603) dL_law_596 (by decide) (fun c => absurd c6 c) (fun _ => ?_)
  refine wb_iconst X dL_law_599 kc1 ?_
  refine wb_goto X (tgt := 604) dL_law_600 (by decide) ?_
  exact hE _ _ _ _ (by omega) (by omega)
