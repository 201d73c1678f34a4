/-- the row of what the bids have got -/
def hs_got (S : hs_S) (q : Nat → Int32) : hs_S := (fun t i p => if t = 74 ∧ i = 1 then q p else S.1 t i p, S.2)
theorem hs_got_w {S : hs_S} {q : Nat → Int32} {b : Nat} {x : Int32} : hs_wI (hs_got S q) 74 1 b x = hs_got S (fun k => if k = b then x else q k) := by
  have : (hs_wI (hs_got S q) 74 1 b x).1 = (hs_got S (fun k => if k = b then x else q k)).1 := by
    funext t i p
    show (if t = 74 ∧ i = 1 ∧ p = b then x else if t = 74 ∧ i = 1 then q p else S.1 t i p) = if t = 74 ∧ i = 1 then (if p = b then x else q p) else S.1 t i p
    by_cases h : t = 74 ∧ i = 1
    · rw [if_pos h, if_pos h]
      by_cases w : p = b
      · rw [if_pos ⟨h.1, h.2, w⟩, if_pos w]
      · rw [if_neg fun z => w z.2.2, if_neg w]
    · rw [if_neg h, if_neg h, if_neg fun z => h ⟨z.1, z.2.1⟩]
  exact Prod.ext this rfl
theorem hs_got_0 {S : hs_S} : hs_got S (S.1 74 1) = S := by
  have : (hs_got S (S.1 74 1)).1 = S.1 := by
    funext t i p
    show (if t = 74 ∧ i = 1 then S.1 74 1 p else S.1 t i p) = S.1 t i p
    by_cases h : t = 74 ∧ i = 1
    · rw [if_pos h, h.1, h.2]
    · rw [if_neg h]
  exact Prod.ext this rfl
/-- a bid of one side takes part -/
def shT (S : hs_S) (r u : Int32) (b : Nat) : Bool := decide (S.1 67 1 b = u ∧ ¬ F_takesPart (nI b) r S = 0)
abbrev shV0 (S : hs_S) (r : Int32) : Int32 := S.1 82 1 r.toNatClampNeg
abbrev shY (S : hs_S) (r : Int32) : Prop := ¬ S.1 80 1 r.toNatClampNeg = 0
/-- what it is served by -/
def shK (S : hs_S) (r u all : Int32) (b : Nat) : Int := if S.1 80 1 r.toNatClampNeg = 0 then (if u = 0 then -(S.1 69 1 b).toInt else (S.1 69 1 b).toInt) else (shV0 S r * S.1 68 1 b - shV0 S r * S.1 68 1 b / all * all).toInt
/-- what it gets in any case -/
def shB (S : hs_S) (r all : Int32) (b : Nat) : Int := if S.1 80 1 r.toNatClampNeg = 0 then 0 else (shV0 S r * S.1 68 1 b / all).toInt
/-- what it gets at most of the rest -/
def shW (S : hs_S) (r : Int32) (b : Nat) : Int := if S.1 80 1 r.toNatClampNeg = 0 then (S.1 68 1 b).toInt else 1
def shV (S : hs_S) (r u all : Int32) (n : Nat) : Int := (shV0 S r).toInt - sI (fun b => if shT S r u b then shB S r all b else 0) n
def shP (S : hs_S) (r u all : Int32) (c b : Nat) : Bool := decide (shK S r u all b < shK S r u all c ∨ (shK S r u all c = shK S r u all b ∧ c < b))
/-- what is left when it is its turn -/
def shL (S : hs_S) (r u all : Int32) (n b : Nat) : Int := shV S r u all n - sI (fun c => if shT S r u c && shP S r u all c b then shW S r c else 0) n
def shG (S : hs_S) (r u all : Int32) (n b : Nat) : Int := shB S r all b + max 0 (min (shW S r b) (shL S r u all n b))
def P_shares (r u all : Int32) (S : hs_S) : Prop := (0 ≤ r.toInt ∧ r.toInt < 30) ∧ ∃ g : Nat, g ≤ 80 ∧ S.1 11 1 24 = nI g ∧ (∀ b, b < g → 1 ≤ (S.1 68 1 b).toInt ∧ (S.1 68 1 b).toInt ≤ 100) ∧ all.toInt = sI (fun b => if shT S r u b then (S.1 68 1 b).toInt else 0) g ∧ 0 ≤ (shV0 S r).toInt ∧ (shV0 S r).toInt ≤ all.toInt ∧ (¬ shY S r → ∀ b, b < g → shT S r u b = true → S.1 74 1 b = 0) ∧ (u = 0 ∨ u = 1)
def R_shares (r u all : Int32) (S T : hs_S) : Prop := ∃ q : Nat → Int32, T = hs_got S q ∧ ∀ g : Nat, g ≤ 80 → S.1 11 1 24 = nI g → (∀ b, b < g → shT S r u b = true → (q b).toInt = shG S r u all g b) ∧ (∀ b, ¬ (b < g ∧ shT S r u b = true) → q b = S.1 74 1 b) ∧ sI (fun b => if shT S r u b then (q b).toInt else 0) g = (shV0 S r).toInt
def m_M_shares (a1 : Int32) (a2 : Int32) (a3 : Int32) (S : hs_S) (Q : hs_S → Prop) : Prop := hs_M 2 yX11_shares (.code yX11_shares cX11_shares 13 none) [.inr (.inr (11, 1)), .inl a1, .inl a2, .inl a3] S 0 0 (hs_qV Q) hs_nX
def vc_M_shares (a1 : Int32) (a2 : Int32) (a3 : Int32) (S : hs_S) (Q : hs_S → Prop) : Prop := ((0 ≤ a1.toInt ∧ a1.toInt < 30) ∧ (∀ K4 : Int32 → hs_S → Prop, (∀ (x2 : Int32) (S3 : hs_S), (∃ I8 : Nat → Int32 → Int64 → Int64 → hs_S → Prop, (∃ n13, I8 n13 x2 (0 : Int64) (0 : Int64) S3) ∧ (∀ N9 : Nat, ∀ x5 : Int32, ∀ x6 : Int64, ∀ x7 : Int64, ∀ S10 : hs_S, I8 N9 x5 x6 x7 S10 → ((x5 ≤ 0 → (Q S10)) ∧ (¬ x5 ≤ 0 → (∃ I20 : Nat → Int32 → Int32 → Prop, (∃ n24, I20 n24 (-1 : Int32) (0 : Int32)) ∧ (∀ N21 : Nat, ∀ x18 : Int32, ∀ x19 : Int32, I20 N21 x18 x19 → (((S10.1 11 1 24) ≤ x19 → (∀ x29 : Int64, x29 = (if (40 : Int32) ≤ x18 then (0 : Int64) else ((1 : Int64) <<< (x18.toInt64 &&& 63))) → (∀ x30 : Int64, x30 = (if (40 : Int32) ≤ x18 then ((1 : Int64) <<< ((x18 - (40 : Int32)).toInt64 &&& 63)) else (0 : Int64)) → ((((S10.1 80 1 a1.toNatClampNeg) = 0 → ((0 ≤ x18.toInt ∧ x18.toInt < 80) ∧ ((x5 ≤ (S10.1 68 1 x18.toNatClampNeg) → True) ∧ (¬ x5 ≤ (S10.1 68 1 x18.toNatClampNeg) → True)))) ∧ (¬ (S10.1 80 1 a1.toNatClampNeg) = 0 → True)) ∧ (∀ x31 : Int32, x31 = (if (S10.1 80 1 a1.toNatClampNeg) = 0 then (if x5 ≤ (S10.1 68 1 x18.toNatClampNeg) then x5 else (S10.1 68 1 x18.toNatClampNeg)) else (1 : Int32)) → ((0 ≤ x18.toInt ∧ x18.toInt < 80) ∧ (∀ S33 : hs_S, S33 = (hs_wI S10 74 1 x18.toNatClampNeg ((S10.1 74 1 x18.toNatClampNeg) + x31)) → (∃ q34, q34 < N9 ∧ I8 q34 (x5 - x31) (x6 ||| x29) (x7 ||| x30) S33)))))))) ∧ (¬ (S10.1 11 1 24) ≤ x19 → (∀ x48 : Int64, x48 = (if (40 : Int32) ≤ x19 then x7 else x6) → (∀ x49 : Int32, x49 = (if (lg_cmp ((x48 >>> ((x19 - x19 / (40 : Int32) * (40 : Int32)).toInt64 &&& 63)) &&& (1 : Int64)) (1 : Int64)) = 0 then (1 : Int32) else (0 : Int32)) → ((0 ≤ x19.toInt ∧ x19.toInt < 80) ∧ (((¬ (S10.1 67 1 x19.toNatClampNeg) = a2 → True) ∧ ((S10.1 67 1 x19.toNatClampNeg) = a2 → ((P_takesPart x19 a1 S10) ∧ (((F_takesPart x19 a1 S10) = 0 → True) ∧ (¬ (F_takesPart x19 a1 S10) = 0 → ((¬ x49 = 0 → True) ∧ (x49 = 0 → True))))))) ∧ (∀ x51 : Int32, x51 = (if (S10.1 67 1 x19.toNatClampNeg) = a2 then (if (F_takesPart x19 a1 S10) = 0 then (0 : Int32) else (if x49 = 0 then (1 : Int32) else (0 : Int32))) else (0 : Int32)) → ((x51 = 0 → (∃ q53, q53 < N21 ∧ I20 q53 x18 (x19 + 1))) ∧ (¬ x51 = 0 → ((x18 = (-1 : Int32) → (∃ q56, q56 < N21 ∧ I20 q56 x19 (x19 + 1))) ∧ (¬ x18 = (-1 : Int32) → ((P_isAhead x19 x18 a1 a3 S10) ∧ (((F_isAhead x19 x18 a1 a3 S10) = 0 → (∃ q60, q60 < N21 ∧ I20 q60 x18 (x19 + 1))) ∧ (¬ (F_isAhead x19 x18 a1 a3 S10) = 0 → (∃ q62, q62 < N21 ∧ I20 q62 x19 (x19 + 1)))))))))))))))))))))) → K4 x2 S3) → (((S.1 80 1 a1.toNatClampNeg) = 0 → (K4 (S.1 82 1 a1.toNatClampNeg) S)) ∧ (¬ (S.1 80 1 a1.toNatClampNeg) = 0 → (∃ I80 : Nat → Int32 → Int32 → hs_S → Prop, (∃ n85, I80 n85 (S.1 82 1 a1.toNatClampNeg) (0 : Int32) S) ∧ (∀ N81 : Nat, ∀ x78 : Int32, ∀ x79 : Int32, ∀ S82 : hs_S, I80 N81 x78 x79 S82 → (((S82.1 11 1 24) ≤ x79 → (K4 x78 S82)) ∧ (¬ (S82.1 11 1 24) ≤ x79 → ((0 ≤ x79.toInt ∧ x79.toInt < 80) ∧ ((¬ (S82.1 67 1 x79.toNatClampNeg) = a2 → (∃ q92, q92 < N81 ∧ I80 q92 x78 (x79 + 1) S82)) ∧ ((S82.1 67 1 x79.toNatClampNeg) = a2 → ((P_takesPart x79 a1 S82) ∧ (((F_takesPart x79 a1 S82) = 0 → (∃ q96, q96 < N81 ∧ I80 q96 x78 (x79 + 1) S82)) ∧ (¬ (F_takesPart x79 a1 S82) = 0 → ((¬ a3 = 0) ∧ (∀ S99 : hs_S, S99 = (hs_wI S82 74 1 x79.toNatClampNeg (((S82.1 82 1 a1.toNatClampNeg) * (S82.1 68 1 x79.toNatClampNeg)) / a3)) → (∃ q100, q100 < N81 ∧ I80 q100 (x78 - (S99.1 74 1 x79.toNatClampNeg)) (x79 + 1) S99)))))))))))))))))
set_option maxRecDepth 100000 in
set_option maxHeartbeats 4000000 in
theorem ok_M_shares {a1 : Int32} {a2 : Int32} {a3 : Int32} {S : hs_S} {Q : hs_S → Prop} (hw : hs_Wi S) (hv : vc_M_shares a1 a2 a3 S Q) : m_M_shares a1 a2 a3 S Q := by
  unfold vc_M_shares at hv
  refine hs_body (own := RX11) rfl rfl (Nat.le_of_ble_eq_true rfl) (fun Z X E N J0 => ?_)
  show wa Z 0 0 S 0 [(0, .inr (.inr (11, 1))), (1, .inl a1), (2, .inl a2), (3, .inl a3)] []
  refine wa_aload_n X 0 rfl dX11_shares_0 rfl ?_
  refine wa_getfw X hw (j := 42) (r := 1) hk_11 hc_11 i_11 (by decide) kw_1226 rfl rfl (by decide) rfl dX11_shares_1 hs_1ne ?_
  refine wa_iload_n X 1 rfl dX11_shares_4 rfl ?_
  obtain ⟨o1, hv⟩ := hv
  refine wa_iald X hk_82 dX11_shares_5 hs_1ne o1 ?_
  refine wa_istore X (lv' := [(4, .inl (S.1 82 1 a1.toNatClampNeg)), (0, .inr (.inr (11, 1))), (1, .inl a1), (2, .inl a2), (3, .inl a3)]) dX11_shares_6 (by decide) rfl ?_
  refine wa_aload_n X 1 rfl dX11_shares_8 rfl ?_
  refine wa_getfw X hw (j := 40) (r := 1) hk_11 hc_11 i_11 (by decide) kw_1224 rfl rfl (by decide) rfl dX11_shares_9 hs_1ne ?_
  refine wa_iload_n X 2 rfl dX11_shares_12 rfl ?_
  refine wa_bald X hk_80 dX11_shares_13 hs_1ne o1 ?_
  replace hv := hv (fun x2 S3 => hs_Wi S3 → wa Z 0 0 S3 91 [(0, .inr (.inr (11, 1))), (1, .inl a1), (2, .inl a2), (3, .inl a3), (4, .inl x2)] []) (fun x2 S3 hv hw => by
    refine wa_lconst X dX11_shares_91 kl0 ?_
    refine wa_lstore X (lv' := [(5, .inr (.inl (0 : Int64))), (0, .inr (.inr (11, 1))), (1, .inl a1), (2, .inl a2), (3, .inl a3), (4, .inl x2)]) dX11_shares_92 (by decide) rfl ?_
    refine wa_lconst X dX11_shares_94 kl0 ?_
    refine wa_lstore X (lv' := [(7, .inr (.inl (0 : Int64))), (5, .inr (.inl (0 : Int64))), (0, .inr (.inr (11, 1))), (1, .inl a1), (2, .inl a2), (3, .inl a3), (4, .inl x2)]) dX11_shares_95 (by decide) rfl ?_
    obtain ⟨I8, ⟨n13, i11⟩, b12⟩ := hv
    refine wa_lv (lv' := [(0, .inr (.inr (11, 1))), (1, .inl a1), (2, .inl a2), (3, .inl a3), (4, .inl x2), (5, .inr (.inl (0 : Int64))), (7, .inr (.inl (0 : Int64)))]) [2, 3, 4, 5, 6, 1, 0] rfl ?_
    suffices L14 : ∀ N9 : Nat, ∀ x5 : Int32, ∀ x6 : Int64, ∀ x7 : Int64, ∀ S10 : hs_S, hs_Wi S10 → I8 N9 x5 x6 x7 S10 → wa Z 0 0 S10 97 [(0, .inr (.inr (11, 1))), (1, .inl a1), (2, .inl a2), (3, .inl a3), (4, .inl x5), (5, .inr (.inl x6)), (7, .inr (.inl x7))] [] from L14 _ _ _ _ _ hw i11
    clear hw
    clear i11
    intro N9
    induction N9 using Nat.strongRecOn with
    | _ N9 h15 =>
      intro x5 x6 x7 S10 hw j16
      have hv := b12 N9 x5 x6 x7 S10 j16
      refine wa_iload X 4 rfl dX11_shares_97 ?_
      refine wa_if_le X (tgt := 327) dX11_shares_99 (by decide) (fun c17 => ?_) (fun c17 => ?_)
      · replace hv := hv.1 c17
        exact wa_return X E dX11_shares_327 (Nat.le_of_ble_eq_true rfl) (Nat.le_of_ble_eq_true rfl) ⟨hw, rfl, hv⟩
      · replace hv := hv.2 c17
        refine wa_iconst X dX11_shares_102 kcm1 ?_
        refine wa_istore X (lv' := [(9, .inl (-1 : Int32)), (0, .inr (.inr (11, 1))), (1, .inl a1), (2, .inl a2), (3, .inl a3), (4, .inl x5), (5, .inr (.inl x6)), (7, .inr (.inl x7))]) dX11_shares_103 (by decide) rfl ?_
        refine wa_iconst X dX11_shares_105 kc0 ?_
        refine wa_istore X (lv' := [(10, .inl (0 : Int32)), (9, .inl (-1 : Int32)), (0, .inr (.inr (11, 1))), (1, .inl a1), (2, .inl a2), (3, .inl a3), (4, .inl x5), (5, .inr (.inl x6)), (7, .inr (.inl x7))]) dX11_shares_106 (by decide) rfl ?_
        obtain ⟨I20, ⟨n24, i22⟩, b23⟩ := hv
        refine wa_lv (lv' := [(0, .inr (.inr (11, 1))), (1, .inl a1), (2, .inl a2), (3, .inl a3), (4, .inl x5), (5, .inr (.inl x6)), (7, .inr (.inl x7)), (9, .inl (-1 : Int32)), (10, .inl (0 : Int32))]) [2, 3, 4, 5, 6, 7, 8, 1, 0] rfl ?_
        suffices L25 : ∀ N21 : Nat, ∀ x18 : Int32, ∀ x19 : Int32, I20 N21 x18 x19 → wa Z 0 0 S10 108 [(0, .inr (.inr (11, 1))), (1, .inl a1), (2, .inl a2), (3, .inl a3), (4, .inl x5), (5, .inr (.inl x6)), (7, .inr (.inl x7)), (9, .inl x18), (10, .inl x19)] [] from L25 _ _ _ i22
        clear i22
        intro N21
        induction N21 using Nat.strongRecOn with
        | _ N21 h26 =>
          intro x18 x19 j27
          have hv := b23 N21 x18 x19 j27
          refine wa_iload X 8 rfl dX11_shares_108 ?_
          refine wa_aload_n X 0 rfl dX11_shares_110 rfl ?_
          refine wa_getI X (j := 24) hk_11 hc_11 i_11 (by decide) kw_1208 rfl dX11_shares_111 hs_1ne ?_
          refine wa_icmp_ge X (tgt := 223) dX11_shares_114 (by decide) (fun c28 => ?_) (fun c28 => ?_)
          · replace hv := hv.1 c28
            refine wa_lload X 5 rfl dX11_shares_223 ?_
            refine wa_iload X 7 rfl dX11_shares_225 ?_
            refine wa_bipush X dX11_shares_227 kb40 ?_
            have k45 : ∀ (x29 : Int64), x29 = (if (40 : Int32) ≤ x18 then (0 : Int64) else ((1 : Int64) <<< (x18.toInt64 &&& 63))) → wa Z 0 0 S10 240 [(0, .inr (.inr (11, 1))), (1, .inl a1), (2, .inl a2), (3, .inl a3), (4, .inl x5), (7, .inr (.inl x7)), (9, .inl x18)] [.inr (.inl x29), .inr (.inl x6)] := by
              intro x29 hE
              replace hv := hv _ hE
              refine wa_lor X dX11_shares_240 ?_
              refine wa_lstore X (lv' := [(5, .inr (.inl (x6 ||| x29))), (0, .inr (.inr (11, 1))), (1, .inl a1), (2, .inl a2), (3, .inl a3), (4, .inl x5), (7, .inr (.inl x7)), (9, .inl x18)]) dX11_shares_241 (by decide) rfl ?_
              refine wa_lload X 6 rfl dX11_shares_243 ?_
              refine wa_iload X 7 rfl dX11_shares_245 ?_
              refine wa_bipush X dX11_shares_247 kb40 ?_
              have k42 : ∀ (x30 : Int64), x30 = (if (40 : Int32) ≤ x18 then ((1 : Int64) <<< ((x18 - (40 : Int32)).toInt64 &&& 63)) else (0 : Int64)) → wa Z 0 0 S10 263 [(0, .inr (.inr (11, 1))), (1, .inl a1), (2, .inl a2), (3, .inl a3), (4, .inl x5), (5, .inr (.inl (x6 ||| x29))), (9, .inl x18)] [.inr (.inl x30), .inr (.inl x7)] := by
                intro x30 hE
                replace hv := hv _ hE
                refine wa_lor X dX11_shares_263 ?_
                refine wa_lstore X (lv' := [(7, .inr (.inl (x7 ||| x30))), (0, .inr (.inr (11, 1))), (1, .inl a1), (2, .inl a2), (3, .inl a3), (4, .inl x5), (5, .inr (.inl (x6 ||| x29))), (9, .inl x18)]) dX11_shares_264 (by decide) rfl ?_
                refine wa_aload_n X 1 rfl dX11_shares_266 rfl ?_
                refine wa_getfw X hw (j := 40) (r := 1) hk_11 hc_11 i_11 (by decide) kw_1224 rfl rfl (by decide) rfl dX11_shares_267 hs_1ne ?_
                refine wa_iload_n X 2 rfl dX11_shares_270 rfl ?_
                refine wa_bald X hk_80 dX11_shares_271 hs_1ne o1 ?_
                obtain ⟨o37, hv⟩ := hv
                have k36 : ∀ (x31 : Int32), x31 = (if (S10.1 80 1 a1.toNatClampNeg) = 0 then (if x5 ≤ (S10.1 68 1 x18.toNatClampNeg) then x5 else (S10.1 68 1 x18.toNatClampNeg)) else (1 : Int32)) → wa Z 0 0 S10 303 [(0, .inr (.inr (11, 1))), (1, .inl a1), (2, .inl a2), (3, .inl a3), (4, .inl x5), (5, .inr (.inl (x6 ||| x29))), (7, .inr (.inl (x7 ||| x30))), (9, .inl x18)] [.inl x31] := by
                  intro x31 hE
                  replace hv := hv _ hE
                  refine wa_istore X (lv' := [(10, .inl x31), (0, .inr (.inr (11, 1))), (1, .inl a1), (2, .inl a2), (3, .inl a3), (4, .inl x5), (5, .inr (.inl (x6 ||| x29))), (7, .inr (.inl (x7 ||| x30))), (9, .inl x18)]) dX11_shares_303 (by decide) rfl ?_
                  refine wa_aload_n X 1 rfl dX11_shares_305 rfl ?_
                  refine wa_getfw X hw (j := 34) (r := 1) hk_11 hc_11 i_11 (by decide) kw_1218 rfl rfl (by decide) rfl dX11_shares_306 hs_1ne ?_
                  refine wa_iload X 8 rfl dX11_shares_309 ?_
                  refine wa_dup2 X dX11_shares_311 rfl rfl ?_
                  obtain ⟨o32, hv⟩ := hv
                  refine wa_iald X hk_74 dX11_shares_312 hs_1ne o32 ?_
                  refine wa_iload X 0 rfl dX11_shares_313 ?_
                  refine wa_iadd X dX11_shares_315 ?_
                  refine wa_iast X hk_74 dX11_shares_316 hs_1ne o32 (hs_eqS fun S33 hS33 => ?_)
                  replace hv := hv S33 hS33
                  replace hw : hs_Wi S33 := hS33 ▸ hs_Wi_I hw
                  refine wa_iload X 5 rfl dX11_shares_317 ?_
                  refine wa_iload X 0 rfl dX11_shares_319 ?_
                  refine wa_isub X dX11_shares_321 ?_
                  refine wa_istore X (lv' := [(4, .inl (x5 - x31)), (10, .inl x31), (0, .inr (.inr (11, 1))), (1, .inl a1), (2, .inl a2), (3, .inl a3), (5, .inr (.inl (x6 ||| x29))), (7, .inr (.inl (x7 ||| x30))), (9, .inl x18)]) dX11_shares_322 (by decide) rfl ?_
                  refine wa_goto X (tgt := 97) dX11_shares_324 (by decide) ?_
                  obtain ⟨q34, p35, hv⟩ := hv
                  refine wa_lv (lv' := [(0, .inr (.inr (11, 1))), (1, .inl a1), (2, .inl a2), (3, .inl a3), (4, .inl (x5 - x31)), (5, .inr (.inl (x6 ||| x29))), (7, .inr (.inl (x7 ||| x30)))]) [2, 3, 4, 5, 0, 6, 7] rfl ?_
                  exact h15 q34 p35 _ _ _ _ hw hv
                replace hv := o37
                refine wa_if_eq X (tgt := 279) dX11_shares_272 (by decide) (fun c39 => ?_) (fun c39 => ?_)
                · replace hv := hv.1 c39
                  refine wa_aload_n X 1 rfl dX11_shares_279 rfl ?_
                  refine wa_getfw X hw (j := 28) (r := 1) hk_11 hc_11 i_11 (by decide) kw_1212 rfl rfl (by decide) rfl dX11_shares_280 hs_1ne ?_
                  refine wa_iload X 7 rfl dX11_shares_283 ?_
                  obtain ⟨o40, hv⟩ := hv
                  refine wa_iald X hk_68 dX11_shares_285 hs_1ne o40 ?_
                  refine wa_iload X 5 rfl dX11_shares_286 ?_
                  refine wa_icmp_ge X (tgt := 301) dX11_shares_288 (by decide) (fun c41 => ?_) (fun c41 => ?_)
                  · replace hv := hv.1 c41
                    refine wa_iload X 5 rfl dX11_shares_301 ?_
                    refine wa_lv (lv' := [(0, .inr (.inr (11, 1))), (1, .inl a1), (2, .inl a2), (3, .inl a3), (4, .inl x5), (5, .inr (.inl (x6 ||| x29))), (7, .inr (.inl (x7 ||| x30))), (9, .inl x18)]) [1, 2, 3, 4, 5, 6, 0, 7] rfl ?_
                    exact wa_wid (Nat.le_of_ble_eq_true rfl) (Nat.le_of_ble_eq_true rfl) (k36 _  (by rw [if_pos c39, if_pos c41]))
                  · replace hv := hv.2 c41
                    refine wa_aload_n X 1 rfl dX11_shares_291 rfl ?_
                    refine wa_getfw X hw (j := 28) (r := 1) hk_11 hc_11 i_11 (by decide) kw_1212 rfl rfl (by decide) rfl dX11_shares_292 hs_1ne ?_
                    refine wa_iload X 7 rfl dX11_shares_295 ?_
                    refine wa_iald X hk_68 dX11_shares_297 hs_1ne o40 ?_
                    refine wa_goto X (tgt := 303) dX11_shares_298 (by decide) ?_
                    refine wa_lv (lv' := [(0, .inr (.inr (11, 1))), (1, .inl a1), (2, .inl a2), (3, .inl a3), (4, .inl x5), (5, .inr (.inl (x6 ||| x29))), (7, .inr (.inl (x7 ||| x30))), (9, .inl x18)]) [1, 2, 3, 4, 5, 6, 0, 7] rfl ?_
                    exact wa_wid (Nat.le_of_ble_eq_true rfl) (Nat.le_of_ble_eq_true rfl) (k36 _  (by rw [if_pos c39, if_neg c41]))
                · replace hv := hv.2 c39
                  refine wa_iconst X dX11_shares_275 kc1 ?_
                  refine wa_goto X (tgt := 303) dX11_shares_276 (by decide) ?_
                  refine wa_lv (lv' := [(0, .inr (.inr (11, 1))), (1, .inl a1), (2, .inl a2), (3, .inl a3), (4, .inl x5), (5, .inr (.inl (x6 ||| x29))), (7, .inr (.inl (x7 ||| x30))), (9, .inl x18)]) [1, 2, 3, 4, 5, 6, 0, 7] rfl ?_
                  exact wa_wid (Nat.le_of_ble_eq_true rfl) (Nat.le_of_ble_eq_true rfl) (k36 _  (by rw [if_neg c39]))
              clear hv
              refine wa_icmp_ge X (tgt := 256) dX11_shares_249 (by decide) (fun c44 => ?_) (fun c44 => ?_)
              · refine wa_lconst X dX11_shares_256 kl1 ?_
                refine wa_iload X 7 rfl dX11_shares_257 ?_
                refine wa_bipush X dX11_shares_259 kb40 ?_
                refine wa_isub X dX11_shares_261 ?_
                refine wa_lshl X dX11_shares_262 ?_
                refine wa_lv (lv' := [(0, .inr (.inr (11, 1))), (1, .inl a1), (2, .inl a2), (3, .inl a3), (4, .inl x5), (5, .inr (.inl (x6 ||| x29))), (9, .inl x18)]) [1, 2, 3, 4, 5, 0, 7] rfl ?_
                exact wa_wid (Nat.le_of_ble_eq_true rfl) (Nat.le_of_ble_eq_true rfl) (k42 _  (by rw [if_pos c44]))
              · refine wa_lconst X dX11_shares_252 kl0 ?_
                refine wa_goto X (tgt := 263) dX11_shares_253 (by decide) ?_
                refine wa_lv (lv' := [(0, .inr (.inr (11, 1))), (1, .inl a1), (2, .inl a2), (3, .inl a3), (4, .inl x5), (5, .inr (.inl (x6 ||| x29))), (9, .inl x18)]) [1, 2, 3, 4, 5, 0, 7] rfl ?_
                exact wa_wid (Nat.le_of_ble_eq_true rfl) (Nat.le_of_ble_eq_true rfl) (k42 _  (by rw [if_neg c44]))
            clear hv
            refine wa_icmp_ge X (tgt := 239) dX11_shares_229 (by decide) (fun c47 => ?_) (fun c47 => ?_)
            · refine wa_lconst X dX11_shares_239 kl0 ?_
              refine wa_lv (lv' := [(0, .inr (.inr (11, 1))), (1, .inl a1), (2, .inl a2), (3, .inl a3), (4, .inl x5), (7, .inr (.inl x7)), (9, .inl x18)]) [0, 1, 2, 3, 4, 6, 7] rfl ?_
              exact wa_wid (Nat.le_of_ble_eq_true rfl) (Nat.le_of_ble_eq_true rfl) (k45 _  (by rw [if_pos c47]))
            · refine wa_lconst X dX11_shares_232 kl1 ?_
              refine wa_iload X 7 rfl dX11_shares_233 ?_
              refine wa_lshl X dX11_shares_235 ?_
              refine wa_goto X (tgt := 240) dX11_shares_236 (by decide) ?_
              refine wa_lv (lv' := [(0, .inr (.inr (11, 1))), (1, .inl a1), (2, .inl a2), (3, .inl a3), (4, .inl x5), (7, .inr (.inl x7)), (9, .inl x18)]) [0, 1, 2, 3, 4, 6, 7] rfl ?_
              exact wa_wid (Nat.le_of_ble_eq_true rfl) (Nat.le_of_ble_eq_true rfl) (k45 _  (by rw [if_neg c47]))
          · replace hv := hv.2 c28
            refine wa_iload X 8 rfl dX11_shares_117 ?_
            refine wa_bipush X dX11_shares_119 kb40 ?_
            have k74 : ∀ (x48 : Int64), x48 = (if (40 : Int32) ≤ x19 then x7 else x6) → wa Z 0 0 S10 131 [(0, .inr (.inr (11, 1))), (1, .inl a1), (2, .inl a2), (3, .inl a3), (4, .inl x5), (5, .inr (.inl x6)), (7, .inr (.inl x7)), (9, .inl x18), (10, .inl x19)] [.inr (.inl x48)] := by
              intro x48 hE
              replace hv := hv _ hE
              refine wa_iload X 8 rfl dX11_shares_131 ?_
              refine wa_bipush X dX11_shares_133 kb40 ?_
              refine wa_irem X dX11_shares_135 (by decide) ?_
              refine wa_lshr X dX11_shares_136 ?_
              refine wa_lconst X dX11_shares_137 kl1 ?_
              refine wa_land X dX11_shares_138 ?_
              refine wa_lconst X dX11_shares_139 kl1 ?_
              refine wa_lcmp X dX11_shares_140 ?_
              have k71 : ∀ (x49 : Int32), x49 = (if (lg_cmp ((x48 >>> ((x19 - x19 / (40 : Int32) * (40 : Int32)).toInt64 &&& 63)) &&& (1 : Int64)) (1 : Int64)) = 0 then (1 : Int32) else (0 : Int32)) → wa Z 0 0 S10 149 [(0, .inr (.inr (11, 1))), (1, .inl a1), (2, .inl a2), (3, .inl a3), (4, .inl x5), (5, .inr (.inl x6)), (7, .inr (.inl x7)), (9, .inl x18), (10, .inl x19)] [.inl x49] := by
                intro x49 hE
                replace hv := hv _ hE
                refine wa_istore X (lv' := [(11, .inl x49), (0, .inr (.inr (11, 1))), (1, .inl a1), (2, .inl a2), (3, .inl a3), (4, .inl x5), (5, .inr (.inl x6)), (7, .inr (.inl x7)), (9, .inl x18), (10, .inl x19)]) dX11_shares_149 (by decide) rfl ?_
                refine wa_aload_n X 1 rfl dX11_shares_151 rfl ?_
                refine wa_getfw X hw (j := 27) (r := 1) hk_11 hc_11 i_11 (by decide) kw_1211 rfl rfl (by decide) rfl dX11_shares_152 hs_1ne ?_
                refine wa_iload X 9 rfl dX11_shares_155 ?_
                obtain ⟨o50, hv⟩ := hv
                refine wa_bald X hk_67 dX11_shares_157 hs_1ne o50 ?_
                refine wa_iload_n X 3 rfl dX11_shares_158 rfl ?_
                obtain ⟨o65, hv⟩ := hv
                have k64 : ∀ (x51 : Int32), x51 = (if (S10.1 67 1 x19.toNatClampNeg) = a2 then (if (F_takesPart x19 a1 S10) = 0 then (0 : Int32) else (if x49 = 0 then (1 : Int32) else (0 : Int32))) else (0 : Int32)) → wa Z 0 0 S10 182 [(0, .inr (.inr (11, 1))), (1, .inl a1), (2, .inl a2), (3, .inl a3), (4, .inl x5), (5, .inr (.inl x6)), (7, .inr (.inl x7)), (9, .inl x18), (10, .inl x19)] [.inl x51] := by
                  intro x51 hE
                  replace hv := hv _ hE
                  refine wa_istore X (lv' := [(12, .inl x51), (0, .inr (.inr (11, 1))), (1, .inl a1), (2, .inl a2), (3, .inl a3), (4, .inl x5), (5, .inr (.inl x6)), (7, .inr (.inl x7)), (9, .inl x18), (10, .inl x19)]) dX11_shares_182 (by decide) rfl ?_
                  refine wa_iload X 0 rfl dX11_shares_184 ?_
                  refine wa_if_eq X (tgt := 213) dX11_shares_186 (by decide) (fun c52 => ?_) (fun c52 => ?_)
                  · replace hv := hv.1 c52
                    refine wa_iload X 8 rfl dX11_shares_213 ?_
                    refine wa_istore X (lv' := [(9, .inl x18), (12, .inl x51), (0, .inr (.inr (11, 1))), (1, .inl a1), (2, .inl a2), (3, .inl a3), (4, .inl x5), (5, .inr (.inl x6)), (7, .inr (.inl x7)), (10, .inl x19)]) dX11_shares_215 (by decide) rfl ?_
                    refine wa_iinc X (v := (x19 + 1)) (lv' := [(10, .inl (x19 + 1)), (9, .inl x18), (12, .inl x51), (0, .inr (.inr (11, 1))), (1, .inl a1), (2, .inl a2), (3, .inl a3), (4, .inl x5), (5, .inr (.inl x6)), (7, .inr (.inl x7))]) 9 rfl dX11_shares_217 rfl (by decide) rfl ?_
                    refine wa_goto X (tgt := 108) dX11_shares_220 (by decide) ?_
                    obtain ⟨q53, p54, hv⟩ := hv
                    refine wa_lv (lv' := [(0, .inr (.inr (11, 1))), (1, .inl a1), (2, .inl a2), (3, .inl a3), (4, .inl x5), (5, .inr (.inl x6)), (7, .inr (.inl x7)), (9, .inl x18), (10, .inl (x19 + 1))]) [3, 4, 5, 6, 7, 8, 9, 1, 0] rfl ?_
                    exact h26 q53 p54 _ _ hv
                  · replace hv := hv.2 c52
                    refine wa_iload X 8 rfl dX11_shares_189 ?_
                    refine wa_iconst X dX11_shares_191 kcm1 ?_
                    refine wa_icmp_eq X (tgt := 208) dX11_shares_192 (by decide) (fun c55 => ?_) (fun c55 => ?_)
                    · replace hv := hv.1 c55
                      refine wa_iload X 9 rfl dX11_shares_208 ?_
                      refine wa_goto X (tgt := 215) dX11_shares_210 (by decide) ?_
                      refine wa_istore X (lv' := [(9, .inl x19), (12, .inl x51), (0, .inr (.inr (11, 1))), (1, .inl a1), (2, .inl a2), (3, .inl a3), (4, .inl x5), (5, .inr (.inl x6)), (7, .inr (.inl x7)), (10, .inl x19)]) dX11_shares_215 (by decide) rfl ?_
                      refine wa_iinc X (v := (x19 + 1)) (lv' := [(10, .inl (x19 + 1)), (9, .inl x19), (12, .inl x51), (0, .inr (.inr (11, 1))), (1, .inl a1), (2, .inl a2), (3, .inl a3), (4, .inl x5), (5, .inr (.inl x6)), (7, .inr (.inl x7))]) 9 rfl dX11_shares_217 rfl (by decide) rfl ?_
                      refine wa_goto X (tgt := 108) dX11_shares_220 (by decide) ?_
                      obtain ⟨q56, p57, hv⟩ := hv
                      refine wa_lv (lv' := [(0, .inr (.inr (11, 1))), (1, .inl a1), (2, .inl a2), (3, .inl a3), (4, .inl x5), (5, .inr (.inl x6)), (7, .inr (.inl x7)), (9, .inl x19), (10, .inl (x19 + 1))]) [3, 4, 5, 6, 7, 8, 9, 1, 0] rfl ?_
                      exact h26 q56 p57 _ _ hv
                    · replace hv := hv.2 c55
                      refine wa_aload_n X 1 rfl dX11_shares_195 rfl ?_
                      refine wa_iload X 9 rfl dX11_shares_196 ?_
                      refine wa_iload X 8 rfl dX11_shares_198 ?_
                      refine wa_iload_n X 2 rfl dX11_shares_200 rfl ?_
                      refine wa_iload_n X 4 rfl dX11_shares_201 rfl ?_
                      obtain ⟨o58, hv⟩ := hv
                      refine wa_callV X (As := [.inl x19, .inl x18, .inl a1, .inl a3]) (f_M_isAhead hw o58) hk_11 hc_11 rfl kw_1578 kw_66 kw_1575 kw_1577 kw_50 nd_X11_isAhead rfl rfl (Nat.le_of_ble_eq_true rfl) dX11_shares_202 hs_1ne ⟨⟨Nat.le_of_ble_eq_true rfl, Nat.le_of_ble_eq_true rfl⟩, Nat.le_of_ble_eq_true rfl, Nat.le_of_ble_eq_true rfl⟩ (hs_pdk0 ?_) (fun _ _ h => h.elim)
                      refine wa_if_eq X (tgt := 213) dX11_shares_205 (by decide) (fun c59 => ?_) (fun c59 => ?_)
                      · replace hv := hv.1 c59
                        refine wa_iload X 8 rfl dX11_shares_213 ?_
                        refine wa_istore X (lv' := [(9, .inl x18), (12, .inl x51), (0, .inr (.inr (11, 1))), (1, .inl a1), (2, .inl a2), (3, .inl a3), (4, .inl x5), (5, .inr (.inl x6)), (7, .inr (.inl x7)), (10, .inl x19)]) dX11_shares_215 (by decide) rfl ?_
                        refine wa_iinc X (v := (x19 + 1)) (lv' := [(10, .inl (x19 + 1)), (9, .inl x18), (12, .inl x51), (0, .inr (.inr (11, 1))), (1, .inl a1), (2, .inl a2), (3, .inl a3), (4, .inl x5), (5, .inr (.inl x6)), (7, .inr (.inl x7))]) 9 rfl dX11_shares_217 rfl (by decide) rfl ?_
                        refine wa_goto X (tgt := 108) dX11_shares_220 (by decide) ?_
                        obtain ⟨q60, p61, hv⟩ := hv
                        refine wa_lv (lv' := [(0, .inr (.inr (11, 1))), (1, .inl a1), (2, .inl a2), (3, .inl a3), (4, .inl x5), (5, .inr (.inl x6)), (7, .inr (.inl x7)), (9, .inl x18), (10, .inl (x19 + 1))]) [3, 4, 5, 6, 7, 8, 9, 1, 0] rfl ?_
                        exact h26 q60 p61 _ _ hv
                      · replace hv := hv.2 c59
                        refine wa_iload X 9 rfl dX11_shares_208 ?_
                        refine wa_goto X (tgt := 215) dX11_shares_210 (by decide) ?_
                        refine wa_istore X (lv' := [(9, .inl x19), (12, .inl x51), (0, .inr (.inr (11, 1))), (1, .inl a1), (2, .inl a2), (3, .inl a3), (4, .inl x5), (5, .inr (.inl x6)), (7, .inr (.inl x7)), (10, .inl x19)]) dX11_shares_215 (by decide) rfl ?_
                        refine wa_iinc X (v := (x19 + 1)) (lv' := [(10, .inl (x19 + 1)), (9, .inl x19), (12, .inl x51), (0, .inr (.inr (11, 1))), (1, .inl a1), (2, .inl a2), (3, .inl a3), (4, .inl x5), (5, .inr (.inl x6)), (7, .inr (.inl x7))]) 9 rfl dX11_shares_217 rfl (by decide) rfl ?_
                        refine wa_goto X (tgt := 108) dX11_shares_220 (by decide) ?_
                        obtain ⟨q62, p63, hv⟩ := hv
                        refine wa_lv (lv' := [(0, .inr (.inr (11, 1))), (1, .inl a1), (2, .inl a2), (3, .inl a3), (4, .inl x5), (5, .inr (.inl x6)), (7, .inr (.inl x7)), (9, .inl x19), (10, .inl (x19 + 1))]) [3, 4, 5, 6, 7, 8, 9, 1, 0] rfl ?_
                        exact h26 q62 p63 _ _ hv
                replace hv := o65
                refine wa_icmp_ne X (tgt := 181) dX11_shares_159 (by decide) (fun c67 => ?_) (fun c67 => ?_)
                · replace hv := hv.1 c67
                  refine wa_iconst X dX11_shares_181 kc0 ?_
                  refine wa_lv (lv' := [(0, .inr (.inr (11, 1))), (1, .inl a1), (2, .inl a2), (3, .inl a3), (4, .inl x5), (5, .inr (.inl x6)), (7, .inr (.inl x7)), (9, .inl x18), (10, .inl x19)]) [1, 2, 3, 4, 5, 6, 7, 8, 9] rfl ?_
                  exact wa_wid (Nat.le_of_ble_eq_true rfl) (Nat.le_of_ble_eq_true rfl) (k64 _  (by rw [if_neg c67]))
                · replace hv := hv.2 c67
                  refine wa_aload_n X 1 rfl dX11_shares_162 rfl ?_
                  refine wa_iload X 9 rfl dX11_shares_163 ?_
                  refine wa_iload_n X 2 rfl dX11_shares_165 rfl ?_
                  obtain ⟨o68, hv⟩ := hv
                  refine wa_callV X (As := [.inl x19, .inl a1]) (f_M_takesPart hw o68) hk_11 hc_11 rfl kw_1570 kw_66 kw_1567 kw_1569 kw_48 nd_X11_takesPart rfl rfl (Nat.le_of_ble_eq_true rfl) dX11_shares_166 hs_1ne ⟨⟨Nat.le_of_ble_eq_true rfl, Nat.le_of_ble_eq_true rfl⟩, Nat.le_of_ble_eq_true rfl, Nat.le_of_ble_eq_true rfl⟩ (hs_pdk0 ?_) (fun _ _ h => h.elim)
                  refine wa_if_eq X (tgt := 181) dX11_shares_169 (by decide) (fun c69 => ?_) (fun c69 => ?_)
                  · replace hv := hv.1 c69
                    refine wa_iconst X dX11_shares_181 kc0 ?_
                    refine wa_lv (lv' := [(0, .inr (.inr (11, 1))), (1, .inl a1), (2, .inl a2), (3, .inl a3), (4, .inl x5), (5, .inr (.inl x6)), (7, .inr (.inl x7)), (9, .inl x18), (10, .inl x19)]) [1, 2, 3, 4, 5, 6, 7, 8, 9] rfl ?_
                    exact wa_wid (Nat.le_of_ble_eq_true rfl) (Nat.le_of_ble_eq_true rfl) (k64 _  (by rw [if_pos c67, if_pos c69]))
                  · replace hv := hv.2 c69
                    refine wa_iload X 0 rfl dX11_shares_172 ?_
                    refine wa_if_ne X (tgt := 181) dX11_shares_174 (by decide) (fun c70 => ?_) (fun c70 => ?_)
                    · replace hv := hv.1 c70
                      refine wa_iconst X dX11_shares_181 kc0 ?_
                      refine wa_lv (lv' := [(0, .inr (.inr (11, 1))), (1, .inl a1), (2, .inl a2), (3, .inl a3), (4, .inl x5), (5, .inr (.inl x6)), (7, .inr (.inl x7)), (9, .inl x18), (10, .inl x19)]) [1, 2, 3, 4, 5, 6, 7, 8, 9] rfl ?_
                      exact wa_wid (Nat.le_of_ble_eq_true rfl) (Nat.le_of_ble_eq_true rfl) (k64 _  (by rw [if_pos c67, if_neg c69, if_neg c70]))
                    · replace hv := hv.2 c70
                      refine wa_iconst X dX11_shares_177 kc1 ?_
                      refine wa_goto X (tgt := 182) dX11_shares_178 (by decide) ?_
                      refine wa_lv (lv' := [(0, .inr (.inr (11, 1))), (1, .inl a1), (2, .inl a2), (3, .inl a3), (4, .inl x5), (5, .inr (.inl x6)), (7, .inr (.inl x7)), (9, .inl x18), (10, .inl x19)]) [1, 2, 3, 4, 5, 6, 7, 8, 9] rfl ?_
                      exact wa_wid (Nat.le_of_ble_eq_true rfl) (Nat.le_of_ble_eq_true rfl) (k64 _  (by rw [if_pos c67, if_neg c69, if_pos c70]))
              clear hv
              refine wa_if_ne X (tgt := 148) dX11_shares_141 (by decide) (fun c73 => ?_) (fun c73 => ?_)
              · refine wa_iconst X dX11_shares_148 kc0 ?_
                refine wa_lv (lv' := [(0, .inr (.inr (11, 1))), (1, .inl a1), (2, .inl a2), (3, .inl a3), (4, .inl x5), (5, .inr (.inl x6)), (7, .inr (.inl x7)), (9, .inl x18), (10, .inl x19)]) [0, 1, 2, 3, 4, 5, 6, 7, 8] rfl ?_
                exact wa_wid (Nat.le_of_ble_eq_true rfl) (Nat.le_of_ble_eq_true rfl) (k71 _  (by rw [if_neg c73]))
              · refine wa_iconst X dX11_shares_144 kc1 ?_
                refine wa_goto X (tgt := 149) dX11_shares_145 (by decide) ?_
                refine wa_lv (lv' := [(0, .inr (.inr (11, 1))), (1, .inl a1), (2, .inl a2), (3, .inl a3), (4, .inl x5), (5, .inr (.inl x6)), (7, .inr (.inl x7)), (9, .inl x18), (10, .inl x19)]) [0, 1, 2, 3, 4, 5, 6, 7, 8] rfl ?_
                exact wa_wid (Nat.le_of_ble_eq_true rfl) (Nat.le_of_ble_eq_true rfl) (k71 _  (by rw [if_pos c73]))
            clear hv
            refine wa_icmp_ge X (tgt := 129) dX11_shares_121 (by decide) (fun c76 => ?_) (fun c76 => ?_)
            · refine wa_lload X 6 rfl dX11_shares_129 ?_
              refine wa_lv (lv' := [(0, .inr (.inr (11, 1))), (1, .inl a1), (2, .inl a2), (3, .inl a3), (4, .inl x5), (5, .inr (.inl x6)), (7, .inr (.inl x7)), (9, .inl x18), (10, .inl x19)]) [0, 1, 2, 3, 4, 5, 6, 7, 8] rfl ?_
              exact wa_wid (Nat.le_of_ble_eq_true rfl) (Nat.le_of_ble_eq_true rfl) (k74 _  (by rw [if_pos c76]))
            · refine wa_lload X 5 rfl dX11_shares_124 ?_
              refine wa_goto X (tgt := 131) dX11_shares_126 (by decide) ?_
              refine wa_lv (lv' := [(0, .inr (.inr (11, 1))), (1, .inl a1), (2, .inl a2), (3, .inl a3), (4, .inl x5), (5, .inr (.inl x6)), (7, .inr (.inl x7)), (9, .inl x18), (10, .inl x19)]) [0, 1, 2, 3, 4, 5, 6, 7, 8] rfl ?_
              exact wa_wid (Nat.le_of_ble_eq_true rfl) (Nat.le_of_ble_eq_true rfl) (k74 _  (by rw [if_neg c76])))
  refine wa_if_eq X (tgt := 91) dX11_shares_14 (by decide) (fun c77 => ?_) (fun c77 => ?_)
  · replace hv := hv.1 c77
    refine wa_lv (lv' := [(0, .inr (.inr (11, 1))), (1, .inl a1), (2, .inl a2), (3, .inl a3), (4, .inl (S.1 82 1 a1.toNatClampNeg))]) [1, 2, 3, 4, 0] rfl ?_
    exact wa_wid (Nat.le_of_ble_eq_true rfl) (Nat.le_of_ble_eq_true rfl) (hv hw)
  · replace hv := hv.2 c77
    refine wa_iconst X dX11_shares_17 kc0 ?_
    refine wa_istore X (lv' := [(5, .inl (0 : Int32)), (4, .inl (S.1 82 1 a1.toNatClampNeg)), (0, .inr (.inr (11, 1))), (1, .inl a1), (2, .inl a2), (3, .inl a3)]) dX11_shares_18 (by decide) rfl ?_
    obtain ⟨I80, ⟨n85, i83⟩, b84⟩ := hv
    refine wa_lv (lv' := [(0, .inr (.inr (11, 1))), (1, .inl a1), (2, .inl a2), (3, .inl a3), (4, .inl (S.1 82 1 a1.toNatClampNeg)), (5, .inl (0 : Int32))]) [2, 3, 4, 5, 1, 0] rfl ?_
    suffices L86 : ∀ N81 : Nat, ∀ x78 : Int32, ∀ x79 : Int32, ∀ S82 : hs_S, hs_Wi S82 → I80 N81 x78 x79 S82 → wa Z 0 0 S82 20 [(0, .inr (.inr (11, 1))), (1, .inl a1), (2, .inl a2), (3, .inl a3), (4, .inl x78), (5, .inl x79)] [] from L86 _ _ _ _ hw i83
    clear hw
    clear i83
    intro N81
    induction N81 using Nat.strongRecOn with
    | _ N81 h87 =>
      intro x78 x79 S82 hw j88
      have hv := b84 N81 x78 x79 S82 j88
      refine wa_iload X 5 rfl dX11_shares_20 ?_
      refine wa_aload_n X 0 rfl dX11_shares_22 rfl ?_
      refine wa_getI X (j := 24) hk_11 hc_11 i_11 (by decide) kw_1208 rfl dX11_shares_23 hs_1ne ?_
      refine wa_icmp_ge X (tgt := 91) dX11_shares_26 (by decide) (fun c89 => ?_) (fun c89 => ?_)
      · replace hv := hv.1 c89
        refine wa_lv (lv' := [(0, .inr (.inr (11, 1))), (1, .inl a1), (2, .inl a2), (3, .inl a3), (4, .inl x78)]) [0, 1, 2, 3, 4] rfl ?_
        exact wa_wid (Nat.le_of_ble_eq_true rfl) (Nat.le_of_ble_eq_true rfl) (hv hw)
      · replace hv := hv.2 c89
        refine wa_aload_n X 0 rfl dX11_shares_29 rfl ?_
        refine wa_getfw X hw (j := 27) (r := 1) hk_11 hc_11 i_11 (by decide) kw_1211 rfl rfl (by decide) rfl dX11_shares_30 hs_1ne ?_
        refine wa_iload X 5 rfl dX11_shares_33 ?_
        obtain ⟨o90, hv⟩ := hv
        refine wa_bald X hk_67 dX11_shares_35 hs_1ne o90 ?_
        refine wa_iload_n X 2 rfl dX11_shares_36 rfl ?_
        refine wa_icmp_ne X (tgt := 85) dX11_shares_37 (by decide) (fun c91 => ?_) (fun c91 => ?_)
        · replace hv := hv.1 c91
          refine wa_iinc X (v := (x79 + 1)) (lv' := [(5, .inl (x79 + 1)), (0, .inr (.inr (11, 1))), (1, .inl a1), (2, .inl a2), (3, .inl a3), (4, .inl x78)]) 5 rfl dX11_shares_85 rfl (by decide) rfl ?_
          refine wa_goto X (tgt := 20) dX11_shares_88 (by decide) ?_
          obtain ⟨q92, p93, hv⟩ := hv
          refine wa_lv (lv' := [(0, .inr (.inr (11, 1))), (1, .inl a1), (2, .inl a2), (3, .inl a3), (4, .inl x78), (5, .inl (x79 + 1))]) [1, 2, 3, 4, 5, 0] rfl ?_
          exact h87 q92 p93 _ _ _ hw hv
        · replace hv := hv.2 c91
          refine wa_aload_n X 0 rfl dX11_shares_40 rfl ?_
          refine wa_iload X 5 rfl dX11_shares_41 ?_
          refine wa_iload_n X 1 rfl dX11_shares_43 rfl ?_
          obtain ⟨o94, hv⟩ := hv
          refine wa_callV X (As := [.inl x79, .inl a1]) (f_M_takesPart hw o94) hk_11 hc_11 rfl kw_1570 kw_66 kw_1567 kw_1569 kw_48 nd_X11_takesPart rfl rfl (Nat.le_of_ble_eq_true rfl) dX11_shares_44 hs_1ne ⟨⟨Nat.le_of_ble_eq_true rfl, Nat.le_of_ble_eq_true rfl⟩, Nat.le_of_ble_eq_true rfl, Nat.le_of_ble_eq_true rfl⟩ (hs_pdk0 ?_) (fun _ _ h => h.elim)
          refine wa_if_eq X (tgt := 85) dX11_shares_47 (by decide) (fun c95 => ?_) (fun c95 => ?_)
          · replace hv := hv.1 c95
            refine wa_iinc X (v := (x79 + 1)) (lv' := [(5, .inl (x79 + 1)), (0, .inr (.inr (11, 1))), (1, .inl a1), (2, .inl a2), (3, .inl a3), (4, .inl x78)]) 5 rfl dX11_shares_85 rfl (by decide) rfl ?_
            refine wa_goto X (tgt := 20) dX11_shares_88 (by decide) ?_
            obtain ⟨q96, p97, hv⟩ := hv
            refine wa_lv (lv' := [(0, .inr (.inr (11, 1))), (1, .inl a1), (2, .inl a2), (3, .inl a3), (4, .inl x78), (5, .inl (x79 + 1))]) [1, 2, 3, 4, 5, 0] rfl ?_
            exact h87 q96 p97 _ _ _ hw hv
          · replace hv := hv.2 c95
            refine wa_aload_n X 0 rfl dX11_shares_50 rfl ?_
            refine wa_getfw X hw (j := 34) (r := 1) hk_11 hc_11 i_11 (by decide) kw_1218 rfl rfl (by decide) rfl dX11_shares_51 hs_1ne ?_
            refine wa_iload X 5 rfl dX11_shares_54 ?_
            refine wa_aload_n X 0 rfl dX11_shares_56 rfl ?_
            refine wa_getfw X hw (j := 42) (r := 1) hk_11 hc_11 i_11 (by decide) kw_1226 rfl rfl (by decide) rfl dX11_shares_57 hs_1ne ?_
            refine wa_iload_n X 1 rfl dX11_shares_60 rfl ?_
            refine wa_iald X hk_82 dX11_shares_61 hs_1ne o1 ?_
            refine wa_aload_n X 0 rfl dX11_shares_62 rfl ?_
            refine wa_getfw X hw (j := 28) (r := 1) hk_11 hc_11 i_11 (by decide) kw_1212 rfl rfl (by decide) rfl dX11_shares_63 hs_1ne ?_
            refine wa_iload X 5 rfl dX11_shares_66 ?_
            refine wa_iald X hk_68 dX11_shares_68 hs_1ne o90 ?_
            refine wa_imul X dX11_shares_69 ?_
            refine wa_iload_n X 3 rfl dX11_shares_70 rfl ?_
            obtain ⟨o98, hv⟩ := hv
            refine wa_idiv X dX11_shares_71 o98 ?_
            refine wa_iast X hk_74 dX11_shares_72 hs_1ne o90 (hs_eqS fun S99 hS99 => ?_)
            replace hv := hv S99 hS99
            replace hw : hs_Wi S99 := hS99 ▸ hs_Wi_I hw
            refine wa_iload X 4 rfl dX11_shares_73 ?_
            refine wa_aload_n X 0 rfl dX11_shares_75 rfl ?_
            refine wa_getfw X hw (j := 34) (r := 1) hk_11 hc_11 i_11 (by decide) kw_1218 rfl rfl (by decide) rfl dX11_shares_76 hs_1ne ?_
            refine wa_iload X 5 rfl dX11_shares_79 ?_
            refine wa_iald X hk_74 dX11_shares_81 hs_1ne o90 ?_
            refine wa_isub X dX11_shares_82 ?_
            refine wa_istore X (lv' := [(4, .inl (x78 - (S99.1 74 1 x79.toNatClampNeg))), (0, .inr (.inr (11, 1))), (1, .inl a1), (2, .inl a2), (3, .inl a3), (5, .inl x79)]) dX11_shares_83 (by decide) rfl ?_
            refine wa_iinc X (v := (x79 + 1)) (lv' := [(5, .inl (x79 + 1)), (4, .inl (x78 - (S99.1 74 1 x79.toNatClampNeg))), (0, .inr (.inr (11, 1))), (1, .inl a1), (2, .inl a2), (3, .inl a3)]) 5 rfl dX11_shares_85 rfl (by decide) rfl ?_
            refine wa_goto X (tgt := 20) dX11_shares_88 (by decide) ?_
            obtain ⟨q100, p101, hv⟩ := hv
            refine wa_lv (lv' := [(0, .inr (.inr (11, 1))), (1, .inl a1), (2, .inl a2), (3, .inl a3), (4, .inl (x78 - (S99.1 74 1 x79.toNatClampNeg))), (5, .inl (x79 + 1))]) [2, 3, 4, 5, 1, 0] rfl ?_
            exact h87 q100 p101 _ _ _ hw hv
theorem sh_all {S : hs_S} {r u all : Int32} {g : Nat} (hg : g ≤ 80) (hm : ∀ b, b < g → 1 ≤ (S.1 68 1 b).toInt ∧ (S.1 68 1 b).toInt ≤ 100) (ha : all.toInt = sI (fun b => if shT S r u b then (S.1 68 1 b).toInt else 0) g) : 0 ≤ all.toInt ∧ all.toInt ≤ 8000 ∧ ∀ b, b < g → shT S r u b = true → (S.1 68 1 b).toInt ≤ all.toInt := by
  have h0 : ∀ k, k < g → 0 ≤ (if shT S r u k then (S.1 68 1 k).toInt else 0) := fun k hk => by
    by_cases q : shT S r u k = true
    · rw [if_pos q]; have := (hm k hk).1; omega
    · rw [if_neg q]; exact Int.le_refl _
  have h1 : ∀ n, n ≤ g → sI (fun b => if shT S r u b then (S.1 68 1 b).toInt else 0) n ≤ 100 * n := by
    intro n
    induction n with
    | zero => intro _; exact Int.le_refl _
    | succ n ih =>
      intro hn
      have a := ih (by omega)
      have b : (if shT S r u n then (S.1 68 1 n).toInt else 0) ≤ 100 := by
        by_cases q : shT S r u n = true
        · rw [if_pos q]; exact (hm n (by omega)).2
        · rw [if_neg q]; omega
      show sI (fun b => if shT S r u b then (S.1 68 1 b).toInt else 0) n + (if shT S r u n then (S.1 68 1 n).toInt else 0) ≤ _
      omega
  have h2 := h1 g (Nat.le_refl _)
  refine ⟨by rw [ha]; exact sI_nn g h0, by omega, fun b hb ht => ?_⟩
  have h3 := sI_u (f := fun k => if k = b then 0 else if shT S r u k then (S.1 68 1 k).toInt else 0) (g := fun k => if shT S r u k then (S.1 68 1 k).toInt else 0) g hb (fun k _ hk => (if_neg hk).symm)
  have h4 : 0 ≤ sI (fun k => if k = b then 0 else if shT S r u k then (S.1 68 1 k).toInt else 0) g := sI_nn g fun k hk => by
    by_cases q : k = b
    · rw [if_pos q]; exact Int.le_refl _
    · rw [if_neg q]; exact h0 k hk
  rw [← ha] at h3
  simp only [if_true, ht] at h3
  omega
theorem sh_mul {S : hs_S} {r all : Int32} {b : Nat} (hv0 : 0 ≤ (shV0 S r).toInt) (hv : (shV0 S r).toInt ≤ 8000) (hm : 1 ≤ (S.1 68 1 b).toInt ∧ (S.1 68 1 b).toInt ≤ 100) : (shV0 S r * S.1 68 1 b).toInt = (shV0 S r).toInt * (S.1 68 1 b).toInt ∧ 0 ≤ (shV0 S r).toInt * (S.1 68 1 b).toInt := by
  have h1 : 0 ≤ (shV0 S r).toInt * (S.1 68 1 b).toInt := Int.mul_nonneg hv0 (by omega)
  have h2 : (shV0 S r).toInt * (S.1 68 1 b).toInt ≤ 8000 * 100 := Int.mul_le_mul hv hm.2 (by omega) (by omega)
  exact ⟨i32_mul (by omega), h1⟩
/-- the rest fits those that take part -/
theorem sh_fit {S : hs_S} {r u all : Int32} {g : Nat} (hg : g ≤ 80) (hm : ∀ b, b < g → 1 ≤ (S.1 68 1 b).toInt ∧ (S.1 68 1 b).toInt ≤ 100) (ha : all.toInt = sI (fun b => if shT S r u b then (S.1 68 1 b).toInt else 0) g) (hv0 : 0 ≤ (shV0 S r).toInt) (hv : (shV0 S r).toInt ≤ all.toInt) : 0 ≤ shV S r u all g ∧ shV S r u all g ≤ sI (fun b => if shT S r u b then shW S r b else 0) g ∧ shV S r u all g ≤ (shV0 S r).toInt := by
  obtain ⟨a0, a1, a2⟩ := sh_all hg hm ha
  by_cases hy : S.1 80 1 r.toNatClampNeg = 0
  · have e1 : shV S r u all g = (shV0 S r).toInt := by
      unfold shV shB
      rw [sI_0 g fun k _ => by simp only [if_pos hy, ite_self]]
      omega
    have e2 : sI (fun b => if shT S r u b then shW S r b else 0) g = all.toInt := by
      rw [ha]; unfold shW; simp only [if_pos hy]
    rw [e1, e2]
    exact ⟨hv0, hv, Int.le_refl _⟩
  · have hb : ∀ b, b < g → shT S r u b = true → (shB S r all b) * all.toInt ≤ (shV0 S r).toInt * (S.1 68 1 b).toInt ∧ (shV0 S r).toInt * (S.1 68 1 b).toInt ≤ (shB S r all b + 1) * all.toInt ∧ 0 ≤ shB S r all b := by
      intro b hb ht
      have ap : 0 < all.toInt := by have := a2 b hb ht; have := (hm b hb).1; omega
      obtain ⟨m1, m2⟩ := sh_mul (all := all) hv0 (by omega) (hm b hb)
      have e : shB S r all b = (shV0 S r).toInt * (S.1 68 1 b).toInt / all.toInt := by
        unfold shB
        rw [if_neg hy, i32_div (by rw [m1]; exact m2) ap, m1]
      rw [e]
      have d1 := Int.ediv_mul_le ((shV0 S r).toInt * (S.1 68 1 b).toInt) (b := all.toInt) (by omega)
      have d2 := Int.lt_ediv_add_one_mul_self ((shV0 S r).toInt * (S.1 68 1 b).toInt) ap
      exact ⟨d1, Int.le_of_lt d2, Int.ediv_nonneg m2 (by omega)⟩
    have s1 : sI (fun b => (if shT S r u b then shB S r all b else 0) * all.toInt) g ≤ sI (fun b => (if shT S r u b then (S.1 68 1 b).toInt else 0) * (shV0 S r).toInt) g := sI_le g fun b hb2 => by
      by_cases q : shT S r u b = true
      · rw [if_pos q, if_pos q, Int.mul_comm (S.1 68 1 b).toInt]; exact (hb b hb2 q).1
      · rw [if_neg q, if_neg q]; omega
    have s2 : sI (fun b => (if shT S r u b then (S.1 68 1 b).toInt else 0) * (shV0 S r).toInt) g ≤ sI (fun b => ((if shT S r u b then shB S r all b else 0) + (if shT S r u b then shW S r b else 0)) * all.toInt) g := sI_le g fun b hb2 => by
      by_cases q : shT S r u b = true
      · rw [if_pos q, if_pos q, if_pos q, Int.mul_comm (S.1 68 1 b).toInt, show shW S r b = 1 from if_neg hy]; exact (hb b hb2 q).2.1
      · rw [if_neg q, if_neg q, if_neg q]; omega
    have s3 : 0 ≤ sI (fun b => if shT S r u b then shB S r all b else 0) g := sI_nn g fun b hb2 => by
      by_cases q : shT S r u b = true
      · rw [if_pos q]; exact (hb b hb2 q).2.2
      · rw [if_neg q]; exact Int.le_refl _
    rw [sI_mul, sI_mul, ← ha] at s1
    rw [sI_mul, sI_mul, ← ha, sI_add] at s2
    have hz : 0 ≤ sI (fun b => if shT S r u b then shW S r b else 0) g := sI_nn g fun b hb2 => by
      by_cases q : shT S r u b = true
      · rw [if_pos q, show shW S r b = 1 from if_neg hy]; omega
      · rw [if_neg q]; exact Int.le_refl _
    unfold shV
    by_cases az : all.toInt = 0
    · have : sI (fun b => if shT S r u b then shB S r all b else 0) g = 0 := sI_0 g fun k hk => by
        by_cases q : shT S r u k = true
        · have := a2 k hk q; have := (hm k hk).1; omega
        · rw [if_neg q]
      rw [this]; omega
    · have ap : 0 < all.toInt := by omega
      rw [Int.mul_comm all.toInt] at s1 s2
      have t1 := Int.le_of_mul_le_mul_right s1 ap
      have t2 := Int.le_of_mul_le_mul_right s2 ap
      omega
theorem sh_ah {S : hs_S} {r u all : Int32} {b o : Nat} (hu : u = 0 ∨ u = 1) (hb : S.1 67 1 b = u) : mAh S b o r.toNatClampNeg all ↔ shK S r u all o < shK S r u all b := by
  show (if S.1 80 1 r.toNatClampNeg = 0 then (if S.1 67 1 b = 0 then ¬ S.1 69 1 o ≤ S.1 69 1 b else ¬ S.1 69 1 b ≤ S.1 69 1 o) else ¬ S.1 82 1 r.toNatClampNeg * S.1 68 1 b - S.1 82 1 r.toNatClampNeg * S.1 68 1 b / all * all ≤ S.1 82 1 r.toNatClampNeg * S.1 68 1 o - S.1 82 1 r.toNatClampNeg * S.1 68 1 o / all * all) ↔ _
  unfold shK
  rw [hb]
  by_cases h : S.1 80 1 r.toNatClampNeg = 0
  · rw [if_pos h, if_pos h, if_pos h]
    by_cases q : u = 0
    · rw [if_pos q, if_pos q, if_pos q, i32_le]; omega
    · rw [if_neg q, if_neg q, if_neg q, i32_le]; omega
  · rw [if_neg h, if_neg h, if_neg h, i32_le]; exact Int.not_le
abbrev shH (x y : Int64) (b : Nat) : Bool := if b < 40 then bit x b else bit y (b - 40)
theorem sh_bit {x y : Int64} {b : Nat} (hb : b < 80) {t : Int64} {z : Int32} (ht : t = if (40 : Int32) ≤ nI b then y else x) (hz : z = if lg_cmp ((t >>> ((nI b - nI b / 40 * 40).toInt64 &&& 63)) &&& 1) 1 = 0 then 1 else 0) : z = if shH x y b = true then 1 else 0 := by
  have hr : nI b - nI b / 40 * 40 = nI (if b < 40 then b else b - 40) := by
    apply i32_eq.mpr
    have e1 : (nI b).toInt = b := nI_toInt (by omega)
    have e40 : (40 : Int32).toInt = 40 := rfl
    have e2 : (nI b / 40).toInt = (b : Int) / 40 := by rw [i32_div (by omega) (by omega), e1, e40]
    have e3 : (nI b / 40 * 40).toInt = (b : Int) / 40 * 40 := by rw [i32_mul (by rw [e2, e40]; omega), e2, e40]
    rw [i32_sub (by rw [e1, e3]; omega), e1, e3, nI_toInt (by split <;> omega)]
    split <;> omega
  have hc : (40 : Int32) ≤ nI b ↔ ¬ b < 40 := by rw [show (40 : Int32) = nI 40 from rfl, hl_le (by omega) (by omega)]; omega
  rw [hz, hr]
  have hcmp : ∀ a : Int64, lg_cmp a 1 = 0 ↔ a = 1 := fun a => lg_cmp_eq a 1
  by_cases q : b < 40
  · rw [if_neg (mt hc.mp (Classical.not_not.mpr q))] at ht
    subst ht
    rw [if_pos q]
    have h1 := (hcmp _).trans (bit_test (t := t) (k := b) (by omega))
    have h2 : shH t y b = bit t b := if_pos q
    rw [h2]
    by_cases w : bit t b = true
    · rw [if_pos (h1.mpr w), if_pos w]
    · rw [if_neg (mt h1.mp w), if_neg w]
  · rw [if_pos (hc.mpr q)] at ht
    subst ht
    rw [if_neg q]
    have h1 := (hcmp _).trans (bit_test (t := t) (k := b - 40) (by omega))
    have h2 : shH x t b = bit t (b - 40) := if_neg q
    rw [h2]
    by_cases w : bit t (b - 40) = true
    · rw [if_pos (h1.mpr w), if_pos w]
    · rw [if_neg (mt h1.mp w), if_neg w]
theorem sh_set {x y : Int64} {m : Nat} (hm : m < 80) {t s : Int64} (ht : t = if (40 : Int32) ≤ nI m then 0 else (1 : Int64) <<< ((nI m).toInt64 &&& 63)) (hs : s = if (40 : Int32) ≤ nI m then (1 : Int64) <<< ((nI m - 40).toInt64 &&& 63) else 0) {b : Nat} (hb : b < 80) : shH (x ||| t) (y ||| s) b = (shH x y b || decide (m = b)) := by
  have hc : (40 : Int32) ≤ nI m ↔ ¬ m < 40 := by rw [show (40 : Int32) = nI 40 from rfl, hl_le (by omega) (by omega)]; omega
  unfold shH
  by_cases q : m < 40
  · rw [if_neg (mt hc.mp (Classical.not_not.mpr q))] at ht hs
    subst ht; subst hs
    by_cases w : b < 40
    · rw [if_pos w, if_pos w, bit_set (by omega) (by omega)]
    · rw [if_neg w, if_neg w, bit_or0]
      have : ¬ m = b := by omega
      simp [this]
  · rw [if_pos (hc.mpr q)] at ht hs
    rw [show nI m - 40 = nI (m - 40) from nI_subI (b := 40) (by omega) (by omega)] at hs
    subst ht; subst hs
    by_cases w : b < 40
    · rw [if_pos w, if_pos w, bit_or0]
      have : ¬ m = b := by omega
      simp [this]
    · rw [if_neg w, if_neg w, bit_set (by omega) (by omega)]
      have : (m - 40 = b - 40) ↔ m = b := by omega
      simp [this]
def shI (S : hs_S) (r u all : Int32) (g N : Nat) (x : Int32) (t s : Int64) (T : hs_S) : Prop := ∃ q : Nat → Int32, T = hs_got S q ∧ ((∀ b, b < g → shH t s b = true → shT S r u b = true) ∧ (∀ h c, h < g → c < g → shH t s h = true → shT S r u c = true → shH t s c = false → shP S r u all h c = true) ∧ (∀ b, g ≤ b → b < 80 → shH t s b = false)) ∧ (0 ≤ x.toInt ∧ x.toInt ≤ 8000 ∧ (0 < x.toInt → x.toInt = shV S r u all g - sI (fun b => if shH t s b then shW S r b else 0) g) ∧ (x.toInt ≤ 0 → shV S r u all g ≤ sI (fun b => if shH t s b then shW S r b else 0) g)) ∧ ((∀ b, b < g → shT S r u b = true → (q b).toInt = if shH t s b then shG S r u all g b else shB S r all b) ∧ (∀ b, ¬ (b < g ∧ shT S r u b = true) → q b = S.1 74 1 b) ∧ sI (fun b => if shT S r u b then (q b).toInt else 0) g + x.toInt = (shV0 S r).toInt) ∧ N = x.toInt.toNat
theorem shP_as {S : hs_S} {r u all : Int32} {b c : Nat} (h : shP S r u all b c = true) : shP S r u all c b = false := by
  have h' := of_decide_eq_true h
  exact decide_eq_false fun w => by omega
theorem shP_ir {S : hs_S} {r u all : Int32} {b : Nat} : shP S r u all b b = false := decide_eq_false fun w => by omega
theorem shP_to {S : hs_S} {r u all : Int32} {b c : Nat} (h : shP S r u all b c = false) (hn : b ≠ c) : shP S r u all c b = true := by
  have h' := of_decide_eq_false h
  exact decide_eq_true (by omega)
theorem shW_1 {S : hs_S} {r : Int32} {b : Nat} (hm : 1 ≤ (S.1 68 1 b).toInt ∧ (S.1 68 1 b).toInt ≤ 100) : 1 ≤ shW S r b ∧ shW S r b ≤ 100 := by
  unfold shW
  by_cases h : S.1 80 1 r.toNatClampNeg = 0
  · rw [if_pos h]; exact hm
  · rw [if_neg h]; omega
theorem shB_b {S : hs_S} {r all : Int32} {b : Nat} (hv0 : 0 ≤ (shV0 S r).toInt) (hv : (shV0 S r).toInt ≤ 8000) (hm : 1 ≤ (S.1 68 1 b).toInt ∧ (S.1 68 1 b).toInt ≤ 100) (hp : 0 < all.toInt) : 0 ≤ shB S r all b ∧ shB S r all b ≤ 800000 := by
  unfold shB
  by_cases h : S.1 80 1 r.toNatClampNeg = 0
  · rw [if_pos h]; omega
  · obtain ⟨m1, m2⟩ := sh_mul (all := all) hv0 hv hm
    rw [if_neg h, i32_div (by rw [m1]; exact m2) hp, m1]
    have h2 : (shV0 S r).toInt * (S.1 68 1 b).toInt ≤ 8000 * 100 := Int.mul_le_mul hv hm.2 (by omega) (by omega)
    exact ⟨Int.ediv_nonneg m2 (by omega), Int.le_trans (Int.ediv_le_self _ m2) (by omega)⟩
theorem sh0 {b : Nat} : shH 0 0 b = false := by
  unfold shH
  by_cases h : b < 40
  · rw [if_pos h]; exact bit_0
  · rw [if_neg h]; exact bit_0
set_option maxHeartbeats 4000000 in
theorem v_M_shares {a1 a2 a3 : Int32} {S : hs_S} (hP : P_shares a1 a2 a3 S) : vc_M_shares a1 a2 a3 S (fun T => R_shares a1 a2 a3 S T) := by
  obtain ⟨hr, g, hg, eg, hm, ha, hv0, hv, hz, hu⟩ := hP
  obtain ⟨b0, b1, b2⟩ := sh_all hg hm ha
  obtain ⟨f1, f2, f3⟩ := sh_fit hg hm ha hv0 hv
  have hv8 : (shV0 S a1).toInt ≤ 8000 := by omega
  have ha0 : ∀ b, b < g → shT S a1 a2 b = true → 0 < a3.toInt := fun b hb ht => by have := b2 b hb ht; have := (hm b hb).1; omega
  have hane : ∀ b, b < g → shT S a1 a2 b = true → ¬ a3 = 0 := fun b hb ht q => by
    have := ha0 b hb ht
    rw [q] at this
    exact absurd this (by decide)
  unfold vc_M_shares
  refine ⟨hr, fun K hK => ?_⟩
  have main : ∀ x2 q, x2.toInt = shV S a1 a2 a3 g → (∀ b, b < g → shT S a1 a2 b = true → (q b).toInt = shB S a1 a3 b) → (∀ b, ¬ (b < g ∧ shT S a1 a2 b = true) → q b = S.1 74 1 b) → K x2 (hs_got S q) := by
    intro x2 q hx hq1 hq2
    apply hK
    refine ⟨shI S a1 a2 a3 g, ⟨x2.toInt.toNat, q, rfl, ⟨fun b _ h => absurd h (by rw [sh0]; decide), fun h c _ _ h2 _ _ => absurd h2 (by rw [sh0]; decide), fun b _ _ => sh0⟩, ⟨by omega, by omega, fun _ => ?_, fun _ => ?_⟩, ⟨fun b hb ht => ?_, hq2, ?_⟩, rfl⟩, ?_⟩
    · rw [sI_0 g fun k _ => by rw [sh0]; exact if_neg (by decide)]; omega
    · rw [sI_0 g fun k _ => by rw [sh0]; exact if_neg (by decide)]; omega
    · rw [sh0, if_neg (by decide)]; exact hq1 b hb ht
    · rw [sI_c g (g := fun b => if shT S a1 a2 b then shB S a1 a3 b else 0) fun b hb => by
        by_cases w : shT S a1 a2 b = true
        · rw [if_pos w, if_pos w]; exact hq1 b hb w
        · rw [if_neg w, if_neg w]]
      unfold shV at hx
      omega
    clear hx hq1 hq2 hK
    rintro N x t s T ⟨q, rfl, ⟨h1, h2, h3⟩, ⟨x0, x1, x2, x3⟩, ⟨q1, q2, q3⟩, rfl⟩
    refine ⟨fun hx => ?_, fun hx => ?_⟩
    · refine ⟨q, rfl, fun g' hg' eg' => ?_⟩
      have : g = g' := (hl_inj (by omega) (by omega)).mp (eg.symm.trans eg')
      subst this
      have hx' : x.toInt ≤ 0 := i32_le.mp hx
      refine ⟨fun b hb ht => ?_, q2, by omega⟩
      by_cases hh : shH t s b = true
      · rw [q1 b hb ht, if_pos hh]
      · rw [q1 b hb ht, if_neg hh]
        have hle : sI (fun c => if shH t s c then shW S a1 c else 0) g ≤ sI (fun c => if shT S a1 a2 c && shP S a1 a2 a3 c b then shW S a1 c else 0) g := sI_le g fun c hc => by
          have w1 := shW_1 (r := a1) (hm c hc)
          by_cases hc2 : shH t s c = true
          · rw [if_pos hc2, h1 c hc hc2, h2 c b hc hb hc2 ht (by simpa using hh)]
            exact Int.le_refl _
          · rw [if_neg hc2]
            split <;> omega
        have := x3 hx'
        have hL : shL S a1 a2 a3 g b ≤ 0 := by unfold shL; omega
        unfold shG
        omega
    · have hx' : 0 < x.toInt := by
        have : ¬ x.toInt ≤ (0 : Int32).toInt := fun z => hx (i32_le.mpr z)
        have z0 : (0 : Int32).toInt = 0 := rfl
        omega
      refine ⟨fun N y k => ∃ j, j ≤ g ∧ k = nI j ∧ ((y = -1 ∧ ∀ c, c < j → shT S a1 a2 c = true → shH t s c = true) ∨ ∃ m, m < j ∧ y = nI m ∧ shT S a1 a2 m = true ∧ shH t s m = false ∧ ∀ c, c < j → shT S a1 a2 c = true → shH t s c = false → c ≠ m → shP S a1 a2 a3 m c = true) ∧ N = g - j, ⟨g, 0, Nat.zero_le _, rfl, Or.inl ⟨rfl, fun c hc => absurd hc (by omega)⟩, rfl⟩, ?_⟩
      rintro N y k ⟨j, hj, rfl, hnx, rfl⟩
      refine ⟨fun hend => ?_, fun hgo => ?_⟩
      · have hjg : j = g := hl_end (by omega) hj (by have : (hs_got S q).1 11 1 24 = nI g := eg; rw [← this]; exact hend)
        subst hjg
        intro t' ht' s' hs'
        rcases hnx with ⟨_, hall⟩ | ⟨m, hmj, rfl, tm, hm2, hmin⟩
        · exfalso
          have : sI (fun c => if shH t s c then shW S a1 c else 0) j = sI (fun b => if shT S a1 a2 b then shW S a1 b else 0) j := sI_c j fun c hc => by
            by_cases hc2 : shT S a1 a2 c = true
            · rw [if_pos hc2, if_pos (hall c hc hc2)]
            · rw [if_neg hc2, if_neg fun z => hc2 (h1 c hc z)]
          have := x2 hx'
          omega
        · have hmc : (nI m).toNatClampNeg = m := hl_cl (by omega)
          rw [hmc]
          refine ⟨⟨fun _ => ⟨hl_ix (by omega) (by omega), fun _ => True.intro, fun _ => True.intro⟩, fun _ => True.intro⟩, fun z hz' => ⟨hl_ix (by omega) (by omega), fun S5 h5 => ?_⟩⟩
          have w1 := shW_1 (r := a1) (hm m hmj)
          have hzt : z.toInt = min (shW S a1 m) x.toInt := by
            have hz'' : z = if S.1 80 1 a1.toNatClampNeg = 0 then (if x ≤ S.1 68 1 m then x else S.1 68 1 m) else 1 := hz'
            unfold shW
            by_cases hy : S.1 80 1 a1.toNatClampNeg = 0
            · rw [if_pos hy] at hz'' ⊢
              by_cases hl : x ≤ S.1 68 1 m
              · rw [if_pos hl] at hz''; rw [hz'']; have := i32_le.mp hl; omega
              · rw [if_neg hl] at hz''; rw [hz'']; have := mt i32_le.mpr hl; omega
            · rw [if_neg hy] at hz'' ⊢
              rw [hz'']
              have o1 : (1 : Int32).toInt = 1 := rfl
              omega
          have hxz : (x - z).toInt = x.toInt - z.toInt := i32_sub (by omega)
          have hset : ∀ b, b < 80 → shH (t ||| t') (s ||| s') b = (shH t s b || decide (m = b)) := fun b hb => sh_set (by omega) ht' hs' hb
          have hW : sI (fun c => if shH (t ||| t') (s ||| s') c then shW S a1 c else 0) j = sI (fun c => if shH t s c then shW S a1 c else 0) j + shW S a1 m := by
            rw [sI_u (f := fun c => if shH t s c then shW S a1 c else 0) (g := fun c => if shH (t ||| t') (s ||| s') c then shW S a1 c else 0) (b := m) j hmj (fun k hk hkm => by
              have : ¬ m = k := fun z => hkm z.symm
              rw [hset k (by omega), decide_eq_false this, Bool.or_false])]
            rw [hset m (by omega), hm2, decide_eq_true rfl]
            simp
          have hLm : shL S a1 a2 a3 j m = x.toInt := by
            rw [x2 hx']
            unfold shL
            rw [sI_c j fun c hc => ?_]
            by_cases hc2 : shH t s c = true
            · rw [if_pos hc2, h1 c hc hc2, h2 c m hc hmj hc2 tm hm2]; rfl
            · rw [if_neg hc2]
              by_cases hct : shT S a1 a2 c = true
              · have hcp : shP S a1 a2 a3 c m = false := by
                  by_cases hcm : c = m
                  · rw [hcm]; exact shP_ir
                  · exact shP_as (hmin c hc hct (by simpa using hc2) hcm)
                rw [hcp, Bool.and_false]; rfl
              · have : shT S a1 a2 c = false := by simpa using hct
                rw [this]; rfl
          have hqm : (q m).toInt = shB S a1 a3 m := by
            have := q1 m hmj tm
            rwa [hm2, if_neg (by decide)] at this
          have hbb := shB_b (all := a3) hv0 hv8 (hm m hmj) (ha0 m hmj tm)
          have hqz : (q m + z).toInt = shG S a1 a2 a3 j m := by
            rw [i32_add (by omega), hqm, hzt]
            unfold shG
            rw [hLm]
            omega
          refine ⟨(x - z).toInt.toNat, by omega, fun k => if k = m then q m + z else q k, ?_, ⟨fun b hb hh => ?_, fun h c hh hc hh2 hc2 hc3 => ?_, fun b hb hb2 => ?_⟩, ⟨by omega, by omega, fun hp => ?_, fun hp => ?_⟩, ⟨fun b hb ht => ?_, fun b hb => ?_, ?_⟩, rfl⟩
          · rw [h5]; exact hs_got_w
          · rw [hset b (by omega)] at hh
            by_cases hbm : m = b
            · rw [← hbm]; exact tm
            · rw [decide_eq_false hbm, Bool.or_false] at hh
              exact h1 b hb hh
          · rw [hset h (by omega)] at hh2
            rw [hset c (by omega)] at hc3
            have hc4 : shH t s c = false := by
              cases w : shH t s c
              · rfl
              · rw [w] at hc3; exact absurd hc3 (by simp)
            have hcm : ¬ m = c := fun w => by rw [hc4, decide_eq_true w] at hc3; exact absurd hc3 (by decide)
            by_cases hhm : m = h
            · rw [← hhm]; exact hmin c hc hc2 hc4 fun w => hcm w.symm
            · rw [decide_eq_false hhm, Bool.or_false] at hh2
              exact h2 h c hh hc hh2 hc2 hc4
          · rw [hset b hb2, h3 b hb hb2, decide_eq_false (by omega)]; rfl
          · rw [hW]; have := x2 hx'; omega
          · rw [hW]; have := x2 hx'; omega
          · rw [hset b (by omega)]
            by_cases hbm : b = m
            · subst hbm
              rw [decide_eq_true rfl, Bool.or_true, if_pos rfl]
              show (if b = b then q b + z else q b).toInt = _
              rw [if_pos rfl]; exact hqz
            · rw [decide_eq_false (fun w => hbm w.symm), Bool.or_false]
              show (if b = m then q m + z else q b).toInt = _
              rw [if_neg hbm]; exact q1 b hb ht
          · have hbm : b ≠ m := fun w => hb ⟨by omega, by rw [w]; exact tm⟩
            show (if b = m then q m + z else q b) = _
            rw [if_neg hbm]; exact q2 b hb
          · have hu' := sI_u (f := fun b => if shT S a1 a2 b then (q b).toInt else 0) (g := fun b => if shT S a1 a2 b then (if b = m then q m + z else q b).toInt else 0) (b := m) j hmj (fun k _ hkm => by
              show (if shT S a1 a2 k then (if k = m then q m + z else q k).toInt else 0) = _
              rw [if_neg hkm])
            have e1 : (q m + z).toInt = (q m).toInt + z.toInt := i32_add (by omega)
            show sI (fun b => if shT S a1 a2 b then (if b = m then q m + z else q b).toInt else 0) j + (x - z).toInt = _
            rw [hu', hxz]
            simp only [tm, if_true]
            rw [e1]
            omega
      · have hj1 : j < g := hl_go (by omega) hj (by have : (hs_got S q).1 11 1 24 = nI g := eg; rw [← this]; exact hgo)
        intro t' ht' z' hz'
        have hjc : (nI j).toNatClampNeg = j := hl_cl (by omega)
        have hbit := sh_bit (x := t) (y := s) (b := j) (by omega) ht' hz'
        rw [hjc]
        refine ⟨hl_ix (by omega) (by omega), ⟨fun _ => True.intro, fun _ => ⟨⟨hl_ix (by omega) (by omega), hr⟩, fun _ => True.intro, fun _ => ⟨fun _ => True.intro, fun _ => True.intro⟩⟩⟩, fun v hv' => ?_⟩
        have hvv : v = if shT S a1 a2 j = true ∧ shH t s j = false then 1 else 0 := by
          have e1 : v = if S.1 67 1 j = a2 then (if F_takesPart (nI j) a1 S = 0 then 0 else (if z' = 0 then 1 else 0)) else 0 := hv'
          rw [e1, hbit]
          unfold shT
          by_cases p1 : S.1 67 1 j = a2
          · by_cases p2 : F_takesPart (nI j) a1 S = 0
            · simp [p1, p2]
            · cases p3 : shH t s j <;> simp [p1, p2]
          · simp [p1]
        by_cases hcand : shT S a1 a2 j = true ∧ shH t s j = false
        · rw [if_pos hcand] at hvv
          have hv0' : ¬ v = 0 := by rw [hvv]; decide
          refine ⟨fun w => absurd w hv0', fun _ => ⟨fun hy => ?_, fun hy => ?_⟩⟩
          · refine hl_nx hj1 (Or.inr ⟨j, by omega, rfl, hcand.1, hcand.2, fun c hc hct hch hcj => ?_⟩)
            rcases hnx with ⟨_, hall⟩ | ⟨m, hmj, rfl, _⟩
            · have := hall c (by omega) hct
              rw [this] at hch; exact absurd hch (by decide)
            · exfalso
              have a := congrArg Int32.toInt hy
              rw [nI_toInt (by omega)] at a
              have b : (-1 : Int32).toInt = -1 := rfl
              omega
          · rcases hnx with ⟨rfl, _⟩ | ⟨m, hmj, rfl, tm, hm2, hmin⟩
            · exact absurd rfl hy
            · have hmc : (nI m).toNatClampNeg = m := hl_cl (by omega)
              have tj := of_decide_eq_true hcand.1
              have hah : F_isAhead (nI j) (nI m) a1 a3 (hs_got S q) = bI (mAh S j m a1.toNatClampNeg a3) := by
                unfold F_isAhead
                rw [hjc, hmc]; rfl
              have hk := sh_ah (S := S) (r := a1) (all := a3) (b := j) (o := m) hu tj.1
              refine ⟨⟨hl_ix (by omega) (by omega), hl_ix (by omega) (by omega), hr, hane m (by omega) tm⟩, fun w => ?_, fun w => ?_⟩
              · rw [hah, bI_eq0, hk] at w
                refine hl_nx hj1 (Or.inr ⟨m, by omega, rfl, tm, hm2, fun c hc hct hch hcm => ?_⟩)
                by_cases hcj : c = j
                · subst hcj
                  exact decide_eq_true (by omega)
                · exact hmin c (by omega) hct hch hcm
              · rw [hah, bI_eq0, hk] at w
                have w' := Classical.not_not.mp w
                refine hl_nx hj1 (Or.inr ⟨j, by omega, rfl, hcand.1, hcand.2, fun c hc hct hch hcj => ?_⟩)
                by_cases hcm : c = m
                · subst hcm
                  exact decide_eq_true (by omega)
                · have := of_decide_eq_true (hmin c (by omega) hct hch hcm)
                  exact decide_eq_true (by omega)
        · rw [if_neg hcand] at hvv
          refine ⟨fun _ => ?_, fun w => absurd hvv w⟩
          refine hl_nx hj1 ?_
          rcases hnx with ⟨rfl, hall⟩ | ⟨m, hmj, rfl, tm, hm2, hmin⟩
          · refine Or.inl ⟨rfl, fun c hc hct => ?_⟩
            by_cases hcj : c = j
            · subst hcj
              cases w : shH t s c
              · exact absurd ⟨hct, w⟩ hcand
              · rfl
            · exact hall c (by omega) hct
          · refine Or.inr ⟨m, by omega, rfl, tm, hm2, fun c hc hct hch hcm => ?_⟩
            by_cases hcj : c = j
            · subst hcj; exact absurd ⟨hct, hch⟩ hcand
            · exact hmin c (by omega) hct hch hcm
  refine ⟨fun hy => ?_, fun hy => ?_⟩
  · have := main (S.1 82 1 a1.toNatClampNeg) (S.1 74 1) ?_ (fun b hb ht => ?_) (fun _ _ => rfl)
    · rwa [hs_got_0] at this
    · unfold shV shB
      rw [sI_0 g fun k _ => by simp only [if_pos hy, ite_self]]
      show (shV0 S a1).toInt = _
      omega
    · unfold shB
      rw [if_pos hy, hz (Classical.not_not.mpr hy) b hb ht]; rfl
  · refine ⟨fun N x k T => ∃ j, j ≤ g ∧ k = nI j ∧ ∃ q : Nat → Int32, (T = hs_got S q ∧ x.toInt = (shV0 S a1).toInt - sI (fun b => if shT S a1 a2 b then shB S a1 a3 b else 0) j ∧ (∀ b, b < j → shT S a1 a2 b = true → (q b).toInt = shB S a1 a3 b) ∧ ∀ b, ¬ (b < j ∧ shT S a1 a2 b = true) → q b = S.1 74 1 b) ∧ N = g - j, ⟨g, 0, Nat.zero_le _, rfl, S.1 74 1, ⟨hs_got_0.symm, ?_, fun b hb => absurd hb (by omega), fun _ _ => rfl⟩, rfl⟩, ?_⟩
    · show (shV0 S a1).toInt = (shV0 S a1).toInt - 0
      omega
    rintro N x k T ⟨j, hj, rfl, q, ⟨rfl, hx, hq1, hq2⟩, rfl⟩
    refine ⟨fun h => ?_, fun h => ?_⟩
    · have hjg : j = g := hl_end (by omega) hj (by have : (hs_got S q).1 11 1 24 = nI g := eg; rw [← this]; exact h)
      subst hjg
      exact main x q hx hq1 hq2
    · have hj1 : j < g := hl_go (by omega) hj (by have : (hs_got S q).1 11 1 24 = nI g := eg; rw [← this]; exact h)
      have hjc : (nI j).toNatClampNeg = j := hl_cl (by omega)
      have hskip : shT S a1 a2 j = false → ∃ q', q' < g - j ∧ ∃ j', j' ≤ g ∧ nI j + 1 = nI j' ∧ ∃ q_1 : Nat → Int32, (hs_got S q = hs_got S q_1 ∧ x.toInt = (shV0 S a1).toInt - sI (fun b => if shT S a1 a2 b then shB S a1 a3 b else 0) j' ∧ (∀ b, b < j' → shT S a1 a2 b = true → (q_1 b).toInt = shB S a1 a3 b) ∧ ∀ b, ¬ (b < j' ∧ shT S a1 a2 b = true) → q_1 b = S.1 74 1 b) ∧ q' = g - j' := fun hf => by
        refine ⟨g - (j + 1), by omega, j + 1, hj1, nI_1 j, q, ⟨rfl, ?_, fun b hb ht => ?_, fun b hb => ?_⟩, rfl⟩
        · show _ = _ - (sI _ j + (if shT S a1 a2 j then shB S a1 a3 j else 0))
          rw [hf, hx]
          simp
        · by_cases w : b = j
          · subst w; rw [hf] at ht; exact absurd ht (by decide)
          · exact hq1 b (by omega) ht
        · exact hq2 b fun w => hb ⟨by omega, w.2⟩
      rw [hjc]
      refine ⟨hl_ix (by omega) (by omega), fun w => hskip (decide_eq_false fun z => w z.1), fun w => ⟨⟨hl_ix (by omega) (by omega), hr⟩, fun v => hskip (decide_eq_false fun z => z.2 v), fun v => ?_⟩⟩
      have htk : shT S a1 a2 j = true := decide_eq_true ⟨w, v⟩
      refine ⟨hane j hj1 htk, fun S5 h5 => ?_⟩
      have hB : (shV0 S a1 * S.1 68 1 j / a3).toInt = shB S a1 a3 j := (if_neg hy).symm
      have hbb := shB_b (all := a3) hv0 hv8 (hm j hj1) (ha0 j hj1 htk)
      have h5' : S5 = hs_got S (fun k => if k = j then shV0 S a1 * S.1 68 1 j / a3 else q k) := by rw [h5]; exact hs_got_w
      have h74 : S5.1 74 1 j = shV0 S a1 * S.1 68 1 j / a3 := by
        rw [h5']
        show (if j = j then _ else _) = _
        exact if_pos rfl
      rw [h74]
      have hs8 : 0 ≤ sI (fun b => if shT S a1 a2 b then shB S a1 a3 b else 0) j ∧ sI (fun b => if shT S a1 a2 b then shB S a1 a3 b else 0) j ≤ 800000 * j := by
        have hn : ∀ n, n ≤ j → 0 ≤ sI (fun b => if shT S a1 a2 b then shB S a1 a3 b else 0) n ∧ sI (fun b => if shT S a1 a2 b then shB S a1 a3 b else 0) n ≤ 800000 * n := by
          intro n
          induction n with
          | zero => intro _; exact ⟨Int.le_refl _, Int.le_refl _⟩
          | succ n ih =>
            intro hn
            have a := ih (by omega)
            have b : 0 ≤ (if shT S a1 a2 n then shB S a1 a3 n else 0) ∧ (if shT S a1 a2 n then shB S a1 a3 n else 0) ≤ 800000 := by
              by_cases p : shT S a1 a2 n = true
              · rw [if_pos p]; exact shB_b (all := a3) hv0 hv8 (hm n (by omega)) (ha0 n (by omega) p)
              · rw [if_neg p]; omega
            show 0 ≤ sI (fun b => if shT S a1 a2 b then shB S a1 a3 b else 0) n + (if shT S a1 a2 n then shB S a1 a3 n else 0) ∧ sI (fun b => if shT S a1 a2 b then shB S a1 a3 b else 0) n + (if shT S a1 a2 n then shB S a1 a3 n else 0) ≤ _
            omega
        exact hn j (Nat.le_refl _)
      refine ⟨g - (j + 1), by omega, j + 1, hj1, nI_1 j, fun k => if k = j then shV0 S a1 * S.1 68 1 j / a3 else q k, ⟨h5', ?_, fun b hb ht => ?_, fun b hb => ?_⟩, rfl⟩
      · show _ = _ - (sI _ j + (if shT S a1 a2 j then shB S a1 a3 j else 0))
        rw [i32_sub (by rw [hB]; omega), hB, hx, htk, if_pos rfl]
        omega
      · by_cases z : b = j
        · subst z
          show (if b = b then _ else _ : Int32).toInt = _
          rw [if_pos rfl]; exact hB
        · show (if b = j then _ else q b).toInt = _
          rw [if_neg z]; exact hq1 b (by omega) ht
      · have z : b ≠ j := fun z => hb ⟨by omega, by rw [z]; exact htk⟩
        show (if b = j then _ else q b) = _
        rw [if_neg z]; exact hq2 b fun w => hb ⟨by omega, w.2⟩

