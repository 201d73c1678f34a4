/-! ===== what calls read is no scratch ===== -/
theorem cl_cOC {S : hs_S} {i : Nat} {o : Int32} (k : Nat) : cOC (hs_cl S) i o k = cOC S i o k := by
  induction k with
  | zero => rfl
  | succ k ih => unfold cOC; rw [ih]; rfl
theorem cl_cEO {S : hs_S} {c : Int32} (k : Nat) : cEO (hs_cl S) c k = cEO S c k := by
  induction k with
  | zero => rfl
  | succ k ih => unfold cEO; rw [ih]; rfl
theorem cl_cPlc {S : hs_S} {c p : Int32} {g : Nat} (k : Nat) : cPlc (hs_cl S) c p g k = cPlc S c p g k := by
  induction k with
  | zero => rfl
  | succ k ih => unfold cPlc; rw [ih, cl_cEO]; rfl
theorem cl_cCt {S : hs_S} {c e : Int32} (k : Nat) : cCt (hs_cl S) c e k = cCt S c e k := by
  induction k with
  | zero => rfl
  | succ k ih => unfold cCt; rw [ih]; rfl
theorem cl_cFs {S : hs_S} {r : Nat} (k : Nat) : cFs (hs_cl S) r k = cFs S r k := by
  induction k with
  | zero => rfl
  | succ k ih => unfold cFs; rw [ih]; rfl
theorem cl_cOw {S : hs_S} {o c : Int32} (k : Nat) : cOw (hs_cl S) o c k = cOw S o c k := by
  induction k with
  | zero => rfl
  | succ k ih => unfold cOw; rw [ih]; rfl
theorem cl_cOf {S : hs_S} {o : Int32} (k : Nat) : cOf (hs_cl S) o k = cOf S o k := by
  induction k with
  | zero => rfl
  | succ k ih => unfold cOf; rw [ih]; rfl
theorem cl_cTo {S : hs_S} {r : Nat} {w : Int32} (k : Nat) : cTo (hs_cl S) r w k = cTo S r w k := by
  induction k with
  | zero => rfl
  | succ k ih => unfold cTo; rw [ih]; rfl
theorem cl_cPo {S : hs_S} {r : Nat} (k : Nat) : cPo (hs_cl S) r k = cPo S r k := by
  induction k with
  | zero => rfl
  | succ k ih => unfold cPo; rw [ih]; rfl
theorem cl_cPl {S : hs_S} {r : Nat} {a : Int32} (k : Nat) : cPl (hs_cl S) r a k = cPl S r a k := by
  induction k with
  | zero => rfl
  | succ k ih => unfold cPl; rw [ih]; rfl
theorem cl_cPa {S : hs_S} {r : Nat} {a : Int32} (k : Nat) : cPa (hs_cl S) r a k = cPa S r a k := by
  induction k with
  | zero => rfl
  | succ k ih => unfold cPa; rw [ih]; rfl
theorem cl_cForm {S : hs_S} {e c : Int32} (k : Nat) : cForm (hs_cl S) e c k = cForm S e c k := by
  induction k with
  | zero => rfl
  | succ k ih => unfold cForm; rw [ih]; rfl
theorem cl_cBA {S : hs_S} {c e : Int32} (k : Nat) : cBA (hs_cl S) c e k = cBA S c e k := by
  induction k with
  | zero => rfl
  | succ k ih => unfold cBA; rw [ih]; rfl
theorem cl_cLs {S : hs_S} {c e : Int32} (k : Nat) : cLs (hs_cl S) c e k = cLs S c e k := by
  induction k with
  | zero => rfl
  | succ k ih => unfold cLs; rw [ih]; rfl
theorem cl_cLC {S : hs_S} {i : Nat} {w : Int32} {f : Nat} (k : Nat) : cLC (hs_cl S) i w f k = cLC S i w f k := by
  induction k with
  | zero => rfl
  | succ k ih => unfold cLC; rw [ih]; rfl
theorem cl_F_Rts_ownedBy {S : hs_S} {i : Nat} {a : Int32} : F_Rts_ownedBy i a (hs_cl S) = F_Rts_ownedBy i a S := cl_cOC _
theorem cl_F_Sht_countOf {S : hs_S} {a : Int32} : F_Sht_countOf a (hs_cl S) = F_Sht_countOf a S := cl_cEO _
theorem cl_F_Sht_placed {S : hs_S} {a b : Int32} : F_Sht_placed a b (hs_cl S) = F_Sht_placed a b S := cl_cPlc _
theorem cl_F_Sht_counting {S : hs_S} {a b : Int32} : F_Sht_counting a b (hs_cl S) = F_Sht_counting a b S := cl_cCt _
theorem cl_F_Book_feesOf {S : hs_S} {r : Nat} : F_Book_feesOf r (hs_cl S) = F_Book_feesOf r S := cl_cFs _
theorem cl_F_Book_owedBy {S : hs_S} {a b : Int32} : F_Book_owedBy a b (hs_cl S) = F_Book_owedBy a b S := cl_cOw _
theorem cl_F_Book_offeredBy {S : hs_S} {a : Int32} : F_Book_offeredBy a (hs_cl S) = F_Book_offeredBy a S := cl_cOf _
theorem cl_F_Clr_totalOf {S : hs_S} {r : Nat} {a : Int32} : F_Clr_totalOf r a (hs_cl S) = F_Clr_totalOf r a S := cl_cTo _
theorem cl_F_Ldg_dueOf {S : hs_S} {a b : Int32} : F_Ldg_dueOf a b (hs_cl S) = F_Ldg_dueOf a b S := by
  unfold F_Ldg_dueOf; rw [cl_F_Book_owedBy]; rfl
theorem cl_cEx {S : hs_S} {o : Int32} (k : Nat) : cEx (hs_cl S) o k = cEx S o k := by
  induction k with
  | zero => exact cl_F_Book_offeredBy
  | succ k ih => unfold cEx; rw [ih, cl_F_Ldg_dueOf]
theorem cl_F_Ldg_exposureOf {S : hs_S} {a : Int32} : F_Ldg_exposureOf a (hs_cl S) = F_Ldg_exposureOf a S := cl_cEx _
theorem cl_F_Clr_partByOrder {S : hs_S} {r : Nat} : F_Clr_partByOrder r (hs_cl S) = F_Clr_partByOrder r S := by
  unfold F_Clr_partByOrder; rw [cl_cPo]; rfl
theorem cl_F_Clr_partByShares {S : hs_S} {r : Nat} {a : Int32} : F_Clr_partByShares r a (hs_cl S) = F_Clr_partByShares r a S := by
  unfold F_Clr_partByShares; rw [cl_cPl, cl_cPa]; rfl
theorem cl_cPart {S : hs_S} {r b : Nat} {t0 t1 : Int32} : cPart (hs_cl S) r t0 t1 b = cPart S r t0 t1 b := by
  unfold cPart; rw [cl_F_Clr_partByOrder, cl_F_Clr_partByShares, cl_F_Clr_partByShares]; rfl
theorem cl_F_Cq_round {S : hs_S} {a b : Int32} : F_Cq_round a b (hs_cl S) = F_Cq_round a b S := by
  unfold F_Cq_round
  have e : F_Cq_roundNumbered a (hs_cl S) = F_Cq_roundNumbered a S := rfl
  rw [e, cl_F_Book_feesOf]; rfl
theorem cl_F_Cq_edits {S : hs_S} {a b : Int32} : F_Cq_edits a b (hs_cl S) = F_Cq_edits a b S := cl_F_Sht_countOf
section
variable {S U : hs_S}
theorem tw_Rts_ownedBy {i : Nat} {a : Int32} (h : hs_cl S = hs_cl U) : F_Rts_ownedBy i a S = F_Rts_ownedBy i a U := by rw [← cl_F_Rts_ownedBy (S := S), h, cl_F_Rts_ownedBy]
theorem tw_Sht_countOf {a : Int32} (h : hs_cl S = hs_cl U) : F_Sht_countOf a S = F_Sht_countOf a U := by rw [← cl_F_Sht_countOf (S := S), h, cl_F_Sht_countOf]
theorem tw_Sht_placed {a b : Int32} (h : hs_cl S = hs_cl U) : F_Sht_placed a b S = F_Sht_placed a b U := by rw [← cl_F_Sht_placed (S := S), h, cl_F_Sht_placed]
theorem tw_Sht_counting {a b : Int32} (h : hs_cl S = hs_cl U) : F_Sht_counting a b S = F_Sht_counting a b U := by rw [← cl_F_Sht_counting (S := S), h, cl_F_Sht_counting]
theorem tw_Book_feesOf {r : Nat} (h : hs_cl S = hs_cl U) : F_Book_feesOf r S = F_Book_feesOf r U := by rw [← cl_F_Book_feesOf (S := S), h, cl_F_Book_feesOf]
theorem tw_Book_owedBy {a b : Int32} (h : hs_cl S = hs_cl U) : F_Book_owedBy a b S = F_Book_owedBy a b U := by rw [← cl_F_Book_owedBy (S := S), h, cl_F_Book_owedBy]
theorem tw_Book_offeredBy {a : Int32} (h : hs_cl S = hs_cl U) : F_Book_offeredBy a S = F_Book_offeredBy a U := by rw [← cl_F_Book_offeredBy (S := S), h, cl_F_Book_offeredBy]
theorem tw_Clr_totalOf {r : Nat} {a : Int32} (h : hs_cl S = hs_cl U) : F_Clr_totalOf r a S = F_Clr_totalOf r a U := by rw [← cl_F_Clr_totalOf (S := S), h, cl_F_Clr_totalOf]
theorem tw_Ldg_dueOf {a b : Int32} (h : hs_cl S = hs_cl U) : F_Ldg_dueOf a b S = F_Ldg_dueOf a b U := by rw [← cl_F_Ldg_dueOf (S := S), h, cl_F_Ldg_dueOf]
theorem tw_Ldg_exposureOf {a : Int32} (h : hs_cl S = hs_cl U) : F_Ldg_exposureOf a S = F_Ldg_exposureOf a U := by rw [← cl_F_Ldg_exposureOf (S := S), h, cl_F_Ldg_exposureOf]
theorem tw_Cq_round {a b : Int32} (h : hs_cl S = hs_cl U) : F_Cq_round a b S = F_Cq_round a b U := by rw [← cl_F_Cq_round (S := S), h, cl_F_Cq_round]
theorem tw_Cq_edits {a b : Int32} (h : hs_cl S = hs_cl U) : F_Cq_edits a b S = F_Cq_edits a b U := by rw [← cl_F_Cq_edits (S := S), h, cl_F_Cq_edits]
theorem tw_C_events  (h : hs_cl S = hs_cl U) : F_C_events  S = F_C_events  U := by
  have e : F_C_events  (hs_cl S) = F_C_events  (hs_cl U) := by rw [h]
  exact e
theorem tw_Cq_cash {a : Int32} (h : hs_cl S = hs_cl U) : F_Cq_cash a S = F_Cq_cash a U := by
  have e : F_Cq_cash a (hs_cl S) = F_Cq_cash a (hs_cl U) := by rw [h]
  exact e
theorem tw_Cq_got {a : Int32} (h : hs_cl S = hs_cl U) : F_Cq_got a S = F_Cq_got a U := by
  have e : F_Cq_got a (hs_cl S) = F_Cq_got a (hs_cl U) := by rw [h]
  exact e
theorem tw_Cq_ownerOf {a b : Int32} (h : hs_cl S = hs_cl U) : F_Cq_ownerOf a b S = F_Cq_ownerOf a b U := by
  have e : F_Cq_ownerOf a b (hs_cl S) = F_Cq_ownerOf a b (hs_cl U) := by rw [h]
  exact e
theorem tw_Cq_reads {a b c : Int32} (h : hs_cl S = hs_cl U) : F_Cq_reads a b c S = F_Cq_reads a b c U := by
  have e : F_Cq_reads a b c (hs_cl S) = F_Cq_reads a b c (hs_cl U) := by rw [h]
  exact e
theorem tw_Cq_isFrozen {a : Int32} (h : hs_cl S = hs_cl U) : F_Cq_isFrozen a S = F_Cq_isFrozen a U := by
  have e : F_Cq_isFrozen a (hs_cl S) = F_Cq_isFrozen a (hs_cl U) := by rw [h]
  exact e
theorem tw_Rnd_wasFrozen {i : Nat} (h : hs_cl S = hs_cl U) : F_Rnd_wasFrozen i S = F_Rnd_wasFrozen i U := by
  have e : F_Rnd_wasFrozen i (hs_cl S) = F_Rnd_wasFrozen i (hs_cl U) := by rw [h]
  exact e
theorem tw_Rnd_isCleared {i : Nat} (h : hs_cl S = hs_cl U) : F_Rnd_isCleared i S = F_Rnd_isCleared i U := by
  have e : F_Rnd_isCleared i (hs_cl S) = F_Rnd_isCleared i (hs_cl U) := by rw [h]
  exact e
theorem tw_Rts_canRead {i : Nat} {a b : Int32} (h : hs_cl S = hs_cl U) : F_Rts_canRead i a b S = F_Rts_canRead i a b U := by
  have e : F_Rts_canRead i a b (hs_cl S) = F_Rts_canRead i a b (hs_cl U) := by rw [h]
  exact e
theorem tw_csum (h : hs_cl S = hs_cl U) : ∀ k, csum S k = csum U k := by
  intro k
  induction k with
  | zero => rfl
  | succ k ih =>
    show csum S k + S.1 36 1 k = csum U k + U.1 36 1 k
    rw [ih, cl_pt h rfl]
theorem tw_sz (h : hs_cl S = hs_cl U) (t : Nat) (ht : hs_scR t 0 = false) : hs_sz S t = hs_sz U t := cl_ptR h ht
theorem cg_I {t i p : Nat} {x y : Int32} (h : hs_cl S = hs_cl U) (e : x = y) : hs_cl (hs_wI S t i p x) = hs_cl (hs_wI U t i p y) := by
  subst e
  refine Prod.ext (funext fun a => funext fun b => funext fun c => ?_) (by have z := congrArg Prod.snd h; exact z)
  have q : (if hs_scr a c = true then 0 else S.1 a b c) = if hs_scr a c = true then 0 else U.1 a b c := congrFun (congrFun (congrFun (congrArg Prod.fst h) a) b) c
  show (if hs_scr a c = true then (0 : Int32) else if a = t ∧ b = i ∧ c = p then x else S.1 a b c) = if hs_scr a c = true then 0 else if a = t ∧ b = i ∧ c = p then x else U.1 a b c
  by_cases w : hs_scr a c = true
  · rw [if_pos w, if_pos w]
  · rw [if_neg w, if_neg w] at q ⊢
    rw [q]
theorem cg_R {t i p x y : Nat} (h : hs_cl S = hs_cl U) (e : x = y) : hs_cl (hs_wR S t i p x) = hs_cl (hs_wR U t i p y) := by
  subst e
  refine Prod.ext (by have z := congrArg Prod.fst h; exact z) (Prod.ext (funext fun a => funext fun b => funext fun c => ?_) (by have z := congrArg (fun z => z.2.2) h; exact z))
  have q : (if hs_scR a c = true then 0 else S.2.1 a b c) = if hs_scR a c = true then 0 else U.2.1 a b c := congrFun (congrFun (congrFun (congrArg (fun z => z.2.1) h) a) b) c
  show (if hs_scR a c = true then (0 : Nat) else if a = t ∧ b = i ∧ c = p then x else S.2.1 a b c) = if hs_scR a c = true then 0 else if a = t ∧ b = i ∧ c = p then x else U.2.1 a b c
  by_cases w : hs_scR a c = true
  · rw [if_pos w, if_pos w]
  · rw [if_neg w, if_neg w] at q ⊢
    rw [q]
theorem tw_N (h : hs_cl S = hs_cl U) (t : Nat) : S.2.2.2 t = U.2.2.2 t := congrFun (congrArg (fun z => z.2.2.2) h) t
theorem cg_nw {t : Nat} (h : hs_cl S = hs_cl U) : hs_cl (hs_nw S t) = hs_cl (hs_nw U t) := by
  have eN := tw_N h
  refine Prod.ext (funext fun a => funext fun b => funext fun c => ?_) (Prod.ext (funext fun a => funext fun b => funext fun c => ?_) (Prod.ext (funext fun a => funext fun b => funext fun c => ?_) (funext fun a => ?_)))
  · have q : (if hs_scr a c = true then 0 else S.1 a b c) = if hs_scr a c = true then 0 else U.1 a b c := congrFun (congrFun (congrFun (congrArg Prod.fst h) a) b) c
    show (if hs_scr a c = true then (0 : Int32) else if a = t ∧ b = S.2.2.2 t + 1 then 0 else S.1 a b c) = if hs_scr a c = true then 0 else if a = t ∧ b = U.2.2.2 t + 1 then 0 else U.1 a b c
    rw [eN]
    by_cases w : hs_scr a c = true
    · rw [if_pos w, if_pos w]
    · rw [if_neg w, if_neg w] at q ⊢
      rw [q]
  · have q : (if hs_scR a c = true then 0 else S.2.1 a b c) = if hs_scR a c = true then 0 else U.2.1 a b c := congrFun (congrFun (congrFun (congrArg (fun z => z.2.1) h) a) b) c
    show (if hs_scR a c = true then (0 : Nat) else if a = t ∧ b = S.2.2.2 t + 1 then 0 else S.2.1 a b c) = if hs_scR a c = true then 0 else if a = t ∧ b = U.2.2.2 t + 1 then 0 else U.2.1 a b c
    rw [eN]
    by_cases w : hs_scR a c = true
    · rw [if_pos w, if_pos w]
    · rw [if_neg w, if_neg w] at q ⊢
      rw [q]
  · have q : S.2.2.1 a b c = U.2.2.1 a b c := congrFun (congrFun (congrFun (congrArg (fun z => z.2.2.1) h) a) b) c
    show (if a = t ∧ b = S.2.2.2 t + 1 then 0 else S.2.2.1 a b c) = if a = t ∧ b = U.2.2.2 t + 1 then 0 else U.2.2.1 a b c
    rw [eN, q]
  · show (if a = t then S.2.2.2 t + 1 else S.2.2.2 a) = if a = t then U.2.2.2 t + 1 else U.2.2.2 a
    rw [eN, eN]
theorem cg_add {t r r' : Nat} (h : hs_cl S = hs_cl U) (ht : hs_scR t 0 = false) (e : r = r') : hs_cl (hs_add S t r) = hs_cl (hs_add U t r') := by
  subst e
  have ez : S.2.1 t 2 0 = U.2.1 t 2 0 := cl_ptR h ht
  refine Prod.ext (by have z := congrArg Prod.fst h; exact z) (Prod.ext (funext fun a => funext fun b => funext fun c => ?_) (by have z := congrArg (fun z => z.2.2) h; exact z))
  have q : (if hs_scR a c = true then 0 else S.2.1 a b c) = if hs_scR a c = true then 0 else U.2.1 a b c := congrFun (congrFun (congrFun (congrArg (fun z => z.2.1) h) a) b) c
  show (if hs_scR a c = true then (0 : Nat) else if a = t ∧ b = 1 ∧ c = S.2.1 t 2 0 then r else if a = t ∧ b = 2 ∧ c = 0 then S.2.1 t 2 0 + 1 else S.2.1 a b c) = if hs_scR a c = true then 0 else if a = t ∧ b = 1 ∧ c = U.2.1 t 2 0 then r else if a = t ∧ b = 2 ∧ c = 0 then U.2.1 t 2 0 + 1 else U.2.1 a b c
  rw [ez]
  by_cases w : hs_scR a c = true
  · rw [if_pos w, if_pos w]
  · rw [if_neg w, if_neg w] at q ⊢
    rw [q]
theorem cg_row {t j : Nat} {q q' : Nat → Int32} (h : hs_cl S = hs_cl U) (e : q = q') : hs_cl (hs_row S t j q) = hs_cl (hs_row U t j q') := by
  subst e
  refine Prod.ext (funext fun a => funext fun b => funext fun c => ?_) (by have z := congrArg Prod.snd h; exact z)
  have w : (if hs_scr a c = true then 0 else S.1 a b c) = if hs_scr a c = true then 0 else U.1 a b c := congrFun (congrFun (congrFun (congrArg Prod.fst h) a) b) c
  show (if hs_scr a c = true then (0 : Int32) else if a = t ∧ b = j then q c else S.1 a b c) = if hs_scr a c = true then 0 else if a = t ∧ b = j then q c else U.1 a b c
  by_cases z : hs_scr a c = true
  · rw [if_pos z, if_pos z]
  · rw [if_neg z, if_neg z] at w ⊢
    rw [w]
theorem cg_cpy {t i i' : Nat} {a b w : Int32} (h : hs_cl S = hs_cl U) (ht : ∀ p, hs_scr t p = false) : hs_cl (hs_cpy S t i t i' a b w) = hs_cl (hs_cpy U t i t i' a b w) := by
  have e1 : ∀ j, S.1 t j = U.1 t j := fun j => funext fun p => cl_pt h (ht p)
  refine Prod.ext (funext fun x => funext fun y => funext fun z => ?_) (by have z := congrArg Prod.snd h; exact z)
  have q : (if hs_scr x z = true then 0 else S.1 x y z) = if hs_scr x z = true then 0 else U.1 x y z := congrFun (congrFun (congrFun (congrArg Prod.fst h) x) y) z
  show (if hs_scr x z = true then (0 : Int32) else if x = t ∧ y = i' then va_cpy (S.1 t i) (S.1 t i') a.toNatClampNeg b.toNatClampNeg w.toNatClampNeg z else S.1 x y z) = if hs_scr x z = true then 0 else if x = t ∧ y = i' then va_cpy (U.1 t i) (U.1 t i') a.toNatClampNeg b.toNatClampNeg w.toNatClampNeg z else U.1 x y z
  rw [e1, e1]
  by_cases w : hs_scr x z = true
  · rw [if_pos w, if_pos w]
  · rw [if_neg w, if_neg w] at q ⊢
    rw [q]
/-- states that are the same but for scratch, point by point -/
theorem cl_of (h1 : ∀ t i p, hs_scr t p = false → S.1 t i p = U.1 t i p) (h2 : ∀ t i p, hs_scR t p = false → S.2.1 t i p = U.2.1 t i p) (h3 : S.2.2 = U.2.2) : hs_cl S = hs_cl U := by
  refine Prod.ext (funext fun t => funext fun i => funext fun p => ?_) (Prod.ext (funext fun t => funext fun i => funext fun p => ?_) h3)
  · show (if hs_scr t p = true then (0 : Int32) else S.1 t i p) = if hs_scr t p = true then 0 else U.1 t i p
    by_cases w : hs_scr t p = true
    · rw [if_pos w, if_pos w]
    · rw [if_neg w, if_neg w]
      exact h1 t i p (by cases z : hs_scr t p with | true => exact absurd z w | false => rfl)
  · show (if hs_scR t p = true then (0 : Nat) else S.2.1 t i p) = if hs_scR t p = true then 0 else U.2.1 t i p
    by_cases w : hs_scR t p = true
    · rw [if_pos w, if_pos w]
    · rw [if_neg w, if_neg w]
      exact h2 t i p (by cases z : hs_scR t p with | true => exact absurd z w | false => rfl)
end
