/-! the model's tests and casts, told by bits -/
theorem k3_ne {k : Int32} (hk : k = 2 ∨ k = 3) (h : ¬ k = 2) : k = 3 := hk.resolve_left h
theorem okR_3 (t : Int64) : okR 3 t ↔ mgN 3 t ≤ infN 3 := by
  rw [okR3 (by decide), FP.Core.ne_nan, mg64 (by decide)]; rfl
theorem num_eq (t : Int64) : fX8_isNumber t = true ↔ okR 3 t := by
  rw [okR_3]
  unfold fX8_isNumber
  have e : t &&& 9223372036854775807 = lN (mgN 3 t) := by rw [← sizeOf_eq]; rfl
  rw [e, show (9218868437227405312 : Int64) = lN (infN 3) by decide]
  have i63 : infN 3 < 2 ^ 63 := by decide
  by_cases h : infN 3 < mgN 3 t
  · rw [if_pos ((lgc_gt (mg_lt63 3 t) i63).mpr h)]; exact iff_of_false (by decide) (by omega)
  · rw [if_neg (fun h1 => h ((lgc_gt (mg_lt63 3 t) i63).mp h1))]; exact iff_of_true rfl (by omega)
theorem flt_eq (x : Int32) : fX8_isFloat x = true ↔ FP.Core.val32 x.toUInt32 ≠ .nan := by
  rw [FP.Core.ne_nan32]
  unfold fX8_isFloat
  have e : (x &&& 2147483647).toInt = ((x.toUInt32.toNat % 2 ^ 31 : Nat) : Int) := by
    obtain ⟨n, hn, rfl⟩ := wb_of32 x
    have h1 := pk_andN hn (m := 2147483647) 31 (by decide)
    rw [h1, nI_toInt (by omega)]
    congr 2
    exact (pk_tn hn).symm
  have h2 : (2139095040 : Int32).toInt = 2139095040 := rfl
  by_cases h : 2139095040 < x.toUInt32.toNat % 2 ^ 31
  · rw [if_pos (by rw [Int32.lt_iff_toInt_lt, e, h2]; omega)]; exact iff_of_false (by decide) (by omega)
  · rw [if_neg (by rw [Int32.lt_iff_toInt_lt, e, h2]; omega)]; exact iff_of_true rfl (by omega)
theorem zv_inf : zv 9218868437227405312 = ((FP.Core.b64.tails * 2 ^ (FP.Core.b64.exps - 2) : Nat) : Int) := by
  unfold zv; rw [show FP.Core.val64 9218868437227405312 = .inf false by decide +kernel]; rfl
theorem zv_ninf : zv 18442240474082181120 = -((FP.Core.b64.tails * 2 ^ (FP.Core.b64.exps - 2) : Nat) : Int) := by
  unfold zv; rw [show FP.Core.val64 18442240474082181120 = .inf true by decide +kernel]; rfl
theorem pv_top {k : Int32} {m : Nat} (hm : m ≤ infN k) : (zv (pv k m) = ((FP.Core.b64.tails * 2 ^ (FP.Core.b64.exps - 2) : Nat) : Int) ↔ m = infN k) := by
  unfold zv
  rcases szH hm with ⟨h, hv⟩ | ⟨h, hv⟩ | ⟨h, h1, hv⟩
  · refine iff_of_false ?_ (by rw [h]; unfold infN; split <;> decide)
    rw [hv]; show ((FP.Core.inUnits 0 (-1074) FP.Core.b64.qmin : Nat) : Int) ≠ _
    unfold FP.Core.inUnits; rw [Nat.zero_mul]
    have := Nat.mul_pos (FP.Core.tails_pos FP.Core.b64) (Nat.two_pow_pos (FP.Core.b64.exps - 2))
    omega
  · refine iff_of_true ?_ h
    rw [hv]; rfl
  · refine iff_of_false ?_ (by omega)
    rw [dE_zval hv (whole_lt53 _ _) (ex_lo _ _) (ex_hi2 h1)]
    have a1 := whole_lt53 k m
    have a2 := ex_hi2 h1
    have a3 : wholeN k m * 2 ^ (exN k m + 1074).toNat < 2 ^ 53 * 2 ^ 2045 :=
      Nat.lt_of_lt_of_le (Nat.mul_lt_mul_of_pos_right a1 (Nat.two_pow_pos _)) (Nat.mul_le_mul_left _ (Nat.pow_le_pow_right (by decide) (by omega)))
    have a4 : FP.Core.b64.tails * 2 ^ (FP.Core.b64.exps - 2) = 2 ^ 53 * 2 ^ 2045 := by
      rw [fm_tails64, show FP.Core.b64.exps - 2 = 2046 by decide, ← Nat.pow_add, ← Nat.pow_add]
    rw [a4]
    generalize wholeN k m * 2 ^ (exN k m + 1074).toNat = X at *
    generalize 2 ^ 53 * 2 ^ 2045 = Y at *
    omega
theorem cmpz {d e : UInt64} {op : CmpOp} (h : FP.Core.val64 d ≠ .nan) (h2 : FP.Core.val64 e ≠ .nan) : Op.cmpValue (FP.dcmp d e) op = 0 ↔ zv d = zv e := by
  rw [show FP.dcmp d e = some (compare (zv d) (zv e)) from FP.Core.dcmp_zval h h2, cv_eq]
theorem endl_eq {k : Int32} {b : Int64} (h : okR k b) : fX8_isEndless (vl k b) = true ↔ mgN k b = infN k := by
  unfold fX8_isEndless
  have n1 : FP.Core.val64 9218868437227405312 ≠ .nan := by decide +kernel
  have n2 : FP.Core.val64 18442240474082181120 ≠ .nan := by decide +kernel
  have t := pv_top (okR_le h)
  have p := (zv_pv (okR_le h))
  have hT := Nat.mul_pos (FP.Core.tails_pos FP.Core.b64) (Nat.two_pow_pos (FP.Core.b64.exps - 2))
  have c1 := cmpz (op := CmpOp.l) (vl_nn h) n1
  have c2 := cmpz (op := CmpOp.l) (vl_nn h) n2
  rw [zv_inf] at c1
  rw [zv_ninf] at c2
  rw [vl_pv h] at *
  generalize FP.Core.b64.tails * 2 ^ (FP.Core.b64.exps - 2) = T at *
  have hnn : 0 ≤ zv (pv k (mgN k b)) := by
    by_cases h0 : mgN k b = 0
    · rw [p.1 h0]; decide
    · have := p.2 (by omega); omega
  by_cases hb : b < 0
  · rw [if_pos hb] at *
    rw [zv_neg] at c1 c2
    rw [if_neg (fun g => by have := c1.mp g; omega)]
    by_cases hi : mgN k b = infN k
    · rw [if_pos (c2.mpr (by rw [t.mpr hi]))]; exact iff_of_true rfl hi
    · rw [if_neg (fun g => hi (t.mp (by have := c2.mp g; omega)))]; exact iff_of_false (by decide) hi
  · rw [if_neg hb] at *
    by_cases hi : mgN k b = infN k
    · rw [if_pos (c1.mpr (t.mpr hi))]; exact iff_of_true rfl hi
    · rw [if_neg (fun g => hi (t.mp (c1.mp g))), if_neg (fun g => by have := c2.mp g; omega)]; exact iff_of_false (by decide) hi
theorem zero_eq {k : Int32} {b : Int64} {op : CmpOp} (h : okR k b) : Op.cmpValue (FP.dcmp (vl k b) FP.dconst0) op = 0 ↔ mgN k b = 0 := by
  rw [cmp0 (vl_nn h), cv_eq]; exact (zv_sign h).2.2
theorem nrw_3 {k : Int32} (hk : k = 2 ∨ k = 3) {t : Int64} (h : okR 3 t) : nrw k t.toUInt64 = vl k (cst 3 t k) := by
  rcases hk with rfl | rfl
  · show FP.f2d (FP.d2f t.toUInt64) = vl 2 (fB (FP.d2f t.toUInt64))
    rw [vl_fB]
  · rfl
theorem cst_ok3 {k : Int32} (hk : k = 2 ∨ k = 3) {t : Int64} (h : okR 3 t) : okR k (cst 3 t k) := by
  rcases hk with rfl | rfl
  · exact okR_fB (fm_d2fn ((okR3 (by decide)).mp h))
  · exact h
/-! representation: a whole, or a double -/
def okB (k : Int32) (b : Int64) : Prop := if k = 0 then b = b.toInt32.toInt64 else if k = 1 then True else okR k b
def rep (k : Int32) (b : Int64) (w : Int64) (r : UInt64) : Prop := if 2 ≤ k then r = vl k b else w = b
def isK (k : Int32) : Prop := k = 0 ∨ k = 1 ∨ k = 2 ∨ k = 3
theorem isK_of {k : Int32} (h : fX8_isKind k = true) : isK k := by
  unfold fX8_isKind fX8_isIn at h
  by_cases h1 : k < 0
  · rw [if_pos h1] at h; cases h
  · rw [if_neg h1] at h
    by_cases h2 : (3 : Int32) < k
    · rw [if_pos h2] at h; cases h
    · rw [Int32.lt_iff_toInt_lt] at h1 h2
      have e0 : (0 : Int32).toInt = 0 := rfl
      have e3 : (3 : Int32).toInt = 3 := rfl
      have : k.toInt = 0 ∨ k.toInt = 1 ∨ k.toInt = 2 ∨ k.toInt = 3 := by omega
      rcases this with g | g | g | g
      · exact Or.inl (Int32.toInt_inj.mp g)
      · exact Or.inr (Or.inl (Int32.toInt_inj.mp g))
      · exact Or.inr (Or.inr (Or.inl (Int32.toInt_inj.mp g)))
      · exact Or.inr (Or.inr (Or.inr (Int32.toInt_inj.mp g)))
theorem rep_nn {k : Int32} {b w : Int64} {r : UInt64} (hk : isK k) (hb : okB k b) (h : rep k b w r) : 2 ≤ k → FP.Core.val64 r ≠ .nan := by
  intro g
  unfold rep at h; rw [if_pos g] at h; rw [h]
  rcases hk with rfl | rfl | rfl | rfl
  · exact absurd g (by decide)
  · exact absurd g (by decide)
  · exact vl_nn hb
  · exact vl_nn hb
theorem cst_okB {k t : Int32} {b : Int64} (hk : isK k) (ht : isK t) (hb : okB k b) : okB t (cst k b t) := by
  have e1 : ∀ x : Int32, x.toInt64 = x.toInt64.toInt32.toInt64 := fun x => by rw [Int32.toInt32_toInt64]
  rcases hk with rfl | rfl | rfl | rfl <;> rcases ht with rfl | rfl | rfl | rfl
  · exact hb
  · exact trivial
  · exact okR_fB (l2f_nn b)
  · exact okR_d (l2d_nn b)
  · exact e1 _
  · exact trivial
  · exact okR_fB (l2f_nn b)
  · exact okR_d (l2d_nn b)
  · exact e1 _
  · exact trivial
  · exact hb
  · exact okR_d (vl_nn hb)
  · exact e1 _
  · exact trivial
  · exact okR_fB (fm_d2fn (vl_nn hb))
  · exact hb
theorem rep_cast {k t : Int32} {b w : Int64} {r : UInt64} (hk : isK k) (ht : isK t) (hb : okB k b) (h : rep k b w r) : rep t (cst k b t) (mcW k w r t) (mcR k w r t) := by
  have e1 : ∀ x : Int32, x.toInt64.toInt32.toInt64 = x.toInt64 := fun x => by rw [Int32.toInt32_toInt64]
  rcases hk with rfl | rfl | rfl | rfl <;> rcases ht with rfl | rfl | rfl | rfl
  · have h : w = b := h
    show w.toInt32.toInt64 = b
    rw [h]; exact hb.symm
  · exact h
  · have h : w = b := h
    show FP.f2d (FP.l2f w) = vl 2 (fB (FP.l2f b))
    rw [vl_fB, h]
  · have h : w = b := h
    show FP.l2d w = (FP.l2d b)
    rw [h]
  · have h : w = b := h
    show w.toInt32.toInt64 = b.toInt32.toInt64
    rw [h]
  · exact h
  · have h : w = b := h
    show FP.f2d (FP.l2f w) = vl 2 (fB (FP.l2f b))
    rw [vl_fB, h]
  · have h : w = b := h
    show FP.l2d w = (FP.l2d b)
    rw [h]
  · have h : r = vl 2 b := h
    show (FP.d2i r).toInt64.toInt32.toInt64 = (FP.d2i (vl 2 b)).toInt64
    rw [h, e1]
  · have h : r = vl 2 b := h
    show FP.d2l r = FP.d2l (vl 2 b)
    rw [h]
  · have h : r = vl 2 b := h
    show FP.f2d (FP.d2f r) = vl 2 b
    rw [h, d2f_vl rfl hb]; rfl
  · have h : r = vl 2 b := h
    show r = vl 3 (vl 2 b).toInt64
    rw [h, vl_d]
  · have h : r = vl 3 b := h
    show (FP.d2i r).toInt64.toInt32.toInt64 = (FP.d2i (vl 3 b)).toInt64
    rw [h, e1]
  · have h : r = vl 3 b := h
    show FP.d2l r = FP.d2l (vl 3 b)
    rw [h]
  · have h : r = vl 3 b := h
    show FP.f2d (FP.d2f r) = vl 2 (fB (FP.d2f (vl 3 b)))
    rw [h, vl_fB]
  · exact h
theorem nn_nan {d : UInt64} (h : FP.Core.val64 d ≠ .nan) : ¬ fJxe99ae_isNaN_b9ae7 d = true := by
  unfold fJxe99ae_isNaN_b9ae7
  rw [if_pos ((cmpz h h).mpr rfl)]; decide
theorem nn_nan32 {d : UInt32} (h : FP.Core.val32 d ≠ .nan) : ¬ fJxf58ca_isNaN_12338 d = true := by
  unfold fJxf58ca_isNaN_12338
  rw [show FP.fcmp d d = some .eq from FP.Core.fcmp_self h, if_pos (show Op.cmpValue (some Ordering.eq) CmpOp.l = 0 from rfl)]; decide
theorem rep_bits {k : Int32} {b w : Int64} {r : UInt64} (hk : isK k) (hb : okB k b) (h : rep k b w r) : mbt k w r = b := by
  rcases hk with rfl | rfl | rfl | rfl
  · exact h
  · exact h
  · have h : r = vl 2 b := h
    show (fJxf58ca_floatToIntBits_5c35a (FP.d2f r)).toInt64 = b
    rw [h, d2f_vl rfl hb]
    unfold fJxf58ca_floatToIntBits_5c35a
    rw [if_neg (nn_nan32 (okR2 hb).2)]
    exact (okR2 hb).1
  · have h : r = vl 3 b := h
    show fJxe99ae_doubleToLongBits_ccdee r = b
    rw [h]
    unfold fJxe99ae_doubleToLongBits_ccdee
    rw [if_neg (nn_nan (vl_nn (k := 3) (b := b) hb))]; rfl
/-- bits as they are told -/
def told (k : Int32) (b : Int64) : Int64 := if k = 0 ∨ k = 2 then b.toInt32.toInt64 else b
theorem rep_told {k : Int32} {b : Int64} (hk : isK k) (h2 : k = 2 → FP.Core.val32 b.toInt32.toUInt32 ≠ .nan) (h3 : k = 3 → okR 3 b) : okB k (told k b) ∧ rep k (told k b) (hbW k b) (hbR k b) := by
  have e1 : b.toInt32.toInt64 = b.toInt32.toInt64.toInt32.toInt64 := by rw [Int32.toInt32_toInt64]
  rcases hk with rfl | rfl | rfl | rfl
  · exact ⟨e1, rfl⟩
  · exact ⟨trivial, rfl⟩
  · refine ⟨⟨e1, ?_⟩, ?_⟩
    · show FP.Core.val32 (b.toInt32.toInt64).toInt32.toUInt32 ≠ .nan
      rw [Int32.toInt32_toInt64]; exact h2 rfl
    · show FP.f2d b.toInt32.toUInt32 = FP.f2d (b.toInt32.toInt64).toInt32.toUInt32
      rw [Int32.toInt32_toInt64]
  · exact ⟨h3 rfl, rfl⟩
/-! what comes to no number -/
theorem is_inf64 {b : Int64} (hb : okR 3 b) (s : Bool) : FP.Core.val64 b.toUInt64 = .inf s ↔ mgN 3 b = infN 3 ∧ s = decide (b < 0) := by
  have hm := mg64 (k := 3) (by decide) b
  have hs := FP.Core.sgn_bits ((okR3 (by decide)).mp hb)
  have hn := neg64 b
  have mg : FP.Core.mag FP.Core.b64 b.toUInt64.toNat = mgN 3 b := by rw [FP.Core.mag_toNat64, hm]
  have hi : infN 3 = FP.Core.infBits FP.Core.b64 := by rw [FP.Core.infBits_b64]; rfl
  constructor
  · intro h
    have h1 : mgN 3 b = infN 3 := by
      rcases Nat.lt_or_ge (mgN 3 b) (infN 3) with g | g
      · exfalso
        obtain ⟨c, q, h2, -⟩ := FP.Core.decode_fin (f := FP.Core.b64) (n := b.toUInt64.toNat) (by rw [mg, ← hi]; exact g)
        unfold FP.Core.val64 at h; rw [h2] at h; cases h
      · have := okR_le hb; omega
    refine ⟨h1, ?_⟩
    rw [h] at hs
    rw [show s = FP.Core.sgn (.inf s) from rfl, hs]
    exact decide_eq_decide.mpr hn.symm
  · rintro ⟨h1, h2⟩
    have h3 := FP.Core.decode_inf (f := FP.Core.b64) (n := b.toUInt64.toNat) (by rw [mg, h1, hi])
    have h4 : FP.Core.val64 b.toUInt64 = .inf (FP.Core.fieldS FP.Core.b64 b.toUInt64.toNat) := h3
    rw [h4] at hs ⊢
    rw [show FP.Core.fieldS FP.Core.b64 b.toUInt64.toNat = FP.Core.sgn (.inf (FP.Core.fieldS FP.Core.b64 b.toUInt64.toNat)) from rfl, hs, h2]
    congr 1
    exact decide_eq_decide.mpr hn.symm
theorem is_inf32 {b : Int64} (hb : okR 2 b) (s : Bool) : FP.Core.val32 (u32 b) = .inf s ↔ mgN 2 b = infN 2 ∧ s = decide (b < 0) := by
  have hm := mg32 b
  have hs := FP.Core.sgn_bits32 (okR2 hb).2
  have hn := (neg_ext hb.1).trans (neg32 _)
  have mg : FP.Core.mag FP.Core.b32 (u32 b).toNat = mgN 2 b := by rw [FP.Core.mag_toNat32, hm]; rfl
  have hi : infN 2 = FP.Core.infBits FP.Core.b32 := by rw [FP.Core.infBits_b32]; rfl
  constructor
  · intro h
    have h1 : mgN 2 b = infN 2 := by
      rcases Nat.lt_or_ge (mgN 2 b) (infN 2) with g | g
      · exfalso
        obtain ⟨c, q, h2, -⟩ := FP.Core.decode_fin (f := FP.Core.b32) (n := (u32 b).toNat) (by rw [mg, ← hi]; exact g)
        unfold FP.Core.val32 at h; rw [h2] at h; cases h
      · have := okR_le hb; omega
    refine ⟨h1, ?_⟩
    rw [h] at hs
    rw [show s = FP.Core.sgn (.inf s) from rfl, hs]
    exact decide_eq_decide.mpr hn.symm
  · rintro ⟨h1, h2⟩
    have h3 := FP.Core.decode_inf (f := FP.Core.b32) (n := (u32 b).toNat) (by rw [mg, h1, hi])
    have h4 : FP.Core.val32 (u32 b) = .inf (FP.Core.fieldS FP.Core.b32 (u32 b).toNat) := h3
    rw [h4] at hs ⊢
    rw [show FP.Core.fieldS FP.Core.b32 (u32 b).toNat = FP.Core.sgn (.inf (FP.Core.fieldS FP.Core.b32 (u32 b).toNat)) from rfl, hs, h2]
    congr 1
    exact decide_eq_decide.mpr hn.symm
def vd (k w : Int32) (x y : Int64) : Prop :=
  if w = 0 then mgN k x = infN k ∧ mgN k y = infN k ∧ ¬ (x < 0 ↔ y < 0) else
  if w = 1 then mgN k x = infN k ∧ mgN k y = infN k ∧ (x < 0 ↔ y < 0) else
  if w = 2 then (mgN k x = 0 ∧ mgN k y = infN k) ∨ (mgN k x = infN k ∧ mgN k y = 0) else
  if w = 3 then (mgN k x = 0 ∧ mgN k y = 0) ∨ (mgN k x = infN k ∧ mgN k y = infN k) else
  mgN k y = 0 ∨ mgN k x = infN k
theorem dec_ne {p q : Prop} [Decidable p] [Decidable q] : (decide q = !decide p) ↔ ¬ (p ↔ q) := by
  by_cases hp : p <;> by_cases hq : q <;> simp [hp, hq]
theorem dec_e {p q : Prop} [Decidable p] [Decidable q] : (decide p = decide q) ↔ (p ↔ q) := decide_eq_decide
/-- where it isn't void, work comes to a number -/
theorem wk_ok {k w : Int32} (hk : k = 2 ∨ k = 3) {x y : Int64} (hx : okR k x) (hy : okR k y) (hv : ¬ vd k w x y) (hw : w = 0 ∨ w = 1 ∨ w = 2 ∨ w = 3) : okR k (wkB k w x y) := by
  rcases hk with rfl | rfl
  · have nx := (okR2 hx).2
    have ny := (okR2 hy).2
    refine okR_fB ?_
    rw [fm_nn32, ← Bool.not_eq_true]
    rcases hw with rfl | rfl | rfl | rfl
    · show ¬ FP.fIsNaN (FP.fadd (u32 x) (u32 y)) = true
      rw [FP.Core.fadd_nan_iff]
      rintro (h | h | ⟨s, h1, h2⟩)
      · exact nx h
      · exact ny h
      · rw [is_inf32 hx] at h1; rw [is_inf32 hy] at h2
        exact hv ⟨h1.1, h2.1, dec_ne.mp (by rw [← h2.2, h1.2])⟩
    · show ¬ FP.fIsNaN (FP.fsub (u32 x) (u32 y)) = true
      rw [FP.Core.fsub_nan_iff]
      rintro (h | h | ⟨s, h1, h2⟩)
      · exact nx h
      · exact ny h
      · rw [is_inf32 hx] at h1; rw [is_inf32 hy] at h2
        exact hv ⟨h1.1, h2.1, dec_e.mp (by rw [← h2.2, h1.2])⟩
    · show ¬ FP.fIsNaN (FP.fmul (u32 x) (u32 y)) = true
      rw [FP.Core.fmul_nan_iff]
      rintro (h | h | ⟨s, h1, h2⟩ | ⟨s, h1, h2⟩)
      · exact nx h
      · exact ny h
      · rw [is_inf32 hx] at h1; rw [zer2] at h2; exact hv (Or.inr ⟨h1.1, h2⟩)
      · rw [zer2] at h1; rw [is_inf32 hy] at h2; exact hv (Or.inl ⟨h1, h2.1⟩)
    · show ¬ FP.fIsNaN (FP.fdiv (u32 x) (u32 y)) = true
      rw [FP.Core.fdiv_nan_iff]
      rintro (h | h | ⟨s, t, h1, h2⟩ | ⟨h1, h2⟩)
      · exact nx h
      · exact ny h
      · rw [is_inf32 hx] at h1; rw [is_inf32 hy] at h2; exact hv (Or.inr ⟨h1.1, h2.1⟩)
      · rw [zer2] at h1 h2; exact hv (Or.inl ⟨h1, h2⟩)
  · have nx := (okR3 (by decide)).mp hx
    have ny := (okR3 (by decide)).mp hy
    refine okR_d ?_
    rw [fm_nn, ← Bool.not_eq_true]
    rcases hw with rfl | rfl | rfl | rfl
    · show ¬ FP.dIsNaN (FP.dadd x.toUInt64 y.toUInt64) = true
      rw [FP.Core.dadd_nan_iff]
      rintro (h | h | ⟨s, h1, h2⟩)
      · exact nx h
      · exact ny h
      · rw [is_inf64 hx] at h1; rw [is_inf64 hy] at h2
        exact hv ⟨h1.1, h2.1, dec_ne.mp (by rw [← h2.2, h1.2])⟩
    · show ¬ FP.dIsNaN (FP.dsub x.toUInt64 y.toUInt64) = true
      rw [FP.Core.dsub_nan_iff]
      rintro (h | h | ⟨s, h1, h2⟩)
      · exact nx h
      · exact ny h
      · rw [is_inf64 hx] at h1; rw [is_inf64 hy] at h2
        exact hv ⟨h1.1, h2.1, dec_e.mp (by rw [← h2.2, h1.2])⟩
    · show ¬ FP.dIsNaN (FP.dmul x.toUInt64 y.toUInt64) = true
      rw [FP.Core.dmul_nan_iff]
      rintro (h | h | ⟨s, h1, h2⟩ | ⟨s, h1, h2⟩)
      · exact nx h
      · exact ny h
      · rw [is_inf64 hx] at h1; rw [zer3 (k := 3) (by decide)] at h2; exact hv (Or.inr ⟨h1.1, h2⟩)
      · rw [zer3 (k := 3) (by decide)] at h1; rw [is_inf64 hy] at h2; exact hv (Or.inl ⟨h1, h2.1⟩)
    · show ¬ FP.dIsNaN (FP.ddiv x.toUInt64 y.toUInt64) = true
      rw [FP.Core.ddiv_nan_iff]
      rintro (h | h | ⟨s, t, h1, h2⟩ | ⟨h1, h2⟩)
      · exact nx h
      · exact ny h
      · rw [is_inf64 hx] at h1; rw [is_inf64 hy] at h2; exact hv (Or.inr ⟨h1.1, h2.1⟩)
      · rw [zer3 (k := 3) (by decide)] at h1 h2; exact hv (Or.inl ⟨h1, h2⟩)
/-- what the model works, in doubles -/
def wkA (k w : Int32) (x y : Int64) : Int64 := if w = 4 then rmB k x y else wkB k w x y
theorem wr_eq {k w : Int32} (hk : k = 2 ∨ k = 3) {x y : Int64} (hx : okR k x) (hy : okR k y) (hv : ¬ vd k w x y) (hw : w = 0 ∨ w = 1 ∨ w = 2 ∨ w = 3 ∨ w = 4) :
    FP.Core.val64 (wrR w (vl k x) (vl k y)) ≠ .nan ∧ nrw k (wrR w (vl k x) (vl k y)) = vl k (wkA k w x y) ∧ okR k (wkA k w x y) := by
  by_cases h4 : w = 4
  · subst h4
    have hi : ¬ mgN k x = infN k := fun g => hv (Or.inr g)
    have hz : ¬ mgN k y = 0 := fun g => hv (Or.inl g)
    have ok : okR k (wkA k 4 x y) := (rm_sign hx hy hi hz).1
    rcases hk with rfl | rfl
    · have d := dr_rem (fin2 hx hi) (okR2 hy).2 (fun g => hz ((zer2 y).mp g))
      have e : wrR 4 (vl 2 x) (vl 2 y) = FP.f2d (FP.frem (u32 x) (u32 y)) := d.2
      refine ⟨by rw [e]; exact fm_f2dn d.1, ?_, ok⟩
      rw [e]
      show FP.f2d (FP.d2f (FP.f2d (FP.frem (u32 x) (u32 y)))) = vl 2 (fB (FP.frem (u32 x) (u32 y)))
      rw [vl_fB, fm_d2f_f2d d.1]
    · refine ⟨?_, rfl, ok⟩
      exact (okR3 (by decide)).mp ok
  · have hw' : w = 0 ∨ w = 1 ∨ w = 2 ∨ w = 3 := by
      rcases hw with h | h | h | h | h
      · exact Or.inl h
      · exact Or.inr (Or.inl h)
      · exact Or.inr (Or.inr (Or.inl h))
      · exact Or.inr (Or.inr (Or.inr h))
      · exact absurd h h4
    have e0 : wkA k w x y = wkB k w x y := by unfold wkA; rw [if_neg h4]
    rw [e0]
    have ok := wk_ok hk hx hy hv hw'
    rcases hk with rfl | rfl
    · have nx := (okR2 hx).2
      have ny := (okR2 hy).2
      have nf := wk_val ok rfl
      rw [vl_wk2 rfl]
      rcases hw' with rfl | rfl | rfl | rfl
      · have d := dr_add nx ny nf; exact ⟨d.1, congrArg FP.f2d d.2, ok⟩
      · have d := dr_sub nx ny nf; exact ⟨d.1, congrArg FP.f2d d.2, ok⟩
      · have d := dr_mul nx ny nf; exact ⟨d.1, congrArg FP.f2d d.2, ok⟩
      · have d := dr_div nx ny nf; exact ⟨d.1, congrArg FP.f2d d.2, ok⟩
    · have nf := wk_val3 ok (by decide)
      rw [vl_wk3 (by decide)]
      rcases hw' with rfl | rfl | rfl | rfl <;> exact ⟨nf, rfl, ok⟩
theorem xor_neg (x y : Int64) : lg_cmp (x ^^^ y) 0 < 0 ↔ ¬ (x < 0 ↔ y < 0) := by
  have h := lgc0_ge (x ^^^ y)
  have e : lg_cmp (x ^^^ y) 0 < 0 ↔ x ^^^ y < 0 := by
    rw [Int32.lt_iff_toInt_lt]; rw [Int32.le_iff_toInt_le] at h
    constructor
    · intro g; exact Decidable.not_not.mp (fun g2 => by have := h.mpr g2; omega)
    · intro g; exact Int.not_le.mp (fun g2 => (h.mp g2) g)
  rw [e]
  have s : ∀ z : Int64, z < 0 ↔ z.toBitVec.msb = true := fun z => by
    rw [Int64.lt_iff_toInt_lt, BitVec.msb_eq_toInt]
    show z.toBitVec.toInt < 0 ↔ _
    rw [decide_eq_true_iff]
  rw [s, s, s, Int64.toBitVec_xor, BitVec.msb_xor]
  cases x.toBitVec.msb <;> cases y.toBitVec.msb <;> decide
theorem void_eq {k w : Int32} {x y : Int64} : fX2_isVoid k w x y = true ↔ vd k w x y := by
  have xn := xor_neg x y
  have e1 : fX2_isEndless k x = true ↔ mgN k x = infN k := by rw [isEndless_eq]; exact decide_eq_true_iff
  have e2 : fX2_isEndless k y = true ↔ mgN k y = infN k := by rw [isEndless_eq]; exact decide_eq_true_iff
  have z1 : fX2_isZero k x = true ↔ mgN k x = 0 := by rw [isZero_eq]; exact decide_eq_true_iff
  have z2 : fX2_isZero k y = true ↔ mgN k y = 0 := by rw [isZero_eq]; exact decide_eq_true_iff
  unfold fX2_isVoid vd
  simp only [e1, e2, z1, z2]
  by_cases c : lg_cmp (x ^^^ y) 0 < 0
  · have c' := xn.mp c
    rw [if_pos c]
    by_cases w0 : w = 0
    · rw [if_pos w0, if_pos w0]; by_cases a : mgN k x = infN k <;> by_cases b : mgN k y = infN k <;> simp [a, b, c']
    rw [if_neg w0, if_neg w0]
    by_cases w1 : w = 1
    · rw [if_pos w1, if_pos w1]; by_cases a : mgN k x = infN k <;> by_cases b : mgN k y = infN k <;> simp [a, b, c']
    rw [if_neg w1, if_neg w1]
    by_cases w2 : w = 2
    · rw [if_pos w2, if_pos w2]; by_cases a : mgN k x = infN k <;> by_cases b : mgN k y = infN k <;> by_cases d : mgN k x = 0 <;> by_cases f : mgN k y = 0 <;> simp [a, b, d, f]
    rw [if_neg w2, if_neg w2]
    by_cases w3 : w = 3
    · rw [if_pos w3, if_pos w3]; by_cases a : mgN k x = infN k <;> by_cases b : mgN k y = infN k <;> by_cases d : mgN k x = 0 <;> by_cases f : mgN k y = 0 <;> simp [a, b, d, f]
    rw [if_neg w3, if_neg w3]
    by_cases a : mgN k x = infN k <;> by_cases f : mgN k y = 0 <;> simp [a, f]
  · have c' : (x < 0 ↔ y < 0) := Decidable.not_not.mp (fun g => c (xn.mpr g))
    rw [if_neg c]
    by_cases w0 : w = 0
    · rw [if_pos w0, if_pos w0]; by_cases a : mgN k x = infN k <;> by_cases b : mgN k y = infN k <;> simp [a, b, c']
    rw [if_neg w0, if_neg w0]
    by_cases w1 : w = 1
    · rw [if_pos w1, if_pos w1]; by_cases a : mgN k x = infN k <;> by_cases b : mgN k y = infN k <;> simp [a, b, c']
    rw [if_neg w1, if_neg w1]
    by_cases w2 : w = 2
    · rw [if_pos w2, if_pos w2]; by_cases a : mgN k x = infN k <;> by_cases b : mgN k y = infN k <;> by_cases d : mgN k x = 0 <;> by_cases f : mgN k y = 0 <;> simp [a, b, d, f]
    rw [if_neg w2, if_neg w2]
    by_cases w3 : w = 3
    · rw [if_pos w3, if_pos w3]; by_cases a : mgN k x = infN k <;> by_cases b : mgN k y = infN k <;> by_cases d : mgN k x = 0 <;> by_cases f : mgN k y = 0 <;> simp [a, b, d, f]
    rw [if_neg w3, if_neg w3]
    by_cases a : mgN k x = infN k <;> by_cases f : mgN k y = 0 <;> simp [a, f]
theorem inf_cmp {k : Int32} {x y : Int64} {op : CmpOp} (hx : okR k x) (hy : okR k y) (h1 : mgN k x = infN k) (h2 : mgN k y = infN k) : Op.cmpValue (FP.dcmp (vl k x) (vl k y)) op = 0 ↔ (x < 0 ↔ y < 0) := by
  rw [cmpz (vl_nn hx) (vl_nn hy), vl_pv hx, vl_pv hy]
  have t1 := (pv_top (okR_le hx)).mpr h1
  have t2 := (pv_top (okR_le hy)).mpr h2
  have hT := Nat.mul_pos (FP.Core.tails_pos FP.Core.b64) (Nat.two_pow_pos (FP.Core.b64.exps - 2))
  generalize FP.Core.b64.tails * 2 ^ (FP.Core.b64.exps - 2) = T at *
  by_cases a : x < 0 <;> by_cases b : y < 0
  · rw [if_pos a, if_pos b, zv_neg, zv_neg, t1, t2]; simp [a, b]
  · rw [if_pos a, if_neg b, zv_neg, t1, t2]; simp [a, b]; omega
  · rw [if_neg a, if_pos b, zv_neg, t1, t2]; simp [a, b]; omega
  · rw [if_neg a, if_neg b, t1, t2]; simp [a, b]
theorem void8_eq {k w : Int32} {x y : Int64} (hx : okR k x) (hy : okR k y) : fX8_isVoid w (vl k x) (vl k y) = true ↔ vd k w x y := by
  have e1 := endl_eq hx
  have e2 := endl_eq hy
  have z1 := zero_eq (op := CmpOp.l) hx
  have z2 := zero_eq (op := CmpOp.l) hy
  unfold fX8_isVoid vd
  simp only [e1, e2, z1, z2]
  have hne : infN k ≠ 0 := by unfold infN; split <;> decide
  by_cases a : mgN k x = infN k
  · by_cases b : mgN k y = infN k
    · have c := inf_cmp (op := CmpOp.l) hx hy a b
      simp only [c, if_pos a, if_pos b]
      by_cases w0 : w = 0
      · by_cases s : (x < 0 ↔ y < 0) <;> simp [w0, a, b, s]
      by_cases w1 : w = 1
      · by_cases s : (x < 0 ↔ y < 0) <;> simp [w1, a, b, s]
      by_cases w2 : w = 2
      · simp [w2, a, b, hne]
      by_cases w3 : w = 3
      · simp [w3, a, b]
      simp [w0, w1, w2, w3, a]
    · by_cases w0 : w = 0
      · simp [w0, a, b]
      by_cases w1 : w = 1
      · simp [w1, a, b]
      by_cases w2 : w = 2
      · by_cases f : mgN k y = 0 <;> simp [w2, a, b, f, hne]
      by_cases w3 : w = 3
      · by_cases f : mgN k y = 0 <;> simp [w3, a, b, f, hne]
      simp [w0, w1, w2, w3, a]
  · by_cases w0 : w = 0
    · simp [w0, a]
    by_cases w1 : w = 1
    · simp [w1, a]
    by_cases w2 : w = 2
    · by_cases b : mgN k y = infN k <;> by_cases d : mgN k x = 0 <;> by_cases f : mgN k y = 0 <;> simp [w2, a, b, d, f]
    by_cases w3 : w = 3
    · by_cases b : mgN k y = infN k <;> by_cases d : mgN k x = 0 <;> by_cases f : mgN k y = 0 <;> simp [w3, a, b, d, f, hne, Ne.symm hne]
    by_cases f : mgN k y = 0 <;> simp [w0, w1, w2, w3, a, f]
theorem whole_eq {w : Int32} {x y : Int64} (h : ¬ w = 0 → ¬ w = 1 → ¬ w = 2 → ¬ y = 0) : fX8_workWhole w x y = fX0_workedWhole w x y := by
  unfold fX8_workWhole fX0_workedWhole
  by_cases w0 : w = 0
  · simp [w0]
  by_cases w1 : w = 1
  · simp [w1]
  by_cases w2 : w = 2
  · simp [w2]
  have hy := h w0 w1 w2
  have : ¬ lg_cmp y 0 = 0 := fun g => hy (by
    unfold lg_cmp at g
    by_cases a : y > 0
    · rw [if_pos a] at g; exact absurd g (by decide)
    · rw [if_neg a] at g
      by_cases b : y = 0
      · exact b
      · rw [if_neg b] at g; exact absurd g (by decide))
  simp [w0, w1, w2, this]
