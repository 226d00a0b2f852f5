theorem lgc_ne0 {y : Int64} (h : ¬ lg_cmp y 0 = 0) : ¬ y = 0 := fun e => h (by rw [e]; rfl)

def fX0_workedWhole (a0 : Int32) (a1 : Int64) (a2 : Int64) : Int64 := if a0 = 0 then (a1 + a2) else (if a0 = 1 then (a1 - a2) else (if a0 = 2 then (a1 * a2) else (if a0 = 3 then (if (lg_cmp a2 0) = 0 then 0 else (a1 / a2)) else (if (lg_cmp a2 0) = 0 then 0 else (a1 - a1 / a2 * a2)))))
set_option maxHeartbeats 4000000 in
set_option maxRecDepth 100000 in
theorem met_X0_workedWhole (l : Launch) (a0 : Int32) (a1 : Int64) (a2 : Int64) : Met l yX0_workedWhole wsX0_workedWhole ({ frames := 0, cells := 0, slots := 0, locals := 0 }) (va_Pc [.int a0, .long a1, .long a2] (fun _ => True)) (vp_Sl (fun r => r = fX0_workedWhole a0 a1 a2)) 0 0 (fun _ => False) := by
  refine Met.ofW (cc := cX0_workedWhole) (maxL := 5) (ret := (some .long)) (by decide) rfl ?_
  intro p e s m args below meth c s₁ B hml hv
  obtain ⟨rfl, -⟩ := hv
  have hx := B.exec
  have hb := B.bytes
  have hr := B.returns
  have hts := atoms_spec (ws := wsX0_workedWhole) B.pre
  have hown : s.vm.findClass RX0 = some m.cls := findClass_of_methodNamed B.named
  have hlocks := B.notSynchronized
  have hl := lv_entry ([.int a0, .long a1, .long a2]) (n := 5) (Nat.le_of_ble_eq_true rfl)
  rw [lg_entry_eq]
  generalize (lg_sl ([.int a0, .long a1, .long a2]) ++ List.replicate (5 - (lg_sl ([.int a0, .long a1, .long a2])).length) Slot.unset).toArray = ls at hl ⊢
  have hl : lv_has ls 5 [(0, .int a0), (1, .long a1), (3, .long a2)] := hl
  refine lv_iload_n hx hb dX0_workedWhole_0 rfl (lv_at hl 0 rfl) ?_
  rcases Decidable.em (a0 = 0) with c_1 | c_1
  · refine lv_tableIn (x := a0) (off := 31) (tgt := 32) hx hb dX0_workedWhole_1 (by rw [c_1]; decide) (by rw [c_1]; decide) (by rw [c_1]; rfl) (by decide) ?_
    refine lv_lload_n hx hb dX0_workedWhole_32 rfl (lv_at hl 1 rfl) ?_
    refine lv_lload_n hx hb dX0_workedWhole_33 rfl (lv_at hl 2 rfl) ?_
    refine lv_ladd hx hb dX0_workedWhole_34 ?_
    exact W.lret (v := a1 + a2) hx hb hr (fun t ht hW => ⟨_, rfl, by simp only [fX0_workedWhole, if_pos c_1], ht⟩) (fun q hq => absurd hq List.not_mem_nil) dX0_workedWhole_35
  rcases Decidable.em (a0 = 1) with c_2 | c_2
  · refine lv_tableIn (x := a0) (off := 35) (tgt := 36) hx hb dX0_workedWhole_1 (by rw [c_2]; decide) (by rw [c_2]; decide) (by rw [c_2]; rfl) (by decide) ?_
    refine lv_lload_n hx hb dX0_workedWhole_36 rfl (lv_at hl 1 rfl) ?_
    refine lv_lload_n hx hb dX0_workedWhole_37 rfl (lv_at hl 2 rfl) ?_
    refine lv_lsub hx hb dX0_workedWhole_38 ?_
    exact W.lret (v := a1 - a2) hx hb hr (fun t ht hW => ⟨_, rfl, by simp only [fX0_workedWhole, if_neg c_1, if_pos c_2], ht⟩) (fun q hq => absurd hq List.not_mem_nil) dX0_workedWhole_39
  rcases Decidable.em (a0 = 2) with c_3 | c_3
  · refine lv_tableIn (x := a0) (off := 39) (tgt := 40) hx hb dX0_workedWhole_1 (by rw [c_3]; decide) (by rw [c_3]; decide) (by rw [c_3]; rfl) (by decide) ?_
    refine lv_lload_n hx hb dX0_workedWhole_40 rfl (lv_at hl 1 rfl) ?_
    refine lv_lload_n hx hb dX0_workedWhole_41 rfl (lv_at hl 2 rfl) ?_
    refine lv_lmul hx hb dX0_workedWhole_42 ?_
    exact W.lret (v := a1 * a2) hx hb hr (fun t ht hW => ⟨_, rfl, by simp only [fX0_workedWhole, if_neg c_1, if_neg c_2, if_pos c_3], ht⟩) (fun q hq => absurd hq List.not_mem_nil) dX0_workedWhole_43
  rcases Decidable.em (a0 = 3) with c_4 | c_4
  · refine lv_tableIn (x := a0) (off := 43) (tgt := 44) hx hb dX0_workedWhole_1 (by rw [c_4]; decide) (by rw [c_4]; decide) (by rw [c_4]; rfl) (by decide) ?_
    refine lv_lload_n hx hb dX0_workedWhole_44 rfl (lv_at hl 2 rfl) ?_
    refine lv_lconst (v := 0) hx hb dX0_workedWhole_45 (by decide) ?_
    refine W.lcmp hx hb dX0_workedWhole_46 ?_
    refine lv_if_ne (tgt := 54) hx hb dX0_workedWhole_47 (by decide) (fun c_5 => ?_) (fun c_5 => ?_)
    · refine lv_lload_n hx hb dX0_workedWhole_54 rfl (lv_at hl 1 rfl) ?_
      refine lv_lload_n hx hb dX0_workedWhole_55 rfl (lv_at hl 2 rfl) ?_
      refine lv_ldiv hx hb dX0_workedWhole_56 (lgc_ne0 c_5) ?_
      exact W.lret (v := a1 / a2) hx hb hr (fun t ht hW => ⟨_, rfl, by simp only [fX0_workedWhole, if_neg c_1, if_neg c_2, if_neg c_3, if_pos c_4, if_neg c_5], ht⟩) (fun q hq => absurd hq List.not_mem_nil) dX0_workedWhole_57
    · refine lv_lconst (v := 0) hx hb dX0_workedWhole_50 (by decide) ?_
      refine lv_goto (tgt := 57) hx hb dX0_workedWhole_51 (by decide) ?_
      exact W.lret (v := 0) hx hb hr (fun t ht hW => ⟨_, rfl, by simp only [fX0_workedWhole, if_neg c_1, if_neg c_2, if_neg c_3, if_pos c_4, if_pos c_5], ht⟩) (fun q hq => absurd hq List.not_mem_nil) dX0_workedWhole_57
  refine lv_tableOut (tgt := 58) hx hb dX0_workedWhole_1 (sw_out3 c_1 c_2 c_3 c_4) (by decide) ?_
  refine lv_lload_n hx hb dX0_workedWhole_58 rfl (lv_at hl 2 rfl) ?_
  refine lv_lconst (v := 0) hx hb dX0_workedWhole_59 (by decide) ?_
  refine W.lcmp hx hb dX0_workedWhole_60 ?_
  refine lv_if_ne (tgt := 68) hx hb dX0_workedWhole_61 (by decide) (fun c_6 => ?_) (fun c_6 => ?_)
  · refine lv_lload_n hx hb dX0_workedWhole_68 rfl (lv_at hl 1 rfl) ?_
    refine lv_lload_n hx hb dX0_workedWhole_69 rfl (lv_at hl 2 rfl) ?_
    refine lv_lrem hx hb dX0_workedWhole_70 (lgc_ne0 c_6) ?_
    exact W.lret (v := a1 - a1 / a2 * a2) hx hb hr (fun t ht hW => ⟨_, rfl, by simp only [fX0_workedWhole, if_neg c_1, if_neg c_2, if_neg c_3, if_neg c_4, if_neg c_6], ht⟩) (fun q hq => absurd hq List.not_mem_nil) dX0_workedWhole_71
  · refine lv_lconst (v := 0) hx hb dX0_workedWhole_64 (by decide) ?_
    refine lv_goto (tgt := 71) hx hb dX0_workedWhole_65 (by decide) ?_
    exact W.lret (v := 0) hx hb hr (fun t ht hW => ⟨_, rfl, by simp only [fX0_workedWhole, if_neg c_1, if_neg c_2, if_neg c_3, if_neg c_4, if_pos c_6], ht⟩) (fun q hq => absurd hq List.not_mem_nil) dX0_workedWhole_71

/-! what the values come to, told by bits -/
def fB (x : UInt32) : Int64 := x.toInt32.toInt64
def u32 (b : Int64) : UInt32 := b.toInt32.toUInt32
theorem u32_fB (x : UInt32) : u32 (fB x) = x := by
  unfold u32 fB
  rw [Int32.toInt32_toInt64]; rfl
theorem fB_ext (x : UInt32) : fB x = (fB x).toInt32.toInt64 := by unfold fB; rw [Int32.toInt32_toInt64]
theorem vl_fB (x : UInt32) : vl 2 (fB x) = FP.f2d x := by
  show FP.f2d (u32 (fB x)) = _
  rw [u32_fB]
theorem vl_d (d : UInt64) : vl 3 d.toInt64 = d := rfl
theorem okR_fB {x : UInt32} (h : FP.Core.val32 x ≠ .nan) : okR 2 (fB x) := ⟨fB_ext x, by show FP.Core.val32 (u32 (fB x)) ≠ _; rw [u32_fB]; exact h⟩
theorem okR_d {d : UInt64} (h : FP.Core.val64 d ≠ .nan) : okR 3 d.toInt64 := h
theorem okR2 {b : Int64} (h : okR 2 b) : fB (u32 b) = b ∧ FP.Core.val32 (u32 b) ≠ .nan := ⟨h.1.symm, h.2⟩
/-- the rest, by bits -/
def rmB (k : Int32) (x y : Int64) : Int64 := if k = 2 then fB (FP.frem (u32 x) (u32 y)) else (FP.drem x.toUInt64 y.toUInt64).toInt64
def fop (w : Int32) (x y : UInt32) : UInt32 := if w = 0 then FP.fadd x y else if w = 1 then FP.fsub x y else if w = 2 then FP.fmul x y else FP.fdiv x y
def dop (w : Int32) (x y : UInt64) : UInt64 := if w = 0 then FP.dadd x y else if w = 1 then FP.dsub x y else if w = 2 then FP.dmul x y else FP.ddiv x y
def wkB (k w : Int32) (x y : Int64) : Int64 := if k = 2 then fB (fop w (u32 x) (u32 y)) else (dop w x.toUInt64 y.toUInt64).toInt64
theorem unit_inj {f : FP.Core.Fmt} {a b : Nat} (h : FP.Core.unitsOf f a = FP.Core.unitsOf f b) : a = b := by
  have h1 := (FP.Core.unitsOf_le_iff (f := f) (m := a) (k := b)).mp (Nat.le_of_eq h)
  have h2 := (FP.Core.unitsOf_le_iff (f := f) (m := b) (k := a)).mp (Nat.le_of_eq h.symm)
  omega
theorem fin3 {k : Int32} (hk : ¬ k = 2) {b : Int64} (h : okR k b) (hi : ¬ mgN k b = infN k) : FP.Core.DFin b.toUInt64 := by
  have := okR_le h
  rw [FP.Core.fin_bits, ← mg64 hk]
  have e : infN k = 9218868437227405312 := by unfold infN; rw [if_neg hk]
  omega
theorem fin2 {b : Int64} (h : okR 2 b) (hi : ¬ mgN 2 b = infN 2) : FP.Core.FFin (u32 b) := by
  have := okR_le h
  rw [FP.Core.fin_bits32]
  show b.toInt32.toUInt32.toNat % 2 ^ 31 < _
  rw [← mg32]
  have e : infN 2 = 2139095040 := rfl
  omega
theorem zer3 {k : Int32} (hk : ¬ k = 2) (b : Int64) : FP.Core.DZero b.toUInt64 ↔ mgN k b = 0 := by rw [FP.Core.zero_bits2, ← mg64 hk]
theorem zer2 (b : Int64) : FP.Core.FZero (u32 b) ↔ mgN 2 b = 0 := by
  rw [FP.Core.zero_bits232, mg32]; rfl
theorem okR3 {k : Int32} (hk : ¬ k = 2) {b : Int64} : okR k b ↔ FP.Core.val64 b.toUInt64 ≠ .nan := by unfold okR; rw [if_neg hk]
theorem rm_sign {k : Int32} {x y : Int64} (hx : okR k x) (hy : okR k y) (hi : ¬ mgN k x = infN k) (hz : ¬ mgN k y = 0) :
    okR k (rmB k x y) ∧ (rmB k x y < 0 ↔ x < 0) ∧ FP.Core.unitsOf (FM k) (mgN k (rmB k x y)) = FP.Core.unitsOf (FM k) (mgN k x) % FP.Core.unitsOf (FM k) (mgN k y) := by
  by_cases hk : k = 2
  · subst hk
    have z := FP.Core.frem_zval (fin2 hx hi) (okR2 hy).2 (fun g => hz ((zer2 y).mp g))
    have e : rmB 2 x y = fB (FP.frem (u32 x) (u32 y)) := rfl
    rw [e]
    have ok := okR_fB z.1
    refine ⟨ok, ?_, ?_⟩
    · have s1 := FP.Core.sgn_bits32 z.1
      have s2 := FP.Core.sgn_bits32 (okR2 hx).2
      rw [z.2.1, s2] at s1
      have h1 := (neg_ext ok.1).trans (neg32 _)
      have h2 := (neg_ext hx.1).trans (neg32 _)
      have h3 : (fB (FP.frem (u32 x) (u32 y))).toInt32.toUInt32 = FP.frem (u32 x) (u32 y) := u32_fB _
      rw [h3] at h1
      rw [h1, h2]
      exact decide_eq_decide.mp s1.symm
    · have m1 := FP.Core.zmag_toNat32 z.1
      have m2 := FP.Core.zmag_toNat32 (okR2 hx).2
      have m3 := FP.Core.zmag_toNat32 (okR2 hy).2
      rw [z.2.2, m2, m3] at m1
      have h3 : (fB (FP.frem (u32 x) (u32 y))).toInt32.toUInt32 = FP.frem (u32 x) (u32 y) := u32_fB _
      rw [mg32, mg32, mg32, h3]
      exact m1.symm
  · have z := FP.Core.drem_zval (fin3 hk hx hi) ((okR3 hk).mp hy) (fun g => hz ((zer3 hk y).mp g))
    have e : rmB k x y = (FP.drem x.toUInt64 y.toUInt64).toInt64 := by unfold rmB; rw [if_neg hk]
    have e2 : (rmB k x y).toUInt64 = FP.drem x.toUInt64 y.toUInt64 := by rw [e]; rfl
    have ok : okR k (rmB k x y) := by rw [okR3 hk, e2]; exact z.1
    refine ⟨ok, ?_, ?_⟩
    · have s1 := FP.Core.sgn_bits z.1
      have s2 := FP.Core.sgn_bits ((okR3 hk).mp hx)
      rw [z.2.1, s2] at s1
      rw [neg64, neg64, e2]
      exact decide_eq_decide.mp s1.symm
    · have m1 := FP.Core.zmag_bits z.1
      have m2 := FP.Core.zmag_bits ((okR3 hk).mp hx)
      have m3 := FP.Core.zmag_bits ((okR3 hk).mp hy)
      rw [z.2.2, m2, m3] at m1
      rw [mg64 hk, mg64 hk, mg64 hk, e2]
      have hf : FM k = FP.Core.b64 := by unfold FM; rw [if_neg hk]
      rw [hf]
      exact m1.symm
theorem rm_fin {k : Int32} {x y : Int64} (hx : okR k x) (hy : okR k y) (hi : ¬ mgN k x = infN k) (hz : ¬ mgN k y = 0) {t : Nat} (ht : FP.Core.unitsOf (FM k) t = FP.Core.unitsOf (FM k) (mgN k x) % FP.Core.unitsOf (FM k) (mgN k y)) (i : Int32) (hi2 : i = if x < 0 then 1 else 0) : fX2_signed k (lN t) i = rmB k x y := by
  obtain ⟨ok, h1, h2⟩ := rm_sign hx hy hi hz
  have : t = mgN k (rmB k x y) := unit_inj (ht.trans h2.symm)
  have h3 := signed_eq ok
  rw [hi2, this]
  by_cases hb : x < 0
  · rw [if_pos (h1.mpr hb)] at h3; rw [if_pos hb]; exact h3
  · rw [if_neg (fun g => hb (h1.mp g))] at h3; rw [if_neg hb]; exact h3
/-! casts -/
def csW (b : Int64) (t : Int32) : Int64 := if t = 0 then b.toInt32.toInt64 else if t = 1 then b else if t = 2 then fB (FP.l2f b) else (FP.l2d b).toInt64
def csR (d : UInt64) (t : Int32) : Int64 := if t = 0 then (FP.d2i d).toInt64 else if t = 1 then FP.d2l d else if t = 2 then fB (FP.d2f d) else d.toInt64
def cst (f : Int32) (b : Int64) (t : Int32) : Int64 := if f = t then b else if f ≤ 1 then csW b t else csR (vl f b) t
theorem l2f_nn (b : Int64) : FP.Core.val32 (FP.l2f b) ≠ .nan := by
  rw [FP.Core.val32_l2f]; exact FP.Core.roundRatio_ne_nan _ _ _ _ _
theorem l2d_nn (b : Int64) : FP.Core.val64 (FP.l2d b) ≠ .nan := by
  rw [FP.Core.val64_l2d]; exact FP.Core.roundRatio_ne_nan _ _ _ _ _
/-- float and double work -/
theorem wk_val {k w : Int32} {x y : Int64} (h : okR k (wkB k w x y)) (hk : k = 2) : FP.Core.val32 (fop w (u32 x) (u32 y)) ≠ .nan := by
  subst hk
  have := (okR2 h).2
  have e : wkB 2 w x y = fB (fop w (u32 x) (u32 y)) := rfl
  rwa [e, u32_fB] at this
theorem wk_val3 {k w : Int32} {x y : Int64} (h : okR k (wkB k w x y)) (hk : ¬ k = 2) : FP.Core.val64 (dop w x.toUInt64 y.toUInt64) ≠ .nan := by
  have := (okR3 hk).mp h
  unfold wkB at this
  rw [if_neg hk] at this
  exact this
theorem vl_2 {k : Int32} (hk : k = 2) (b : Int64) : vl k b = FP.f2d (u32 b) := by subst hk; rfl
theorem vl_3 {k : Int32} (hk : ¬ k = 2) (b : Int64) : vl k b = b.toUInt64 := by unfold vl; rw [if_neg hk]
theorem vl_wk2 {k w : Int32} {x y : Int64} (hk : k = 2) : vl k (wkB k w x y) = FP.f2d (fop w (u32 x) (u32 y)) := by subst hk; exact vl_fB _
theorem vl_wk3 {k w : Int32} {x y : Int64} (hk : ¬ k = 2) : vl k (wkB k w x y) = dop w x.toUInt64 y.toUInt64 := by
  rw [vl_3 hk]; unfold wkB; rw [if_neg hk]; rfl
theorem d2f_vl {k : Int32} (hk : k = 2) {b : Int64} (h : okR k b) : FP.d2f (vl k b) = u32 b := by
  subst hk; exact fm_d2f_f2d (okR2 h).2
/-- work of any kind -/
def wk (k w : Int32) (x y : Int64) : Int64 := if k = 0 then (fX0_workedWhole w x y).toInt32.toInt64 else if k = 1 then fX0_workedWhole w x y else if w = 4 then rmB k x y else wkB k w x y

set_option maxHeartbeats 4000000 in
set_option maxRecDepth 100000 in
theorem met_X2_restOf (l : Launch) (a0 : Int32) (a1 : Int64) (a2 : Int64) (hx1 : okR a0 a1) (hy1 : okR a0 a2) (hi : ¬ mgN a0 a1 = infN a0) (hz : ¬ mgN a0 a2 = 0) : Met l yX2_restOf wsX2_restOf ({ frames := 4, cells := 0, slots := 0, locals := 97 }) (va_Pc [.int a0, .long a1, .long a2] (fun _ => True)) (vp_Sl (fun r => r = rmB a0 a1 a2)) 0 0 (fun _ => False) := by
  refine Met.ofW (cc := cX2_restOf) (maxL := 5) (ret := (some .long)) (by decide) rfl ?_
  intro p e s m args below meth c s₁ B hml hv
  obtain ⟨rfl, -⟩ := hv
  have hx := B.exec
  have hb := B.bytes
  have hr := B.returns
  have hts := atoms_spec (ws := wsX2_restOf) B.pre
  have hown : s.vm.findClass RX2 = some m.cls := findClass_of_methodNamed B.named
  have hlocks := B.notSynchronized
  have hl := lv_entry ([.int a0, .long a1, .long a2]) (n := 5) (Nat.le_of_ble_eq_true rfl)
  rw [lg_entry_eq]
  generalize (lg_sl ([.int a0, .long a1, .long a2]) ++ List.replicate (5 - (lg_sl ([.int a0, .long a1, .long a2])).length) Slot.unset).toArray = ls at hl ⊢
  have hl : lv_has ls 5 [(0, .int a0), (1, .long a1), (3, .long a2)] := hl
  refine lv_iload_n hx hb dX2_restOf_0 rfl (lv_at hl 0 rfl) ?_
  refine lv_iload_n hx hb dX2_restOf_1 rfl (lv_at hl 0 rfl) ?_
  refine lv_iload_n hx hb dX2_restOf_2 rfl (lv_at hl 0 rfl) ?_
  refine lv_lload_n hx hb dX2_restOf_3 rfl (lv_at hl 1 rfl) ?_
  refine vp_callSl ((va_runS (As := [.int a0, .long a1]) (rest := [.int a0, .int a0]) ⟨hx, hb, hml, hown, hts⟩ (met_X2_sizeOf l a0 a1) (va_cwS 2 hts gX2_restOf_X2_sizeOf rfl rfl rfl (by decide +kernel) ⟨Nat.le_of_ble_eq_true rfl, Nat.le_of_ble_eq_true rfl⟩) ⟨fun _ _ _ _ q => q, fun U hU hW => ⟨rfl, trivial⟩⟩ rfl rfl hl.1 rfl (lv_room (Nat.le_of_ble_eq_true rfl)) dX2_restOf_4 ⟨Nat.le_of_ble_eq_true rfl, Nat.le_of_ble_eq_true rfl⟩).run) (fun r hw => ?_)
  subst hw
  refine lv_topl (fun z_1 ez_1 => ?_)
  obtain rfl : z_1 = lN (mgN a0 a1) := ez_1.trans (sizeOf_eq a0 a1)
  refine lv_iload_n hx hb dX2_restOf_7 rfl (lv_at hl 0 rfl) ?_
  refine lv_lload_n hx hb dX2_restOf_8 rfl (lv_at hl 2 rfl) ?_
  refine vp_callSl ((va_runS (As := [.int a0, .long a2]) (rest := [.long (lN (mgN a0 a1)), .int a0, .int a0]) ⟨hx, hb, hml, hown, hts⟩ (met_X2_sizeOf l a0 a2) (va_cwS 2 hts gX2_restOf_X2_sizeOf rfl rfl rfl (by decide +kernel) ⟨Nat.le_of_ble_eq_true rfl, Nat.le_of_ble_eq_true rfl⟩) ⟨fun _ _ _ _ q => q, fun U hU hW => ⟨rfl, trivial⟩⟩ rfl rfl hl.1 rfl (lv_room (Nat.le_of_ble_eq_true rfl)) dX2_restOf_9 ⟨Nat.le_of_ble_eq_true rfl, Nat.le_of_ble_eq_true rfl⟩).run) (fun r hw => ?_)
  subst hw
  refine lv_topl (fun z_2 ez_2 => ?_)
  obtain rfl : z_2 = lN (mgN a0 a2) := ez_2.trans (sizeOf_eq a0 a2)
  refine vp_callSl ((va_runS (As := [.int a0, .long (lN (mgN a0 a1)), .long (lN (mgN a0 a2))]) (rest := [.int a0]) ⟨hx, hb, hml, hown, hts⟩ (met_X2_restOfSizes l  a0 (mgN a0 a1) (mgN a0 a2) (Nat.pos_of_ne_zero hz) (Nat.lt_of_le_of_ne (okR_le hx1) hi) (okR_le hy1)) (va_cwS 3 hts gX2_restOf_X2_restOfSizes rfl rfl rfl (by decide +kernel) ⟨Nat.le_of_ble_eq_true rfl, Nat.le_of_ble_eq_true rfl⟩) ⟨fun _ _ _ _ q => q, fun U hU hW => ⟨rfl, trivial⟩⟩ rfl rfl hl.1 rfl (lv_room (Nat.le_of_ble_eq_true rfl)) dX2_restOf_12 ⟨Nat.le_of_ble_eq_true rfl, Nat.le_of_ble_eq_true rfl⟩).run) (fun r_1 h_1 => ?_)
  refine lv_lload_n hx hb dX2_restOf_15 rfl (lv_at hl 1 rfl) ?_
  refine lv_lconst (v := 0) hx hb dX2_restOf_16 (by decide) ?_
  refine W.lcmp hx hb dX2_restOf_17 ?_
  refine lv_if_ge (tgt := 25) hx hb dX2_restOf_18 (by decide) (fun c_3 => ?_) (fun c_3 => ?_)
  · refine lv_iconst (v := 0) hx hb dX2_restOf_25 (by decide) ?_
    refine vp_callSl ((va_runS (As := [.int a0, .long r_1, .int 0]) (rest := []) ⟨hx, hb, hml, hown, hts⟩ (met_X2_signed l a0 r_1 0) (va_cwS 3 hts gX2_restOf_X2_signed rfl rfl rfl (by decide +kernel) ⟨Nat.le_of_ble_eq_true rfl, Nat.le_of_ble_eq_true rfl⟩) ⟨fun _ _ _ _ q => q, fun U hU hW => ⟨rfl, trivial⟩⟩ rfl rfl hl.1 rfl (lv_room (Nat.le_of_ble_eq_true rfl)) dX2_restOf_26 ⟨Nat.le_of_ble_eq_true rfl, Nat.le_of_ble_eq_true rfl⟩).run) (fun r hw => ?_)
    rw [hw]
    exact W.lret (v := fX2_signed a0 r_1 0) hx hb hr (fun t ht hW => ⟨_, rfl, (by obtain ⟨t, rfl, ht⟩ := h_1; exact rm_fin hx1 hy1 hi hz ht _ (by rw [if_neg ((lgc0_ge a1).mp c_3)])), ht⟩) (fun q hq => absurd hq List.not_mem_nil) dX2_restOf_29
  · refine lv_iconst (v := 1) hx hb dX2_restOf_21 (by decide) ?_
    refine lv_goto (tgt := 26) hx hb dX2_restOf_22 (by decide) ?_
    refine vp_callSl ((va_runS (As := [.int a0, .long r_1, .int 1]) (rest := []) ⟨hx, hb, hml, hown, hts⟩ (met_X2_signed l a0 r_1 1) (va_cwS 3 hts gX2_restOf_X2_signed rfl rfl rfl (by decide +kernel) ⟨Nat.le_of_ble_eq_true rfl, Nat.le_of_ble_eq_true rfl⟩) ⟨fun _ _ _ _ q => q, fun U hU hW => ⟨rfl, trivial⟩⟩ rfl rfl hl.1 rfl (lv_room (Nat.le_of_ble_eq_true rfl)) dX2_restOf_26 ⟨Nat.le_of_ble_eq_true rfl, Nat.le_of_ble_eq_true rfl⟩).run) (fun r hw => ?_)
    rw [hw]
    exact W.lret (v := fX2_signed a0 r_1 1) hx hb hr (fun t ht hW => ⟨_, rfl, (by obtain ⟨t, rfl, ht⟩ := h_1; exact rm_fin hx1 hy1 hi hz ht _ (by rw [if_pos (Decidable.not_not.mp (fun g => c_3 ((lgc0_ge a1).mpr g)))])), ht⟩) (fun q hq => absurd hq List.not_mem_nil) dX2_restOf_29

set_option maxHeartbeats 4000000 in
set_option maxRecDepth 100000 in
theorem met_X0_castWhole (l : Launch) (a0 : Int64) (a1 : Int32)  : Met l yX0_castWhole wsX0_castWhole ({ frames := 4, cells := 0, slots := 0, locals := 96 }) (va_Pc [.long a0, .int a1] (fun _ => True)) (vp_Sl (fun r => r = csW a0 a1)) 0 0 (fun _ => False) := by
  refine Met.ofW (cc := cX0_castWhole) (maxL := 3) (ret := (some .long)) (by decide) rfl ?_
  intro p e s m args below meth c s₁ B hml hv
  obtain ⟨rfl, -⟩ := hv
  have hx := B.exec
  have hb := B.bytes
  have hr := B.returns
  have hts := atoms_spec (ws := wsX0_castWhole) B.pre
  have hown : s.vm.findClass RX0 = some m.cls := findClass_of_methodNamed B.named
  have hlocks := B.notSynchronized
  have hl := lv_entry ([.long a0, .int a1]) (n := 3) (Nat.le_of_ble_eq_true rfl)
  rw [lg_entry_eq]
  generalize (lg_sl ([.long a0, .int a1]) ++ List.replicate (3 - (lg_sl ([.long a0, .int a1])).length) Slot.unset).toArray = ls at hl ⊢
  have hl : lv_has ls 3 [(0, .long a0), (2, .int a1)] := hl
  refine lv_iload_n hx hb dX0_castWhole_0 rfl (lv_at hl 1 rfl) ?_
  rcases Decidable.em (a1 = 0) with c_1 | c_1
  · refine lv_tableIn (x := a1) (off := 27) (tgt := 28) hx hb dX0_castWhole_1 (by rw [c_1]; decide) (by rw [c_1]; decide) (by rw [c_1]; rfl) (by decide) ?_
    refine lv_lload_n hx hb dX0_castWhole_28 rfl (lv_at hl 0 rfl) ?_
    refine lv_l2i hx hb dX0_castWhole_29 rfl ?_
    refine lv_i2l hx hb dX0_castWhole_30 rfl ?_
    exact W.lret (v := a0.toInt32.toInt64) hx hb hr (fun t ht hW => ⟨_, rfl, (by simp only [csW, if_pos c_1]), ht⟩) (fun q hq => absurd hq List.not_mem_nil) dX0_castWhole_31
  rcases Decidable.em (a1 = 1) with c_2 | c_2
  · refine lv_tableIn (x := a1) (off := 31) (tgt := 32) hx hb dX0_castWhole_1 (by rw [c_2]; decide) (by rw [c_2]; decide) (by rw [c_2]; rfl) (by decide) ?_
    refine lv_lload_n hx hb dX0_castWhole_32 rfl (lv_at hl 0 rfl) ?_
    exact W.lret (v := a0) hx hb hr (fun t ht hW => ⟨_, rfl, (by simp only [csW, if_neg c_1, if_pos c_2]), ht⟩) (fun q hq => absurd hq List.not_mem_nil) dX0_castWhole_33
  rcases Decidable.em (a1 = 2) with c_3 | c_3
  · refine lv_tableIn (x := a1) (off := 33) (tgt := 34) hx hb dX0_castWhole_1 (by rw [c_3]; decide) (by rw [c_3]; decide) (by rw [c_3]; rfl) (by decide) ?_
    refine lv_iconst (v := 2) hx hb dX0_castWhole_34 (by decide) ?_
    refine lv_lload_n hx hb dX0_castWhole_35 rfl (lv_at hl 0 rfl) ?_
    refine lv_l2f hx hb dX0_castWhole_36 ?_
    refine lv_f2d hx hb dX0_castWhole_37 (fm_n64.mpr (fm_f2dn (l2f_nn a0))) ?_
    refine lv_topd (fun z_4 ez_4 => ?_)
    obtain rfl : z_4 = vl 2 (fB (FP.l2f a0)) := ez_4.trans ((vl_fB _).symm)
    refine vp_callSl ((va_runS (As := [.int 2, .double (vl 2 (fB (FP.l2f a0)))]) (rest := []) ⟨hx, hb, hml, hown, hts⟩ (met_X2_bitsOf l  2 (fB (FP.l2f a0)) (okR_fB (l2f_nn a0))) (va_cwS 2 hts gX0_castWhole_X2_bitsOf rfl rfl rfl (by decide +kernel) ⟨Nat.le_of_ble_eq_true rfl, Nat.le_of_ble_eq_true rfl⟩) ⟨fun _ _ _ _ q => q, fun U hU hW => ⟨rfl, trivial⟩⟩ rfl rfl hl.1 rfl (lv_room (Nat.le_of_ble_eq_true rfl)) dX0_castWhole_38 ⟨Nat.le_of_ble_eq_true rfl, Nat.le_of_ble_eq_true rfl⟩).run) (fun r_1 h_1 => ?_)
    subst h_1
    exact W.lret (v := (fB (FP.l2f a0))) hx hb hr (fun t ht hW => ⟨_, rfl, (by simp only [csW, if_neg c_1, if_neg c_2, if_pos c_3]), ht⟩) (fun q hq => absurd hq List.not_mem_nil) dX0_castWhole_41
  refine lv_tableOut (tgt := 42) hx hb dX0_castWhole_1 (sw_out2 c_1 c_2 c_3) (by decide) ?_
  refine lv_iconst (v := 3) hx hb dX0_castWhole_42 (by decide) ?_
  refine lv_lload_n hx hb dX0_castWhole_43 rfl (lv_at hl 0 rfl) ?_
  refine lv_l2d hx hb dX0_castWhole_44 ?_
  refine lv_topd (fun z_5 ez_5 => ?_)
  obtain rfl : z_5 = vl 3 (FP.l2d a0).toInt64 := ez_5.trans ((vl_d _).symm)
  refine vp_callSl ((va_runS (As := [.int 3, .double (vl 3 (FP.l2d a0).toInt64)]) (rest := []) ⟨hx, hb, hml, hown, hts⟩ (met_X2_bitsOf l  3 ((FP.l2d a0).toInt64) (okR_d (l2d_nn a0))) (va_cwS 2 hts gX0_castWhole_X2_bitsOf rfl rfl rfl (by decide +kernel) ⟨Nat.le_of_ble_eq_true rfl, Nat.le_of_ble_eq_true rfl⟩) ⟨fun _ _ _ _ q => q, fun U hU hW => ⟨rfl, trivial⟩⟩ rfl rfl hl.1 rfl (lv_room (Nat.le_of_ble_eq_true rfl)) dX0_castWhole_45 ⟨Nat.le_of_ble_eq_true rfl, Nat.le_of_ble_eq_true rfl⟩).run) (fun r_2 h_2 => ?_)
  subst h_2
  exact W.lret (v := ((FP.l2d a0).toInt64)) hx hb hr (fun t ht hW => ⟨_, rfl, (by simp only [csW, if_neg c_1, if_neg c_2, if_neg c_3]), ht⟩) (fun q hq => absurd hq List.not_mem_nil) dX0_castWhole_48

set_option maxHeartbeats 4000000 in
set_option maxRecDepth 100000 in
theorem met_X0_castReal (l : Launch) (a0 : UInt64) (a1 : Int32) (hd : FP.Core.val64 a0 ≠ .nan) : Met l yX0_castReal wsX0_castReal ({ frames := 4, cells := 0, slots := 0, locals := 96 }) (va_Pc [.double a0, .int a1] (fun _ => True)) (vp_Sl (fun r => r = csR a0 a1)) 0 0 (fun _ => False) := by
  refine Met.ofW (cc := cX0_castReal) (maxL := 3) (ret := (some .long)) (by decide) rfl ?_
  intro p e s m args below meth c s₁ B hml hv
  obtain ⟨rfl, -⟩ := hv
  have hx := B.exec
  have hb := B.bytes
  have hr := B.returns
  have hts := atoms_spec (ws := wsX0_castReal) B.pre
  have hown : s.vm.findClass RX0 = some m.cls := findClass_of_methodNamed B.named
  have hlocks := B.notSynchronized
  have hl := lv_entry ([.double a0, .int a1]) (n := 3) (Nat.le_of_ble_eq_true rfl)
  rw [lg_entry_eq]
  generalize (lg_sl ([.double a0, .int a1]) ++ List.replicate (3 - (lg_sl ([.double a0, .int a1])).length) Slot.unset).toArray = ls at hl ⊢
  have hl : lv_has ls 3 [(0, .double a0), (2, .int a1)] := hl
  refine lv_iload_n hx hb dX0_castReal_0 rfl (lv_at hl 1 rfl) ?_
  rcases Decidable.em (a1 = 0) with c_1 | c_1
  · refine lv_tableIn (x := a1) (off := 27) (tgt := 28) hx hb dX0_castReal_1 (by rw [c_1]; decide) (by rw [c_1]; decide) (by rw [c_1]; rfl) (by decide) ?_
    refine lv_dload_n hx hb dX0_castReal_28 rfl (lv_at hl 0 rfl) ?_
    refine lv_d2i hx hb dX0_castReal_29 ?_
    refine lv_i2l hx hb dX0_castReal_30 rfl ?_
    exact W.lret (v := (FP.d2i a0).toInt64) hx hb hr (fun t ht hW => ⟨_, rfl, (by simp only [csR, if_pos c_1]), ht⟩) (fun q hq => absurd hq List.not_mem_nil) dX0_castReal_31
  rcases Decidable.em (a1 = 1) with c_2 | c_2
  · refine lv_tableIn (x := a1) (off := 31) (tgt := 32) hx hb dX0_castReal_1 (by rw [c_2]; decide) (by rw [c_2]; decide) (by rw [c_2]; rfl) (by decide) ?_
    refine lv_dload_n hx hb dX0_castReal_32 rfl (lv_at hl 0 rfl) ?_
    refine lv_d2l hx hb dX0_castReal_33 ?_
    exact W.lret (v := FP.d2l a0) hx hb hr (fun t ht hW => ⟨_, rfl, (by simp only [csR, if_neg c_1, if_pos c_2]), ht⟩) (fun q hq => absurd hq List.not_mem_nil) dX0_castReal_34
  rcases Decidable.em (a1 = 2) with c_3 | c_3
  · refine lv_tableIn (x := a1) (off := 34) (tgt := 35) hx hb dX0_castReal_1 (by rw [c_3]; decide) (by rw [c_3]; decide) (by rw [c_3]; rfl) (by decide) ?_
    refine lv_iconst (v := 2) hx hb dX0_castReal_35 (by decide) ?_
    refine lv_dload_n hx hb dX0_castReal_36 rfl (lv_at hl 0 rfl) ?_
    refine lv_d2f hx hb dX0_castReal_37 (fm_n32.mpr (fm_d2fn hd)) ?_
    refine lv_f2d hx hb dX0_castReal_38 (fm_n64.mpr (fm_f2dn (fm_d2fn hd))) ?_
    refine lv_topd (fun z_4 ez_4 => ?_)
    obtain rfl : z_4 = vl 2 (fB (FP.d2f a0)) := ez_4.trans ((vl_fB _).symm)
    refine vp_callSl ((va_runS (As := [.int 2, .double (vl 2 (fB (FP.d2f a0)))]) (rest := []) ⟨hx, hb, hml, hown, hts⟩ (met_X2_bitsOf l  2 (fB (FP.d2f a0)) (okR_fB (fm_d2fn hd))) (va_cwS 2 hts gX0_castReal_X2_bitsOf rfl rfl rfl (by decide +kernel) ⟨Nat.le_of_ble_eq_true rfl, Nat.le_of_ble_eq_true rfl⟩) ⟨fun _ _ _ _ q => q, fun U hU hW => ⟨rfl, trivial⟩⟩ rfl rfl hl.1 rfl (lv_room (Nat.le_of_ble_eq_true rfl)) dX0_castReal_39 ⟨Nat.le_of_ble_eq_true rfl, Nat.le_of_ble_eq_true rfl⟩).run) (fun r_1 h_1 => ?_)
    subst h_1
    exact W.lret (v := (fB (FP.d2f a0))) hx hb hr (fun t ht hW => ⟨_, rfl, (by simp only [csR, if_neg c_1, if_neg c_2, if_pos c_3]), ht⟩) (fun q hq => absurd hq List.not_mem_nil) dX0_castReal_42
  refine lv_tableOut (tgt := 43) hx hb dX0_castReal_1 (sw_out2 c_1 c_2 c_3) (by decide) ?_
  refine lv_iconst (v := 3) hx hb dX0_castReal_43 (by decide) ?_
  refine lv_dload_n hx hb dX0_castReal_44 rfl (lv_at hl 0 rfl) ?_
  refine lv_topd (fun z_5 ez_5 => ?_)
  rw [show z_5 = vl 3 a0.toInt64 from ez_5.trans ((vl_d _).symm)]
  refine vp_callSl ((va_runS (As := [.int 3, .double (vl 3 a0.toInt64)]) (rest := []) ⟨hx, hb, hml, hown, hts⟩ (met_X2_bitsOf l  3 (a0.toInt64) (okR_d hd)) (va_cwS 2 hts gX0_castReal_X2_bitsOf rfl rfl rfl (by decide +kernel) ⟨Nat.le_of_ble_eq_true rfl, Nat.le_of_ble_eq_true rfl⟩) ⟨fun _ _ _ _ q => q, fun U hU hW => ⟨rfl, trivial⟩⟩ rfl rfl hl.1 rfl (lv_room (Nat.le_of_ble_eq_true rfl)) dX0_castReal_45 ⟨Nat.le_of_ble_eq_true rfl, Nat.le_of_ble_eq_true rfl⟩).run) (fun r_2 h_2 => ?_)
  subst h_2
  exact W.lret (v := (a0.toInt64)) hx hb hr (fun t ht hW => ⟨_, rfl, (by simp only [csR, if_neg c_1, if_neg c_2, if_neg c_3]), ht⟩) (fun q hq => absurd hq List.not_mem_nil) dX0_castReal_48

set_option maxHeartbeats 4000000 in
set_option maxRecDepth 100000 in
theorem met_X0_cast (l : Launch) (a0 : Int32) (a1 : Int64) (a2 : Int32) (hok : a0 ≤ 1 ∨ okR a0 a1) : Met l yX0_cast wsX0_cast ({ frames := 5, cells := 0, slots := 0, locals := 118 }) (va_Pc [.int a0, .long a1, .int a2] (fun _ => True)) (vp_Sl (fun r => r = cst a0 a1 a2)) 0 0 (fun _ => False) := by
  refine Met.ofW (cc := cX0_cast) (maxL := 4) (ret := (some .long)) (by decide) rfl ?_
  intro p e s m args below meth c s₁ B hml hv
  obtain ⟨rfl, -⟩ := hv
  have hx := B.exec
  have hb := B.bytes
  have hr := B.returns
  have hts := atoms_spec (ws := wsX0_cast) B.pre
  have hown : s.vm.findClass RX0 = some m.cls := findClass_of_methodNamed B.named
  have hlocks := B.notSynchronized
  have hl := lv_entry ([.int a0, .long a1, .int a2]) (n := 4) (Nat.le_of_ble_eq_true rfl)
  rw [lg_entry_eq]
  generalize (lg_sl ([.int a0, .long a1, .int a2]) ++ List.replicate (4 - (lg_sl ([.int a0, .long a1, .int a2])).length) Slot.unset).toArray = ls at hl ⊢
  have hl : lv_has ls 4 [(0, .int a0), (1, .long a1), (3, .int a2)] := hl
  refine lv_iload_n hx hb dX0_cast_0 rfl (lv_at hl 0 rfl) ?_
  refine lv_iload_n hx hb dX0_cast_1 rfl (lv_at hl 2 rfl) ?_
  refine lv_icmp_ne (tgt := 7) hx hb dX0_cast_2 (by decide) (fun c_1 => ?_) (fun c_1 => ?_)
  · refine lv_iload_n hx hb dX0_cast_7 rfl (lv_at hl 0 rfl) ?_
    refine lv_iconst (v := 1) hx hb dX0_cast_8 (by decide) ?_
    refine lv_icmp_gt (tgt := 20) hx hb dX0_cast_9 (by decide) (fun c_2 => ?_) (fun c_2 => ?_)
    · refine lv_iload_n hx hb dX0_cast_20 rfl (lv_at hl 0 rfl) ?_
      refine lv_lload_n hx hb dX0_cast_21 rfl (lv_at hl 1 rfl) ?_
      refine vp_callSd ((va_runS (As := [.int a0, .long a1]) (rest := []) ⟨hx, hb, hml, hown, hts⟩ (met_X2_valueOf l a0 a1 (hok.resolve_left (fun g => by have h := c_2; rw [Int32.lt_iff_toInt_lt] at h; rw [Int32.le_iff_toInt_le] at g; omega))) (va_cwS 2 hts gX0_cast_X2_valueOf rfl rfl rfl (by decide +kernel) ⟨Nat.le_of_ble_eq_true rfl, Nat.le_of_ble_eq_true rfl⟩) ⟨fun _ _ _ _ q => q, fun U hU hW => ⟨rfl, trivial⟩⟩ rfl rfl hl.1 rfl (lv_room (Nat.le_of_ble_eq_true rfl)) dX0_cast_22 ⟨Nat.le_of_ble_eq_true rfl, Nat.le_of_ble_eq_true rfl⟩).run) (fun r_1 h_1 => ?_)
      subst h_1
      refine lv_iload_n hx hb dX0_cast_25 rfl (lv_at hl 2 rfl) ?_
      refine vp_callSl ((va_runS (As := [.double (vl a0 a1), .int a2]) (rest := []) ⟨hx, hb, hml, hown, hts⟩ (met_X0_castReal l (vl a0 a1) a2 (vl_nn (hok.resolve_left (fun g => by have h := c_2; rw [Int32.lt_iff_toInt_lt] at h; rw [Int32.le_iff_toInt_le] at g; omega)))) (va_cwS 2 hts gX0_cast_X0_castReal rfl rfl rfl (by decide +kernel) ⟨Nat.le_of_ble_eq_true rfl, Nat.le_of_ble_eq_true rfl⟩) ⟨fun _ _ _ _ q => q, fun U hU hW => ⟨rfl, trivial⟩⟩ rfl rfl hl.1 rfl (lv_room (Nat.le_of_ble_eq_true rfl)) dX0_cast_26 ⟨Nat.le_of_ble_eq_true rfl, Nat.le_of_ble_eq_true rfl⟩).run) (fun r_2 h_2 => ?_)
      subst h_2
      exact W.lret (v := csR (vl a0 a1) a2) hx hb hr (fun t ht hW => ⟨_, rfl, (by simp only [cst, if_neg c_1, if_neg (show ¬ a0 ≤ 1 by rw [Int32.le_iff_toInt_le]; rw [Int32.lt_iff_toInt_lt] at c_2; omega)]), ht⟩) (fun q hq => absurd hq List.not_mem_nil) dX0_cast_29
    · refine lv_lload_n hx hb dX0_cast_12 rfl (lv_at hl 1 rfl) ?_
      refine lv_iload_n hx hb dX0_cast_13 rfl (lv_at hl 2 rfl) ?_
      refine vp_callSl ((va_runS (As := [.long a1, .int a2]) (rest := []) ⟨hx, hb, hml, hown, hts⟩ (met_X0_castWhole l a1 a2 ) (va_cwS 2 hts gX0_cast_X0_castWhole rfl rfl rfl (by decide +kernel) ⟨Nat.le_of_ble_eq_true rfl, Nat.le_of_ble_eq_true rfl⟩) ⟨fun _ _ _ _ q => q, fun U hU hW => ⟨rfl, trivial⟩⟩ rfl rfl hl.1 rfl (lv_room (Nat.le_of_ble_eq_true rfl)) dX0_cast_14 ⟨Nat.le_of_ble_eq_true rfl, Nat.le_of_ble_eq_true rfl⟩).run) (fun r_3 h_3 => ?_)
      subst h_3
      refine lv_goto (tgt := 29) hx hb dX0_cast_17 (by decide) ?_
      exact W.lret (v := csW a1 a2) hx hb hr (fun t ht hW => ⟨_, rfl, (by simp only [cst, if_neg c_1, if_pos (show a0 ≤ 1 by rw [Int32.le_iff_toInt_le]; rw [Int32.lt_iff_toInt_lt] at c_2; omega)]), ht⟩) (fun q hq => absurd hq List.not_mem_nil) dX0_cast_29
  · refine lv_lload_n hx hb dX0_cast_5 rfl (lv_at hl 1 rfl) ?_
    exact W.lret (v := a1) hx hb hr (fun t ht hW => ⟨_, rfl, (by simp only [cst, if_pos c_1]), ht⟩) (fun q hq => absurd hq List.not_mem_nil) dX0_cast_6

set_option maxHeartbeats 4000000 in
set_option maxRecDepth 100000 in
theorem met_X2_workedFloats (l : Launch) (a0 : Int32) (a1 : UInt32) (a2 : UInt32) (hn : FP.Core.val32 (fop a0 a1 a2) ≠ .nan) : Met l yX2_workedFloats wsX2_workedFloats ({ frames := 0, cells := 0, slots := 0, locals := 0 }) (va_Pc [.int a0, .float a1, .float a2] (fun _ => True)) (vp_Sf (fun r => r = fop a0 a1 a2)) 0 0 (fun _ => False) := by
  refine Met.ofW (cc := cX2_workedFloats) (maxL := 3) (ret := (some .float)) (by decide) rfl ?_
  intro p e s m args below meth c s₁ B hml hv
  obtain ⟨rfl, -⟩ := hv
  have hx := B.exec
  have hb := B.bytes
  have hr := B.returns
  have hts := atoms_spec (ws := wsX2_workedFloats) B.pre
  have hown : s.vm.findClass RX2 = some m.cls := findClass_of_methodNamed B.named
  have hlocks := B.notSynchronized
  have hl := lv_entry ([.int a0, .float a1, .float a2]) (n := 3) (Nat.le_of_ble_eq_true rfl)
  rw [lg_entry_eq]
  generalize (lg_sl ([.int a0, .float a1, .float a2]) ++ List.replicate (3 - (lg_sl ([.int a0, .float a1, .float a2])).length) Slot.unset).toArray = ls at hl ⊢
  have hl : lv_has ls 3 [(0, .int a0), (1, .float a1), (2, .float a2)] := hl
  refine lv_iload_n hx hb dX2_workedFloats_0 rfl (lv_at hl 0 rfl) ?_
  rcases Decidable.em (a0 = 0) with c_1 | c_1
  · refine lv_tableIn (x := a0) (off := 27) (tgt := 28) hx hb dX2_workedFloats_1 (by rw [c_1]; decide) (by rw [c_1]; decide) (by rw [c_1]; rfl) (by decide) ?_
    refine lv_fload_n hx hb dX2_workedFloats_28 rfl (lv_at hl 1 rfl) ?_
    refine lv_fload_n hx hb dX2_workedFloats_29 rfl (lv_at hl 2 rfl) ?_
    refine lv_fadd hx hb dX2_workedFloats_30 (by have h := hn; simp only [fop, if_pos c_1] at h; exact fm_n32.mpr h) ?_
    exact W.fret (v := FP.fadd a1 a2) hx hb hr (fun t ht hW => ⟨_, rfl, (by simp only [fop, if_pos c_1]), ht⟩) (fun q hq => absurd hq List.not_mem_nil) dX2_workedFloats_31
  rcases Decidable.em (a0 = 1) with c_2 | c_2
  · refine lv_tableIn (x := a0) (off := 31) (tgt := 32) hx hb dX2_workedFloats_1 (by rw [c_2]; decide) (by rw [c_2]; decide) (by rw [c_2]; rfl) (by decide) ?_
    refine lv_fload_n hx hb dX2_workedFloats_32 rfl (lv_at hl 1 rfl) ?_
    refine lv_fload_n hx hb dX2_workedFloats_33 rfl (lv_at hl 2 rfl) ?_
    refine lv_fsub hx hb dX2_workedFloats_34 (by have h := hn; simp only [fop, if_neg c_1, if_pos c_2] at h; exact fm_n32.mpr h) ?_
    exact W.fret (v := FP.fsub a1 a2) hx hb hr (fun t ht hW => ⟨_, rfl, (by simp only [fop, if_neg c_1, if_pos c_2]), ht⟩) (fun q hq => absurd hq List.not_mem_nil) dX2_workedFloats_35
  rcases Decidable.em (a0 = 2) with c_3 | c_3
  · refine lv_tableIn (x := a0) (off := 35) (tgt := 36) hx hb dX2_workedFloats_1 (by rw [c_3]; decide) (by rw [c_3]; decide) (by rw [c_3]; rfl) (by decide) ?_
    refine lv_fload_n hx hb dX2_workedFloats_36 rfl (lv_at hl 1 rfl) ?_
    refine lv_fload_n hx hb dX2_workedFloats_37 rfl (lv_at hl 2 rfl) ?_
    refine lv_fmul hx hb dX2_workedFloats_38 (by have h := hn; simp only [fop, if_neg c_1, if_neg c_2, if_pos c_3] at h; exact fm_n32.mpr h) ?_
    exact W.fret (v := FP.fmul a1 a2) hx hb hr (fun t ht hW => ⟨_, rfl, (by simp only [fop, if_neg c_1, if_neg c_2, if_pos c_3]), ht⟩) (fun q hq => absurd hq List.not_mem_nil) dX2_workedFloats_39
  refine lv_tableOut (tgt := 40) hx hb dX2_workedFloats_1 (sw_out2 c_1 c_2 c_3) (by decide) ?_
  refine lv_fload_n hx hb dX2_workedFloats_40 rfl (lv_at hl 1 rfl) ?_
  refine lv_fload_n hx hb dX2_workedFloats_41 rfl (lv_at hl 2 rfl) ?_
  refine lv_fdiv hx hb dX2_workedFloats_42 (by have h := hn; simp only [fop, if_neg c_1, if_neg c_2, if_neg c_3] at h; exact fm_n32.mpr h) ?_
  exact W.fret (v := FP.fdiv a1 a2) hx hb hr (fun t ht hW => ⟨_, rfl, (by simp only [fop, if_neg c_1, if_neg c_2, if_neg c_3]), ht⟩) (fun q hq => absurd hq List.not_mem_nil) dX2_workedFloats_43

set_option maxHeartbeats 4000000 in
set_option maxRecDepth 100000 in
theorem met_X2_worked (l : Launch) (a0 : Int32) (a1 : Int32) (x y : Int64) (hx1 : okR a0 x) (hy1 : okR a0 y) (hn : okR a0 (wkB a0 a1 x y)) : Met l yX2_worked wsX2_worked ({ frames := 1, cells := 0, slots := 0, locals := 22 }) (va_Pc [.int a0, .int a1, .double (vl a0 x), .double (vl a0 y)] (fun _ => True)) (vp_Sd (fun r => r = vl a0 (wkB a0 a1 x y))) 0 0 (fun _ => False) := by
  refine Met.ofW (cc := cX2_worked) (maxL := 6) (ret := (some .double)) (by decide) rfl ?_
  intro p e s m args below meth c s₁ B hml hv
  obtain ⟨rfl, -⟩ := hv
  have hx := B.exec
  have hb := B.bytes
  have hr := B.returns
  have hts := atoms_spec (ws := wsX2_worked) B.pre
  have hown : s.vm.findClass RX2 = some m.cls := findClass_of_methodNamed B.named
  have hlocks := B.notSynchronized
  have hl := lv_entry ([.int a0, .int a1, .double (vl a0 x), .double (vl a0 y)]) (n := 6) (Nat.le_of_ble_eq_true rfl)
  rw [lg_entry_eq]
  generalize (lg_sl ([.int a0, .int a1, .double (vl a0 x), .double (vl a0 y)]) ++ List.replicate (6 - (lg_sl ([.int a0, .int a1, .double (vl a0 x), .double (vl a0 y)])).length) Slot.unset).toArray = ls at hl ⊢
  have hl : lv_has ls 6 [(0, .int a0), (1, .int a1), (2, .double (vl a0 x)), (4, .double (vl a0 y))] := hl
  refine lv_iload_n hx hb dX2_worked_0 rfl (lv_at hl 0 rfl) ?_
  refine lv_iconst (v := 2) hx hb dX2_worked_1 (by decide) ?_
  refine lv_icmp_ne (tgt := 16) hx hb dX2_worked_2 (by decide) (fun c_1 => ?_) (fun c_1 => ?_)
  · refine lv_iload_n hx hb dX2_worked_16 rfl (lv_at hl 1 rfl) ?_
    rcases Decidable.em (a1 = 0) with c_2 | c_2
    · refine lv_tableIn (x := a1) (off := 27) (tgt := 44) hx hb dX2_worked_17 (by rw [c_2]; decide) (by rw [c_2]; decide) (by rw [c_2]; rfl) (by decide) ?_
      refine lv_dload_n hx hb dX2_worked_44 rfl (lv_at hl 2 rfl) ?_
      refine lv_topd (fun z_3 ez_3 => ?_)
      obtain rfl : z_3 = x.toUInt64 := ez_3.trans (vl_3 c_1 x)
      refine lv_dload hx hb dX2_worked_45 (lv_at hl 3 rfl) ?_
      refine lv_topd (fun z_4 ez_4 => ?_)
      obtain rfl : z_4 = y.toUInt64 := ez_4.trans (vl_3 c_1 y)
      refine lv_dadd hx hb dX2_worked_47 (by have h := wk_val3 hn c_1; simp only [dop, if_pos c_2] at h; exact fm_n64.mpr h) ?_
      exact W.dret (v := FP.dadd x.toUInt64 y.toUInt64) hx hb hr (fun t ht hW => ⟨_, rfl, (by rw [vl_wk3 c_1]; simp only [dop, if_pos c_2]), ht⟩) (fun q hq => absurd hq List.not_mem_nil) dX2_worked_48
    rcases Decidable.em (a1 = 1) with c_5 | c_5
    · refine lv_tableIn (x := a1) (off := 32) (tgt := 49) hx hb dX2_worked_17 (by rw [c_5]; decide) (by rw [c_5]; decide) (by rw [c_5]; rfl) (by decide) ?_
      refine lv_dload_n hx hb dX2_worked_49 rfl (lv_at hl 2 rfl) ?_
      refine lv_topd (fun z_6 ez_6 => ?_)
      obtain rfl : z_6 = x.toUInt64 := ez_6.trans (vl_3 c_1 x)
      refine lv_dload hx hb dX2_worked_50 (lv_at hl 3 rfl) ?_
      refine lv_topd (fun z_7 ez_7 => ?_)
      obtain rfl : z_7 = y.toUInt64 := ez_7.trans (vl_3 c_1 y)
      refine lv_dsub hx hb dX2_worked_52 (by have h := wk_val3 hn c_1; simp only [dop, if_neg c_2, if_pos c_5] at h; exact fm_n64.mpr h) ?_
      exact W.dret (v := FP.dsub x.toUInt64 y.toUInt64) hx hb hr (fun t ht hW => ⟨_, rfl, (by rw [vl_wk3 c_1]; simp only [dop, if_neg c_2, if_pos c_5]), ht⟩) (fun q hq => absurd hq List.not_mem_nil) dX2_worked_53
    rcases Decidable.em (a1 = 2) with c_8 | c_8
    · refine lv_tableIn (x := a1) (off := 37) (tgt := 54) hx hb dX2_worked_17 (by rw [c_8]; decide) (by rw [c_8]; decide) (by rw [c_8]; rfl) (by decide) ?_
      refine lv_dload_n hx hb dX2_worked_54 rfl (lv_at hl 2 rfl) ?_
      refine lv_topd (fun z_9 ez_9 => ?_)
      obtain rfl : z_9 = x.toUInt64 := ez_9.trans (vl_3 c_1 x)
      refine lv_dload hx hb dX2_worked_55 (lv_at hl 3 rfl) ?_
      refine lv_topd (fun z_10 ez_10 => ?_)
      obtain rfl : z_10 = y.toUInt64 := ez_10.trans (vl_3 c_1 y)
      refine lv_dmul hx hb dX2_worked_57 (by have h := wk_val3 hn c_1; simp only [dop, if_neg c_2, if_neg c_5, if_pos c_8] at h; exact fm_n64.mpr h) ?_
      exact W.dret (v := FP.dmul x.toUInt64 y.toUInt64) hx hb hr (fun t ht hW => ⟨_, rfl, (by rw [vl_wk3 c_1]; simp only [dop, if_neg c_2, if_neg c_5, if_pos c_8]), ht⟩) (fun q hq => absurd hq List.not_mem_nil) dX2_worked_58
    refine lv_tableOut (tgt := 59) hx hb dX2_worked_17 (sw_out2 c_2 c_5 c_8) (by decide) ?_
    refine lv_dload_n hx hb dX2_worked_59 rfl (lv_at hl 2 rfl) ?_
    refine lv_topd (fun z_11 ez_11 => ?_)
    obtain rfl : z_11 = x.toUInt64 := ez_11.trans (vl_3 c_1 x)
    refine lv_dload hx hb dX2_worked_60 (lv_at hl 3 rfl) ?_
    refine lv_topd (fun z_12 ez_12 => ?_)
    obtain rfl : z_12 = y.toUInt64 := ez_12.trans (vl_3 c_1 y)
    refine lv_ddiv hx hb dX2_worked_62 (by have h := wk_val3 hn c_1; simp only [dop, if_neg c_2, if_neg c_5, if_neg c_8] at h; exact fm_n64.mpr h) ?_
    exact W.dret (v := FP.ddiv x.toUInt64 y.toUInt64) hx hb hr (fun t ht hW => ⟨_, rfl, (by rw [vl_wk3 c_1]; simp only [dop, if_neg c_2, if_neg c_5, if_neg c_8]), ht⟩) (fun q hq => absurd hq List.not_mem_nil) dX2_worked_63
  · refine lv_iload_n hx hb dX2_worked_5 rfl (lv_at hl 1 rfl) ?_
    refine lv_dload_n hx hb dX2_worked_6 rfl (lv_at hl 2 rfl) ?_
    refine lv_d2f hx hb dX2_worked_7 (fm_n32.mpr (fm_d2fn (vl_nn hx1))) ?_
    refine lv_topf (fun z_13 ez_13 => ?_)
    obtain rfl : z_13 = u32 x := ez_13.trans (d2f_vl c_1 hx1)
    refine lv_dload hx hb dX2_worked_8 (lv_at hl 3 rfl) ?_
    refine lv_d2f hx hb dX2_worked_10 (fm_n32.mpr (fm_d2fn (vl_nn hy1))) ?_
    refine lv_topf (fun z_14 ez_14 => ?_)
    obtain rfl : z_14 = u32 y := ez_14.trans (d2f_vl c_1 hy1)
    refine vp_callSf ((va_runS (As := [.int a1, .float (u32 x), .float (u32 y)]) (rest := []) ⟨hx, hb, hml, hown, hts⟩ (met_X2_workedFloats l a1 (u32 x) (u32 y) (wk_val hn c_1)) (va_cwS 3 hts gX2_worked_X2_workedFloats rfl rfl rfl (by decide +kernel) ⟨Nat.le_of_ble_eq_true rfl, Nat.le_of_ble_eq_true rfl⟩) ⟨fun _ _ _ _ q => q, fun U hU hW => ⟨rfl, trivial⟩⟩ rfl rfl hl.1 rfl (lv_room (Nat.le_of_ble_eq_true rfl)) dX2_worked_11 ⟨Nat.le_of_ble_eq_true rfl, Nat.le_of_ble_eq_true rfl⟩).run) (fun r_1 h_1 => ?_)
    subst h_1
    refine lv_f2d hx hb dX2_worked_14 (fm_n64.mpr (fm_f2dn (wk_val hn c_1))) ?_
    exact W.dret (v := FP.f2d (fop a1 (u32 x) (u32 y))) hx hb hr (fun t ht hW => ⟨_, rfl, (vl_wk2 c_1).symm, ht⟩) (fun q hq => absurd hq List.not_mem_nil) dX2_worked_15

set_option maxHeartbeats 4000000 in
set_option maxRecDepth 100000 in
theorem met_X0_worked (l : Launch) (a0 : Int32) (a1 : Int32) (a2 : Int64) (a3 : Int64) (hv : ¬ (a0 = 0 ∨ a0 = 1) → okR a0 a2 ∧ okR a0 a3 ∧ (a1 = 4 → (¬ mgN a0 a2 = infN a0) ∧ ¬ mgN a0 a3 = 0) ∧ (¬ a1 = 4 → okR a0 (wkB a0 a1 a2 a3))) : Met l yX0_worked wsX0_worked ({ frames := 5, cells := 0, slots := 0, locals := 121 }) (va_Pc [.int a0, .int a1, .long a2, .long a3] (fun _ => True)) (vp_Sl (fun r => r = wk a0 a1 a2 a3)) 0 0 (fun _ => False) := by
  refine Met.ofW (cc := cX0_worked) (maxL := 6) (ret := (some .long)) (by decide) rfl ?_
  intro p e s m args below meth c s₁ B hml hv
  obtain ⟨rfl, -⟩ := hv
  have hx := B.exec
  have hb := B.bytes
  have hr := B.returns
  have hts := atoms_spec (ws := wsX0_worked) B.pre
  have hown : s.vm.findClass RX0 = some m.cls := findClass_of_methodNamed B.named
  have hlocks := B.notSynchronized
  have hl := lv_entry ([.int a0, .int a1, .long a2, .long a3]) (n := 6) (Nat.le_of_ble_eq_true rfl)
  rw [lg_entry_eq]
  generalize (lg_sl ([.int a0, .int a1, .long a2, .long a3]) ++ List.replicate (6 - (lg_sl ([.int a0, .int a1, .long a2, .long a3])).length) Slot.unset).toArray = ls at hl ⊢
  have hl : lv_has ls 6 [(0, .int a0), (1, .int a1), (2, .long a2), (4, .long a3)] := hl
  refine lv_iload_n hx hb dX0_worked_0 rfl (lv_at hl 0 rfl) ?_
  refine lv_if_ne (tgt := 14) hx hb dX0_worked_1 (by decide) (fun c_1 => ?_) (fun c_1 => ?_)
  · refine lv_iload_n hx hb dX0_worked_14 rfl (lv_at hl 0 rfl) ?_
    refine lv_iconst (v := 1) hx hb dX0_worked_15 (by decide) ?_
    refine lv_icmp_ne (tgt := 27) hx hb dX0_worked_16 (by decide) (fun c_2 => ?_) (fun c_2 => ?_)
    · refine lv_iload_n hx hb dX0_worked_27 rfl (lv_at hl 1 rfl) ?_
      refine lv_iconst (v := 4) hx hb dX0_worked_28 (by decide) ?_
      refine lv_icmp_ne (tgt := 40) hx hb dX0_worked_29 (by decide) (fun c_3 => ?_) (fun c_3 => ?_)
      · refine lv_iload_n hx hb dX0_worked_40 rfl (lv_at hl 0 rfl) ?_
        refine lv_iload_n hx hb dX0_worked_41 rfl (lv_at hl 0 rfl) ?_
        refine lv_iload_n hx hb dX0_worked_42 rfl (lv_at hl 1 rfl) ?_
        refine lv_iload_n hx hb dX0_worked_43 rfl (lv_at hl 0 rfl) ?_
        refine lv_lload_n hx hb dX0_worked_44 rfl (lv_at hl 2 rfl) ?_
        refine vp_callSd ((va_runS (As := [.int a0, .long a2]) (rest := [.int a1, .int a0, .int a0]) ⟨hx, hb, hml, hown, hts⟩ (met_X2_valueOf l a0 a2 (hv (fun g => g.elim c_1 c_2)).1) (va_cwS 2 hts gX0_worked_X2_valueOf rfl rfl rfl (by decide +kernel) ⟨Nat.le_of_ble_eq_true rfl, Nat.le_of_ble_eq_true rfl⟩) ⟨fun _ _ _ _ q => q, fun U hU hW => ⟨rfl, trivial⟩⟩ rfl rfl hl.1 rfl (lv_room (Nat.le_of_ble_eq_true rfl)) dX0_worked_45 ⟨Nat.le_of_ble_eq_true rfl, Nat.le_of_ble_eq_true rfl⟩).run) (fun r_1 h_1 => ?_)
        subst h_1
        refine lv_iload_n hx hb dX0_worked_48 rfl (lv_at hl 0 rfl) ?_
        refine lv_lload hx hb dX0_worked_49 (lv_at hl 3 rfl) ?_
        refine vp_callSd ((va_runS (As := [.int a0, .long a3]) (rest := [.double (vl a0 a2), .int a1, .int a0, .int a0]) ⟨hx, hb, hml, hown, hts⟩ (met_X2_valueOf l a0 a3 (hv (fun g => g.elim c_1 c_2)).2.1) (va_cwS 2 hts gX0_worked_X2_valueOf rfl rfl rfl (by decide +kernel) ⟨Nat.le_of_ble_eq_true rfl, Nat.le_of_ble_eq_true rfl⟩) ⟨fun _ _ _ _ q => q, fun U hU hW => ⟨rfl, trivial⟩⟩ rfl rfl hl.1 rfl (lv_room (Nat.le_of_ble_eq_true rfl)) dX0_worked_51 ⟨Nat.le_of_ble_eq_true rfl, Nat.le_of_ble_eq_true rfl⟩).run) (fun r_2 h_2 => ?_)
        subst h_2
        refine vp_callSd ((va_runS (As := [.int a0, .int a1, .double (vl a0 a2), .double (vl a0 a3)]) (rest := [.int a0]) ⟨hx, hb, hml, hown, hts⟩ (met_X2_worked l  a0 a1 a2 a3 ((hv (fun g => g.elim c_1 c_2)).1) ((hv (fun g => g.elim c_1 c_2)).2.1) ((hv (fun g => g.elim c_1 c_2)).2.2.2 c_3)) (va_cwS 4 hts gX0_worked_X2_worked rfl rfl rfl (by decide +kernel) ⟨Nat.le_of_ble_eq_true rfl, Nat.le_of_ble_eq_true rfl⟩) ⟨fun _ _ _ _ q => q, fun U hU hW => ⟨rfl, trivial⟩⟩ rfl rfl hl.1 rfl (lv_room (Nat.le_of_ble_eq_true rfl)) dX0_worked_54 ⟨Nat.le_of_ble_eq_true rfl, Nat.le_of_ble_eq_true rfl⟩).run) (fun r_3 h_3 => ?_)
        subst h_3
        refine vp_callSl ((va_runS (As := [.int a0, .double (vl a0 (wkB a0 a1 a2 a3))]) (rest := []) ⟨hx, hb, hml, hown, hts⟩ (met_X2_bitsOf l  a0 (wkB a0 a1 a2 a3) ((hv (fun g => g.elim c_1 c_2)).2.2.2 c_3)) (va_cwS 2 hts gX0_worked_X2_bitsOf rfl rfl rfl (by decide +kernel) ⟨Nat.le_of_ble_eq_true rfl, Nat.le_of_ble_eq_true rfl⟩) ⟨fun _ _ _ _ q => q, fun U hU hW => ⟨rfl, trivial⟩⟩ rfl rfl hl.1 rfl (lv_room (Nat.le_of_ble_eq_true rfl)) dX0_worked_57 ⟨Nat.le_of_ble_eq_true rfl, Nat.le_of_ble_eq_true rfl⟩).run) (fun r_4 h_4 => ?_)
        subst h_4
        exact W.lret (v := (wkB a0 a1 a2 a3)) hx hb hr (fun t ht hW => ⟨_, rfl, (by simp only [wk, if_neg c_1, if_neg c_2, if_neg c_3]), ht⟩) (fun q hq => absurd hq List.not_mem_nil) dX0_worked_60
      · refine lv_iload_n hx hb dX0_worked_32 rfl (lv_at hl 0 rfl) ?_
        refine lv_lload_n hx hb dX0_worked_33 rfl (lv_at hl 2 rfl) ?_
        refine lv_lload hx hb dX0_worked_34 (lv_at hl 3 rfl) ?_
        refine vp_callSl ((va_runS (As := [.int a0, .long a2, .long a3]) (rest := []) ⟨hx, hb, hml, hown, hts⟩ (met_X2_restOf l a0 a2 a3 (hv (fun g => g.elim c_1 c_2)).1 (hv (fun g => g.elim c_1 c_2)).2.1 ((hv (fun g => g.elim c_1 c_2)).2.2.1 c_3).1 ((hv (fun g => g.elim c_1 c_2)).2.2.1 c_3).2) (va_cwS 3 hts gX0_worked_X2_restOf rfl rfl rfl (by decide +kernel) ⟨Nat.le_of_ble_eq_true rfl, Nat.le_of_ble_eq_true rfl⟩) ⟨fun _ _ _ _ q => q, fun U hU hW => ⟨rfl, trivial⟩⟩ rfl rfl hl.1 rfl (lv_room (Nat.le_of_ble_eq_true rfl)) dX0_worked_36 ⟨Nat.le_of_ble_eq_true rfl, Nat.le_of_ble_eq_true rfl⟩).run) (fun r_5 h_5 => ?_)
        subst h_5
        exact W.lret (v := rmB a0 a2 a3) hx hb hr (fun t ht hW => ⟨_, rfl, (by simp only [wk, if_neg c_1, if_neg c_2, if_pos c_3]), ht⟩) (fun q hq => absurd hq List.not_mem_nil) dX0_worked_39
    · refine lv_iload_n hx hb dX0_worked_19 rfl (lv_at hl 1 rfl) ?_
      refine lv_lload_n hx hb dX0_worked_20 rfl (lv_at hl 2 rfl) ?_
      refine lv_lload hx hb dX0_worked_21 (lv_at hl 3 rfl) ?_
      refine vp_callSl ((va_runS (As := [.int a1, .long a2, .long a3]) (rest := []) ⟨hx, hb, hml, hown, hts⟩ (met_X0_workedWhole l a1 a2 a3) (va_cwS 3 hts gX0_worked_X0_workedWhole rfl rfl rfl (by decide +kernel) ⟨Nat.le_of_ble_eq_true rfl, Nat.le_of_ble_eq_true rfl⟩) ⟨fun _ _ _ _ q => q, fun U hU hW => ⟨rfl, trivial⟩⟩ rfl rfl hl.1 rfl (lv_room (Nat.le_of_ble_eq_true rfl)) dX0_worked_23 ⟨Nat.le_of_ble_eq_true rfl, Nat.le_of_ble_eq_true rfl⟩).run) (fun r hw => ?_)
      subst hw
      exact W.lret (v := fX0_workedWhole a1 a2 a3) hx hb hr (fun t ht hW => ⟨_, rfl, (by simp only [wk, if_neg c_1, if_pos c_2]), ht⟩) (fun q hq => absurd hq List.not_mem_nil) dX0_worked_26
  · refine lv_iload_n hx hb dX0_worked_4 rfl (lv_at hl 1 rfl) ?_
    refine lv_lload_n hx hb dX0_worked_5 rfl (lv_at hl 2 rfl) ?_
    refine lv_lload hx hb dX0_worked_6 (lv_at hl 3 rfl) ?_
    refine vp_callSl ((va_runS (As := [.int a1, .long a2, .long a3]) (rest := []) ⟨hx, hb, hml, hown, hts⟩ (met_X0_workedWhole l a1 a2 a3) (va_cwS 3 hts gX0_worked_X0_workedWhole rfl rfl rfl (by decide +kernel) ⟨Nat.le_of_ble_eq_true rfl, Nat.le_of_ble_eq_true rfl⟩) ⟨fun _ _ _ _ q => q, fun U hU hW => ⟨rfl, trivial⟩⟩ rfl rfl hl.1 rfl (lv_room (Nat.le_of_ble_eq_true rfl)) dX0_worked_8 ⟨Nat.le_of_ble_eq_true rfl, Nat.le_of_ble_eq_true rfl⟩).run) (fun r hw => ?_)
    subst hw
    refine lv_l2i hx hb dX0_worked_11 rfl ?_
    refine lv_i2l hx hb dX0_worked_12 rfl ?_
    exact W.lret (v := ((fX0_workedWhole a1 a2 a3).toInt32).toInt64) hx hb hr (fun t ht hW => ⟨_, rfl, (by simp only [wk, if_pos c_1]), ht⟩) (fun q hq => absurd hq List.not_mem_nil) dX0_worked_13
