/-! values and their bits -/
/-- what bits of a float or a double stand for, as a double -/
def vl (k : Int32) (b : Int64) : UInt64 := if k = 2 then FP.f2d b.toInt32.toUInt32 else b.toUInt64
def okR (k : Int32) (b : Int64) : Prop := if k = 2 then b = b.toInt32.toInt64 ∧ FP.Core.val32 b.toInt32.toUInt32 ≠ .nan else FP.Core.val64 b.toUInt64 ≠ .nan
def exN (k : Int32) (m : Nat) : Int := (fieldN k m : Int) - (if k = 2 then 150 else 1075)
theorem f32_toNat (b : Int64) : (b.toInt32.toUInt32).toNat = b.toUInt64.toNat % 2 ^ 32 := by
  show b.toInt32.toBitVec.toNat = b.toBitVec.toNat % 2 ^ 32
  rw [Int64.toBitVec_toInt32, BitVec.signExtend_eq_setWidth_of_le _ (by decide), BitVec.toNat_setWidth]
theorem neg64 (b : Int64) : b < 0 ↔ 2 ^ 63 ≤ b.toUInt64.toNat := by
  rw [Int64.lt_iff_toInt_lt, show (0 : Int64).toInt = 0 from rfl]
  show b.toBitVec.toInt < 0 ↔ 2 ^ 63 ≤ b.toBitVec.toNat
  rw [BitVec.toInt_eq_toNat_cond]
  have := b.toBitVec.isLt
  split <;> omega
theorem neg32 (b : Int32) : b < 0 ↔ 2 ^ 31 ≤ b.toUInt32.toNat := by
  rw [Int32.lt_iff_toInt_lt, show (0 : Int32).toInt = 0 from rfl]
  show b.toBitVec.toInt < 0 ↔ 2 ^ 31 ≤ b.toBitVec.toNat
  rw [BitVec.toInt_eq_toNat_cond]
  have := b.toBitVec.isLt
  split <;> omega
theorem neg_ext {b : Int64} (h : b = b.toInt32.toInt64) : b < 0 ↔ b.toInt32 < 0 := by
  rw [Int64.lt_iff_toInt_lt, Int32.lt_iff_toInt_lt]
  conv => lhs; rw [h]
  rw [Int32.toInt_toInt64]; rfl
theorem mg32 (b : Int64) : mgN 2 b = (b.toInt32.toUInt32).toNat % 2 ^ 31 := by
  rw [f32_toNat]; unfold mgN; rw [if_pos rfl]; omega
theorem mg64 {k : Int32} (hk : ¬ k = 2) (b : Int64) : mgN k b = b.toUInt64.toNat % 2 ^ 63 := by unfold mgN; rw [if_neg hk]
theorem okR_le {k : Int32} {b : Int64} (h : okR k b) : mgN k b ≤ infN k := by
  unfold okR at h
  by_cases hk : k = 2
  · subst hk
    rw [if_pos rfl] at h
    rw [mg32]
    exact (FP.Core.ne_nan32 _).mp h.2
  · rw [if_neg hk] at h
    rw [mg64 hk]; unfold infN; rw [if_neg hk]
    exact (FP.Core.ne_nan _).mp h
theorem of_bits64 {b : Int64} {m : Nat} (hm : b.toUInt64.toNat % 2 ^ 63 = m) (h : ¬ b < 0) : b.toUInt64 = UInt64.ofNat m := by
  rw [neg64] at h
  have := b.toUInt64.toNat_lt
  apply UInt64.toNat_inj.mp
  rw [UInt64.toNat_ofNat']
  omega
theorem of_bits64n {b : Int64} {m : Nat} (hm : b.toUInt64.toNat % 2 ^ 63 = m) (h : b < 0) : b.toUInt64 = FP.dneg (UInt64.ofNat m) := by
  rw [neg64] at h
  have hl := b.toUInt64.toNat_lt
  have hx : (UInt64.ofNat m).toNat = m := by rw [UInt64.toNat_ofNat']; omega
  apply UInt64.toNat_inj.mp
  rw [FP.dneg_xor, UInt64.toNat_xor, hx]
  have e : b.toUInt64.toNat = 2 ^ 63 + m := by omega
  rw [e, show (0x8000000000000000 : UInt64).toNat = 2 ^ 63 from rfl]
  have hm63 : m < 2 ^ 63 := by omega
  apply Nat.eq_of_testBit_eq
  intro i
  rw [Nat.testBit_xor, Nat.testBit_two_pow]
  rcases Nat.lt_trichotomy i 63 with g | g | g
  · rw [Nat.testBit_two_pow_add_gt g]; simp [show ¬ 63 = i by omega]
  · subst g; rw [Nat.testBit_two_pow_add_eq]; simp
  · have a1 : 2 ^ 64 ≤ 2 ^ i := Nat.pow_le_pow_right (by decide) g
    rw [Nat.testBit_lt_two_pow (show 2 ^ 63 + m < 2 ^ i by omega), Nat.testBit_lt_two_pow (show m < 2 ^ i by omega)]
    simp [show ¬ 63 = i by omega]
theorem of_bits32 {x : UInt32} {m : Nat} (hm : x.toNat % 2 ^ 31 = m) (h : ¬ 2 ^ 31 ≤ x.toNat) : x = UInt32.ofNat m := by
  have := x.toNat_lt
  apply UInt32.toNat_inj.mp
  rw [UInt32.toNat_ofNat']
  omega
theorem of_bits32n {x : UInt32} {m : Nat} (hm : x.toNat % 2 ^ 31 = m) (h : 2 ^ 31 ≤ x.toNat) : x = FP.fneg (UInt32.ofNat m) := by
  have hl := x.toNat_lt
  have hx : (UInt32.ofNat m).toNat = m := by rw [UInt32.toNat_ofNat']; omega
  apply UInt32.toNat_inj.mp
  rw [FP.fneg_xor, UInt32.toNat_xor, hx]
  have e : x.toNat = 2 ^ 31 + m := by omega
  rw [e, show (0x80000000 : UInt32).toNat = 2 ^ 31 from rfl]
  have hm63 : m < 2 ^ 31 := by omega
  apply Nat.eq_of_testBit_eq
  intro i
  rw [Nat.testBit_xor, Nat.testBit_two_pow]
  rcases Nat.lt_trichotomy i 31 with g | g | g
  · rw [Nat.testBit_two_pow_add_gt g]; simp [show ¬ 31 = i by omega]
  · subst g; rw [Nat.testBit_two_pow_add_eq]; simp
  · have a1 : 2 ^ 32 ≤ 2 ^ i := Nat.pow_le_pow_right (by decide) g
    rw [Nat.testBit_lt_two_pow (show 2 ^ 31 + m < 2 ^ i by omega), Nat.testBit_lt_two_pow (show m < 2 ^ i by omega)]
    simp [show ¬ 31 = i by omega]
theorem f2d_fneg {x : UInt32} (h : FP.Core.val32 x ≠ .nan) : FP.f2d (FP.fneg x) = FP.dneg (FP.f2d x) := by
  have h1 : FP.Core.val32 (FP.fneg x) ≠ .nan := by rw [FP.val32_fneg]; exact FP.Core.negate_ne_nan h
  have h2 : FP.Core.val64 (FP.dneg (FP.f2d x)) ≠ .nan := by rw [FP.val64_dneg]; exact FP.Core.negate_ne_nan (fm_f2dn h)
  refine fm_inj64 h2 ?_
  rw [fm_f2d h1, FP.val32_fneg, FP.val64_dneg, fm_f2d h, FP.Core.negate_round]
theorem field_le {k : Int32} {m : Nat} (hm : m < topN k) : fieldN k m < 2048 ∧ (k = 2 → fieldN k m < 256) := by
  unfold fieldN
  split
  · exact ⟨by omega, fun _ => by omega⟩
  · unfold topN at hm; unfold fbN
    by_cases hk : k = 2
    · rw [if_pos hk] at hm ⊢; exact ⟨by omega, fun _ => by omega⟩
    · rw [if_neg hk] at hm ⊢; exact ⟨by omega, fun h => absurd h hk⟩
theorem whole_lt53 (k : Int32) (m : Nat) : wholeN k m < 2 ^ 53 := by
  have h1 := whole_lt k m
  have h2 : 2 ^ (fbN k + 1) ≤ 2 ^ 53 := Nat.pow_le_pow_right (by decide) (by have := fb_le k; omega)
  omega
theorem ex_toInt {k : Int32} {m : Nat} (hm : m < topN k) : (fX2_fieldOf k (lN m) - fX2_bias k - fX2_fractionBits k).toInt = exN k m := by
  rw [fieldOf_eq k hm]
  have hf := (field_le hm).1
  have e1 : (nI (fieldN k m)).toInt = (fieldN k m : Int) := nI_toInt (by omega)
  unfold fX2_bias fX2_fractionBits exN
  split
  · have a : (nI (fieldN k m) - 127).toInt = (fieldN k m : Int) - 127 := by rw [fb_subI (by rw [e1, show (127 : Int32).toInt = 127 from rfl]; omega) (by rw [e1, show (127 : Int32).toInt = 127 from rfl]; omega), e1]; rfl
    rw [fb_subI (by rw [a, show (23 : Int32).toInt = 23 from rfl]; omega) (by rw [a, show (23 : Int32).toInt = 23 from rfl]; omega), a, show (23 : Int32).toInt = 23 from rfl]; omega
  · have a : (nI (fieldN k m) - 1023).toInt = (fieldN k m : Int) - 1023 := by rw [fb_subI (by rw [e1, show (1023 : Int32).toInt = 1023 from rfl]; omega) (by rw [e1, show (1023 : Int32).toInt = 1023 from rfl]; omega), e1]; rfl
    rw [fb_subI (by rw [a, show (52 : Int32).toInt = 52 from rfl]; omega) (by rw [a, show (52 : Int32).toInt = 52 from rfl]; omega), a, show (52 : Int32).toInt = 52 from rfl]; omega
theorem ex_lo (k : Int32) (m : Nat) : -1074 ≤ exN k m := by
  have := field_ge k m
  unfold exN; split <;> omega
theorem ex_hi {k : Int32} {m : Nat} (hm : m < topN k) : exN k m ≤ 972 := by
  have h1 := (field_le hm).1
  unfold exN
  by_cases hk : k = 2
  · have h2 := (field_le hm).2 hk
    rw [if_pos hk]; omega
  · rw [if_neg hk]; omega
theorem vcore3 {k : Int32} (hk : ¬ k = 2) {m : Nat} (hm : m ≤ infN k) : FP.Core.round FP.Core.b64 (.fin false (wholeN k m) (exN k m)) = FP.Core.decode FP.Core.b64 m := by
  have hinf : infN k = 9218868437227405312 := by unfold infN; rw [if_neg hk]
  have hfb : fbN k = 52 := by unfold fbN; rw [if_neg hk]
  rw [hinf] at hm
  by_cases hi : m = 9218868437227405312
  · subst hi
    have e1 : wholeN k 9218868437227405312 = 2 ^ 52 := by unfold wholeN; rw [hfb]; decide
    have e2 : exN k 9218868437227405312 = 972 := by unfold exN fieldN; rw [hfb, if_neg hk]; decide
    rw [e1, e2]; decide +kernel
  · have hmag : FP.Core.mag FP.Core.b64 m = m := FP.Core.mag_of_lt (by rw [FP.Core.half_b64]; omega)
    obtain ⟨c, q, h2, h3⟩ := FP.Core.decode_fin (f := FP.Core.b64) (n := m) (by rw [hmag, FP.Core.infBits_b64]; omega)
    have hS : FP.Core.fieldS FP.Core.b64 m = false := by
      rw [FP.Core.fieldS_mag _ (by rw [FP.Core.half_b64]; omega), FP.Core.half_b64]; exact decide_eq_false (by omega)
    have hfit := FP.Core.decode_fits FP.Core.good_b64 m
    rw [hmag, show FP.Core.b64 = FM k by unfold FM; rw [if_neg hk], units_eq] at h3
    rw [hS] at h2
    rw [h2] at hfit ⊢
    rw [← FP.Core.round_of_fits FP.Core.good_b64 hfit]
    have hq := hfit.2.1
    rw [fm_qmin64] at hq
    have hq2 : (FM k).qmin = -1074 := by unfold FM; rw [if_neg hk]; exact fm_qmin64
    refine fm_rnd (z := -1074) (ex_lo k m) hq ?_
    unfold FP.Core.inUnits at h3
    rw [hq2] at h3
    rw [h3]
    congr 2
    have := field_ge k m
    unfold exN; rw [if_neg hk]; omega
theorem vcore2 {m : Nat} (hm : m ≤ infN 2) : FP.Core.round FP.Core.b32 (FP.Core.round FP.Core.b64 (.fin false (wholeN 2 m) (exN 2 m))) = FP.Core.decode FP.Core.b32 m := by
  have hinf : infN 2 = 2139095040 := rfl
  rw [hinf] at hm
  by_cases hi : m = 2139095040
  · subst hi; decide +kernel
  · have hmag : FP.Core.mag FP.Core.b32 m = m := FP.Core.mag_of_lt (by rw [FP.Core.half_b32]; omega)
    obtain ⟨c, q, h2, h3⟩ := FP.Core.decode_fin (f := FP.Core.b32) (n := m) (by rw [hmag, FP.Core.infBits_b32]; omega)
    have hS : FP.Core.fieldS FP.Core.b32 m = false := by
      rw [FP.Core.fieldS_mag _ (by rw [FP.Core.half_b32]; omega), FP.Core.half_b32]; exact decide_eq_false (by omega)
    have hfit := FP.Core.decode_fits FP.Core.good_b32 m
    rw [hmag, show FP.Core.b32 = FM 2 from rfl, units_eq] at h3
    rw [hS] at h2
    rw [h2] at hfit ⊢
    rw [← FP.Core.round_of_fits FP.Core.good_b32 hfit]
    have hq := hfit.2.1
    rw [fm_qmin32] at hq
    have hlt : m < topN 2 := by show m < 2 ^ 31; omega
    obtain ⟨c1, q1, g1, g2, g3⟩ := fm_ex64 false (whole_lt53 2 m) (ex_lo 2 m) (show exN 2 m ≤ 971 by have := (field_le hlt).2 rfl; unfold exN; rw [if_pos rfl]; omega)
    rw [g1]
    refine fm_rnd (z := -1074) (by omega) (by omega) ?_
    unfold FP.Core.inUnits at h3
    rw [show (FM 2).qmin = -149 from fm_qmin32] at h3
    rw [show q1 - -1074 = q1 + 1074 by omega, g3]
    have w : c * 2 ^ (q - -1074).toNat = c * 2 ^ (q - -149).toNat * 2 ^ 925 := by rw [Nat.mul_assoc, ← Nat.pow_add]; congr 2; omega
    rw [w, h3, Nat.mul_assoc, ← Nat.pow_add]
    congr 2
    have := field_ge 2 m
    unfold exN; rw [if_pos rfl]; omega
theorem v64_of {m : Nat} (h : m < 2 ^ 64) : FP.Core.val64 (UInt64.ofNat m) = FP.Core.decode FP.Core.b64 m := by
  unfold FP.Core.val64; rw [UInt64.toNat_ofNat', Nat.mod_eq_of_lt h]
theorem v32_of {m : Nat} (h : m < 2 ^ 32) : FP.Core.val32 (UInt32.ofNat m) = FP.Core.decode FP.Core.b32 m := by
  unfold FP.Core.val32; rw [UInt32.toNat_ofNat', Nat.mod_eq_of_lt h]
theorem dec_nn {m : Nat} (h : m ≤ 9218868437227405312) : FP.Core.decode FP.Core.b64 m ≠ .nan := fun e => by
  have := (FP.Core.decode_nan m).mp e
  rw [FP.Core.infBits_b64, FP.Core.mag_of_lt (by rw [FP.Core.half_b64]; omega)] at this; omega
theorem dec_nn32 {m : Nat} (h : m ≤ 2139095040) : FP.Core.decode FP.Core.b32 m ≠ .nan := fun e => by
  have := (FP.Core.decode_nan m).mp e
  rw [FP.Core.infBits_b32, FP.Core.mag_of_lt (by rw [FP.Core.half_b32]; omega)] at this; omega
/-- a double that is scaled out of bits without sign -/
theorem vs3 {k : Int32} (hk : ¬ k = 2) {m : Nat} (hm : m ≤ infN k) {r : UInt64} (h : dE r (wholeN k m) (exN k m)) : r = UInt64.ofNat m := by
  have hm2 : m ≤ 9218868437227405312 := by unfold infN at hm; rwa [if_neg hk] at hm
  have e := vcore3 hk hm
  refine fm_inj64 (by rw [v64_of (by omega)]; exact dec_nn hm2) ?_
  rw [v64_of (by omega), ← e]; exact h
theorem vs2 {m : Nat} (hm : m ≤ infN 2) {r : UInt64} (h : dE r (wholeN 2 m) (exN 2 m)) : FP.d2f r = UInt32.ofNat m := by
  have hm2 : m ≤ 2139095040 := hm
  refine fm_inj32 (by rw [v32_of (by omega)]; exact dec_nn32 hm2) ?_
  rw [v32_of (by omega), ← vcore2 hm, fm_d2f (dE_nn h)]
  unfold dE at h; rw [h]
theorem vl2 {b : Int64} (h : okR 2 b) : vl 2 b = if b < 0 then FP.dneg (FP.f2d (UInt32.ofNat (mgN 2 b))) else FP.f2d (UInt32.ofNat (mgN 2 b)) := by
  have hle : mgN 2 b ≤ 2139095040 := okR_le h
  have hnn : FP.Core.val32 (UInt32.ofNat (mgN 2 b)) ≠ .nan := by rw [v32_of (by omega)]; exact dec_nn32 hle
  obtain ⟨h1, h2⟩ := h
  unfold vl
  rw [if_pos rfl]
  by_cases hb : b < 0
  · rw [if_pos hb, ← f2d_fneg hnn]
    rw [neg_ext h1, neg32] at hb
    exact congrArg FP.f2d (of_bits32n (mg32 b).symm hb)
  · rw [if_neg hb]
    rw [neg_ext h1, neg32] at hb
    exact congrArg FP.f2d (of_bits32 (mg32 b).symm hb)
theorem vl3 {k : Int32} (hk : ¬ k = 2) (b : Int64) : vl k b = if b < 0 then FP.dneg (UInt64.ofNat (mgN k b)) else UInt64.ofNat (mgN k b) := by
  unfold vl
  rw [if_neg hk]
  by_cases hb : b < 0
  · rw [if_pos hb]; exact of_bits64n (mg64 hk b).symm hb
  · rw [if_neg hb]; exact of_bits64 (mg64 hk b).symm hb
theorem lgc0_ge (b : Int64) : 0 ≤ lg_cmp b 0 ↔ ¬ b < 0 := by
  unfold lg_cmp
  by_cases h : b < 0
  · have h1 : ¬ (0 : Int64) < b := fun g => by rw [Int64.lt_iff_toInt_lt] at *; omega
    have h2 : ¬ b = 0 := fun g => by rw [g] at h; exact absurd h (by decide)
    rw [if_neg h1, if_neg h2]; exact iff_of_false (by decide) (fun g => g h)
  · refine iff_of_true ?_ h
    by_cases g : (0 : Int64) < b
    · rw [if_pos g]; decide
    · have : b = 0 := by
        apply Int64.toInt_inj.mp
        rw [Int64.lt_iff_toInt_lt] at h g
        have : (0 : Int64).toInt = 0 := rfl
        omega
      rw [if_neg g, if_pos this]; decide

set_option maxHeartbeats 4000000 in
set_option maxRecDepth 100000 in
theorem met_X2_valueOf (l : Launch) (a0 : Int32) (a1 : Int64) (hok : okR a0 a1) : Met l yX2_valueOf wsX2_valueOf ({ frames := 2, cells := 0, slots := 0, locals := 44 }) (va_Pc [.int a0, .long a1] (fun _ => True)) (vp_Sd (fun r => r = vl a0 a1)) 0 0 (fun _ => False) := by
  refine Met.ofW (cc := cX2_valueOf) (maxL := 7) (ret := (some .double)) (by decide) rfl ?_
  intro p e s m args below meth c s₁ B hml hv
  obtain ⟨rfl, -⟩ := hv
  have hx := B.exec
  have hb := B.bytes
  have hr := B.returns
  have hts := atoms_spec (ws := wsX2_valueOf) B.pre
  have hown : s.vm.findClass RX2 = some m.cls := findClass_of_methodNamed B.named
  have hlocks := B.notSynchronized
  have hl := lv_entry ([.int a0, .long a1]) (n := 7) (Nat.le_of_ble_eq_true rfl)
  rw [lg_entry_eq]
  generalize (lg_sl ([.int a0, .long a1]) ++ List.replicate (7 - (lg_sl ([.int a0, .long a1])).length) Slot.unset).toArray = ls at hl ⊢
  have hl : lv_has ls 7 [(0, .int a0), (1, .long a1)] := hl
  refine lv_iload_n hx hb dX2_valueOf_0 rfl (lv_at hl 0 rfl) ?_
  refine lv_lload_n hx hb dX2_valueOf_1 rfl (lv_at hl 1 rfl) ?_
  refine vp_callSl ((va_runS (As := [.int a0, .long a1]) (rest := []) ⟨hx, hb, hml, hown, hts⟩ (met_X2_sizeOf l a0 a1) (va_cwS 2 hts gX2_valueOf_X2_sizeOf rfl rfl rfl (by decide +kernel) ⟨Nat.le_of_ble_eq_true rfl, Nat.le_of_ble_eq_true rfl⟩) ⟨fun _ _ _ _ q => q, fun U hU hW => ⟨rfl, trivial⟩⟩ rfl rfl hl.1 rfl (lv_room (Nat.le_of_ble_eq_true rfl)) dX2_valueOf_2 ⟨Nat.le_of_ble_eq_true rfl, Nat.le_of_ble_eq_true rfl⟩).run) (fun r hw => ?_)
  subst hw
  refine lv_topl (fun z_1 ez_1 => ?_)
  obtain rfl : z_1 = lN (mgN a0 a1) := ez_1.trans (sizeOf_eq a0 a1)
  refine lv_lstore_n (lv' := [(3, .long (lN (mgN a0 a1))), (0, .int a0), (1, .long a1)]) hx hb dX2_valueOf_5 rfl hl (by decide) rfl (fun ls hl => ?_)
  refine lv_iload_n hx hb dX2_valueOf_6 rfl (lv_at hl 1 rfl) ?_
  refine lv_lload_n hx hb dX2_valueOf_7 rfl (lv_at hl 0 rfl) ?_
  refine vp_callSl ((va_runS (As := [.int a0, .long (lN (mgN a0 a1))]) (rest := []) ⟨hx, hb, hml, hown, hts⟩ (met_X2_wholeOf l a0 (lN (mgN a0 a1))) (va_cwS 2 hts gX2_valueOf_X2_wholeOf rfl rfl rfl (by decide +kernel) ⟨Nat.le_of_ble_eq_true rfl, Nat.le_of_ble_eq_true rfl⟩) ⟨fun _ _ _ _ q => q, fun U hU hW => ⟨rfl, trivial⟩⟩ rfl rfl hl.1 rfl (lv_room (Nat.le_of_ble_eq_true rfl)) dX2_valueOf_8 ⟨Nat.le_of_ble_eq_true rfl, Nat.le_of_ble_eq_true rfl⟩).run) (fun r hw => ?_)
  subst hw
  refine lv_topl (fun z_2 ez_2 => ?_)
  obtain rfl : z_2 = lN (wholeN a0 (mgN a0 a1)) := ez_2.trans (wholeOf_eq a0 (mg_lt63 a0 a1))
  refine lv_l2d hx hb dX2_valueOf_11 ?_
  refine lv_iload_n hx hb dX2_valueOf_12 rfl (lv_at hl 1 rfl) ?_
  refine lv_lload_n hx hb dX2_valueOf_13 rfl (lv_at hl 0 rfl) ?_
  refine vp_callSi ((va_runS (As := [.int a0, .long (lN (mgN a0 a1))]) (rest := [.double (FP.l2d (lN (wholeN a0 (mgN a0 a1))))]) ⟨hx, hb, hml, hown, hts⟩ (met_X2_fieldOf l a0 (lN (mgN a0 a1))) (va_cwS 2 hts gX2_valueOf_X2_fieldOf rfl rfl rfl (by decide +kernel) ⟨Nat.le_of_ble_eq_true rfl, Nat.le_of_ble_eq_true rfl⟩) ⟨fun _ _ _ _ q => q, fun U hU hW => ⟨rfl, trivial⟩⟩ rfl rfl hl.1 rfl (lv_room (Nat.le_of_ble_eq_true rfl)) dX2_valueOf_14 ⟨Nat.le_of_ble_eq_true rfl, Nat.le_of_ble_eq_true rfl⟩).run) (fun r hw => ?_)
  subst hw
  refine lv_iload_n hx hb dX2_valueOf_17 rfl (lv_at hl 1 rfl) ?_
  refine vp_callSi ((va_runS (As := [.int a0]) (rest := [.int (fX2_fieldOf a0 (lN (mgN a0 a1))), .double (FP.l2d (lN (wholeN a0 (mgN a0 a1))))]) ⟨hx, hb, hml, hown, hts⟩ (met_X2_bias l a0) (va_cwS 1 hts gX2_valueOf_X2_bias rfl rfl rfl (by decide +kernel) ⟨Nat.le_of_ble_eq_true rfl, Nat.le_of_ble_eq_true rfl⟩) ⟨fun _ _ _ _ q => q, fun U hU hW => ⟨rfl, trivial⟩⟩ rfl rfl hl.1 rfl (lv_room (Nat.le_of_ble_eq_true rfl)) dX2_valueOf_18 ⟨Nat.le_of_ble_eq_true rfl, Nat.le_of_ble_eq_true rfl⟩).run) (fun r hw => ?_)
  subst hw
  refine lv_isub hx hb dX2_valueOf_21 ?_
  refine lv_iload_n hx hb dX2_valueOf_22 rfl (lv_at hl 1 rfl) ?_
  refine vp_callSi ((va_runS (As := [.int a0]) (rest := [.int ((fX2_fieldOf a0 (lN (mgN a0 a1))) - (fX2_bias a0)), .double (FP.l2d (lN (wholeN a0 (mgN a0 a1))))]) ⟨hx, hb, hml, hown, hts⟩ (met_X2_fractionBits l a0) (va_cwS 1 hts gX2_valueOf_X2_fractionBits rfl rfl rfl (by decide +kernel) ⟨Nat.le_of_ble_eq_true rfl, Nat.le_of_ble_eq_true rfl⟩) ⟨fun _ _ _ _ q => q, fun U hU hW => ⟨rfl, trivial⟩⟩ rfl rfl hl.1 rfl (lv_room (Nat.le_of_ble_eq_true rfl)) dX2_valueOf_23 ⟨Nat.le_of_ble_eq_true rfl, Nat.le_of_ble_eq_true rfl⟩).run) (fun r hw => ?_)
  subst hw
  refine lv_isub hx hb dX2_valueOf_26 ?_
  refine vp_callSd ((va_runS (As := [.double (FP.l2d (lN (wholeN a0 (mgN a0 a1)))), .int (((fX2_fieldOf a0 (lN (mgN a0 a1))) - (fX2_bias a0)) - (fX2_fractionBits a0))]) (rest := []) ⟨hx, hb, hml, hown, hts⟩ (met_X2_scaled l (FP.l2d (lN (wholeN a0 (mgN a0 a1)))) (((fX2_fieldOf a0 (lN (mgN a0 a1))) - (fX2_bias a0)) - (fX2_fractionBits a0)) (wholeN a0 (mgN a0 a1)) (exN a0 (mgN a0 a1)) (dE_l2d (Nat.lt_trans (whole_lt53 _ _) (by decide))) (whole_lt53 _ _) (ex_toInt (mg_lt a0 a1)) (ex_lo _ _) (ex_hi (mg_lt a0 a1))) (va_cwS 2 hts gX2_valueOf_X2_scaled rfl rfl rfl (by decide +kernel) ⟨Nat.le_of_ble_eq_true rfl, Nat.le_of_ble_eq_true rfl⟩) ⟨fun _ _ _ _ q => q, fun U hU hW => ⟨rfl, trivial⟩⟩ rfl rfl hl.1 rfl (lv_room (Nat.le_of_ble_eq_true rfl)) dX2_valueOf_27 ⟨Nat.le_of_ble_eq_true rfl, Nat.le_of_ble_eq_true rfl⟩).run) (fun r_1 h_1 => ?_)
  refine lv_dstore (lv' := [(5, .double r_1), (3, .long (lN (mgN a0 a1))), (0, .int a0), (1, .long a1)]) hx hb dX2_valueOf_30 hl (by decide) rfl (fun ls hl => ?_)
  refine lv_iload_n hx hb dX2_valueOf_32 rfl (lv_at hl 2 rfl) ?_
  refine lv_iconst (v := 2) hx hb dX2_valueOf_33 (by decide) ?_
  refine lv_icmp_ne (tgt := 43) hx hb dX2_valueOf_34 (by decide) (fun c_3 => ?_) (fun c_3 => ?_)
  · refine lv_lload_n hx hb dX2_valueOf_43 rfl (lv_at hl 3 rfl) ?_
    refine lv_lconst (v := 0) hx hb dX2_valueOf_44 (by decide) ?_
    refine W.lcmp hx hb dX2_valueOf_45 ?_
    refine lv_if_ge (tgt := 55) hx hb dX2_valueOf_46 (by decide) (fun c_4 => ?_) (fun c_4 => ?_)
    · refine lv_dload hx hb dX2_valueOf_55 (lv_at hl 0 rfl) ?_
      exact W.dret (v := r_1) hx hb hr (fun t ht hW => ⟨_, rfl, (by rw [vl3 c_3 a1, if_neg ((lgc0_ge a1).mp c_4), vs3 c_3 (okR_le hok) h_1]), ht⟩) (fun q hq => absurd hq List.not_mem_nil) dX2_valueOf_57
    · refine lv_dload hx hb dX2_valueOf_49 (lv_at hl 0 rfl) ?_
      refine lv_dneg hx hb dX2_valueOf_51 ?_
      refine lv_goto (tgt := 57) hx hb dX2_valueOf_52 (by decide) ?_
      exact W.dret (v := FP.dneg r_1) hx hb hr (fun t ht hW => ⟨_, rfl, (by rw [vl3 c_3 a1, if_pos (show a1 < 0 from Decidable.not_not.mp (fun g => c_4 ((lgc0_ge a1).mpr g))), vs3 c_3 (okR_le hok) h_1]), ht⟩) (fun q hq => absurd hq List.not_mem_nil) dX2_valueOf_57
  · refine lv_dload hx hb dX2_valueOf_37 (lv_at hl 0 rfl) ?_
    refine lv_d2f hx hb dX2_valueOf_39 (fm_n32.mpr (fm_d2fn (dE_nn h_1))) ?_
    refine lv_f2d hx hb dX2_valueOf_40 (fm_n64.mpr (fm_f2dn (fm_d2fn (dE_nn h_1)))) ?_
    refine lv_dstore (lv' := [(5, .double (FP.f2d (FP.d2f r_1))), (3, .long (lN (mgN a0 a1))), (0, .int a0), (1, .long a1)]) hx hb dX2_valueOf_41 hl (by decide) rfl (fun ls hl => ?_)
    refine lv_lload_n hx hb dX2_valueOf_43 rfl (lv_at hl 3 rfl) ?_
    refine lv_lconst (v := 0) hx hb dX2_valueOf_44 (by decide) ?_
    refine W.lcmp hx hb dX2_valueOf_45 ?_
    refine lv_if_ge (tgt := 55) hx hb dX2_valueOf_46 (by decide) (fun c_5 => ?_) (fun c_5 => ?_)
    · refine lv_dload hx hb dX2_valueOf_55 (lv_at hl 0 rfl) ?_
      exact W.dret (v := FP.f2d (FP.d2f r_1)) hx hb hr (fun t ht hW => ⟨_, rfl, (by subst c_3; rw [vl2 hok, if_neg ((lgc0_ge a1).mp c_5), vs2 (okR_le hok) h_1]), ht⟩) (fun q hq => absurd hq List.not_mem_nil) dX2_valueOf_57
    · refine lv_dload hx hb dX2_valueOf_49 (lv_at hl 0 rfl) ?_
      refine lv_dneg hx hb dX2_valueOf_51 ?_
      refine lv_goto (tgt := 57) hx hb dX2_valueOf_52 (by decide) ?_
      exact W.dret (v := FP.dneg (FP.f2d (FP.d2f r_1))) hx hb hr (fun t ht hW => ⟨_, rfl, (by subst c_3; rw [vl2 hok, if_pos (show a1 < 0 from Decidable.not_not.mp (fun g => c_5 ((lgc0_ge a1).mpr g))), vs2 (okR_le hok) h_1]), ht⟩) (fun q hq => absurd hq List.not_mem_nil) dX2_valueOf_57
