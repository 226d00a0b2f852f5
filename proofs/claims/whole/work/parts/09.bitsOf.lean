/-! bits out of a value, the value being that of bits -/
/-- the value of bits without sign -/
def pv (k : Int32) (m : Nat) : UInt64 := if k = 2 then FP.f2d (UInt32.ofNat m) else UInt64.ofNat m
def zv (d : UInt64) : Int := FP.Core.zval FP.Core.b64 (FP.Core.val64 d)
theorem vl_pv {k : Int32} {b : Int64} (h : okR k b) : vl k b = if b < 0 then FP.dneg (pv k (mgN k b)) else pv k (mgN k b) := by
  unfold pv
  by_cases hk : k = 2
  · subst hk; rw [vl2 h, if_pos rfl]
  · rw [vl3 hk, if_neg hk]
theorem inf2 {k : Int32} {m : Nat} (hk : k = 2) (hm : m ≤ infN k) : m ≤ 2139095040 := by unfold infN at hm; rwa [if_pos hk] at hm
theorem inf3 {k : Int32} {m : Nat} (hk : ¬ k = 2) (hm : m ≤ infN k) : m ≤ 9218868437227405312 := by unfold infN at hm; rwa [if_neg hk] at hm
theorem pv_n32 {m : Nat} (hm : m ≤ 2139095040) : FP.Core.val32 (UInt32.ofNat m) ≠ .nan := by rw [v32_of (by omega)]; exact dec_nn32 hm
theorem pv_nn {k : Int32} {m : Nat} (hm : m ≤ infN k) : FP.Core.val64 (pv k m) ≠ .nan := by
  unfold pv
  by_cases hk : k = 2
  · rw [if_pos hk]; exact fm_f2dn (pv_n32 (inf2 hk hm))
  · have := inf3 hk hm
    rw [if_neg hk, v64_of (by omega)]; exact dec_nn this
/-- bits without sign, as a value, are what sizeOfValue asks for -/
theorem szH {k : Int32} {m : Nat} (hm : m ≤ infN k) : (m = 0 ∧ FP.Core.val64 (pv k m) = .fin false 0 (-1074)) ∨ (m = infN k ∧ FP.Core.val64 (pv k m) = .inf false) ∨ (0 < m ∧ m < infN k ∧ dE (pv k m) (wholeN k m) (exN k m)) := by
  by_cases h0 : m = 0
  · subst h0
    refine Or.inl ⟨rfl, ?_⟩
    unfold pv; split <;> decide +kernel
  · by_cases h1 : m = infN k
    · refine Or.inr (Or.inl ⟨h1, ?_⟩)
      rw [h1]; unfold pv infN
      split <;> decide +kernel
    · refine Or.inr (Or.inr ⟨by omega, by omega, ?_⟩)
      unfold pv dE
      by_cases hk : k = 2
      · subst hk
        have h2 := inf2 rfl hm
        rw [if_pos rfl, fm_f2d (pv_n32 h2), v32_of (by omega)]
        have hinf : infN 2 = 2139095040 := rfl
        have hmag : FP.Core.mag FP.Core.b32 m = m := FP.Core.mag_of_lt (by rw [FP.Core.half_b32]; omega)
        obtain ⟨c, q, h5, h3⟩ := FP.Core.decode_fin (f := FP.Core.b32) (n := m) (by rw [hmag, FP.Core.infBits_b32]; omega)
        have hS : FP.Core.fieldS FP.Core.b32 m = false := by
          rw [FP.Core.fieldS_mag _ (by rw [FP.Core.half_b32]; omega), FP.Core.half_b32]; exact decide_eq_false (by omega)
        have hfit := FP.Core.decode_fits FP.Core.good_b32 m
        rw [hmag, show FP.Core.b32 = FM 2 from rfl, units_eq] at h3
        rw [hS] at h5
        rw [h5] at hfit ⊢
        have hq := hfit.2.1
        rw [fm_qmin32] at hq
        have hlo := ex_lo 2 m
        refine fm_rnd (z := -1074) (by omega) (by omega) ?_
        unfold FP.Core.inUnits at h3
        rw [show (FM 2).qmin = -149 from fm_qmin32] at h3
        have w : c * 2 ^ (q - -1074).toNat = c * 2 ^ (q - -149).toNat * 2 ^ 925 := by rw [Nat.mul_assoc, ← Nat.pow_add]; congr 2; omega
        rw [w, h3, Nat.mul_assoc, ← Nat.pow_add]
        congr 2
        have := field_ge 2 m
        unfold exN; rw [if_pos rfl]; omega
      · have := inf3 hk hm
        rw [if_neg hk, v64_of (by omega)]; exact (vcore3 hk hm).symm
theorem zv_pv {k : Int32} {m : Nat} (hm : m ≤ infN k) : (m = 0 → zv (pv k m) = 0) ∧ (0 < m → 0 < zv (pv k m)) := by
  unfold zv
  rcases szH hm with ⟨h, hv⟩ | ⟨h, hv⟩ | ⟨h, h1, hv⟩
  · refine ⟨fun _ => ?_, fun g => by omega⟩
    rw [hv]; show ((FP.Core.inUnits 0 (-1074) FP.Core.b64.qmin : Nat) : Int) = 0
    unfold FP.Core.inUnits; rw [Nat.zero_mul]; rfl
  · refine ⟨fun g => ?_, fun _ => ?_⟩
    · exfalso; rw [h] at g; unfold infN at g; split at g <;> omega
    · rw [hv]; show (0 : Int) < ((FP.Core.b64.tails * 2 ^ (FP.Core.b64.exps - 2) : Nat) : Int)
      have := Nat.mul_pos (FP.Core.tails_pos FP.Core.b64) (Nat.two_pow_pos (FP.Core.b64.exps - 2))
      omega
  · refine ⟨fun g => by omega, fun _ => ?_⟩
    rw [dE_zval hv (whole_lt53 _ _) (ex_lo _ _) (ex_hi2 h1)]
    have := Nat.mul_pos (whole_pos (k := k) h) (Nat.two_pow_pos (exN k m + 1074).toNat)
    omega
theorem zv_neg (d : UInt64) : zv (FP.dneg d) = - zv d := by unfold zv; rw [FP.val64_dneg, FP.Core.zval_negate]
theorem vl_nn {k : Int32} {b : Int64} (h : okR k b) : FP.Core.val64 (vl k b) ≠ .nan := by
  rw [vl_pv h]; split
  · rw [FP.val64_dneg]; exact FP.Core.negate_ne_nan (pv_nn (okR_le h))
  · exact pv_nn (okR_le h)
theorem cmp0 {d : UInt64} (h : FP.Core.val64 d ≠ .nan) : FP.dcmp d FP.dconst0 = some (compare (zv d) 0) := by
  have := FP.Core.dcmp_zval h (show FP.Core.val64 0 ≠ .nan by decide +kernel)
  rw [FP.Core.zval64_zero] at this
  exact this
theorem dneg2 (d : UInt64) : FP.dneg (FP.dneg d) = d := by
  rw [FP.dneg_xor, FP.dneg_xor, UInt64.xor_assoc, UInt64.xor_self, UInt64.xor_zero]
theorem zv_sign {k : Int32} {b : Int64} (h : okR k b) : (b < 0 → zv (vl k b) ≤ 0) ∧ (¬ b < 0 → 0 ≤ zv (vl k b)) ∧ (zv (vl k b) = 0 ↔ mgN k b = 0) := by
  obtain ⟨z1, z2⟩ := zv_pv (okR_le h)
  rw [vl_pv h]
  by_cases hb : b < 0
  · rw [if_pos hb, zv_neg]
    refine ⟨fun _ => ?_, fun g => absurd hb g, ?_⟩
    · by_cases hm : mgN k b = 0
      · rw [z1 hm]; decide
      · have := z2 (by omega); omega
    · by_cases hm : mgN k b = 0
      · exact iff_of_true (by rw [z1 hm]; rfl) hm
      · exact iff_of_false (by have := z2 (by omega); omega) hm
  · rw [if_neg hb]
    refine ⟨fun g => absurd g hb, fun _ => ?_, ?_⟩
    · by_cases hm : mgN k b = 0
      · rw [z1 hm]; decide
      · have := z2 (by omega); omega
    · by_cases hm : mgN k b = 0
      · exact iff_of_true (z1 hm) hm
      · exact iff_of_false (by have := z2 (by omega); omega) hm
theorem pv0 (k : Int32) : pv k 0 = 0 := by unfold pv; split <;> decide +kernel
/-- one by zero -/
theorem one_by {k : Int32} {b : Int64} (h : okR k b) (h0 : mgN k b = 0) : vf_n64 (FP.ddiv FP.dconst1 (vl k b)) ∧ (0 ≤ Op.cmpValue (FP.dcmp (FP.ddiv FP.dconst1 (vl k b)) FP.dconst0) CmpOp.g ↔ ¬ b < 0) := by
  rw [vl_pv h, h0, pv0]
  by_cases hb : b < 0
  · rw [if_pos hb]
    exact ⟨by unfold vf_n64; decide +kernel, iff_of_false (by decide +kernel) (fun g => g hb)⟩
  · rw [if_neg hb]
    exact ⟨by unfold vf_n64; decide +kernel, iff_of_true (by decide +kernel) hb⟩
theorem toNat_ext {b : Int64} (h : b = b.toInt32.toInt64) : b.toUInt64.toNat = if b < 0 then 2 ^ 64 - 2 ^ 32 + b.toInt32.toUInt32.toNat else b.toInt32.toUInt32.toNat := by
  have e1 : b.toInt = b.toInt32.toInt := by
    have := congrArg Int64.toInt h
    rwa [Int32.toInt_toInt64] at this
  have hn := neg_ext h
  have h64 := neg64 b
  have h32 := neg32 b.toInt32
  have f1 : b.toInt = if 2 * b.toBitVec.toNat < 2 ^ 64 then (b.toBitVec.toNat : Int) else (b.toBitVec.toNat : Int) - (2 ^ 64 : Nat) := BitVec.toInt_eq_toNat_cond _
  have f2 : b.toInt32.toInt = if 2 * b.toInt32.toBitVec.toNat < 2 ^ 32 then (b.toInt32.toBitVec.toNat : Int) else (b.toInt32.toBitVec.toNat : Int) - (2 ^ 32 : Nat) := BitVec.toInt_eq_toNat_cond _
  have l1 := b.toBitVec.isLt
  have l2 := b.toInt32.toBitVec.isLt
  rw [f1, f2] at e1
  change b.toBitVec.toNat = if b < 0 then 2 ^ 64 - 2 ^ 32 + b.toInt32.toBitVec.toNat else b.toInt32.toBitVec.toNat
  change b < 0 ↔ 2 ^ 63 ≤ b.toBitVec.toNat at h64
  change b.toInt32 < 0 ↔ 2 ^ 31 ≤ b.toInt32.toBitVec.toNat at h32
  generalize b.toBitVec.toNat = x at *
  generalize b.toInt32.toBitVec.toNat = y at *
  by_cases hb : b < 0
  · rw [if_pos hb]
    have := h64.mp hb
    have := h32.mp (hn.mp hb)
    rw [if_neg (by omega), if_neg (by omega)] at e1
    omega
  · rw [if_neg hb]
    have : ¬ 2 ^ 63 ≤ x := fun g => hb (h64.mpr g)
    have : ¬ 2 ^ 31 ≤ y := fun g => hb (hn.mpr (h32.mpr g))
    rw [if_pos (by omega), if_pos (by omega)] at e1
    omega
theorem lN_self (b : Int64) : b = lN b.toUInt64.toNat := by
  obtain ⟨n, hn, rfl⟩ := wb_of b
  rw [uN_lN hn]
/-- sign and size make the bits again -/
theorem signed_eq {k : Int32} {b : Int64} (h : okR k b) : fX2_signed k (lN (mgN k b)) (if b < 0 then 1 else 0) = b := by
  unfold fX2_signed fX2_sizeMask
  by_cases hk : k = 2
  · subst hk
    have hx := toNat_ext h.1
    have hm := mg32 b
    have h32 := (neg_ext h.1).trans (neg32 _)
    have l2 := b.toInt32.toUInt32.toNat_lt
    by_cases hb : b < 0
    · have := h32.mp hb
      rw [if_pos hb] at hx ⊢
      rw [if_neg (by decide), if_pos rfl, show (2147483647 ^^^ (-1) : Int64) = lN (2 ^ 64 - 2 ^ 31) by decide, wb_or (by omega) (by omega)]
      conv => rhs; rw [lN_self b]
      congr 1
      have e : mgN 2 b < 2 ^ 31 := by omega
      rw [Nat.or_comm, show 2 ^ 64 - 2 ^ 31 = 2 ^ 31 * (2 ^ 33 - 1) from rfl, ← Nat.two_pow_add_eq_or_of_lt e]
      omega
    · have : ¬ 2 ^ 31 ≤ b.toInt32.toUInt32.toNat := fun g => hb (h32.mpr g)
      rw [if_neg hb] at hx ⊢
      rw [if_pos rfl]
      conv => rhs; rw [lN_self b]
      congr 1
      omega
  · have hm := mg64 hk b
    have h64 := neg64 b
    have l2 := b.toUInt64.toNat_lt
    by_cases hb : b < 0
    · have := h64.mp hb
      rw [if_pos hb, if_neg (by decide), if_neg hk, show (9223372036854775807 ^^^ (-1) : Int64) = lN (2 ^ 63) by decide, wb_or (by omega) (by omega)]
      conv => rhs; rw [lN_self b]
      congr 1
      have e : mgN k b < 2 ^ 63 := by omega
      have := Nat.two_pow_add_eq_or_of_lt e 1
      rw [Nat.mul_one] at this
      rw [Nat.or_comm, ← this]
      omega
    · have : ¬ 2 ^ 63 ≤ b.toUInt64.toNat := fun g => hb (h64.mpr g)
      rw [if_neg hb, if_pos rfl]
      conv => rhs; rw [lN_self b]
      congr 1
      omega

set_option maxHeartbeats 4000000 in
set_option maxRecDepth 100000 in
theorem met_X2_bitsOf (l : Launch) (a0 : Int32) (b : Int64) (hok : okR a0 b) : Met l yX2_bitsOf wsX2_bitsOf ({ frames := 3, cells := 0, slots := 0, locals := 73 }) (va_Pc [.int a0, .double (vl a0 b)] (fun _ => True)) (vp_Sl (fun r => r = b)) 0 0 (fun _ => False) := by
  refine Met.ofW (cc := cX2_bitsOf) (maxL := 4) (ret := (some .long)) (by decide) rfl ?_
  intro p e s m args below meth c s₁ B hml hv
  obtain ⟨rfl, -⟩ := hv
  have hx := B.exec
  have hb := B.bytes
  have hr := B.returns
  have hts := atoms_spec (ws := wsX2_bitsOf) B.pre
  have hown : s.vm.findClass RX2 = some m.cls := findClass_of_methodNamed B.named
  have hlocks := B.notSynchronized
  have hl := lv_entry ([.int a0, .double (vl a0 b)]) (n := 4) (Nat.le_of_ble_eq_true rfl)
  rw [lg_entry_eq]
  generalize (lg_sl ([.int a0, .double (vl a0 b)]) ++ List.replicate (4 - (lg_sl ([.int a0, .double (vl a0 b)])).length) Slot.unset).toArray = ls at hl ⊢
  have hl : lv_has ls 4 [(0, .int a0), (1, .double (vl a0 b))] := hl
  have zs := zv_sign hok
  refine lv_dload_n hx hb dX2_bitsOf_0 rfl (lv_at hl 1 rfl) ?_
  refine lv_dconst0 hx hb dX2_bitsOf_1 ?_
  refine lv_dcmp hx hb dX2_bitsOf_2 ?_
  refine lv_if_lt (tgt := 20) hx hb dX2_bitsOf_3 (by decide) (fun c_1 => ?_) (fun c_1 => ?_)
  · refine lv_iconst (v := 1) hx hb dX2_bitsOf_20 (by decide) ?_
    refine lv_goto (tgt := 25) hx hb dX2_bitsOf_21 (by decide) ?_
    have hb0 : b < 0 := Decidable.not_not.mp (fun g => absurd (zs.2.1 g) (by rw [cmp0 (vl_nn hok), cv_lt] at c_1; omega))
    refine lv_istore_n (lv' := [(3, .int 1), (0, .int a0), (1, .double (vl a0 b))]) hx hb dX2_bitsOf_25 rfl hl (by decide) rfl (fun ls hl => ?_)
    refine lv_iload_n hx hb dX2_bitsOf_26 rfl (lv_at hl 1 rfl) ?_
    refine lv_iload_n hx hb dX2_bitsOf_27 rfl (lv_at hl 1 rfl) ?_
    refine lv_iload_n hx hb dX2_bitsOf_28 rfl (lv_at hl 0 rfl) ?_
    refine lv_if_eq (tgt := 37) hx hb dX2_bitsOf_29 (by decide) (fun h0 => absurd h0 (by decide)) (fun _ => ?_)
    refine lv_dload_n hx hb dX2_bitsOf_32 rfl (lv_at hl 2 rfl) ?_
    refine lv_dneg hx hb dX2_bitsOf_33 ?_
    refine lv_goto (tgt := 38) hx hb dX2_bitsOf_34 (by decide) ?_
    refine vp_callSl ((va_runS (As := [.int a0, .double (FP.dneg (vl a0 b))]) (rest := [.int a0]) ⟨hx, hb, hml, hown, hts⟩ (met_X2_sizeOfValue l a0 (FP.dneg (vl a0 b)) (mgN a0 b) (by rw [vl_pv hok, if_pos hb0, dneg2]; exact szH (okR_le hok))) (va_cwS 2 hts gX2_bitsOf_X2_sizeOfValue rfl rfl rfl (by decide +kernel) ⟨Nat.le_of_ble_eq_true rfl, Nat.le_of_ble_eq_true rfl⟩) ⟨fun _ _ _ _ q => q, fun U hU hW => ⟨rfl, trivial⟩⟩ rfl rfl hl.1 rfl (lv_room (Nat.le_of_ble_eq_true rfl)) dX2_bitsOf_38 ⟨Nat.le_of_ble_eq_true rfl, Nat.le_of_ble_eq_true rfl⟩).run) (fun r_1 h_1 => ?_)
    subst h_1
    refine lv_iload_n hx hb dX2_bitsOf_41 rfl (lv_at hl 0 rfl) ?_
    refine vp_callSl ((va_runS (As := [.int a0, .long (lN (mgN a0 b)), .int 1]) (rest := []) ⟨hx, hb, hml, hown, hts⟩ (met_X2_signed l a0 (lN (mgN a0 b)) 1) (va_cwS 3 hts gX2_bitsOf_X2_signed rfl rfl rfl (by decide +kernel) ⟨Nat.le_of_ble_eq_true rfl, Nat.le_of_ble_eq_true rfl⟩) ⟨fun _ _ _ _ q => q, fun U hU hW => ⟨rfl, trivial⟩⟩ rfl rfl hl.1 rfl (lv_room (Nat.le_of_ble_eq_true rfl)) dX2_bitsOf_42 ⟨Nat.le_of_ble_eq_true rfl, Nat.le_of_ble_eq_true rfl⟩).run) (fun r hw => ?_)
    rw [hw]
    exact W.lret (v := fX2_signed a0 (lN (mgN a0 b)) 1) hx hb hr (fun t ht hW => ⟨_, rfl, (by have h := signed_eq hok; rwa [if_pos hb0] at h), ht⟩) (fun q hq => absurd hq List.not_mem_nil) dX2_bitsOf_45
  · refine lv_dload_n hx hb dX2_bitsOf_6 rfl (lv_at hl 1 rfl) ?_
    refine lv_dconst0 hx hb dX2_bitsOf_7 ?_
    refine lv_dcmp hx hb dX2_bitsOf_8 ?_
    refine lv_if_ne (tgt := 24) hx hb dX2_bitsOf_9 (by decide) (fun c_2 => ?_) (fun c_2 => ?_)
    · refine lv_iconst (v := 0) hx hb dX2_bitsOf_24 (by decide) ?_
      have hb0 : ¬ b < 0 := fun g => by rw [cmp0 (vl_nn hok), cv_lt] at c_1; rw [cmp0 (vl_nn hok), cv_eq] at c_2; have := zs.1 g; omega
      refine lv_istore_n (lv' := [(3, .int 0), (0, .int a0), (1, .double (vl a0 b))]) hx hb dX2_bitsOf_25 rfl hl (by decide) rfl (fun ls hl => ?_)
      refine lv_iload_n hx hb dX2_bitsOf_26 rfl (lv_at hl 1 rfl) ?_
      refine lv_iload_n hx hb dX2_bitsOf_27 rfl (lv_at hl 1 rfl) ?_
      refine lv_iload_n hx hb dX2_bitsOf_28 rfl (lv_at hl 0 rfl) ?_
      refine lv_if_eq (tgt := 37) hx hb dX2_bitsOf_29 (by decide) (fun _ => ?_) (fun h0 => absurd (by decide) h0)
      refine lv_dload_n hx hb dX2_bitsOf_37 rfl (lv_at hl 2 rfl) ?_
      refine vp_callSl ((va_runS (As := [.int a0, .double (vl a0 b)]) (rest := [.int a0]) ⟨hx, hb, hml, hown, hts⟩ (met_X2_sizeOfValue l a0 (vl a0 b) (mgN a0 b) (by rw [vl_pv hok, if_neg hb0]; exact szH (okR_le hok))) (va_cwS 2 hts gX2_bitsOf_X2_sizeOfValue rfl rfl rfl (by decide +kernel) ⟨Nat.le_of_ble_eq_true rfl, Nat.le_of_ble_eq_true rfl⟩) ⟨fun _ _ _ _ q => q, fun U hU hW => ⟨rfl, trivial⟩⟩ rfl rfl hl.1 rfl (lv_room (Nat.le_of_ble_eq_true rfl)) dX2_bitsOf_38 ⟨Nat.le_of_ble_eq_true rfl, Nat.le_of_ble_eq_true rfl⟩).run) (fun r_2 h_2 => ?_)
      subst h_2
      refine lv_iload_n hx hb dX2_bitsOf_41 rfl (lv_at hl 0 rfl) ?_
      refine vp_callSl ((va_runS (As := [.int a0, .long (lN (mgN a0 b)), .int 0]) (rest := []) ⟨hx, hb, hml, hown, hts⟩ (met_X2_signed l a0 (lN (mgN a0 b)) 0) (va_cwS 3 hts gX2_bitsOf_X2_signed rfl rfl rfl (by decide +kernel) ⟨Nat.le_of_ble_eq_true rfl, Nat.le_of_ble_eq_true rfl⟩) ⟨fun _ _ _ _ q => q, fun U hU hW => ⟨rfl, trivial⟩⟩ rfl rfl hl.1 rfl (lv_room (Nat.le_of_ble_eq_true rfl)) dX2_bitsOf_42 ⟨Nat.le_of_ble_eq_true rfl, Nat.le_of_ble_eq_true rfl⟩).run) (fun r hw => ?_)
      rw [hw]
      exact W.lret (v := fX2_signed a0 (lN (mgN a0 b)) 0) hx hb hr (fun t ht hW => ⟨_, rfl, (by have h := signed_eq hok; rwa [if_neg hb0] at h), ht⟩) (fun q hq => absurd hq List.not_mem_nil) dX2_bitsOf_45
    · have hm0 : mgN a0 b = 0 := zs.2.2.mp (by rw [cmp0 (vl_nn hok), cv_eq] at c_2; exact c_2)
      refine lv_dconst1 hx hb dX2_bitsOf_12 ?_
      refine lv_dload_n hx hb dX2_bitsOf_13 rfl (lv_at hl 1 rfl) ?_
      refine lv_ddiv hx hb dX2_bitsOf_14 ((one_by hok hm0).1) ?_
      refine lv_dconst0 hx hb dX2_bitsOf_15 ?_
      refine lv_dcmp hx hb dX2_bitsOf_16 ?_
      refine lv_if_ge (tgt := 24) hx hb dX2_bitsOf_17 (by decide) (fun c_3 => ?_) (fun c_3 => ?_)
      · refine lv_iconst (v := 0) hx hb dX2_bitsOf_24 (by decide) ?_
        have hb0 : ¬ b < 0 := (one_by hok hm0).2.mp c_3
        refine lv_istore_n (lv' := [(3, .int 0), (0, .int a0), (1, .double (vl a0 b))]) hx hb dX2_bitsOf_25 rfl hl (by decide) rfl (fun ls hl => ?_)
        refine lv_iload_n hx hb dX2_bitsOf_26 rfl (lv_at hl 1 rfl) ?_
        refine lv_iload_n hx hb dX2_bitsOf_27 rfl (lv_at hl 1 rfl) ?_
        refine lv_iload_n hx hb dX2_bitsOf_28 rfl (lv_at hl 0 rfl) ?_
        refine lv_if_eq (tgt := 37) hx hb dX2_bitsOf_29 (by decide) (fun _ => ?_) (fun h0 => absurd (by decide) h0)
        refine lv_dload_n hx hb dX2_bitsOf_37 rfl (lv_at hl 2 rfl) ?_
        refine vp_callSl ((va_runS (As := [.int a0, .double (vl a0 b)]) (rest := [.int a0]) ⟨hx, hb, hml, hown, hts⟩ (met_X2_sizeOfValue l a0 (vl a0 b) (mgN a0 b) (by rw [vl_pv hok, if_neg hb0]; exact szH (okR_le hok))) (va_cwS 2 hts gX2_bitsOf_X2_sizeOfValue rfl rfl rfl (by decide +kernel) ⟨Nat.le_of_ble_eq_true rfl, Nat.le_of_ble_eq_true rfl⟩) ⟨fun _ _ _ _ q => q, fun U hU hW => ⟨rfl, trivial⟩⟩ rfl rfl hl.1 rfl (lv_room (Nat.le_of_ble_eq_true rfl)) dX2_bitsOf_38 ⟨Nat.le_of_ble_eq_true rfl, Nat.le_of_ble_eq_true rfl⟩).run) (fun r_3 h_3 => ?_)
        subst h_3
        refine lv_iload_n hx hb dX2_bitsOf_41 rfl (lv_at hl 0 rfl) ?_
        refine vp_callSl ((va_runS (As := [.int a0, .long (lN (mgN a0 b)), .int 0]) (rest := []) ⟨hx, hb, hml, hown, hts⟩ (met_X2_signed l a0 (lN (mgN a0 b)) 0) (va_cwS 3 hts gX2_bitsOf_X2_signed rfl rfl rfl (by decide +kernel) ⟨Nat.le_of_ble_eq_true rfl, Nat.le_of_ble_eq_true rfl⟩) ⟨fun _ _ _ _ q => q, fun U hU hW => ⟨rfl, trivial⟩⟩ rfl rfl hl.1 rfl (lv_room (Nat.le_of_ble_eq_true rfl)) dX2_bitsOf_42 ⟨Nat.le_of_ble_eq_true rfl, Nat.le_of_ble_eq_true rfl⟩).run) (fun r hw => ?_)
        rw [hw]
        exact W.lret (v := fX2_signed a0 (lN (mgN a0 b)) 0) hx hb hr (fun t ht hW => ⟨_, rfl, (by have h := signed_eq hok; rwa [if_neg hb0] at h), ht⟩) (fun q hq => absurd hq List.not_mem_nil) dX2_bitsOf_45
      · refine lv_iconst (v := 1) hx hb dX2_bitsOf_20 (by decide) ?_
        refine lv_goto (tgt := 25) hx hb dX2_bitsOf_21 (by decide) ?_
        have hb0 : b < 0 := Decidable.not_not.mp (fun g => c_3 ((one_by hok hm0).2.mpr g))
        refine lv_istore_n (lv' := [(3, .int 1), (0, .int a0), (1, .double (vl a0 b))]) hx hb dX2_bitsOf_25 rfl hl (by decide) rfl (fun ls hl => ?_)
        refine lv_iload_n hx hb dX2_bitsOf_26 rfl (lv_at hl 1 rfl) ?_
        refine lv_iload_n hx hb dX2_bitsOf_27 rfl (lv_at hl 1 rfl) ?_
        refine lv_iload_n hx hb dX2_bitsOf_28 rfl (lv_at hl 0 rfl) ?_
        refine lv_if_eq (tgt := 37) hx hb dX2_bitsOf_29 (by decide) (fun h0 => absurd h0 (by decide)) (fun _ => ?_)
        refine lv_dload_n hx hb dX2_bitsOf_32 rfl (lv_at hl 2 rfl) ?_
        refine lv_dneg hx hb dX2_bitsOf_33 ?_
        refine lv_goto (tgt := 38) hx hb dX2_bitsOf_34 (by decide) ?_
        refine vp_callSl ((va_runS (As := [.int a0, .double (FP.dneg (vl a0 b))]) (rest := [.int a0]) ⟨hx, hb, hml, hown, hts⟩ (met_X2_sizeOfValue l a0 (FP.dneg (vl a0 b)) (mgN a0 b) (by rw [vl_pv hok, if_pos hb0, dneg2]; exact szH (okR_le hok))) (va_cwS 2 hts gX2_bitsOf_X2_sizeOfValue rfl rfl rfl (by decide +kernel) ⟨Nat.le_of_ble_eq_true rfl, Nat.le_of_ble_eq_true rfl⟩) ⟨fun _ _ _ _ q => q, fun U hU hW => ⟨rfl, trivial⟩⟩ rfl rfl hl.1 rfl (lv_room (Nat.le_of_ble_eq_true rfl)) dX2_bitsOf_38 ⟨Nat.le_of_ble_eq_true rfl, Nat.le_of_ble_eq_true rfl⟩).run) (fun r_4 h_4 => ?_)
        subst h_4
        refine lv_iload_n hx hb dX2_bitsOf_41 rfl (lv_at hl 0 rfl) ?_
        refine vp_callSl ((va_runS (As := [.int a0, .long (lN (mgN a0 b)), .int 1]) (rest := []) ⟨hx, hb, hml, hown, hts⟩ (met_X2_signed l a0 (lN (mgN a0 b)) 1) (va_cwS 3 hts gX2_bitsOf_X2_signed rfl rfl rfl (by decide +kernel) ⟨Nat.le_of_ble_eq_true rfl, Nat.le_of_ble_eq_true rfl⟩) ⟨fun _ _ _ _ q => q, fun U hU hW => ⟨rfl, trivial⟩⟩ rfl rfl hl.1 rfl (lv_room (Nat.le_of_ble_eq_true rfl)) dX2_bitsOf_42 ⟨Nat.le_of_ble_eq_true rfl, Nat.le_of_ble_eq_true rfl⟩).run) (fun r hw => ?_)
        rw [hw]
        exact W.lret (v := fX2_signed a0 (lN (mgN a0 b)) 1) hx hb hr (fun t ht hW => ⟨_, rfl, (by have h := signed_eq hok; rwa [if_pos hb0] at h), ht⟩) (fun q hq => absurd hq List.not_mem_nil) dX2_bitsOf_45
