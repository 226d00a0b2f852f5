/-! the bits of a value -/
theorem cv_lt {a b : Int} {op : CmpOp} : Op.cmpValue (some (compare a b)) op < 0 ↔ a < b := by
  rcases Int.lt_trichotomy a b with h | h | h
  · rw [(FP.Core.compare_lt_iff a b).mpr h, show Op.cmpValue (some Ordering.lt) op = -1 from rfl]; exact iff_of_true (by decide) h
  · rw [(FP.Core.compare_eq_iff a b).mpr h, show Op.cmpValue (some Ordering.eq) op = 0 from rfl]; exact iff_of_false (by decide) (by omega)
  · rw [(FP.Core.compare_gt_iff a b).mpr h, show Op.cmpValue (some Ordering.gt) op = 1 from rfl]; exact iff_of_false (by decide) (by omega)
theorem cv_eq {a b : Int} {op : CmpOp} : Op.cmpValue (some (compare a b)) op = 0 ↔ a = b := by
  rcases Int.lt_trichotomy a b with h | h | h
  · rw [(FP.Core.compare_lt_iff a b).mpr h, show Op.cmpValue (some Ordering.lt) op = -1 from rfl]; exact iff_of_false (by decide) (by omega)
  · rw [(FP.Core.compare_eq_iff a b).mpr h, show Op.cmpValue (some Ordering.eq) op = 0 from rfl]; exact iff_of_true (by decide) h
  · rw [(FP.Core.compare_gt_iff a b).mpr h, show Op.cmpValue (some Ordering.gt) op = 1 from rfl]; exact iff_of_false (by decide) (by omega)
theorem cv_ge {a b : Int} {op : CmpOp} : 0 ≤ Op.cmpValue (some (compare a b)) op ↔ b ≤ a := by
  rcases Int.lt_trichotomy a b with h | h | h
  · rw [(FP.Core.compare_lt_iff a b).mpr h, show Op.cmpValue (some Ordering.lt) op = -1 from rfl]; exact iff_of_false (by decide) (by omega)
  · rw [(FP.Core.compare_eq_iff a b).mpr h, show Op.cmpValue (some Ordering.eq) op = 0 from rfl]; exact iff_of_true (by decide) (by omega)
  · rw [(FP.Core.compare_gt_iff a b).mpr h, show Op.cmpValue (some Ordering.gt) op = 1 from rfl]; exact iff_of_true (by decide) (by omega)
theorem cv_le {a b : Int} {op : CmpOp} : Op.cmpValue (some (compare a b)) op ≤ 0 ↔ a ≤ b := by
  rcases Int.lt_trichotomy a b with h | h | h
  · rw [(FP.Core.compare_lt_iff a b).mpr h, show Op.cmpValue (some Ordering.lt) op = -1 from rfl]; exact iff_of_true (by decide) (by omega)
  · rw [(FP.Core.compare_eq_iff a b).mpr h, show Op.cmpValue (some Ordering.eq) op = 0 from rfl]; exact iff_of_true (by decide) (by omega)
  · rw [(FP.Core.compare_gt_iff a b).mpr h, show Op.cmpValue (some Ordering.gt) op = 1 from rfl]; exact iff_of_false (by decide) (by omega)
theorem pw_ge {W t s z : Nat} {e : Int} (h1 : 2 ^ t ≤ W) (h2 : W < 2 ^ (t + 1)) (he : -(z : Int) ≤ e) : 2 ^ s * 2 ^ z ≤ W * 2 ^ (e + z).toNat ↔ (s : Int) ≤ t + e := by
  constructor
  · intro h
    have h3 : 2 ^ s * 2 ^ z < 2 ^ (t + 1) * 2 ^ (e + z).toNat := Nat.lt_of_le_of_lt h (Nat.mul_lt_mul_of_pos_right h2 (Nat.two_pow_pos _))
    rw [← Nat.pow_add, ← Nat.pow_add] at h3
    have := (Nat.pow_lt_pow_iff_right (by decide : 1 < 2)).mp h3
    omega
  · intro h
    calc 2 ^ s * 2 ^ z = 2 ^ (s + z) := (Nat.pow_add ..).symm
      _ ≤ 2 ^ (t + (e + z).toNat) := Nat.pow_le_pow_right (by decide) (by omega)
      _ = 2 ^ t * 2 ^ (e + z).toNat := Nat.pow_add ..
      _ ≤ _ := Nat.mul_le_mul_right _ h1
theorem dE_max : dE 9218868437227405311 (2 ^ 53 - 1) 971 := by unfold dE; decide +kernel
theorem dE_0 : dE FP.dconst0 0 0 := by unfold dE; decide +kernel
theorem i2n {a b : Nat} : ((a : Nat) : Int) ≤ (b : Int) ↔ a ≤ b := Int.ofNat_le
/-- compared with 2^32, with 1 -/
theorem cT32 {v : UInt64} {W t : Nat} {e : Int} (hv : dE v W e) (hW : W < 2 ^ 53) (h1 : 2 ^ t ≤ W) (h2 : W < 2 ^ (t + 1)) (he : -1074 ≤ e) (he2 : e ≤ 971) : Op.cmpValue (FP.dcmp v 4751297606875873280) CmpOp.l < 0 ↔ (t : Int) + e < 32 := by
  rw [dE_cmp hv hW he he2 dE_32 (by decide) (by decide) (by decide), cv_lt]
  have := pw_ge (s := 32) (z := 1074) h1 h2 he
  rw [Int.ofNat_lt, show ((0 : Int) + 1074).toNat = 1074 from rfl, ← Nat.not_le, show (e + ((1074 : Nat) : Int)) = e + 1074 from rfl] at *
  rw [this]; omega
theorem cOne {v : UInt64} {W t : Nat} {e : Int} (hv : dE v W e) (hW : W < 2 ^ 53) (h1 : 2 ^ t ≤ W) (h2 : W < 2 ^ (t + 1)) (he : -1074 ≤ e) (he2 : e ≤ 971) : 0 ≤ Op.cmpValue (FP.dcmp v FP.dconst1) CmpOp.g ↔ 0 ≤ (t : Int) + e := by
  rw [dE_cmp hv hW he he2 dE_1 (by decide) (by decide) (by decide), cv_ge]
  have := pw_ge (s := 0) (z := 1074) h1 h2 he
  rw [Int.ofNat_le, show ((0 : Int) + 1074).toNat = 1074 from rfl, show (e + ((1074 : Nat) : Int)) = e + 1074 from rfl] at *
  rw [Nat.pow_zero] at this
  rw [this]; rfl
theorem cmax {v : UInt64} {W : Nat} {e : Int} (hv : dE v W e) (hW : W < 2 ^ 53) (he : -1074 ≤ e) (he2 : e ≤ 971) : Op.cmpValue (FP.dcmp v 9218868437227405311) CmpOp.l ≤ 0 := by
  rw [dE_cmp hv hW he he2 dE_max (by decide) (by decide) (by decide), cv_le, Int.ofNat_le]
  exact Nat.mul_le_mul (by omega) (Nat.pow_le_pow_right (by decide) (by omega))
theorem cne0 {v : UInt64} {W : Nat} {e : Int} {op : CmpOp} (hv : dE v W e) (hW : W < 2 ^ 53) (h0 : 0 < W) (he : -1074 ≤ e) (he2 : e ≤ 971) : ¬ Op.cmpValue (FP.dcmp v FP.dconst0) op = 0 := by
  rw [dE_cmp hv hW he he2 dE_0 (by decide) (by decide) (by decide), cv_eq]
  have := Nat.mul_pos h0 (Nat.two_pow_pos (e + 1074).toNat)
  rw [Nat.zero_mul]
  omega
theorem d2l_nat {v : UInt64} {W : Nat} {e : Int} (hv : dE v W e) (hW : W < 2 ^ 53) (he : -1074 ≤ e) (he2 : e ≤ 971) (hs : W * 2 ^ (e + 1074).toNat / 2 ^ 1074 < 2 ^ 63) : FP.d2l v = lN (W * 2 ^ (e + 1074).toNat / 2 ^ 1074) := by
  have hz := dE_zval hv hW he he2
  have h1 := FP.Core.d2l_val (dE_nn hv)
  unfold FP.Core.zval at hz
  have hzm : FP.Core.zmag FP.Core.b64 (FP.Core.val64 v) = W * 2 ^ (e + 1074).toNat := by
    have := congrArg Int.natAbs hz
    rwa [FP.Core.natAbs_signed, Int.natAbs_natCast] at this
  have hsg : FP.Core.sgn (FP.Core.val64 v) = false := by
    unfold dE at hv; rw [hv]; exact FP.Core.sgn_roundRatio _ _ _ _ _
  apply Int64.toInt_inj.mp
  rw [h1, pk_lT hs, hsg, hzm]
  unfold FP.Core.one64
  show max (-2 ^ 63) (min (2 ^ 63 - 1) (((W * 2 ^ (e + 1074).toNat / 2 ^ 1074 : Nat)) : Int)) = _
  generalize W * 2 ^ (e + 1074).toNat / 2 ^ 1074 = X at *
  omega
theorem d2l_fl {v : UInt64} {W t : Nat} {e : Int} (hv : dE v W e) (hW : W < 2 ^ 53) (h1 : 2 ^ t ≤ W) (h2 : W < 2 ^ (t + 1)) (he : -1074 ≤ e) (he2 : e ≤ 971) (g0 : 0 ≤ (t : Int) + e) (g1 : (t : Int) + e < 32) :
    ∃ X, FP.d2l v = lN X ∧ X.log2 = ((t : Int) + e).toNat ∧ 0 < X ∧ X < 2 ^ 63 := by
  obtain ⟨u, hu⟩ : ∃ u : Nat, (u : Int) = t + e := ⟨((t : Int) + e).toNat, by omega⟩
  have b1 : 2 ^ u ≤ W * 2 ^ (e + 1074).toNat / 2 ^ 1074 := by
    rw [Nat.le_div_iff_mul_le (Nat.two_pow_pos _)]
    exact (pw_ge (s := u) (z := 1074) h1 h2 he).mpr (by omega)
  have b2 : W * 2 ^ (e + 1074).toNat / 2 ^ 1074 < 2 ^ (u + 1) := by
    rw [Nat.div_lt_iff_lt_mul (Nat.two_pow_pos _)]
    refine Nat.lt_of_not_le (fun h => ?_)
    have := (pw_ge (s := u + 1) (z := 1074) h1 h2 he).mp h
    omega
  have b3 : 2 ^ (u + 1) ≤ 2 ^ 32 := Nat.pow_le_pow_right (by decide) (by omega)
  have b4 := Nat.two_pow_pos u
  have hs : W * 2 ^ (e + 1074).toNat / 2 ^ 1074 < 2 ^ 63 := by omega
  refine ⟨_, d2l_nat hv hW he he2 hs, ?_, by omega, hs⟩
  rw [show ((t : Int) + e).toNat = u by omega]
  exact (Nat.log2_eq_iff (by omega)).mpr ⟨b1, b2⟩
theorem d2l_wh {v : UInt64} {W n : Nat} (hv : dE v W (n : Int)) (hW : W < 2 ^ 53) (he2 : n ≤ 52) (hs : W * 2 ^ n < 2 ^ 63) : FP.d2l v = lN (W * 2 ^ n) := by
  have e1 : W * 2 ^ ((n : Int) + 1074).toNat / 2 ^ 1074 = W * 2 ^ n := by
    rw [show ((n : Int) + 1074).toNat = n + 1074 by omega, Nat.pow_add, ← Nat.mul_assoc, Nat.mul_div_cancel _ (Nat.two_pow_pos _)]
  have := d2l_nat hv hW (by omega) (by omega) (by rw [e1]; exact hs)
  rw [this, e1]
theorem ex_hi2 {k : Int32} {m : Nat} (hm : m < infN k) : exN k m ≤ 971 := by
  unfold exN fieldN fbN
  unfold infN at hm
  by_cases hk : k = 2
  · rw [if_pos hk] at hm ⊢; rw [if_pos hk]; split <;> omega
  · rw [if_neg hk] at hm ⊢; rw [if_neg hk]; split <;> omega
theorem whole_pos {k : Int32} {m : Nat} (hm : 0 < m) : 0 < wholeN k m := by
  have := Nat.two_pow_pos (fbN k)
  unfold wholeN; split <;> omega
/-- the whole number's highest bit -/
theorem sz_t {k : Int32} {m t : Nat} (hm : 0 < m) (h1 : 2 ^ t ≤ wholeN k m) (h2 : wholeN k m < 2 ^ (t + 1)) : (m < 2 ^ fbN k ∧ wholeN k m = m ∧ fieldN k m = 1 ∧ t < fbN k) ∨ (¬ m < 2 ^ fbN k ∧ wholeN k m = 2 ^ fbN k + m % 2 ^ fbN k ∧ fieldN k m = m / 2 ^ fbN k ∧ t = fbN k) := by
  have p := Nat.two_pow_pos (fbN k)
  unfold wholeN fieldN at *
  by_cases h : m < 2 ^ fbN k
  · rw [if_pos h] at *
    refine Or.inl ⟨h, rfl, by rw [if_pos h], ?_⟩
    exact (Nat.pow_lt_pow_iff_right (by decide : 1 < 2)).mp (Nat.lt_of_le_of_lt h1 h)
  · rw [if_neg h] at *
    have hr := Nat.mod_lt m p
    refine Or.inr ⟨h, rfl, by rw [if_neg h], ?_⟩
    have a1 : 2 ^ t < 2 ^ (fbN k + 1) := by rw [Nat.pow_succ]; omega
    have a2 : 2 ^ fbN k < 2 ^ (t + 1) := by omega
    have a3 := (Nat.pow_lt_pow_iff_right (by decide : 1 < 2)).mp a1
    have a4 := (Nat.pow_lt_pow_iff_right (by decide : 1 < 2)).mp a2
    omega
theorem sz_hi {k fI : Int32} {m t : Nat} (hm : 0 < m) (hmt : m < topN k) (h1 : 2 ^ t ≤ wholeN k m) (h2 : wholeN k m < 2 ^ (t + 1)) (hf : fI.toInt = (t : Int) + fieldN k m - fbN k) (hc : ¬ fI < 1) :
    fX2_sizeOfParts (nI (fbN k)) fI (lN (wholeN k m * 2 ^ (52 - t) / 2 ^ (52 - fbN k))) = lN m := by
  rw [Int32.lt_iff_toInt_lt, show (1 : Int32).toInt = 1 from rfl] at hc
  have p := Nat.two_pow_pos (fbN k)
  rcases sz_t hm h1 h2 with ⟨a, b, c, d⟩ | ⟨a, b, c, d⟩
  · exfalso; omega
  · rw [d, Nat.mul_div_cancel _ (Nat.two_pow_pos _), b]
    have hfl := (field_le hmt).1
    have h1f : 1 ≤ m / 2 ^ fbN k := (Nat.le_div_iff_mul_le p).mpr (by omega)
    have e1 : fI - 1 = nI (m / 2 ^ fbN k - 1) := by
      have : fI = nI (m / 2 ^ fbN k) := by
        rw [i32_nI (x := fI) (by omega)]; congr 1; omega
      rw [this, show (1 : Int32) = nI 1 from rfl, pk_sub h1f]
    unfold fX2_sizeOfParts
    rw [e1, nI_l (by omega), wb_shl _ (fb_lt k), lN_add]
    congr 1
    have := Nat.div_add_mod m (2 ^ fbN k)
    rw [Nat.sub_mul, Nat.one_mul]
    have h3 : 2 ^ fbN k ≤ m / 2 ^ fbN k * 2 ^ fbN k := Nat.le_mul_of_pos_left _ h1f
    rw [Nat.mul_comm] at this
    omega
theorem sz_lo {k fI : Int32} {m t : Nat} (hm : 0 < m) (h1 : 2 ^ t ≤ wholeN k m) (h2 : wholeN k m < 2 ^ (t + 1)) (hf : fI.toInt = (t : Int) + fieldN k m - fbN k) (hc : fI < 1) :
    ((lN (wholeN k m * 2 ^ (52 - t) / 2 ^ (52 - fbN k))).toUInt64 >>> ((1 - fI : Int32).toInt64.toUInt64 &&& Int64.toUInt64 63)).toInt64 = lN m := by
  rw [Int32.lt_iff_toInt_lt, show (1 : Int32).toInt = 1 from rfl] at hc
  have hfb := fb_le k
  rcases sz_t hm h1 h2 with ⟨a, b, c, d⟩ | ⟨a, b, c, d⟩
  · rw [b]
    have e0 : m * 2 ^ (52 - t) / 2 ^ (52 - fbN k) = m * 2 ^ (fbN k - t) := by
      rw [show 52 - t = (fbN k - t) + (52 - fbN k) by omega, Nat.pow_add, ← Nat.mul_assoc, Nat.mul_div_cancel _ (Nat.two_pow_pos _)]
    have hr := fb_rng fI
    have e1 : (1 - fI).toInt = 1 - fI.toInt := by
      rw [fb_subI (by rw [show (1 : Int32).toInt = 1 from rfl]; omega) (by rw [show (1 : Int32).toInt = 1 from rfl]; omega)]; rfl
    have e2 : (1 - fI) = nI (fbN k - t) := by rw [i32_nI (x := 1 - fI) (by omega)]; congr 1; omega
    rw [b] at h2
    have h3 : m * 2 ^ (fbN k - t) < 2 ^ 64 := by
      have : m * 2 ^ (fbN k - t) < 2 ^ (t + 1) * 2 ^ (fbN k - t) := Nat.mul_lt_mul_of_pos_right h2 (Nat.two_pow_pos _)
      have h4 : 2 ^ (t + 1) * 2 ^ (fbN k - t) ≤ 2 ^ 64 := by rw [← Nat.pow_add]; exact Nat.pow_le_pow_right (by decide) (by omega)
      omega
    rw [e0, e2, wb_shr h3 (by omega), Nat.mul_div_cancel _ (Nat.two_pow_pos _)]
  · exfalso
    have := field_ge k m
    omega
theorem bias_ti (k : Int32) : (fX2_bias k).toInt = (if k = 2 then 127 else 1023) := by unfold fX2_bias; split <;> rfl
theorem fI_ti {k x fI : Int32} {tp m t : Nat} {j : Int} (hx : x.toInt = j) (htp : (tp : Int) = t + (exN k m - j)) (h0 : -2000 ≤ j) (h1 : j ≤ 2000) (h2 : tp < 32) (hf : fI = (x + nI tp) + fX2_bias k) : fI.toInt = (t : Int) + fieldN k m - fbN k := by
  have e1 : (nI tp).toInt = (tp : Int) := nI_toInt (by omega)
  have hb := bias_ti k
  have e2 : (x + nI tp).toInt = j + tp := by rw [fb_addI (by rw [hx, e1]; omega) (by rw [hx, e1]; omega), hx, e1]
  unfold exN at htp
  unfold fbN
  by_cases hk : k = 2
  · rw [if_pos hk] at hb htp ⊢
    rw [hf, fb_addI (by rw [e2, hb]; omega) (by rw [e2, hb]; omega), e2, hb]; omega
  · rw [if_neg hk] at hb htp ⊢
    rw [hf, fb_addI (by rw [e2, hb]; omega) (by rw [e2, hb]; omega), e2, hb]; omega

set_option maxHeartbeats 4000000 in
set_option maxRecDepth 100000 in
theorem met_X2_sizeOfValue (l : Launch) (a0 : Int32) (a1 : UInt64) (mm : Nat) (h : (mm = 0 ∧ FP.Core.val64 a1 = .fin false 0 (-1074)) ∨ (mm = infN a0 ∧ FP.Core.val64 a1 = .inf false) ∨ (0 < mm ∧ mm < infN a0 ∧ dE a1 (wholeN a0 mm) (exN a0 mm))) : Met l yX2_sizeOfValue wsX2_sizeOfValue ({ frames := 2, cells := 0, slots := 0, locals := 43 }) (va_Pc [.int a0, .double a1] (fun _ => True)) (vp_Sl (fun r => r = lN mm)) 0 0 (fun _ => False) := by
  refine Met.ofW (cc := cX2_sizeOfValue) (maxL := 11) (ret := (some .long)) (by decide) rfl ?_
  intro p e s m args below meth c s₁ B hml hv
  obtain ⟨rfl, -⟩ := hv
  have hx := B.exec
  have hb := B.bytes
  have hr := B.returns
  have hts := atoms_spec (ws := wsX2_sizeOfValue) B.pre
  have hown : s.vm.findClass RX2 = some m.cls := findClass_of_methodNamed B.named
  have hlocks := B.notSynchronized
  have hl := lv_entry ([.int a0, .double a1]) (n := 11) (Nat.le_of_ble_eq_true rfl)
  rw [lg_entry_eq]
  generalize (lg_sl ([.int a0, .double a1]) ++ List.replicate (11 - (lg_sl ([.int a0, .double a1])).length) Slot.unset).toArray = ls at hl ⊢
  have hl : lv_has ls 11 [(0, .int a0), (1, .double a1)] := hl
  rcases h with ⟨hm, hv⟩ | ⟨hm, hv⟩ | ⟨hm0, hm, hv⟩
  · have c0 : (Op.cmpValue (FP.dcmp a1 FP.dconst0) CmpOp.l) = 0 := by
      have : FP.dcmp a1 0 = some .eq := FP.Core.zero_iff.mpr ⟨false, -1074, hv⟩
      rw [show FP.dconst0 = 0 from rfl, this]; rfl
    refine lv_dload_n hx hb dX2_sizeOfValue_0 rfl (lv_at hl 1 rfl) ?_
    refine lv_dconst0 hx hb dX2_sizeOfValue_1 ?_
    refine lv_dcmp hx hb dX2_sizeOfValue_2 ?_
    refine lv_if_ne (tgt := 8) hx hb dX2_sizeOfValue_3 (by decide) (fun h0 => absurd c0 h0) (fun _ => ?_)
    refine lv_lconst (v := 0) hx hb dX2_sizeOfValue_6 (by decide) ?_
    exact W.lret (v := 0) hx hb hr (fun t ht hW => ⟨_, rfl, (by rw [hm]; rfl), ht⟩) (fun q hq => absurd hq List.not_mem_nil) dX2_sizeOfValue_7
  · have e1 : a1 = 9218868437227405312 := fm_inj64 (by decide +kernel) (by rw [hv]; decide +kernel)
    have c0 : ¬ (Op.cmpValue (FP.dcmp a1 FP.dconst0) CmpOp.l) = 0 := by rw [e1]; decide +kernel
    have c1 : ¬ (Op.cmpValue (FP.dcmp a1 9218868437227405311) CmpOp.l) ≤ 0 := by rw [e1]; decide +kernel
    refine lv_dload_n hx hb dX2_sizeOfValue_0 rfl (lv_at hl 1 rfl) ?_
    refine lv_dconst0 hx hb dX2_sizeOfValue_1 ?_
    refine lv_dcmp hx hb dX2_sizeOfValue_2 ?_
    refine lv_if_ne (tgt := 8) hx hb dX2_sizeOfValue_3 (by decide) (fun _ => ?_) (fun h0 => absurd h0 c0)
    refine lv_dload_n hx hb dX2_sizeOfValue_8 rfl (lv_at hl 1 rfl) ?_
    refine lv_ldc2d hx hb hown (hts (.constantDouble RX2 80 (9218868437227405311)) (by decide +kernel)) dX2_sizeOfValue_9 ?_
    refine lv_dcmp hx hb dX2_sizeOfValue_12 ?_
    refine lv_if_le (tgt := 21) hx hb dX2_sizeOfValue_13 (by decide) (fun h0 => absurd h0 c1) (fun _ => ?_)
    refine lv_iload_n hx hb dX2_sizeOfValue_16 rfl (lv_at hl 0 rfl) ?_
    refine vp_callSl ((va_runS (As := [.int a0]) (rest := []) ⟨hx, hb, hml, hown, hts⟩ (met_X2_endless l a0) (va_cwS 1 hts gX2_sizeOfValue_X2_endless rfl rfl rfl (by decide +kernel) ⟨Nat.le_of_ble_eq_true rfl, Nat.le_of_ble_eq_true rfl⟩) ⟨fun _ _ _ _ q => q, fun U hU hW => ⟨rfl, trivial⟩⟩ rfl rfl hl.1 rfl (lv_room (Nat.le_of_ble_eq_true rfl)) dX2_sizeOfValue_17 ⟨Nat.le_of_ble_eq_true rfl, Nat.le_of_ble_eq_true rfl⟩).run) (fun r hw => ?_)
    subst hw
    exact W.lret (v := fX2_endless a0) hx hb hr (fun t ht hW => ⟨_, rfl, (by rw [hm]; exact endless_eq a0), ht⟩) (fun q hq => absurd hq List.not_mem_nil) dX2_sizeOfValue_20
  · have hW := whole_lt53 a0 mm
    have hW0 := whole_pos (k := a0) hm0
    obtain ⟨t, h1, h2⟩ : ∃ t, 2 ^ t ≤ wholeN a0 mm ∧ wholeN a0 mm < 2 ^ (t + 1) := ⟨_, Nat.log2_self_le (by omega), Nat.lt_log2_self⟩
    have ht : t ≤ 52 := by
      have : 2 ^ t < 2 ^ 53 := by omega
      have := (Nat.pow_lt_pow_iff_right (by decide : 1 < 2)).mp this
      omega
    have hE1 := ex_lo a0 mm
    have hE2 := ex_hi2 hm
    have c0 : ¬ (Op.cmpValue (FP.dcmp a1 FP.dconst0) CmpOp.l) = 0 := cne0 hv hW hW0 hE1 hE2
    have c1 : (Op.cmpValue (FP.dcmp a1 9218868437227405311) CmpOp.l) ≤ 0 := cmax hv hW hE1 hE2
    refine lv_dload_n hx hb dX2_sizeOfValue_0 rfl (lv_at hl 1 rfl) ?_
    refine lv_dconst0 hx hb dX2_sizeOfValue_1 ?_
    refine lv_dcmp hx hb dX2_sizeOfValue_2 ?_
    refine lv_if_ne (tgt := 8) hx hb dX2_sizeOfValue_3 (by decide) (fun _ => ?_) (fun h0 => absurd h0 c0)
    refine lv_dload_n hx hb dX2_sizeOfValue_8 rfl (lv_at hl 1 rfl) ?_
    refine lv_ldc2d hx hb hown (hts (.constantDouble RX2 80 (9218868437227405311)) (by decide +kernel)) dX2_sizeOfValue_9 ?_
    refine lv_dcmp hx hb dX2_sizeOfValue_12 ?_
    refine lv_if_le (tgt := 21) hx hb dX2_sizeOfValue_13 (by decide) (fun _ => ?_) (fun h0 => absurd c1 h0)
    refine lv_dload_n hx hb dX2_sizeOfValue_21 rfl (lv_at hl 1 rfl) ?_
    refine lv_dstore_n (lv' := [(3, .double a1), (0, .int a0), (1, .double a1)]) hx hb dX2_sizeOfValue_22 rfl hl (by decide) rfl (fun ls hl => ?_)
    refine lv_iconst (v := 0) hx hb dX2_sizeOfValue_23 (by decide) ?_
    refine lv_istore (lv' := [(5, .int 0), (3, .double a1), (0, .int a0), (1, .double a1)]) hx hb dX2_sizeOfValue_24 hl (by decide) rfl (fun ls hl => ?_)
    have hq : ∃ (v : UInt64) (x : Int32) (i : Nat), lv_has ls 11 [(5, .int x), (3, .double v), (0, .int a0), (1, .double a1)] ∧ dE v (wholeN a0 mm) (exN a0 mm - 32 * (i : Int)) ∧ x.toInt = 32 * (i : Int) ∧ (i = 0 ∨ 0 ≤ (t : Int) + exN a0 mm - 32 * (i : Int)) := ⟨a1, 0, 0, hl, by rw [show exN a0 mm - 32 * ((0 : Nat) : Int) = exN a0 mm by omega]; exact hv, rfl, Or.inl rfl⟩
    clear hl hv
    obtain ⟨v, x, i, hl, hv, hx0, hi⟩ := hq
    obtain ⟨n, hn⟩ : ∃ n : Nat, (t : Int) + exN a0 mm - 32 * (i : Int) < 32 * (n : Int) + 32 ∧ (n = 0 ∨ 32 * (n : Int) ≤ (t : Int) + exN a0 mm - 32 * (i : Int)) := ⟨(((t : Int) + exN a0 mm - 32 * (i : Int)) / 32).toNat, by omega⟩
    induction n generalizing v x i ls with
    | zero =>
      have d1 : ¬ 1024 ≤ x := fun g => by rw [Int32.le_iff_toInt_le, show (1024 : Int32).toInt = 1024 from rfl] at g; omega
      have d2 : (Op.cmpValue (FP.dcmp v 4751297606875873280) CmpOp.l) < 0 := (cT32 hv hW h1 h2 (by omega) (by omega)).mpr (by omega)
      refine lv_iload hx hb dX2_sizeOfValue_26 (lv_at hl 0 rfl) ?_
      refine lv_sipush (v := 1024) hx hb dX2_sizeOfValue_28 (by decide) ?_
      refine lv_icmp_ge (tgt := 54) hx hb dX2_sizeOfValue_31 (by decide) (fun h0 => absurd h0 d1) (fun _ => ?_)
      refine lv_dload_n hx hb dX2_sizeOfValue_34 rfl (lv_at hl 1 rfl) ?_
      refine lv_ldc2d hx hb hown (hts (.constantDouble RX2 82 (4751297606875873280)) (by decide +kernel)) dX2_sizeOfValue_35 ?_
      refine lv_dcmp hx hb dX2_sizeOfValue_38 ?_
      refine lv_if_lt (tgt := 54) hx hb dX2_sizeOfValue_39 (by decide) (fun _ => ?_) (fun h0 => absurd d2 h0)
      have hq : ∃ (v : UInt64) (x : Int32) (j : Int), lv_has ls 11 [(5, .int x), (3, .double v), (0, .int a0), (1, .double a1)] ∧ dE v (wholeN a0 mm) (exN a0 mm - j) ∧ x.toInt = j ∧ (t : Int) + exN a0 mm - j < 32 ∧ -1074 ≤ exN a0 mm - j ∧ j ≤ 1100 := ⟨v, x, 32 * (i : Int), hl, hv, hx0, by omega, by omega, by omega⟩
      clear hl hv hx0 hi hn d1 d2
      obtain ⟨v, x, j, hl, hv, hx0, hj1, hj2, hj3⟩ := hq
      obtain ⟨n, hn⟩ : ∃ n : Nat, 0 ≤ (t : Int) + exN a0 mm - j + 32 * (n : Int) ∧ (t : Int) + exN a0 mm - j + 32 * (n : Int) < 32 := ⟨((j - (t : Int) - exN a0 mm + 31) / 32).toNat, by omega⟩
      induction n generalizing v x j ls with
      | zero =>
        have d2 : 0 ≤ (Op.cmpValue (FP.dcmp v FP.dconst1) CmpOp.g) := (cOne hv hW h1 h2 (by omega) (by omega)).mpr (by omega)
        obtain ⟨tp, htp⟩ : ∃ tp : Nat, (tp : Int) = (t : Int) + (exN a0 mm - j) := ⟨((t : Int) + (exN a0 mm - j)).toNat, by omega⟩
        obtain ⟨X, hX1, hX2, hX3, hX4⟩ := d2l_fl hv hW h1 h2 (by omega) (by omega) (by omega) (by omega)
        rw [← htp, Int.toNat_natCast] at hX2
        have hM : dE (FP.dmul v (FP.l2d (lN (2 ^ (52 - tp))))) (wholeN a0 mm) ((52 - t : Nat) : Int) := by
          have p : 2 ^ (52 - tp) < 2 ^ 63 := Nat.pow_lt_pow_right (by decide) (by omega)
          have h := dE_mul hv hW (by omega) (by omega) (dE_l2d p) (by omega)
          rwa [show exN a0 mm - j + ((52 - tp : Nat) : Int) = ((52 - t : Nat) : Int) by omega] at h
        have hP : wholeN a0 mm * 2 ^ (52 - t) < 2 ^ 53 := by
          have := Nat.mul_lt_mul_of_pos_right h2 (Nat.two_pow_pos (52 - t))
          rwa [← Nat.pow_add, show t + 1 + (52 - t) = 53 by omega] at this
        have hfb := fb_le a0
        refine lv_iload hx hb dX2_sizeOfValue_54 (lv_at hl 0 rfl) ?_
        refine lv_sipush (v := (-1088)) hx hb dX2_sizeOfValue_56 (by decide) ?_
        refine lv_icmp_le (tgt := 80) hx hb dX2_sizeOfValue_59 (by decide) (fun c_1 => ?_) (fun c_1 => ?_)
        · refine lv_bipush (v := 63) hx hb dX2_sizeOfValue_80 (by decide) ?_
          refine lv_dload_n hx hb dX2_sizeOfValue_82 rfl (lv_at hl 1 rfl) ?_
          refine lv_d2l hx hb dX2_sizeOfValue_83 ?_
          refine lv_topl (fun z_2 ez_2 => ?_)
          obtain rfl : z_2 = lN X := ez_2.trans hX1
          refine vp_callSi ((va_runS (As := [.long (lN X)]) (rest := [.int 63]) ⟨hx, hb, hml, hown, hts⟩ (met_J13_numberOfLeadingZeros_95d88 l  X hX3 hX4) (va_cwS 1 hts gX2_sizeOfValue_J13_numberOfLeadingZeros_95d88 rfl rfl rfl (by decide +kernel) ⟨Nat.le_of_ble_eq_true rfl, Nat.le_of_ble_eq_true rfl⟩) ⟨fun _ _ _ _ q => q, fun U hU hW => ⟨rfl, trivial⟩⟩ rfl rfl hl.1 rfl (lv_room (Nat.le_of_ble_eq_true rfl)) dX2_sizeOfValue_84 ⟨Nat.le_of_ble_eq_true rfl, Nat.le_of_ble_eq_true rfl⟩).run) (fun r_1 h_1 => ?_)
          subst h_1
          refine lv_isub hx hb dX2_sizeOfValue_87 ?_
          refine lv_topi (fun z_3 ez_3 => ?_)
          obtain rfl : z_3 = nI tp := ez_3.trans (by rw [hX2]; exact sub63 (by omega))
          refine lv_istore (lv' := [(6, .int (nI tp)), (5, .int x), (3, .double v), (0, .int a0), (1, .double a1)]) hx hb dX2_sizeOfValue_88 hl (by decide) rfl (fun ls hl => ?_)
          refine lv_iload_n hx hb dX2_sizeOfValue_90 rfl (lv_at hl 3 rfl) ?_
          refine vp_callSi ((va_runS (As := [.int a0]) (rest := []) ⟨hx, hb, hml, hown, hts⟩ (met_X2_fractionBits l a0) (va_cwS 1 hts gX2_sizeOfValue_X2_fractionBits rfl rfl rfl (by decide +kernel) ⟨Nat.le_of_ble_eq_true rfl, Nat.le_of_ble_eq_true rfl⟩) ⟨fun _ _ _ _ q => q, fun U hU hW => ⟨rfl, trivial⟩⟩ rfl rfl hl.1 rfl (lv_room (Nat.le_of_ble_eq_true rfl)) dX2_sizeOfValue_91 ⟨Nat.le_of_ble_eq_true rfl, Nat.le_of_ble_eq_true rfl⟩).run) (fun r hw => ?_)
          subst hw
          refine lv_topi (fun z_4 ez_4 => ?_)
          obtain rfl : z_4 = nI (fbN a0) := ez_4.trans (fb_eq a0)
          refine lv_istore (lv' := [(7, .int (nI (fbN a0))), (6, .int (nI tp)), (5, .int x), (3, .double v), (0, .int a0), (1, .double a1)]) hx hb dX2_sizeOfValue_94 hl (by decide) rfl (fun ls hl => ?_)
          refine lv_dload_n hx hb dX2_sizeOfValue_96 rfl (lv_at hl 3 rfl) ?_
          refine lv_lconst (v := 1) hx hb dX2_sizeOfValue_97 (by decide) ?_
          refine lv_bipush (v := 52) hx hb dX2_sizeOfValue_98 (by decide) ?_
          refine lv_iload hx hb dX2_sizeOfValue_100 (lv_at hl 1 rfl) ?_
          refine lv_isub hx hb dX2_sizeOfValue_102 ?_
          refine lv_topi (fun z_5 ez_5 => ?_)
          obtain rfl : z_5 = nI (52 - tp) := ez_5.trans (pk_sub (a := 52) (by omega))
          refine lv_lshl hx hb dX2_sizeOfValue_103 rfl ?_
          refine lv_topl (fun z_6 ez_6 => ?_)
          obtain rfl : z_6 = lN (2 ^ (52 - tp)) := ez_6.trans (by rw [show (1 : Int64) = lN 1 from rfl, wb_shl 1 (by omega), Nat.one_mul])
          refine lv_l2d hx hb dX2_sizeOfValue_104 ?_
          refine lv_dmul hx hb dX2_sizeOfValue_105 (dE_n hM) ?_
          refine lv_d2l hx hb dX2_sizeOfValue_106 ?_
          refine lv_topl (fun z_7 ez_7 => ?_)
          obtain rfl : z_7 = lN (wholeN a0 mm * 2 ^ (52 - t)) := ez_7.trans (d2l_wh hM hW (by omega) (by omega))
          refine lv_bipush (v := 52) hx hb dX2_sizeOfValue_107 (by decide) ?_
          refine lv_iload hx hb dX2_sizeOfValue_109 (lv_at hl 0 rfl) ?_
          refine lv_isub hx hb dX2_sizeOfValue_111 ?_
          refine lv_topi (fun z_8 ez_8 => ?_)
          obtain rfl : z_8 = nI (52 - fbN a0) := ez_8.trans (pk_sub (a := 52) (by omega))
          refine lv_lushr hx hb dX2_sizeOfValue_112 rfl ?_
          refine lv_topl (fun z_9 ez_9 => ?_)
          obtain rfl : z_9 = lN (wholeN a0 mm * 2 ^ (52 - t) / 2 ^ (52 - fbN a0)) := ez_9.trans (wb_shr (by omega) (by omega))
          refine lv_lstore (lv' := [(8, .long (lN (wholeN a0 mm * 2 ^ (52 - t) / 2 ^ (52 - fbN a0)))), (7, .int (nI (fbN a0))), (6, .int (nI tp)), (5, .int x), (3, .double v), (0, .int a0), (1, .double a1)]) hx hb dX2_sizeOfValue_113 hl (by decide) rfl (fun ls hl => ?_)
          refine lv_iload hx hb dX2_sizeOfValue_115 (lv_at hl 3 rfl) ?_
          refine lv_iload hx hb dX2_sizeOfValue_117 (lv_at hl 2 rfl) ?_
          refine lv_iadd hx hb dX2_sizeOfValue_119 ?_
          refine lv_iload_n hx hb dX2_sizeOfValue_120 rfl (lv_at hl 5 rfl) ?_
          refine vp_callSi ((va_runS (As := [.int a0]) (rest := [.int (x + (nI tp))]) ⟨hx, hb, hml, hown, hts⟩ (met_X2_bias l a0) (va_cwS 1 hts gX2_sizeOfValue_X2_bias rfl rfl rfl (by decide +kernel) ⟨Nat.le_of_ble_eq_true rfl, Nat.le_of_ble_eq_true rfl⟩) ⟨fun _ _ _ _ q => q, fun U hU hW => ⟨rfl, trivial⟩⟩ rfl rfl hl.1 rfl (lv_room (Nat.le_of_ble_eq_true rfl)) dX2_sizeOfValue_121 ⟨Nat.le_of_ble_eq_true rfl, Nat.le_of_ble_eq_true rfl⟩).run) (fun r hw => ?_)
          subst hw
          refine lv_iadd hx hb dX2_sizeOfValue_124 ?_
          refine lv_topi (fun fI hfI => ?_)
          have hf2 := fI_ti (m := mm) (t := t) hx0 htp (by omega) (by omega) (by omega) hfI
          refine lv_istore (lv' := [(10, .int fI), (8, .long (lN (wholeN a0 mm * 2 ^ (52 - t) / 2 ^ (52 - fbN a0)))), (7, .int (nI (fbN a0))), (6, .int (nI tp)), (5, .int x), (3, .double v), (0, .int a0), (1, .double a1)]) hx hb dX2_sizeOfValue_125 hl (by decide) rfl (fun ls hl => ?_)
          refine lv_iload hx hb dX2_sizeOfValue_127 (lv_at hl 0 rfl) ?_
          refine lv_iconst (v := 1) hx hb dX2_sizeOfValue_129 (by decide) ?_
          refine lv_icmp_lt (tgt := 145) hx hb dX2_sizeOfValue_130 (by decide) (fun c_10 => ?_) (fun c_10 => ?_)
          · refine lv_lload hx hb dX2_sizeOfValue_145 (lv_at hl 1 rfl) ?_
            refine lv_iconst (v := 1) hx hb dX2_sizeOfValue_147 (by decide) ?_
            refine lv_iload hx hb dX2_sizeOfValue_148 (lv_at hl 0 rfl) ?_
            refine lv_isub hx hb dX2_sizeOfValue_150 ?_
            refine lv_lushr hx hb dX2_sizeOfValue_151 rfl ?_
            exact W.lret (v := ((lN (wholeN a0 mm * 2 ^ (52 - t) / 2 ^ (52 - fbN a0))).toUInt64 >>> ((1 - fI : Int32).toInt64.toUInt64 &&& Int64.toUInt64 63)).toInt64) hx hb hr (fun t ht hW => ⟨_, rfl, sz_lo hm0 h1 h2 hf2 c_10, ht⟩) (fun q hq => absurd hq List.not_mem_nil) dX2_sizeOfValue_152
          · refine lv_iload hx hb dX2_sizeOfValue_133 (lv_at hl 2 rfl) ?_
            refine lv_iload hx hb dX2_sizeOfValue_135 (lv_at hl 0 rfl) ?_
            refine lv_lload hx hb dX2_sizeOfValue_137 (lv_at hl 1 rfl) ?_
            refine vp_callSl ((va_runS (As := [.int (nI (fbN a0)), .int fI, .long (lN (wholeN a0 mm * 2 ^ (52 - t) / 2 ^ (52 - fbN a0)))]) (rest := []) ⟨hx, hb, hml, hown, hts⟩ (met_X2_sizeOfParts l (nI (fbN a0)) fI (lN (wholeN a0 mm * 2 ^ (52 - t) / 2 ^ (52 - fbN a0)))) (va_cwS 3 hts gX2_sizeOfValue_X2_sizeOfParts rfl rfl rfl (by decide +kernel) ⟨Nat.le_of_ble_eq_true rfl, Nat.le_of_ble_eq_true rfl⟩) ⟨fun _ _ _ _ q => q, fun U hU hW => ⟨rfl, trivial⟩⟩ rfl rfl hl.1 rfl (lv_room (Nat.le_of_ble_eq_true rfl)) dX2_sizeOfValue_139 ⟨Nat.le_of_ble_eq_true rfl, Nat.le_of_ble_eq_true rfl⟩).run) (fun r hw => ?_)
            subst hw
            refine lv_goto (tgt := 152) hx hb dX2_sizeOfValue_142 (by decide) ?_
            exact W.lret (v := fX2_sizeOfParts (nI (fbN a0)) fI (lN (wholeN a0 mm * 2 ^ (52 - t) / 2 ^ (52 - fbN a0)))) hx hb hr (fun t ht hW => ⟨_, rfl, sz_hi hm0 (Nat.lt_trans hm (inf_lt a0)) h1 h2 hf2 c_10, ht⟩) (fun q hq => absurd hq List.not_mem_nil) dX2_sizeOfValue_152
        · refine lv_dload_n hx hb dX2_sizeOfValue_62 rfl (lv_at hl 1 rfl) ?_
          refine lv_dconst1 hx hb dX2_sizeOfValue_63 ?_
          refine lv_dcmp hx hb dX2_sizeOfValue_64 ?_
          refine lv_if_ge (tgt := 80) hx hb dX2_sizeOfValue_65 (by decide) (fun _ => ?_) (fun h0 => absurd d2 h0)
          refine lv_bipush (v := 63) hx hb dX2_sizeOfValue_80 (by decide) ?_
          refine lv_dload_n hx hb dX2_sizeOfValue_82 rfl (lv_at hl 1 rfl) ?_
          refine lv_d2l hx hb dX2_sizeOfValue_83 ?_
          refine lv_topl (fun z_11 ez_11 => ?_)
          obtain rfl : z_11 = lN X := ez_11.trans hX1
          refine vp_callSi ((va_runS (As := [.long (lN X)]) (rest := [.int 63]) ⟨hx, hb, hml, hown, hts⟩ (met_J13_numberOfLeadingZeros_95d88 l  X hX3 hX4) (va_cwS 1 hts gX2_sizeOfValue_J13_numberOfLeadingZeros_95d88 rfl rfl rfl (by decide +kernel) ⟨Nat.le_of_ble_eq_true rfl, Nat.le_of_ble_eq_true rfl⟩) ⟨fun _ _ _ _ q => q, fun U hU hW => ⟨rfl, trivial⟩⟩ rfl rfl hl.1 rfl (lv_room (Nat.le_of_ble_eq_true rfl)) dX2_sizeOfValue_84 ⟨Nat.le_of_ble_eq_true rfl, Nat.le_of_ble_eq_true rfl⟩).run) (fun r_2 h_2 => ?_)
          subst h_2
          refine lv_isub hx hb dX2_sizeOfValue_87 ?_
          refine lv_topi (fun z_12 ez_12 => ?_)
          obtain rfl : z_12 = nI tp := ez_12.trans (by rw [hX2]; exact sub63 (by omega))
          refine lv_istore (lv' := [(6, .int (nI tp)), (5, .int x), (3, .double v), (0, .int a0), (1, .double a1)]) hx hb dX2_sizeOfValue_88 hl (by decide) rfl (fun ls hl => ?_)
          refine lv_iload_n hx hb dX2_sizeOfValue_90 rfl (lv_at hl 3 rfl) ?_
          refine vp_callSi ((va_runS (As := [.int a0]) (rest := []) ⟨hx, hb, hml, hown, hts⟩ (met_X2_fractionBits l a0) (va_cwS 1 hts gX2_sizeOfValue_X2_fractionBits rfl rfl rfl (by decide +kernel) ⟨Nat.le_of_ble_eq_true rfl, Nat.le_of_ble_eq_true rfl⟩) ⟨fun _ _ _ _ q => q, fun U hU hW => ⟨rfl, trivial⟩⟩ rfl rfl hl.1 rfl (lv_room (Nat.le_of_ble_eq_true rfl)) dX2_sizeOfValue_91 ⟨Nat.le_of_ble_eq_true rfl, Nat.le_of_ble_eq_true rfl⟩).run) (fun r hw => ?_)
          subst hw
          refine lv_topi (fun z_13 ez_13 => ?_)
          obtain rfl : z_13 = nI (fbN a0) := ez_13.trans (fb_eq a0)
          refine lv_istore (lv' := [(7, .int (nI (fbN a0))), (6, .int (nI tp)), (5, .int x), (3, .double v), (0, .int a0), (1, .double a1)]) hx hb dX2_sizeOfValue_94 hl (by decide) rfl (fun ls hl => ?_)
          refine lv_dload_n hx hb dX2_sizeOfValue_96 rfl (lv_at hl 3 rfl) ?_
          refine lv_lconst (v := 1) hx hb dX2_sizeOfValue_97 (by decide) ?_
          refine lv_bipush (v := 52) hx hb dX2_sizeOfValue_98 (by decide) ?_
          refine lv_iload hx hb dX2_sizeOfValue_100 (lv_at hl 1 rfl) ?_
          refine lv_isub hx hb dX2_sizeOfValue_102 ?_
          refine lv_topi (fun z_14 ez_14 => ?_)
          obtain rfl : z_14 = nI (52 - tp) := ez_14.trans (pk_sub (a := 52) (by omega))
          refine lv_lshl hx hb dX2_sizeOfValue_103 rfl ?_
          refine lv_topl (fun z_15 ez_15 => ?_)
          obtain rfl : z_15 = lN (2 ^ (52 - tp)) := ez_15.trans (by rw [show (1 : Int64) = lN 1 from rfl, wb_shl 1 (by omega), Nat.one_mul])
          refine lv_l2d hx hb dX2_sizeOfValue_104 ?_
          refine lv_dmul hx hb dX2_sizeOfValue_105 (dE_n hM) ?_
          refine lv_d2l hx hb dX2_sizeOfValue_106 ?_
          refine lv_topl (fun z_16 ez_16 => ?_)
          obtain rfl : z_16 = lN (wholeN a0 mm * 2 ^ (52 - t)) := ez_16.trans (d2l_wh hM hW (by omega) (by omega))
          refine lv_bipush (v := 52) hx hb dX2_sizeOfValue_107 (by decide) ?_
          refine lv_iload hx hb dX2_sizeOfValue_109 (lv_at hl 0 rfl) ?_
          refine lv_isub hx hb dX2_sizeOfValue_111 ?_
          refine lv_topi (fun z_17 ez_17 => ?_)
          obtain rfl : z_17 = nI (52 - fbN a0) := ez_17.trans (pk_sub (a := 52) (by omega))
          refine lv_lushr hx hb dX2_sizeOfValue_112 rfl ?_
          refine lv_topl (fun z_18 ez_18 => ?_)
          obtain rfl : z_18 = lN (wholeN a0 mm * 2 ^ (52 - t) / 2 ^ (52 - fbN a0)) := ez_18.trans (wb_shr (by omega) (by omega))
          refine lv_lstore (lv' := [(8, .long (lN (wholeN a0 mm * 2 ^ (52 - t) / 2 ^ (52 - fbN a0)))), (7, .int (nI (fbN a0))), (6, .int (nI tp)), (5, .int x), (3, .double v), (0, .int a0), (1, .double a1)]) hx hb dX2_sizeOfValue_113 hl (by decide) rfl (fun ls hl => ?_)
          refine lv_iload hx hb dX2_sizeOfValue_115 (lv_at hl 3 rfl) ?_
          refine lv_iload hx hb dX2_sizeOfValue_117 (lv_at hl 2 rfl) ?_
          refine lv_iadd hx hb dX2_sizeOfValue_119 ?_
          refine lv_iload_n hx hb dX2_sizeOfValue_120 rfl (lv_at hl 5 rfl) ?_
          refine vp_callSi ((va_runS (As := [.int a0]) (rest := [.int (x + (nI tp))]) ⟨hx, hb, hml, hown, hts⟩ (met_X2_bias l a0) (va_cwS 1 hts gX2_sizeOfValue_X2_bias rfl rfl rfl (by decide +kernel) ⟨Nat.le_of_ble_eq_true rfl, Nat.le_of_ble_eq_true rfl⟩) ⟨fun _ _ _ _ q => q, fun U hU hW => ⟨rfl, trivial⟩⟩ rfl rfl hl.1 rfl (lv_room (Nat.le_of_ble_eq_true rfl)) dX2_sizeOfValue_121 ⟨Nat.le_of_ble_eq_true rfl, Nat.le_of_ble_eq_true rfl⟩).run) (fun r hw => ?_)
          subst hw
          refine lv_iadd hx hb dX2_sizeOfValue_124 ?_
          refine lv_topi (fun fI hfI => ?_)
          have hf2 := fI_ti (m := mm) (t := t) hx0 htp (by omega) (by omega) (by omega) hfI
          refine lv_istore (lv' := [(10, .int fI), (8, .long (lN (wholeN a0 mm * 2 ^ (52 - t) / 2 ^ (52 - fbN a0)))), (7, .int (nI (fbN a0))), (6, .int (nI tp)), (5, .int x), (3, .double v), (0, .int a0), (1, .double a1)]) hx hb dX2_sizeOfValue_125 hl (by decide) rfl (fun ls hl => ?_)
          refine lv_iload hx hb dX2_sizeOfValue_127 (lv_at hl 0 rfl) ?_
          refine lv_iconst (v := 1) hx hb dX2_sizeOfValue_129 (by decide) ?_
          refine lv_icmp_lt (tgt := 145) hx hb dX2_sizeOfValue_130 (by decide) (fun c_19 => ?_) (fun c_19 => ?_)
          · refine lv_lload hx hb dX2_sizeOfValue_145 (lv_at hl 1 rfl) ?_
            refine lv_iconst (v := 1) hx hb dX2_sizeOfValue_147 (by decide) ?_
            refine lv_iload hx hb dX2_sizeOfValue_148 (lv_at hl 0 rfl) ?_
            refine lv_isub hx hb dX2_sizeOfValue_150 ?_
            refine lv_lushr hx hb dX2_sizeOfValue_151 rfl ?_
            exact W.lret (v := ((lN (wholeN a0 mm * 2 ^ (52 - t) / 2 ^ (52 - fbN a0))).toUInt64 >>> ((1 - fI : Int32).toInt64.toUInt64 &&& Int64.toUInt64 63)).toInt64) hx hb hr (fun t ht hW => ⟨_, rfl, sz_lo hm0 h1 h2 hf2 c_19, ht⟩) (fun q hq => absurd hq List.not_mem_nil) dX2_sizeOfValue_152
          · refine lv_iload hx hb dX2_sizeOfValue_133 (lv_at hl 2 rfl) ?_
            refine lv_iload hx hb dX2_sizeOfValue_135 (lv_at hl 0 rfl) ?_
            refine lv_lload hx hb dX2_sizeOfValue_137 (lv_at hl 1 rfl) ?_
            refine vp_callSl ((va_runS (As := [.int (nI (fbN a0)), .int fI, .long (lN (wholeN a0 mm * 2 ^ (52 - t) / 2 ^ (52 - fbN a0)))]) (rest := []) ⟨hx, hb, hml, hown, hts⟩ (met_X2_sizeOfParts l (nI (fbN a0)) fI (lN (wholeN a0 mm * 2 ^ (52 - t) / 2 ^ (52 - fbN a0)))) (va_cwS 3 hts gX2_sizeOfValue_X2_sizeOfParts rfl rfl rfl (by decide +kernel) ⟨Nat.le_of_ble_eq_true rfl, Nat.le_of_ble_eq_true rfl⟩) ⟨fun _ _ _ _ q => q, fun U hU hW => ⟨rfl, trivial⟩⟩ rfl rfl hl.1 rfl (lv_room (Nat.le_of_ble_eq_true rfl)) dX2_sizeOfValue_139 ⟨Nat.le_of_ble_eq_true rfl, Nat.le_of_ble_eq_true rfl⟩).run) (fun r hw => ?_)
            subst hw
            refine lv_goto (tgt := 152) hx hb dX2_sizeOfValue_142 (by decide) ?_
            exact W.lret (v := fX2_sizeOfParts (nI (fbN a0)) fI (lN (wholeN a0 mm * 2 ^ (52 - t) / 2 ^ (52 - fbN a0)))) hx hb hr (fun t ht hW => ⟨_, rfl, sz_hi hm0 (Nat.lt_trans hm (inf_lt a0)) h1 h2 hf2 c_19, ht⟩) (fun q hq => absurd hq List.not_mem_nil) dX2_sizeOfValue_152
      | succ n ih =>
        have d1 : ¬ x ≤ (-1088) := fun g => by rw [Int32.le_iff_toInt_le, show (-1088 : Int32).toInt = -1088 from rfl] at g; omega
        have d2 : ¬ 0 ≤ (Op.cmpValue (FP.dcmp v FP.dconst1) CmpOp.g) := fun g => by have := (cOne hv hW h1 h2 (by omega) (by omega)).mp g; omega
        have hv2 : dE (FP.dmul v 4751297606875873280) (wholeN a0 mm) (exN a0 mm - (j - 32)) := by have h := dE_mul (k := 32) hv hW (by omega) (by omega) dE_32 (by decide); rwa [show exN a0 mm - j + ((32 : Nat) : Int) = exN a0 mm - (j - 32) by omega] at h
        refine lv_iload hx hb dX2_sizeOfValue_54 (lv_at hl 0 rfl) ?_
        refine lv_sipush (v := (-1088)) hx hb dX2_sizeOfValue_56 (by decide) ?_
        refine lv_icmp_le (tgt := 80) hx hb dX2_sizeOfValue_59 (by decide) (fun h0 => absurd h0 d1) (fun _ => ?_)
        refine lv_dload_n hx hb dX2_sizeOfValue_62 rfl (lv_at hl 1 rfl) ?_
        refine lv_dconst1 hx hb dX2_sizeOfValue_63 ?_
        refine lv_dcmp hx hb dX2_sizeOfValue_64 ?_
        refine lv_if_ge (tgt := 80) hx hb dX2_sizeOfValue_65 (by decide) (fun h0 => absurd h0 d2) (fun _ => ?_)
        refine lv_dload_n hx hb dX2_sizeOfValue_68 rfl (lv_at hl 1 rfl) ?_
        refine lv_ldc2d hx hb hown (hts (.constantDouble RX2 82 (4751297606875873280)) (by decide +kernel)) dX2_sizeOfValue_69 ?_
        refine lv_dmul hx hb dX2_sizeOfValue_72 (dE_n hv2) ?_
        refine lv_dstore_n (lv' := [(3, .double (FP.dmul v 4751297606875873280)), (5, .int x), (0, .int a0), (1, .double a1)]) hx hb dX2_sizeOfValue_73 rfl hl (by decide) rfl (fun ls hl => ?_)
        refine lv_iinc (v := x + (-32)) (lv' := [(5, .int (x + (-32))), (3, .double (FP.dmul v 4751297606875873280)), (0, .int a0), (1, .double a1)]) hx hb dX2_sizeOfValue_74 hl (k := 1) rfl rfl (by decide) rfl (fun ls hl => ?_)
        refine lv_goto (tgt := 54) hx hb dX2_sizeOfValue_77 (by decide) ?_
        exact ih _ _ _ _ hl hv2 (by rw [i32_m32 (by omega)]; omega) (by omega) (by omega) (by omega) (by omega)
    | succ n ih =>
      have d1 : ¬ 1024 ≤ x := fun g => by rw [Int32.le_iff_toInt_le, show (1024 : Int32).toInt = 1024 from rfl] at g; omega
      have d2 : ¬ (Op.cmpValue (FP.dcmp v 4751297606875873280) CmpOp.l) < 0 := fun g => by have := (cT32 hv hW h1 h2 (by omega) (by omega)).mp g; omega
      have hv2 : dE (FP.ddiv v 4751297606875873280) (wholeN a0 mm) (exN a0 mm - 32 * ((i + 1 : Nat) : Int)) := by have h := dE_div (k := 32) hv hW (by omega) (by omega) dE_32 (by decide); rwa [show exN a0 mm - 32 * (i : Int) - ((32 : Nat) : Int) = exN a0 mm - 32 * ((i + 1 : Nat) : Int) by omega] at h
      refine lv_iload hx hb dX2_sizeOfValue_26 (lv_at hl 0 rfl) ?_
      refine lv_sipush (v := 1024) hx hb dX2_sizeOfValue_28 (by decide) ?_
      refine lv_icmp_ge (tgt := 54) hx hb dX2_sizeOfValue_31 (by decide) (fun h0 => absurd h0 d1) (fun _ => ?_)
      refine lv_dload_n hx hb dX2_sizeOfValue_34 rfl (lv_at hl 1 rfl) ?_
      refine lv_ldc2d hx hb hown (hts (.constantDouble RX2 82 (4751297606875873280)) (by decide +kernel)) dX2_sizeOfValue_35 ?_
      refine lv_dcmp hx hb dX2_sizeOfValue_38 ?_
      refine lv_if_lt (tgt := 54) hx hb dX2_sizeOfValue_39 (by decide) (fun h0 => absurd h0 d2) (fun _ => ?_)
      refine lv_dload_n hx hb dX2_sizeOfValue_42 rfl (lv_at hl 1 rfl) ?_
      refine lv_ldc2d hx hb hown (hts (.constantDouble RX2 82 (4751297606875873280)) (by decide +kernel)) dX2_sizeOfValue_43 ?_
      refine lv_ddiv hx hb dX2_sizeOfValue_46 (dE_n hv2) ?_
      refine lv_dstore_n (lv' := [(3, .double (FP.ddiv v 4751297606875873280)), (5, .int x), (0, .int a0), (1, .double a1)]) hx hb dX2_sizeOfValue_47 rfl hl (by decide) rfl (fun ls hl => ?_)
      refine lv_iinc (v := x + 32) (lv' := [(5, .int (x + 32)), (3, .double (FP.ddiv v 4751297606875873280)), (0, .int a0), (1, .double a1)]) hx hb dX2_sizeOfValue_48 hl (k := 1) rfl rfl (by decide) rfl (fun ls hl => ?_)
      refine lv_goto (tgt := 26) hx hb dX2_sizeOfValue_51 (by decide) ?_
      exact ih _ _ _ _ hl hv2 (by rw [i32_p32 (by omega)]; omega) (by omega) (by omega)
