/-! the rest, by long division -/
def szW (k : Int32) (rs fd : Nat) : Nat := (fd - min (fbN k - rs.log2) (fd - 1) - 1) * 2 ^ fbN k + rs * 2 ^ min (fbN k - rs.log2) (fd - 1)
theorem lg_le {k : Int32} {rs : Nat} (h0 : 0 < rs) (h : rs < 2 ^ (fbN k + 1)) : rs.log2 ≤ fbN k := by
  have := (Nat.log2_lt (by omega)).mpr h; omega
theorem sw1 {k : Int32} {rs : Nat} (h0 : 0 < rs) (h : rs < 2 ^ (fbN k + 1)) : (nI (63 - Nat.log2 rs) - 63) + nI (fbN k) = nI (fbN k - Nat.log2 rs) := by
  have h1 := lg_le h0 h
  have h2 := fb_le k
  apply Int32.toInt_inj.mp
  have e1 : (nI (63 - rs.log2)).toInt = ((63 - rs.log2 : Nat) : Int) := nI_toInt (by omega)
  have e2 : (nI (fbN k)).toInt = (fbN k : Int) := nI_toInt (by omega)
  have e3 : (nI (63 - rs.log2) - 63).toInt = ((63 - rs.log2 : Nat) : Int) - 63 := by
    rw [fb_subI (by rw [e1, show (63 : Int32).toInt = 63 from rfl]; omega) (by rw [e1, show (63 : Int32).toInt = 63 from rfl]; omega), e1]; rfl
  rw [fb_addI (by rw [e3, e2]; omega) (by rw [e3, e2]; omega), e3, e2, nI_toInt (by omega)]
  omega
theorem min_nI {a b : Nat} (ha : a < 2 ^ 31) (hb : b < 2 ^ 31) : (if nI b < nI a then nI b else nI a) = nI (min a b) := by
  by_cases h : b < a
  · rw [if_pos (nI_lt h ha), show min a b = b by omega]
  · rw [if_neg (fun g => h ((nI_ltI hb ha).mp g)), show min a b = a by omega]
theorem sw_parts {k : Int32} {rs fd : Nat} (h0 : 0 < rs) (h : rs < 2 ^ (fbN k + 1)) (hf : 1 ≤ fd) (hf2 : fd < 2048) : fX2_sizeOfParts (nI (fbN k)) (nI (fd - min (fbN k - Nat.log2 rs) (fd - 1))) (lN (rs * 2 ^ min (fbN k - Nat.log2 rs) (fd - 1))) = lN (szW k rs fd) := by
  unfold fX2_sizeOfParts szW
  rw [show (1 : Int32) = nI 1 from rfl, pk_sub (by omega), nI_l (by omega), wb_shl _ (fb_lt k), lN_add]
theorem sw_units {k : Int32} {rs fd : Nat} (h0 : 0 < rs) (h : rs < 2 ^ (fbN k + 1)) (hf : 1 ≤ fd) : FP.Core.unitsOf (FM k) (szW k rs fd) = rs * 2 ^ (fd - 1) := by
  have hl := lg_le h0 h
  have l1 := Nat.log2_self_le (n := rs) (by omega)
  have l2 := Nat.lt_log2_self (n := rs)
  rw [units_eq]
  unfold szW
  generalize rs.log2 = L at *
  have p := Nat.two_pow_pos (fbN k)
  by_cases hs : fbN k - L ≤ fd - 1
  · rw [show min (fbN k - L) (fd - 1) = fbN k - L by omega]
    have w1 : 2 ^ fbN k ≤ rs * 2 ^ (fbN k - L) := by
      calc 2 ^ fbN k = 2 ^ L * 2 ^ (fbN k - L) := by rw [← Nat.pow_add]; congr 1; omega
        _ ≤ _ := Nat.mul_le_mul_right _ l1
    have w2 : rs * 2 ^ (fbN k - L) < 2 * 2 ^ fbN k := by
      calc rs * 2 ^ (fbN k - L) < 2 ^ (L + 1) * 2 ^ (fbN k - L) := Nat.mul_lt_mul_of_pos_right l2 (Nat.two_pow_pos _)
        _ = 2 * 2 ^ fbN k := by rw [← Nat.pow_add, show L + 1 + (fbN k - L) = fbN k + 1 by omega, Nat.pow_succ, Nat.mul_comm]
    obtain ⟨y, hy⟩ : ∃ y, rs * 2 ^ (fbN k - L) = 2 ^ fbN k + y := ⟨rs * 2 ^ (fbN k - L) - 2 ^ fbN k, by omega⟩
    have hy2 : y < 2 ^ fbN k := by omega
    obtain ⟨F, hF⟩ : ∃ F, fd - (fbN k - L) = F + 1 := ⟨fd - (fbN k - L) - 1, by omega⟩
    rw [hF, hy, show F + 1 - 1 = F by omega]
    have e : F * 2 ^ fbN k + (2 ^ fbN k + y) = 2 ^ fbN k * (F + 1) + y := by rw [Nat.mul_add, Nat.mul_one, Nat.mul_comm]; omega
    rw [e]
    have g1 : ¬ 2 ^ fbN k * (F + 1) + y < 2 ^ fbN k := by rw [Nat.mul_add]; omega
    unfold wholeN fieldN
    rw [if_neg g1, if_neg g1, Nat.mul_add_mod, Nat.mod_eq_of_lt hy2, Nat.mul_add_div p, Nat.div_eq_of_lt hy2, Nat.add_zero, ← hy, Nat.mul_assoc, ← Nat.pow_add]
    congr 2
    omega
  · rw [show min (fbN k - L) (fd - 1) = fd - 1 by omega, show fd - (fd - 1) - 1 = 0 by omega, Nat.zero_mul, Nat.zero_add]
    have g1 : rs * 2 ^ (fd - 1) < 2 ^ fbN k := by
      calc rs * 2 ^ (fd - 1) < 2 ^ (L + 1) * 2 ^ (fd - 1) := Nat.mul_lt_mul_of_pos_right l2 (Nat.two_pow_pos _)
        _ ≤ 2 ^ fbN k := by rw [← Nat.pow_add]; exact Nat.pow_le_pow_right (by decide) (by omega)
    unfold wholeN fieldN
    rw [if_pos g1, if_pos g1]; simp
theorem lgc_lt {a b : Nat} (ha : a < 2 ^ 63) (hb : b < 2 ^ 63) : lg_cmp (lN a) (lN b) < 0 ↔ a < b := by
  have := lgc_ge ha hb
  rw [Int32.le_iff_toInt_le] at this
  rw [Int32.lt_iff_toInt_lt]
  omega
theorem rs_div {k : Int32} {sz dv : Nat} (h : ¬ sz < dv) : fieldN k dv ≤ fieldN k sz := by
  have p := Nat.two_pow_pos (fbN k)
  have h1 : dv / 2 ^ fbN k ≤ sz / 2 ^ fbN k := Nat.div_le_div_right (by omega)
  have h2 := field_ge k sz
  by_cases hd : dv < 2 ^ fbN k
  · have : fieldN k dv = 1 := by unfold fieldN; rw [if_pos hd]
    omega
  · have e1 : fieldN k dv = dv / 2 ^ fbN k := by unfold fieldN; rw [if_neg hd]
    have e2 : fieldN k sz = sz / 2 ^ fbN k := by unfold fieldN; rw [if_neg (by omega)]
    omega
theorem rs_units {k : Int32} {sz dv : Nat} (h : ¬ sz < dv) : FP.Core.unitsOf (FM k) sz % FP.Core.unitsOf (FM k) dv = (wholeN k sz * 2 ^ (fieldN k sz - fieldN k dv) % wholeN k dv) * 2 ^ (fieldN k dv - 1) := by
  have h1 := rs_div (k := k) h
  have h2 := field_ge k dv
  rw [units_eq, units_eq, ← Nat.mul_mod_mul_right, Nat.mul_assoc, ← Nat.pow_add]
  congr 3
  omega
theorem rs_lt {k : Int32} {sz dv : Nat} (h : sz < dv) : FP.Core.unitsOf (FM k) sz % FP.Core.unitsOf (FM k) dv = FP.Core.unitsOf (FM k) sz := Nat.mod_eq_of_lt (FP.Core.unitsOf_lt h)
theorem rs_min {L : Int32} (h : ¬ L ≤ 0) : (if (10 : Int32) < L then (10 : Int32) else L) = nI (min L.toInt.toNat 10) := by
  rw [Int32.le_iff_toInt_le, show (0 : Int32).toInt = 0 from rfl] at h
  by_cases g : (10 : Int32) < L
  · rw [if_pos g]
    rw [Int32.lt_iff_toInt_lt, show (10 : Int32).toInt = 10 from rfl] at g
    rw [show min L.toInt.toNat 10 = 10 by omega]; rfl
  · rw [if_neg g]
    rw [Int32.lt_iff_toInt_lt, show (10 : Int32).toInt = 10 from rfl] at g
    rw [show min L.toInt.toNat 10 = L.toInt.toNat by omega]
    exact i32_nI (by omega)
theorem i32_m10 {L : Int32} (h : -2147483600 ≤ L.toInt) : (L + (-10)).toInt = L.toInt - 10 := by
  have := fb_rng L
  rw [fb_addI (by rw [show (-10 : Int32).toInt = -10 from rfl]; omega) (by rw [show (-10 : Int32).toInt = -10 from rfl]; omega)]; rfl
theorem mod_sh {W V a b : Nat} : (W * 2 ^ a % V) * 2 ^ b % V = W * 2 ^ (a + b) % V := by
  rw [Nat.mod_mul_mod, Nat.mul_assoc, ← Nat.pow_add]
theorem mod_z {W V a b : Nat} (h : W * 2 ^ a % V = 0) (hb : a ≤ b) : W * 2 ^ b % V = 0 := by
  have := mod_sh (W := W) (V := V) (a := a) (b := b - a)
  rw [h, Nat.zero_mul, Nat.zero_mod, show a + (b - a) = b by omega] at this
  exact this.symm
theorem lN_ne {a : Nat} (h0 : 0 < a) (h : a < 2 ^ 63) : ¬ lN a = 0 := fun e => by
  have := (pk_lEQ (a := a) (b := 0) h (by decide)).mp e; omega
theorem lgc_z {a : Nat} (h : a < 2 ^ 63) : lg_cmp (lN a) 0 = 0 ↔ a = 0 := lgc_eq (b := 0) h (by decide)
theorem rs_b {rr V s : Nat} (h1 : rr < V) (h2 : V < 2 ^ 53) (hs : s ≤ 10) : rr * 2 ^ s < 2 ^ 63 := by
  have p : 2 ^ s ≤ 2 ^ 10 := Nat.pow_le_pow_right (by decide) hs
  have : rr * 2 ^ s ≤ (2 ^ 53 - 1) * 2 ^ 10 := Nat.mul_le_mul (by omega) p
  omega

set_option maxHeartbeats 4000000 in
set_option maxRecDepth 100000 in
theorem met_X2_sizeOfWhole (l : Launch) (a0 : Int32) (rs fd : Nat) (h0 : 0 < rs) (h : rs < 2 ^ (fbN a0 + 1)) (hf : 1 ≤ fd) (hf2 : fd < 2048) : Met l yX2_sizeOfWhole wsX2_sizeOfWhole ({ frames := 2, cells := 0, slots := 0, locals := 43 }) (va_Pc [.int a0, .long (lN rs), .int (nI fd)] (fun _ => True)) (vp_Sl (fun r => r = lN (szW a0 rs fd))) 0 0 (fun _ => False) := by
  refine Met.ofW (cc := cX2_sizeOfWhole) (maxL := 6) (ret := (some .long)) (by decide) rfl ?_
  intro p e s m args below meth c s₁ B hml hv
  obtain ⟨rfl, -⟩ := hv
  have hx := B.exec
  have hb := B.bytes
  have hr := B.returns
  have hts := atoms_spec (ws := wsX2_sizeOfWhole) B.pre
  have hown : s.vm.findClass RX2 = some m.cls := findClass_of_methodNamed B.named
  have hlocks := B.notSynchronized
  have hl := lv_entry ([.int a0, .long (lN rs), .int (nI fd)]) (n := 6) (Nat.le_of_ble_eq_true rfl)
  rw [lg_entry_eq]
  generalize (lg_sl ([.int a0, .long (lN rs), .int (nI fd)]) ++ List.replicate (6 - (lg_sl ([.int a0, .long (lN rs), .int (nI fd)])).length) Slot.unset).toArray = ls at hl ⊢
  have hl : lv_has ls 6 [(0, .int a0), (1, .long (lN rs)), (3, .int (nI fd))] := hl
  have hfb := fb_le a0
  refine lv_iload_n hx hb dX2_sizeOfWhole_0 rfl (lv_at hl 0 rfl) ?_
  refine vp_callSi ((va_runS (As := [.int a0]) (rest := []) ⟨hx, hb, hml, hown, hts⟩ (met_X2_fractionBits l a0) (va_cwS 1 hts gX2_sizeOfWhole_X2_fractionBits rfl rfl rfl (by decide +kernel) ⟨Nat.le_of_ble_eq_true rfl, Nat.le_of_ble_eq_true rfl⟩) ⟨fun _ _ _ _ q => q, fun U hU hW => ⟨rfl, trivial⟩⟩ rfl rfl hl.1 rfl (lv_room (Nat.le_of_ble_eq_true rfl)) dX2_sizeOfWhole_1 ⟨Nat.le_of_ble_eq_true rfl, Nat.le_of_ble_eq_true rfl⟩).run) (fun r hw => ?_)
  subst hw
  refine lv_topi (fun z_1 ez_1 => ?_)
  obtain rfl : z_1 = nI (fbN a0) := ez_1.trans (fb_eq a0)
  refine lv_istore (lv' := [(4, .int (nI (fbN a0))), (0, .int a0), (1, .long (lN rs)), (3, .int (nI fd))]) hx hb dX2_sizeOfWhole_4 hl (by decide) rfl (fun ls hl => ?_)
  refine lv_lload_n hx hb dX2_sizeOfWhole_6 rfl (lv_at hl 2 rfl) ?_
  refine vp_callSi ((va_runS (As := [.long (lN rs)]) (rest := []) ⟨hx, hb, hml, hown, hts⟩ (met_J13_numberOfLeadingZeros_95d88 l  rs h0 (Nat.lt_of_lt_of_le h (Nat.pow_le_pow_right (by decide) (by omega)))) (va_cwS 1 hts gX2_sizeOfWhole_J13_numberOfLeadingZeros_95d88 rfl rfl rfl (by decide +kernel) ⟨Nat.le_of_ble_eq_true rfl, Nat.le_of_ble_eq_true rfl⟩) ⟨fun _ _ _ _ q => q, fun U hU hW => ⟨rfl, trivial⟩⟩ rfl rfl hl.1 rfl (lv_room (Nat.le_of_ble_eq_true rfl)) dX2_sizeOfWhole_7 ⟨Nat.le_of_ble_eq_true rfl, Nat.le_of_ble_eq_true rfl⟩).run) (fun r_1 h_1 => ?_)
  subst h_1
  refine lv_bipush (v := 63) hx hb dX2_sizeOfWhole_10 (by decide) ?_
  refine lv_isub hx hb dX2_sizeOfWhole_12 ?_
  refine lv_iload hx hb dX2_sizeOfWhole_13 (lv_at hl 0 rfl) ?_
  refine lv_iadd hx hb dX2_sizeOfWhole_15 ?_
  refine lv_topi (fun z_2 ez_2 => ?_)
  obtain rfl : z_2 = nI (fbN a0 - Nat.log2 rs) := ez_2.trans (sw1 h0 h)
  refine lv_iload_n hx hb dX2_sizeOfWhole_16 rfl (lv_at hl 3 rfl) ?_
  refine lv_iconst (v := 1) hx hb dX2_sizeOfWhole_17 (by decide) ?_
  refine lv_isub hx hb dX2_sizeOfWhole_18 ?_
  refine lv_topi (fun z_3 ez_3 => ?_)
  obtain rfl : z_3 = nI (fd - 1) := ez_3.trans (pk_sub (b := 1) hf)
  refine va_mmin hx hb (hml.trans hl.1.symm) hown (hts (.methodLink RX2 60 Lib.Math.min.name) (by decide +kernel)) (hts (.static Lib.Math.min.name) (by decide +kernel)) (hts (.initialized "java/lang/Math") (by decide +kernel)) (hts (.code Lib.Math.min.name Lib.Math.min.code 2 (some .int)) (by decide +kernel)) (Nat.le_of_ble_eq_true rfl) (Nat.le_of_ble_eq_true rfl) (Nat.le_of_ble_eq_true rfl) (Nat.le_of_ble_eq_true rfl) dX2_sizeOfWhole_19 ?_
  refine lv_topi (fun z_4 ez_4 => ?_)
  obtain rfl : z_4 = nI (min (fbN a0 - Nat.log2 rs) (fd - 1)) := ez_4.trans (min_nI (by omega) (by omega))
  refine lv_istore (lv' := [(5, .int (nI (min (fbN a0 - Nat.log2 rs) (fd - 1)))), (4, .int (nI (fbN a0))), (0, .int a0), (1, .long (lN rs)), (3, .int (nI fd))]) hx hb dX2_sizeOfWhole_22 hl (by decide) rfl (fun ls hl => ?_)
  refine lv_iload hx hb dX2_sizeOfWhole_24 (lv_at hl 1 rfl) ?_
  refine lv_iload_n hx hb dX2_sizeOfWhole_26 rfl (lv_at hl 4 rfl) ?_
  refine lv_iload hx hb dX2_sizeOfWhole_27 (lv_at hl 0 rfl) ?_
  refine lv_isub hx hb dX2_sizeOfWhole_29 ?_
  refine lv_topi (fun z_5 ez_5 => ?_)
  obtain rfl : z_5 = nI (fd - min (fbN a0 - Nat.log2 rs) (fd - 1)) := ez_5.trans (pk_sub (by omega))
  refine lv_lload_n hx hb dX2_sizeOfWhole_30 rfl (lv_at hl 3 rfl) ?_
  refine lv_iload hx hb dX2_sizeOfWhole_31 (lv_at hl 0 rfl) ?_
  refine lv_lshl hx hb dX2_sizeOfWhole_33 rfl ?_
  refine lv_topl (fun z_6 ez_6 => ?_)
  obtain rfl : z_6 = lN (rs * 2 ^ min (fbN a0 - Nat.log2 rs) (fd - 1)) := ez_6.trans (wb_shl _ (by omega))
  refine vp_callSl ((va_runS (As := [.int (nI (fbN a0)), .int (nI (fd - min (fbN a0 - Nat.log2 rs) (fd - 1))), .long (lN (rs * 2 ^ min (fbN a0 - Nat.log2 rs) (fd - 1)))]) (rest := []) ⟨hx, hb, hml, hown, hts⟩ (met_X2_sizeOfParts l (nI (fbN a0)) (nI (fd - min (fbN a0 - Nat.log2 rs) (fd - 1))) (lN (rs * 2 ^ min (fbN a0 - Nat.log2 rs) (fd - 1)))) (va_cwS 3 hts gX2_sizeOfWhole_X2_sizeOfParts rfl rfl rfl (by decide +kernel) ⟨Nat.le_of_ble_eq_true rfl, Nat.le_of_ble_eq_true rfl⟩) ⟨fun _ _ _ _ q => q, fun U hU hW => ⟨rfl, trivial⟩⟩ rfl rfl hl.1 rfl (lv_room (Nat.le_of_ble_eq_true rfl)) dX2_sizeOfWhole_34 ⟨Nat.le_of_ble_eq_true rfl, Nat.le_of_ble_eq_true rfl⟩).run) (fun r hw => ?_)
  subst hw
  exact W.lret (v := fX2_sizeOfParts (nI (fbN a0)) (nI (fd - min (fbN a0 - Nat.log2 rs) (fd - 1))) (lN (rs * 2 ^ min (fbN a0 - Nat.log2 rs) (fd - 1)))) hx hb hr (fun t ht hW => ⟨_, rfl, sw_parts h0 h hf hf2, ht⟩) (fun q hq => absurd hq List.not_mem_nil) dX2_sizeOfWhole_37

set_option maxHeartbeats 4000000 in
set_option maxRecDepth 100000 in
theorem met_X2_restOfSizes (l : Launch) (a0 : Int32) (sz dv : Nat) (h0 : 0 < dv) (h1 : sz < infN a0) (h2 : dv ≤ infN a0) : Met l yX2_restOfSizes wsX2_restOfSizes ({ frames := 3, cells := 0, slots := 0, locals := 68 }) (va_Pc [.int a0, .long (lN sz), .long (lN dv)] (fun _ => True)) (vp_Sl (fun r => ∃ t, r = lN t ∧ FP.Core.unitsOf (FM a0) t = FP.Core.unitsOf (FM a0) sz % FP.Core.unitsOf (FM a0) dv)) 0 0 (fun _ => False) := by
  refine Met.ofW (cc := cX2_restOfSizes) (maxL := 10) (ret := (some .long)) (by decide) rfl ?_
  intro p e s m args below meth c s₁ B hml hv
  obtain ⟨rfl, -⟩ := hv
  have hx := B.exec
  have hb := B.bytes
  have hr := B.returns
  have hts := atoms_spec (ws := wsX2_restOfSizes) B.pre
  have hown : s.vm.findClass RX2 = some m.cls := findClass_of_methodNamed B.named
  have hlocks := B.notSynchronized
  have hl := lv_entry ([.int a0, .long (lN sz), .long (lN dv)]) (n := 10) (Nat.le_of_ble_eq_true rfl)
  rw [lg_entry_eq]
  generalize (lg_sl ([.int a0, .long (lN sz), .long (lN dv)]) ++ List.replicate (10 - (lg_sl ([.int a0, .long (lN sz), .long (lN dv)])).length) Slot.unset).toArray = ls at hl ⊢
  have hl : lv_has ls 10 [(0, .int a0), (1, .long (lN sz)), (3, .long (lN dv))] := hl
  have k1 := Nat.lt_of_lt_of_le (inf_lt a0) (top_le a0)
  have hV := whole_pos (k := a0) h0
  have hV2 := whole_lt53 a0 dv
  have hW2 := whole_lt53 a0 sz
  have c0 : ¬ lg_cmp (lN dv) 0 = 0 := fun g => by have := (lgc_z (by omega)).mp g; omega
  have c1 : ¬ lg_cmp (lN (wholeN a0 dv)) 0 = 0 := fun g => by have := (lgc_z (by omega)).mp g; omega
  refine lv_lload_n hx hb dX2_restOfSizes_0 rfl (lv_at hl 1 rfl) ?_
  refine lv_lload_n hx hb dX2_restOfSizes_1 rfl (lv_at hl 2 rfl) ?_
  refine W.lcmp hx hb dX2_restOfSizes_2 ?_
  refine lv_if_lt (tgt := 12) hx hb dX2_restOfSizes_3 (by decide) (fun c_1 => ?_) (fun c_1 => ?_)
  · refine lv_lload_n hx hb dX2_restOfSizes_12 rfl (lv_at hl 1 rfl) ?_
    exact W.lret (v := (lN sz)) hx hb hr (fun t ht hW => ⟨_, rfl, ⟨sz, rfl, (rs_lt ((lgc_lt (by omega) (by omega)).mp c_1)).symm⟩, ht⟩) (fun q hq => absurd hq List.not_mem_nil) dX2_restOfSizes_13
  · refine lv_lload_n hx hb dX2_restOfSizes_6 rfl (lv_at hl 2 rfl) ?_
    refine lv_lconst (v := 0) hx hb dX2_restOfSizes_7 (by decide) ?_
    refine W.lcmp hx hb dX2_restOfSizes_8 ?_
    refine lv_if_ne (tgt := 14) hx hb dX2_restOfSizes_9 (by decide) (fun _ => ?_) (fun h0 => absurd h0 c0)
    have hge : ¬ sz < dv := fun g => c_1 ((lgc_lt (by omega) (by omega)).mpr g)
    have hfd := rs_div (k := a0) hge
    have hfl := (field_le (k := a0) (m := sz) (Nat.lt_trans h1 (inf_lt a0))).1
    have hfg := field_ge a0 dv
    refine lv_iload_n hx hb dX2_restOfSizes_14 rfl (lv_at hl 0 rfl) ?_
    refine lv_lload_n hx hb dX2_restOfSizes_15 rfl (lv_at hl 2 rfl) ?_
    refine vp_callSl ((va_runS (As := [.int a0, .long (lN dv)]) (rest := []) ⟨hx, hb, hml, hown, hts⟩ (met_X2_wholeOf l a0 (lN dv)) (va_cwS 2 hts gX2_restOfSizes_X2_wholeOf rfl rfl rfl (by decide +kernel) ⟨Nat.le_of_ble_eq_true rfl, Nat.le_of_ble_eq_true rfl⟩) ⟨fun _ _ _ _ q => q, fun U hU hW => ⟨rfl, trivial⟩⟩ rfl rfl hl.1 rfl (lv_room (Nat.le_of_ble_eq_true rfl)) dX2_restOfSizes_16 ⟨Nat.le_of_ble_eq_true rfl, Nat.le_of_ble_eq_true rfl⟩).run) (fun r hw => ?_)
    subst hw
    refine lv_topl (fun z_2 ez_2 => ?_)
    obtain rfl : z_2 = lN (wholeN a0 dv) := ez_2.trans (wholeOf_eq a0 (by omega))
    refine lv_lstore (lv' := [(5, .long (lN (wholeN a0 dv))), (0, .int a0), (1, .long (lN sz)), (3, .long (lN dv))]) hx hb dX2_restOfSizes_19 hl (by decide) rfl (fun ls hl => ?_)
    refine lv_lload hx hb dX2_restOfSizes_21 (lv_at hl 0 rfl) ?_
    refine lv_lconst (v := 0) hx hb dX2_restOfSizes_23 (by decide) ?_
    refine W.lcmp hx hb dX2_restOfSizes_24 ?_
    refine lv_if_ne (tgt := 30) hx hb dX2_restOfSizes_25 (by decide) (fun _ => ?_) (fun h0 => absurd h0 c1)
    refine lv_iload_n hx hb dX2_restOfSizes_30 rfl (lv_at hl 1 rfl) ?_
    refine lv_lload_n hx hb dX2_restOfSizes_31 rfl (lv_at hl 2 rfl) ?_
    refine vp_callSl ((va_runS (As := [.int a0, .long (lN sz)]) (rest := []) ⟨hx, hb, hml, hown, hts⟩ (met_X2_wholeOf l a0 (lN sz)) (va_cwS 2 hts gX2_restOfSizes_X2_wholeOf rfl rfl rfl (by decide +kernel) ⟨Nat.le_of_ble_eq_true rfl, Nat.le_of_ble_eq_true rfl⟩) ⟨fun _ _ _ _ q => q, fun U hU hW => ⟨rfl, trivial⟩⟩ rfl rfl hl.1 rfl (lv_room (Nat.le_of_ble_eq_true rfl)) dX2_restOfSizes_32 ⟨Nat.le_of_ble_eq_true rfl, Nat.le_of_ble_eq_true rfl⟩).run) (fun r hw => ?_)
    subst hw
    refine lv_topl (fun z_3 ez_3 => ?_)
    obtain rfl : z_3 = lN (wholeN a0 sz) := ez_3.trans (wholeOf_eq a0 (by omega))
    refine lv_lload hx hb dX2_restOfSizes_35 (lv_at hl 0 rfl) ?_
    refine lv_lrem hx hb dX2_restOfSizes_37 (lN_ne hV (by omega)) ?_
    refine lv_topl (fun z_4 ez_4 => ?_)
    obtain rfl : z_4 = lN (wholeN a0 sz % wholeN a0 dv) := ez_4.trans (pk_lRem (by omega) hV (by omega))
    refine lv_lstore (lv' := [(7, .long (lN (wholeN a0 sz % wholeN a0 dv))), (5, .long (lN (wholeN a0 dv))), (0, .int a0), (1, .long (lN sz)), (3, .long (lN dv))]) hx hb dX2_restOfSizes_38 hl (by decide) rfl (fun ls hl => ?_)
    refine lv_iload_n hx hb dX2_restOfSizes_40 rfl (lv_at hl 2 rfl) ?_
    refine lv_lload_n hx hb dX2_restOfSizes_41 rfl (lv_at hl 3 rfl) ?_
    refine vp_callSi ((va_runS (As := [.int a0, .long (lN sz)]) (rest := []) ⟨hx, hb, hml, hown, hts⟩ (met_X2_fieldOf l a0 (lN sz)) (va_cwS 2 hts gX2_restOfSizes_X2_fieldOf rfl rfl rfl (by decide +kernel) ⟨Nat.le_of_ble_eq_true rfl, Nat.le_of_ble_eq_true rfl⟩) ⟨fun _ _ _ _ q => q, fun U hU hW => ⟨rfl, trivial⟩⟩ rfl rfl hl.1 rfl (lv_room (Nat.le_of_ble_eq_true rfl)) dX2_restOfSizes_42 ⟨Nat.le_of_ble_eq_true rfl, Nat.le_of_ble_eq_true rfl⟩).run) (fun r hw => ?_)
    subst hw
    refine lv_iload_n hx hb dX2_restOfSizes_45 rfl (lv_at hl 2 rfl) ?_
    refine lv_lload_n hx hb dX2_restOfSizes_46 rfl (lv_at hl 4 rfl) ?_
    refine vp_callSi ((va_runS (As := [.int a0, .long (lN dv)]) (rest := [.int (fX2_fieldOf a0 (lN sz))]) ⟨hx, hb, hml, hown, hts⟩ (met_X2_fieldOf l a0 (lN dv)) (va_cwS 2 hts gX2_restOfSizes_X2_fieldOf rfl rfl rfl (by decide +kernel) ⟨Nat.le_of_ble_eq_true rfl, Nat.le_of_ble_eq_true rfl⟩) ⟨fun _ _ _ _ q => q, fun U hU hW => ⟨rfl, trivial⟩⟩ rfl rfl hl.1 rfl (lv_room (Nat.le_of_ble_eq_true rfl)) dX2_restOfSizes_47 ⟨Nat.le_of_ble_eq_true rfl, Nat.le_of_ble_eq_true rfl⟩).run) (fun r hw => ?_)
    subst hw
    refine lv_isub hx hb dX2_restOfSizes_50 ?_
    refine lv_topi (fun z_5 ez_5 => ?_)
    obtain rfl : z_5 = nI (fieldN a0 sz - fieldN a0 dv) := ez_5.trans (by rw [fieldOf_eq a0 (Nat.lt_trans h1 (inf_lt a0)), fieldOf_eq a0 (Nat.lt_of_le_of_lt h2 (inf_lt a0))]; exact pk_sub hfd)
    refine lv_istore (lv' := [(9, .int (nI (fieldN a0 sz - fieldN a0 dv))), (7, .long (lN (wholeN a0 sz % wholeN a0 dv))), (5, .long (lN (wholeN a0 dv))), (0, .int a0), (1, .long (lN sz)), (3, .long (lN dv))]) hx hb dX2_restOfSizes_51 hl (by decide) rfl (fun ls hl => ?_)
    have hq : ∃ (rr : Nat) (L : Int32), lv_has ls 10 [(9, .int L), (7, .long (lN rr)), (5, .long (lN (wholeN a0 dv))), (0, .int a0), (1, .long (lN sz)), (3, .long (lN dv))] ∧ rr = wholeN a0 sz * 2 ^ (fieldN a0 sz - fieldN a0 dv - L.toInt.toNat) % wholeN a0 dv ∧ L.toInt ≤ ((fieldN a0 sz - fieldN a0 dv : Nat) : Int) ∧ -20 ≤ L.toInt := ⟨wholeN a0 sz % wholeN a0 dv, nI (fieldN a0 sz - fieldN a0 dv), hl, by rw [nI_toInt (by omega), Int.toNat_natCast, Nat.sub_self, Nat.pow_zero, Nat.mul_one], by rw [nI_toInt (by omega)]; omega, by rw [nI_toInt (by omega)]; omega⟩
    clear hl
    obtain ⟨rr, L, hl, hr0, hL, hL2⟩ := hq
    obtain ⟨n, hn⟩ : ∃ n : Nat, L.toInt ≤ 10 * (n : Int) := ⟨L.toInt.toNat, by omega⟩
    induction n generalizing rr L ls with
    | zero =>
      have hrv : rr < wholeN a0 dv := by rw [hr0]; exact Nat.mod_lt _ hV
      have d1 : L ≤ 0 := by rw [Int32.le_iff_toInt_le, show (0 : Int32).toInt = 0 from rfl]; omega
      refine lv_iload hx hb dX2_restOfSizes_53 (lv_at hl 0 rfl) ?_
      refine lv_if_le (tgt := 86) hx hb dX2_restOfSizes_55 (by decide) (fun _ => ?_) (fun h0 => absurd d1 h0)
      refine lv_lload hx hb dX2_restOfSizes_86 (lv_at hl 1 rfl) ?_
      refine lv_lconst (v := 0) hx hb dX2_restOfSizes_88 (by decide) ?_
      refine W.lcmp hx hb dX2_restOfSizes_89 ?_
      refine lv_if_ne (tgt := 97) hx hb dX2_restOfSizes_90 (by decide) (fun c_6 => ?_) (fun c_6 => ?_)
      · have hrp : 0 < rr := Nat.pos_of_ne_zero (fun g => c_6 ((lgc_z (by omega)).mpr g))
        refine lv_iload_n hx hb dX2_restOfSizes_97 rfl (lv_at hl 3 rfl) ?_
        refine lv_lload hx hb dX2_restOfSizes_98 (lv_at hl 1 rfl) ?_
        refine lv_iload_n hx hb dX2_restOfSizes_100 rfl (lv_at hl 3 rfl) ?_
        refine lv_lload_n hx hb dX2_restOfSizes_101 rfl (lv_at hl 5 rfl) ?_
        refine vp_callSi ((va_runS (As := [.int a0, .long (lN dv)]) (rest := [.long (lN rr), .int a0]) ⟨hx, hb, hml, hown, hts⟩ (met_X2_fieldOf l a0 (lN dv)) (va_cwS 2 hts gX2_restOfSizes_X2_fieldOf rfl rfl rfl (by decide +kernel) ⟨Nat.le_of_ble_eq_true rfl, Nat.le_of_ble_eq_true rfl⟩) ⟨fun _ _ _ _ q => q, fun U hU hW => ⟨rfl, trivial⟩⟩ rfl rfl hl.1 rfl (lv_room (Nat.le_of_ble_eq_true rfl)) dX2_restOfSizes_102 ⟨Nat.le_of_ble_eq_true rfl, Nat.le_of_ble_eq_true rfl⟩).run) (fun r hw => ?_)
        subst hw
        refine lv_topi (fun z_7 ez_7 => ?_)
        obtain rfl : z_7 = nI (fieldN a0 dv) := ez_7.trans (fieldOf_eq a0 (Nat.lt_of_le_of_lt h2 (inf_lt a0)))
        refine vp_callSl ((va_runS (As := [.int a0, .long (lN rr), .int (nI (fieldN a0 dv))]) (rest := []) ⟨hx, hb, hml, hown, hts⟩ (met_X2_sizeOfWhole l  a0 rr (fieldN a0 dv) hrp (Nat.lt_trans hrv (whole_lt a0 dv)) hfg (by omega)) (va_cwS 3 hts gX2_restOfSizes_X2_sizeOfWhole rfl rfl rfl (by decide +kernel) ⟨Nat.le_of_ble_eq_true rfl, Nat.le_of_ble_eq_true rfl⟩) ⟨fun _ _ _ _ q => q, fun U hU hW => ⟨rfl, trivial⟩⟩ rfl rfl hl.1 rfl (lv_room (Nat.le_of_ble_eq_true rfl)) dX2_restOfSizes_105 ⟨Nat.le_of_ble_eq_true rfl, Nat.le_of_ble_eq_true rfl⟩).run) (fun r_1 h_1 => ?_)
        subst h_1
        exact W.lret (v := lN (szW a0 rr (fieldN a0 dv))) hx hb hr (fun t ht hW => ⟨_, rfl, ⟨_, rfl, by have e : L.toInt.toNat = 0 := (by have := d1; rw [Int32.le_iff_toInt_le] at this; have : (0 : Int32).toInt = 0 := rfl; omega); rw [sw_units hrp (Nat.lt_trans hrv (whole_lt a0 dv)) hfg, rs_units hge, hr0, e, Nat.sub_zero]⟩, ht⟩) (fun q hq => absurd hq List.not_mem_nil) dX2_restOfSizes_108
      · refine lv_lconst (v := 0) hx hb dX2_restOfSizes_93 (by decide) ?_
        refine lv_goto (tgt := 108) hx hb dX2_restOfSizes_94 (by decide) ?_
        exact W.lret (v := 0) hx hb hr (fun t ht hW => ⟨_, rfl, ⟨0, rfl, by rw [FP.Core.unitsOf_zero, rs_units hge]; have e : L.toInt.toNat = 0 := (by have := d1; rw [Int32.le_iff_toInt_le] at this; have : (0 : Int32).toInt = 0 := rfl; omega); rw [e, Nat.sub_zero] at hr0; rw [← hr0, (lgc_z (by omega)).mp c_6, Nat.zero_mul]⟩, ht⟩) (fun q hq => absurd hq List.not_mem_nil) dX2_restOfSizes_108
    | succ n ih =>
      have hrv : rr < wholeN a0 dv := by rw [hr0]; exact Nat.mod_lt _ hV
      refine lv_iload hx hb dX2_restOfSizes_53 (lv_at hl 0 rfl) ?_
      refine lv_if_le (tgt := 86) hx hb dX2_restOfSizes_55 (by decide) (fun c_8 => ?_) (fun c_8 => ?_)
      · refine lv_lload hx hb dX2_restOfSizes_86 (lv_at hl 1 rfl) ?_
        refine lv_lconst (v := 0) hx hb dX2_restOfSizes_88 (by decide) ?_
        refine W.lcmp hx hb dX2_restOfSizes_89 ?_
        refine lv_if_ne (tgt := 97) hx hb dX2_restOfSizes_90 (by decide) (fun c_9 => ?_) (fun c_9 => ?_)
        · have hrp : 0 < rr := Nat.pos_of_ne_zero (fun g => c_9 ((lgc_z (by omega)).mpr g))
          refine lv_iload_n hx hb dX2_restOfSizes_97 rfl (lv_at hl 3 rfl) ?_
          refine lv_lload hx hb dX2_restOfSizes_98 (lv_at hl 1 rfl) ?_
          refine lv_iload_n hx hb dX2_restOfSizes_100 rfl (lv_at hl 3 rfl) ?_
          refine lv_lload_n hx hb dX2_restOfSizes_101 rfl (lv_at hl 5 rfl) ?_
          refine vp_callSi ((va_runS (As := [.int a0, .long (lN dv)]) (rest := [.long (lN rr), .int a0]) ⟨hx, hb, hml, hown, hts⟩ (met_X2_fieldOf l a0 (lN dv)) (va_cwS 2 hts gX2_restOfSizes_X2_fieldOf rfl rfl rfl (by decide +kernel) ⟨Nat.le_of_ble_eq_true rfl, Nat.le_of_ble_eq_true rfl⟩) ⟨fun _ _ _ _ q => q, fun U hU hW => ⟨rfl, trivial⟩⟩ rfl rfl hl.1 rfl (lv_room (Nat.le_of_ble_eq_true rfl)) dX2_restOfSizes_102 ⟨Nat.le_of_ble_eq_true rfl, Nat.le_of_ble_eq_true rfl⟩).run) (fun r hw => ?_)
          subst hw
          refine lv_topi (fun z_10 ez_10 => ?_)
          obtain rfl : z_10 = nI (fieldN a0 dv) := ez_10.trans (fieldOf_eq a0 (Nat.lt_of_le_of_lt h2 (inf_lt a0)))
          refine vp_callSl ((va_runS (As := [.int a0, .long (lN rr), .int (nI (fieldN a0 dv))]) (rest := []) ⟨hx, hb, hml, hown, hts⟩ (met_X2_sizeOfWhole l  a0 rr (fieldN a0 dv) hrp (Nat.lt_trans hrv (whole_lt a0 dv)) hfg (by omega)) (va_cwS 3 hts gX2_restOfSizes_X2_sizeOfWhole rfl rfl rfl (by decide +kernel) ⟨Nat.le_of_ble_eq_true rfl, Nat.le_of_ble_eq_true rfl⟩) ⟨fun _ _ _ _ q => q, fun U hU hW => ⟨rfl, trivial⟩⟩ rfl rfl hl.1 rfl (lv_room (Nat.le_of_ble_eq_true rfl)) dX2_restOfSizes_105 ⟨Nat.le_of_ble_eq_true rfl, Nat.le_of_ble_eq_true rfl⟩).run) (fun r_2 h_2 => ?_)
          subst h_2
          exact W.lret (v := lN (szW a0 rr (fieldN a0 dv))) hx hb hr (fun t ht hW => ⟨_, rfl, ⟨_, rfl, by have e : L.toInt.toNat = 0 := (by have := c_8; rw [Int32.le_iff_toInt_le] at this; have : (0 : Int32).toInt = 0 := rfl; omega); rw [sw_units hrp (Nat.lt_trans hrv (whole_lt a0 dv)) hfg, rs_units hge, hr0, e, Nat.sub_zero]⟩, ht⟩) (fun q hq => absurd hq List.not_mem_nil) dX2_restOfSizes_108
        · refine lv_lconst (v := 0) hx hb dX2_restOfSizes_93 (by decide) ?_
          refine lv_goto (tgt := 108) hx hb dX2_restOfSizes_94 (by decide) ?_
          exact W.lret (v := 0) hx hb hr (fun t ht hW => ⟨_, rfl, ⟨0, rfl, by rw [FP.Core.unitsOf_zero, rs_units hge]; have e : L.toInt.toNat = 0 := (by have := c_8; rw [Int32.le_iff_toInt_le] at this; have : (0 : Int32).toInt = 0 := rfl; omega); rw [e, Nat.sub_zero] at hr0; rw [← hr0, (lgc_z (by omega)).mp c_9, Nat.zero_mul]⟩, ht⟩) (fun q hq => absurd hq List.not_mem_nil) dX2_restOfSizes_108
      · refine lv_lload hx hb dX2_restOfSizes_58 (lv_at hl 1 rfl) ?_
        refine lv_lconst (v := 0) hx hb dX2_restOfSizes_60 (by decide) ?_
        refine W.lcmp hx hb dX2_restOfSizes_61 ?_
        refine lv_if_eq (tgt := 86) hx hb dX2_restOfSizes_62 (by decide) (fun c_11 => ?_) (fun c_11 => ?_)
        · refine lv_lload hx hb dX2_restOfSizes_86 (lv_at hl 1 rfl) ?_
          refine lv_lconst (v := 0) hx hb dX2_restOfSizes_88 (by decide) ?_
          refine W.lcmp hx hb dX2_restOfSizes_89 ?_
          refine lv_if_ne (tgt := 97) hx hb dX2_restOfSizes_90 (by decide) (fun h0 => absurd c_11 h0) (fun _ => ?_)
          refine lv_lconst (v := 0) hx hb dX2_restOfSizes_93 (by decide) ?_
          refine lv_goto (tgt := 108) hx hb dX2_restOfSizes_94 (by decide) ?_
          exact W.lret (v := 0) hx hb hr (fun t ht hW => ⟨_, rfl, ⟨0, rfl, by rw [FP.Core.unitsOf_zero, rs_units hge, mod_z (hr0.symm.trans ((lgc_z (by omega)).mp c_11)) (by omega), Nat.zero_mul]⟩, ht⟩) (fun q hq => absurd hq List.not_mem_nil) dX2_restOfSizes_108
        · refine lv_lload hx hb dX2_restOfSizes_65 (lv_at hl 1 rfl) ?_
          refine lv_iload hx hb dX2_restOfSizes_67 (lv_at hl 0 rfl) ?_
          refine lv_bipush (v := 10) hx hb dX2_restOfSizes_69 (by decide) ?_
          refine va_mmin hx hb (hml.trans hl.1.symm) hown (hts (.methodLink RX2 60 Lib.Math.min.name) (by decide +kernel)) (hts (.static Lib.Math.min.name) (by decide +kernel)) (hts (.initialized "java/lang/Math") (by decide +kernel)) (hts (.code Lib.Math.min.name Lib.Math.min.code 2 (some .int)) (by decide +kernel)) (Nat.le_of_ble_eq_true rfl) (Nat.le_of_ble_eq_true rfl) (Nat.le_of_ble_eq_true rfl) (Nat.le_of_ble_eq_true rfl) dX2_restOfSizes_71 ?_
          refine lv_topi (fun z_12 ez_12 => ?_)
          obtain rfl : z_12 = nI (min L.toInt.toNat 10) := ez_12.trans (rs_min c_8)
          refine lv_lshl hx hb dX2_restOfSizes_74 rfl ?_
          refine lv_topl (fun z_13 ez_13 => ?_)
          obtain rfl : z_13 = lN (rr * 2 ^ min L.toInt.toNat 10) := ez_13.trans (wb_shl _ (by omega))
          refine lv_lload hx hb dX2_restOfSizes_75 (lv_at hl 2 rfl) ?_
          refine lv_lrem hx hb dX2_restOfSizes_77 (lN_ne hV (by omega)) ?_
          refine lv_topl (fun z_14 ez_14 => ?_)
          obtain rfl : z_14 = lN (rr * 2 ^ min L.toInt.toNat 10 % wholeN a0 dv) := ez_14.trans (pk_lRem (rs_b hrv hV2 (Nat.min_le_right _ _)) hV (by omega))
          refine lv_lstore (lv' := [(7, .long (lN (rr * 2 ^ min L.toInt.toNat 10 % wholeN a0 dv))), (9, .int L), (5, .long (lN (wholeN a0 dv))), (0, .int a0), (1, .long (lN sz)), (3, .long (lN dv))]) hx hb dX2_restOfSizes_78 hl (by decide) rfl (fun ls hl => ?_)
          refine lv_iinc (v := L + (-10)) (lv' := [(9, .int (L + (-10))), (7, .long (lN (rr * 2 ^ min L.toInt.toNat 10 % wholeN a0 dv))), (5, .long (lN (wholeN a0 dv))), (0, .int a0), (1, .long (lN sz)), (3, .long (lN dv))]) hx hb dX2_restOfSizes_80 hl (k := 1) rfl rfl (by decide) rfl (fun ls hl => ?_)
          refine lv_goto (tgt := 53) hx hb dX2_restOfSizes_83 (by decide) ?_
          have e0 : ¬ L.toInt ≤ 0 := fun g => c_8 (by rw [Int32.le_iff_toInt_le]; exact g)
          exact ih _ _ _ hl (by rw [hr0, mod_sh, i32_m10 (by omega)]; congr 3; omega) (by rw [i32_m10 (by omega)]; omega) (by rw [i32_m10 (by omega)]; omega) (by rw [i32_m10 (by omega)]; omega)
