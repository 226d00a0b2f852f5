/-- a boolean as the machine has it -/
def bI (b : Bool) : Int32 := if b = true then 1 else 0
theorem bI_ne {b : Bool} (h : ¬ bI b = 0) : b = true := by cases b; exact absurd rfl h; rfl
theorem bI_eq {b : Bool} (h : bI b = 0) : ¬ b = true := by cases b; exact Bool.false_ne_true; exact absurd h (by decide)
theorem nar_bI (b : Bool) : narrow .boolean (.int (bI b)) = .int (bI b) := by cases b <;> rfl
theorem i32_eq {x : Int32} {n : Int32} (h : ¬ x = n) : x.toInt ≠ n.toInt := fun e => h (Int32.toInt_inj.mp e)
theorem sw_out2 {x : Int32} (h0 : ¬ x = 0) (h1 : ¬ x = 1) (h2 : ¬ x = 2) : x.toInt < 0 ∨ 2 < x.toInt := by
  have a := i32_eq h0; have b := i32_eq h1; have c := i32_eq h2
  rw [show (0 : Int32).toInt = 0 from rfl] at a; rw [show (1 : Int32).toInt = 1 from rfl] at b; rw [show (2 : Int32).toInt = 2 from rfl] at c
  omega
theorem sw_out3 {x : Int32} (h0 : ¬ x = 0) (h1 : ¬ x = 1) (h2 : ¬ x = 2) (h3 : ¬ x = 3) : x.toInt < 0 ∨ 3 < x.toInt := by
  have a := sw_out2 h0 h1 h2; have d := i32_eq h3
  rw [show (3 : Int32).toInt = 3 from rfl] at d
  omega
theorem sw_out4 {x : Int32} (h0 : ¬ x = 0) (h1 : ¬ x = 1) (h2 : ¬ x = 2) (h3 : ¬ x = 3) (h4 : ¬ x = 4) : x.toInt < 0 ∨ 4 < x.toInt := by
  have a := sw_out3 h0 h1 h2 h3; have d := i32_eq h4
  rw [show (4 : Int32).toInt = 4 from rfl] at d
  omega

def fX2_sizeMask (a0 : Int32) : Int64 := if a0 = 2 then 2147483647 else 9223372036854775807
set_option maxHeartbeats 4000000 in
set_option maxRecDepth 100000 in
theorem met_X2_sizeMask (l : Launch) (a0 : Int32) : Met l yX2_sizeMask wsX2_sizeMask ({ frames := 0, cells := 0, slots := 0, locals := 0 }) (va_Pc [.int a0] (fun _ => True)) (vp_Sl (fun r => r = fX2_sizeMask a0)) 0 0 (fun _ => False) := by
  refine Met.ofW (cc := cX2_sizeMask) (maxL := 1) (ret := (some .long)) (by decide) rfl ?_
  intro p e s m args below meth c s₁ B hml hv
  obtain ⟨rfl, -⟩ := hv
  have hx := B.exec
  have hb := B.bytes
  have hr := B.returns
  have hts := atoms_spec (ws := wsX2_sizeMask) B.pre
  have hown : s.vm.findClass RX2 = some m.cls := findClass_of_methodNamed B.named
  have hlocks := B.notSynchronized
  have hl := lv_entry ([.int a0]) (n := 1) (Nat.le_of_ble_eq_true rfl)
  rw [lg_entry_eq]
  generalize (lg_sl ([.int a0]) ++ List.replicate (1 - (lg_sl ([.int a0])).length) Slot.unset).toArray = ls at hl ⊢
  have hl : lv_has ls 1 [(0, .int a0)] := hl
  refine lv_iload_n hx hb dX2_sizeMask_0 rfl (lv_at hl 0 rfl) ?_
  refine lv_iconst (v := 2) hx hb dX2_sizeMask_1 (by decide) ?_
  refine lv_icmp_ne (tgt := 11) hx hb dX2_sizeMask_2 (by decide) (fun c_1 => ?_) (fun c_1 => ?_)
  · refine lv_ldc2 hx hb hown (hts (.constantLong RX2 94 (9223372036854775807)) (by decide +kernel)) dX2_sizeMask_11 ?_
    exact W.lret (v := 9223372036854775807) hx hb hr (fun t ht hW => ⟨_, rfl, by simp only [fX2_sizeMask, if_neg c_1], ht⟩) (fun q hq => absurd hq List.not_mem_nil) dX2_sizeMask_14
  · refine lv_ldc2 hx hb hown (hts (.constantLong RX2 92 (2147483647)) (by decide +kernel)) dX2_sizeMask_5 ?_
    refine lv_goto (tgt := 14) hx hb dX2_sizeMask_8 (by decide) ?_
    exact W.lret (v := 2147483647) hx hb hr (fun t ht hW => ⟨_, rfl, by simp only [fX2_sizeMask, if_pos c_1], ht⟩) (fun q hq => absurd hq List.not_mem_nil) dX2_sizeMask_14

def fX2_endless (a0 : Int32) : Int64 := if a0 = 2 then 2139095040 else 9218868437227405312
set_option maxHeartbeats 4000000 in
set_option maxRecDepth 100000 in
theorem met_X2_endless (l : Launch) (a0 : Int32) : Met l yX2_endless wsX2_endless ({ frames := 0, cells := 0, slots := 0, locals := 0 }) (va_Pc [.int a0] (fun _ => True)) (vp_Sl (fun r => r = fX2_endless a0)) 0 0 (fun _ => False) := by
  refine Met.ofW (cc := cX2_endless) (maxL := 1) (ret := (some .long)) (by decide) rfl ?_
  intro p e s m args below meth c s₁ B hml hv
  obtain ⟨rfl, -⟩ := hv
  have hx := B.exec
  have hb := B.bytes
  have hr := B.returns
  have hts := atoms_spec (ws := wsX2_endless) B.pre
  have hown : s.vm.findClass RX2 = some m.cls := findClass_of_methodNamed B.named
  have hlocks := B.notSynchronized
  have hl := lv_entry ([.int a0]) (n := 1) (Nat.le_of_ble_eq_true rfl)
  rw [lg_entry_eq]
  generalize (lg_sl ([.int a0]) ++ List.replicate (1 - (lg_sl ([.int a0])).length) Slot.unset).toArray = ls at hl ⊢
  have hl : lv_has ls 1 [(0, .int a0)] := hl
  refine lv_iload_n hx hb dX2_endless_0 rfl (lv_at hl 0 rfl) ?_
  refine lv_iconst (v := 2) hx hb dX2_endless_1 (by decide) ?_
  refine lv_icmp_ne (tgt := 11) hx hb dX2_endless_2 (by decide) (fun c_1 => ?_) (fun c_1 => ?_)
  · refine lv_ldc2 hx hb hown (hts (.constantLong RX2 98 (9218868437227405312)) (by decide +kernel)) dX2_endless_11 ?_
    exact W.lret (v := 9218868437227405312) hx hb hr (fun t ht hW => ⟨_, rfl, by simp only [fX2_endless, if_neg c_1], ht⟩) (fun q hq => absurd hq List.not_mem_nil) dX2_endless_14
  · refine lv_ldc2 hx hb hown (hts (.constantLong RX2 96 (2139095040)) (by decide +kernel)) dX2_endless_5 ?_
    refine lv_goto (tgt := 14) hx hb dX2_endless_8 (by decide) ?_
    exact W.lret (v := 2139095040) hx hb hr (fun t ht hW => ⟨_, rfl, by simp only [fX2_endless, if_pos c_1], ht⟩) (fun q hq => absurd hq List.not_mem_nil) dX2_endless_14

def fX2_fractionBits (a0 : Int32) : Int32 := if a0 = 2 then 23 else 52
set_option maxHeartbeats 4000000 in
set_option maxRecDepth 100000 in
theorem met_X2_fractionBits (l : Launch) (a0 : Int32) : Met l yX2_fractionBits wsX2_fractionBits ({ frames := 0, cells := 0, slots := 0, locals := 0 }) (va_Pc [.int a0] (fun _ => True)) (vp_Si (fun r => r = fX2_fractionBits a0)) 0 0 (fun _ => False) := by
  refine Met.ofW (cc := cX2_fractionBits) (maxL := 1) (ret := (some .int)) (by decide) rfl ?_
  intro p e s m args below meth c s₁ B hml hv
  obtain ⟨rfl, -⟩ := hv
  have hx := B.exec
  have hb := B.bytes
  have hr := B.returns
  have hts := atoms_spec (ws := wsX2_fractionBits) B.pre
  have hown : s.vm.findClass RX2 = some m.cls := findClass_of_methodNamed B.named
  have hlocks := B.notSynchronized
  have hl := lv_entry ([.int a0]) (n := 1) (Nat.le_of_ble_eq_true rfl)
  rw [lg_entry_eq]
  generalize (lg_sl ([.int a0]) ++ List.replicate (1 - (lg_sl ([.int a0])).length) Slot.unset).toArray = ls at hl ⊢
  have hl : lv_has ls 1 [(0, .int a0)] := hl
  refine lv_iload_n hx hb dX2_fractionBits_0 rfl (lv_at hl 0 rfl) ?_
  refine lv_iconst (v := 2) hx hb dX2_fractionBits_1 (by decide) ?_
  refine lv_icmp_ne (tgt := 10) hx hb dX2_fractionBits_2 (by decide) (fun c_1 => ?_) (fun c_1 => ?_)
  · refine lv_bipush (v := 52) hx hb dX2_fractionBits_10 (by decide) ?_
    exact W.iret (v := 52) hx hb hr (fun t ht hW => ⟨_, rfl, by simp only [fX2_fractionBits, if_neg c_1], ht⟩) (fun q hq => absurd hq List.not_mem_nil) dX2_fractionBits_12
  · refine lv_bipush (v := 23) hx hb dX2_fractionBits_5 (by decide) ?_
    refine lv_goto (tgt := 12) hx hb dX2_fractionBits_7 (by decide) ?_
    exact W.iret (v := 23) hx hb hr (fun t ht hW => ⟨_, rfl, by simp only [fX2_fractionBits, if_pos c_1], ht⟩) (fun q hq => absurd hq List.not_mem_nil) dX2_fractionBits_12

def fX2_bias (a0 : Int32) : Int32 := if a0 = 2 then 127 else 1023
set_option maxHeartbeats 4000000 in
set_option maxRecDepth 100000 in
theorem met_X2_bias (l : Launch) (a0 : Int32) : Met l yX2_bias wsX2_bias ({ frames := 0, cells := 0, slots := 0, locals := 0 }) (va_Pc [.int a0] (fun _ => True)) (vp_Si (fun r => r = fX2_bias a0)) 0 0 (fun _ => False) := by
  refine Met.ofW (cc := cX2_bias) (maxL := 1) (ret := (some .int)) (by decide) rfl ?_
  intro p e s m args below meth c s₁ B hml hv
  obtain ⟨rfl, -⟩ := hv
  have hx := B.exec
  have hb := B.bytes
  have hr := B.returns
  have hts := atoms_spec (ws := wsX2_bias) B.pre
  have hown : s.vm.findClass RX2 = some m.cls := findClass_of_methodNamed B.named
  have hlocks := B.notSynchronized
  have hl := lv_entry ([.int a0]) (n := 1) (Nat.le_of_ble_eq_true rfl)
  rw [lg_entry_eq]
  generalize (lg_sl ([.int a0]) ++ List.replicate (1 - (lg_sl ([.int a0])).length) Slot.unset).toArray = ls at hl ⊢
  have hl : lv_has ls 1 [(0, .int a0)] := hl
  refine lv_iload_n hx hb dX2_bias_0 rfl (lv_at hl 0 rfl) ?_
  refine lv_iconst (v := 2) hx hb dX2_bias_1 (by decide) ?_
  refine lv_icmp_ne (tgt := 10) hx hb dX2_bias_2 (by decide) (fun c_1 => ?_) (fun c_1 => ?_)
  · refine lv_sipush (v := 1023) hx hb dX2_bias_10 (by decide) ?_
    exact W.iret (v := 1023) hx hb hr (fun t ht hW => ⟨_, rfl, by simp only [fX2_bias, if_neg c_1], ht⟩) (fun q hq => absurd hq List.not_mem_nil) dX2_bias_13
  · refine lv_bipush (v := 127) hx hb dX2_bias_5 (by decide) ?_
    refine lv_goto (tgt := 13) hx hb dX2_bias_7 (by decide) ?_
    exact W.iret (v := 127) hx hb hr (fun t ht hW => ⟨_, rfl, by simp only [fX2_bias, if_pos c_1], ht⟩) (fun q hq => absurd hq List.not_mem_nil) dX2_bias_13

def fX2_sizeOf (a0 : Int32) (a1 : Int64) : Int64 := a1 &&& (fX2_sizeMask a0)
set_option maxHeartbeats 4000000 in
set_option maxRecDepth 100000 in
theorem met_X2_sizeOf (l : Launch) (a0 : Int32) (a1 : Int64) : Met l yX2_sizeOf wsX2_sizeOf ({ frames := 1, cells := 0, slots := 0, locals := 20 }) (va_Pc [.int a0, .long a1] (fun _ => True)) (vp_Sl (fun r => r = fX2_sizeOf a0 a1)) 0 0 (fun _ => False) := by
  refine Met.ofW (cc := cX2_sizeOf) (maxL := 3) (ret := (some .long)) (by decide) rfl ?_
  intro p e s m args below meth c s₁ B hml hv
  obtain ⟨rfl, -⟩ := hv
  have hx := B.exec
  have hb := B.bytes
  have hr := B.returns
  have hts := atoms_spec (ws := wsX2_sizeOf) B.pre
  have hown : s.vm.findClass RX2 = some m.cls := findClass_of_methodNamed B.named
  have hlocks := B.notSynchronized
  have hl := lv_entry ([.int a0, .long a1]) (n := 3) (Nat.le_of_ble_eq_true rfl)
  rw [lg_entry_eq]
  generalize (lg_sl ([.int a0, .long a1]) ++ List.replicate (3 - (lg_sl ([.int a0, .long a1])).length) Slot.unset).toArray = ls at hl ⊢
  have hl : lv_has ls 3 [(0, .int a0), (1, .long a1)] := hl
  refine lv_lload_n hx hb dX2_sizeOf_0 rfl (lv_at hl 1 rfl) ?_
  refine lv_iload_n hx hb dX2_sizeOf_1 rfl (lv_at hl 0 rfl) ?_
  refine vp_callSl ((va_runS (As := [.int a0]) (rest := [.long a1]) ⟨hx, hb, hml, hown, hts⟩ (met_X2_sizeMask l a0) (va_cwS 1 hts gX2_sizeOf_X2_sizeMask rfl rfl rfl (by decide +kernel) ⟨Nat.le_of_ble_eq_true rfl, Nat.le_of_ble_eq_true rfl⟩) ⟨fun _ _ _ _ q => q, fun U hU hW => ⟨rfl, trivial⟩⟩ rfl rfl hl.1 rfl (lv_room (Nat.le_of_ble_eq_true rfl)) dX2_sizeOf_2 ⟨Nat.le_of_ble_eq_true rfl, Nat.le_of_ble_eq_true rfl⟩).run) (fun r hw => ?_)
  subst hw
  refine lv_land hx hb dX2_sizeOf_5 ?_
  exact W.lret (v := a1 &&& (fX2_sizeMask a0)) hx hb hr (fun t ht hW => ⟨_, rfl, by simp only [fX2_sizeOf], ht⟩) (fun q hq => absurd hq List.not_mem_nil) dX2_sizeOf_6

def fX2_isNumber (a0 : Int32) (a1 : Int64) : Bool := if 0 < (lg_cmp (fX2_sizeOf a0 a1) (fX2_endless a0)) then false else true
set_option maxHeartbeats 4000000 in
set_option maxRecDepth 100000 in
theorem met_X2_isNumber (l : Launch) (a0 : Int32) (a1 : Int64) : Met l yX2_isNumber wsX2_isNumber ({ frames := 2, cells := 0, slots := 0, locals := 42 }) (va_Pc [.int a0, .long a1] (fun _ => True)) (vp_Si (fun r => r = bI (fX2_isNumber a0 a1))) 0 0 (fun _ => False) := by
  refine Met.ofW (cc := cX2_isNumber) (maxL := 3) (ret := (some .boolean)) (by decide) rfl ?_
  intro p e s m args below meth c s₁ B hml hv
  obtain ⟨rfl, -⟩ := hv
  have hx := B.exec
  have hb := B.bytes
  have hr := B.returns
  have hts := atoms_spec (ws := wsX2_isNumber) B.pre
  have hown : s.vm.findClass RX2 = some m.cls := findClass_of_methodNamed B.named
  have hlocks := B.notSynchronized
  have hl := lv_entry ([.int a0, .long a1]) (n := 3) (Nat.le_of_ble_eq_true rfl)
  rw [lg_entry_eq]
  generalize (lg_sl ([.int a0, .long a1]) ++ List.replicate (3 - (lg_sl ([.int a0, .long a1])).length) Slot.unset).toArray = ls at hl ⊢
  have hl : lv_has ls 3 [(0, .int a0), (1, .long a1)] := hl
  refine lv_iload_n hx hb dX2_isNumber_0 rfl (lv_at hl 0 rfl) ?_
  refine lv_lload_n hx hb dX2_isNumber_1 rfl (lv_at hl 1 rfl) ?_
  refine vp_callSl ((va_runS (As := [.int a0, .long a1]) (rest := []) ⟨hx, hb, hml, hown, hts⟩ (met_X2_sizeOf l a0 a1) (va_cwS 2 hts gX2_isNumber_X2_sizeOf rfl rfl rfl (by decide +kernel) ⟨Nat.le_of_ble_eq_true rfl, Nat.le_of_ble_eq_true rfl⟩) ⟨fun _ _ _ _ q => q, fun U hU hW => ⟨rfl, trivial⟩⟩ rfl rfl hl.1 rfl (lv_room (Nat.le_of_ble_eq_true rfl)) dX2_isNumber_2 ⟨Nat.le_of_ble_eq_true rfl, Nat.le_of_ble_eq_true rfl⟩).run) (fun r hw => ?_)
  subst hw
  refine lv_iload_n hx hb dX2_isNumber_5 rfl (lv_at hl 0 rfl) ?_
  refine vp_callSl ((va_runS (As := [.int a0]) (rest := [.long (fX2_sizeOf a0 a1)]) ⟨hx, hb, hml, hown, hts⟩ (met_X2_endless l a0) (va_cwS 1 hts gX2_isNumber_X2_endless rfl rfl rfl (by decide +kernel) ⟨Nat.le_of_ble_eq_true rfl, Nat.le_of_ble_eq_true rfl⟩) ⟨fun _ _ _ _ q => q, fun U hU hW => ⟨rfl, trivial⟩⟩ rfl rfl hl.1 rfl (lv_room (Nat.le_of_ble_eq_true rfl)) dX2_isNumber_6 ⟨Nat.le_of_ble_eq_true rfl, Nat.le_of_ble_eq_true rfl⟩).run) (fun r hw => ?_)
  subst hw
  refine W.lcmp hx hb dX2_isNumber_9 ?_
  refine lv_if_gt (tgt := 17) hx hb dX2_isNumber_10 (by decide) (fun c_1 => ?_) (fun c_1 => ?_)
  · refine lv_iconst (v := 0) hx hb dX2_isNumber_17 (by decide) ?_
    exact W.zret hx hb hr (by decide) (fun t ht hW => ⟨_, rfl, (congrArg bI (show fX2_isNumber a0 a1 = false from by simp only [fX2_isNumber, if_pos c_1])).symm, ht⟩) (fun q hq => absurd hq List.not_mem_nil) dX2_isNumber_18
  · refine lv_iconst (v := 1) hx hb dX2_isNumber_13 (by decide) ?_
    refine lv_goto (tgt := 18) hx hb dX2_isNumber_14 (by decide) ?_
    exact W.zret hx hb hr (by decide) (fun t ht hW => ⟨_, rfl, (congrArg bI (show fX2_isNumber a0 a1 = true from by simp only [fX2_isNumber, if_neg c_1])).symm, ht⟩) (fun q hq => absurd hq List.not_mem_nil) dX2_isNumber_18

def fX2_isEndless (a0 : Int32) (a1 : Int64) : Bool := if (lg_cmp (fX2_sizeOf a0 a1) (fX2_endless a0)) = 0 then true else false
set_option maxHeartbeats 4000000 in
set_option maxRecDepth 100000 in
theorem met_X2_isEndless (l : Launch) (a0 : Int32) (a1 : Int64) : Met l yX2_isEndless wsX2_isEndless ({ frames := 2, cells := 0, slots := 0, locals := 42 }) (va_Pc [.int a0, .long a1] (fun _ => True)) (vp_Si (fun r => r = bI (fX2_isEndless a0 a1))) 0 0 (fun _ => False) := by
  refine Met.ofW (cc := cX2_isEndless) (maxL := 3) (ret := (some .boolean)) (by decide) rfl ?_
  intro p e s m args below meth c s₁ B hml hv
  obtain ⟨rfl, -⟩ := hv
  have hx := B.exec
  have hb := B.bytes
  have hr := B.returns
  have hts := atoms_spec (ws := wsX2_isEndless) B.pre
  have hown : s.vm.findClass RX2 = some m.cls := findClass_of_methodNamed B.named
  have hlocks := B.notSynchronized
  have hl := lv_entry ([.int a0, .long a1]) (n := 3) (Nat.le_of_ble_eq_true rfl)
  rw [lg_entry_eq]
  generalize (lg_sl ([.int a0, .long a1]) ++ List.replicate (3 - (lg_sl ([.int a0, .long a1])).length) Slot.unset).toArray = ls at hl ⊢
  have hl : lv_has ls 3 [(0, .int a0), (1, .long a1)] := hl
  refine lv_iload_n hx hb dX2_isEndless_0 rfl (lv_at hl 0 rfl) ?_
  refine lv_lload_n hx hb dX2_isEndless_1 rfl (lv_at hl 1 rfl) ?_
  refine vp_callSl ((va_runS (As := [.int a0, .long a1]) (rest := []) ⟨hx, hb, hml, hown, hts⟩ (met_X2_sizeOf l a0 a1) (va_cwS 2 hts gX2_isEndless_X2_sizeOf rfl rfl rfl (by decide +kernel) ⟨Nat.le_of_ble_eq_true rfl, Nat.le_of_ble_eq_true rfl⟩) ⟨fun _ _ _ _ q => q, fun U hU hW => ⟨rfl, trivial⟩⟩ rfl rfl hl.1 rfl (lv_room (Nat.le_of_ble_eq_true rfl)) dX2_isEndless_2 ⟨Nat.le_of_ble_eq_true rfl, Nat.le_of_ble_eq_true rfl⟩).run) (fun r hw => ?_)
  subst hw
  refine lv_iload_n hx hb dX2_isEndless_5 rfl (lv_at hl 0 rfl) ?_
  refine vp_callSl ((va_runS (As := [.int a0]) (rest := [.long (fX2_sizeOf a0 a1)]) ⟨hx, hb, hml, hown, hts⟩ (met_X2_endless l a0) (va_cwS 1 hts gX2_isEndless_X2_endless rfl rfl rfl (by decide +kernel) ⟨Nat.le_of_ble_eq_true rfl, Nat.le_of_ble_eq_true rfl⟩) ⟨fun _ _ _ _ q => q, fun U hU hW => ⟨rfl, trivial⟩⟩ rfl rfl hl.1 rfl (lv_room (Nat.le_of_ble_eq_true rfl)) dX2_isEndless_6 ⟨Nat.le_of_ble_eq_true rfl, Nat.le_of_ble_eq_true rfl⟩).run) (fun r hw => ?_)
  subst hw
  refine W.lcmp hx hb dX2_isEndless_9 ?_
  refine lv_if_ne (tgt := 17) hx hb dX2_isEndless_10 (by decide) (fun c_1 => ?_) (fun c_1 => ?_)
  · refine lv_iconst (v := 0) hx hb dX2_isEndless_17 (by decide) ?_
    exact W.zret hx hb hr (by decide) (fun t ht hW => ⟨_, rfl, (congrArg bI (show fX2_isEndless a0 a1 = false from by simp only [fX2_isEndless, if_neg c_1])).symm, ht⟩) (fun q hq => absurd hq List.not_mem_nil) dX2_isEndless_18
  · refine lv_iconst (v := 1) hx hb dX2_isEndless_13 (by decide) ?_
    refine lv_goto (tgt := 18) hx hb dX2_isEndless_14 (by decide) ?_
    exact W.zret hx hb hr (by decide) (fun t ht hW => ⟨_, rfl, (congrArg bI (show fX2_isEndless a0 a1 = true from by simp only [fX2_isEndless, if_pos c_1])).symm, ht⟩) (fun q hq => absurd hq List.not_mem_nil) dX2_isEndless_18

def fX2_isZero (a0 : Int32) (a1 : Int64) : Bool := if (lg_cmp (fX2_sizeOf a0 a1) 0) = 0 then true else false
set_option maxHeartbeats 4000000 in
set_option maxRecDepth 100000 in
theorem met_X2_isZero (l : Launch) (a0 : Int32) (a1 : Int64) : Met l yX2_isZero wsX2_isZero ({ frames := 2, cells := 0, slots := 0, locals := 42 }) (va_Pc [.int a0, .long a1] (fun _ => True)) (vp_Si (fun r => r = bI (fX2_isZero a0 a1))) 0 0 (fun _ => False) := by
  refine Met.ofW (cc := cX2_isZero) (maxL := 3) (ret := (some .boolean)) (by decide) rfl ?_
  intro p e s m args below meth c s₁ B hml hv
  obtain ⟨rfl, -⟩ := hv
  have hx := B.exec
  have hb := B.bytes
  have hr := B.returns
  have hts := atoms_spec (ws := wsX2_isZero) B.pre
  have hown : s.vm.findClass RX2 = some m.cls := findClass_of_methodNamed B.named
  have hlocks := B.notSynchronized
  have hl := lv_entry ([.int a0, .long a1]) (n := 3) (Nat.le_of_ble_eq_true rfl)
  rw [lg_entry_eq]
  generalize (lg_sl ([.int a0, .long a1]) ++ List.replicate (3 - (lg_sl ([.int a0, .long a1])).length) Slot.unset).toArray = ls at hl ⊢
  have hl : lv_has ls 3 [(0, .int a0), (1, .long a1)] := hl
  refine lv_iload_n hx hb dX2_isZero_0 rfl (lv_at hl 0 rfl) ?_
  refine lv_lload_n hx hb dX2_isZero_1 rfl (lv_at hl 1 rfl) ?_
  refine vp_callSl ((va_runS (As := [.int a0, .long a1]) (rest := []) ⟨hx, hb, hml, hown, hts⟩ (met_X2_sizeOf l a0 a1) (va_cwS 2 hts gX2_isZero_X2_sizeOf rfl rfl rfl (by decide +kernel) ⟨Nat.le_of_ble_eq_true rfl, Nat.le_of_ble_eq_true rfl⟩) ⟨fun _ _ _ _ q => q, fun U hU hW => ⟨rfl, trivial⟩⟩ rfl rfl hl.1 rfl (lv_room (Nat.le_of_ble_eq_true rfl)) dX2_isZero_2 ⟨Nat.le_of_ble_eq_true rfl, Nat.le_of_ble_eq_true rfl⟩).run) (fun r hw => ?_)
  subst hw
  refine lv_lconst (v := 0) hx hb dX2_isZero_5 (by decide) ?_
  refine W.lcmp hx hb dX2_isZero_6 ?_
  refine lv_if_ne (tgt := 14) hx hb dX2_isZero_7 (by decide) (fun c_1 => ?_) (fun c_1 => ?_)
  · refine lv_iconst (v := 0) hx hb dX2_isZero_14 (by decide) ?_
    exact W.zret hx hb hr (by decide) (fun t ht hW => ⟨_, rfl, (congrArg bI (show fX2_isZero a0 a1 = false from by simp only [fX2_isZero, if_neg c_1])).symm, ht⟩) (fun q hq => absurd hq List.not_mem_nil) dX2_isZero_15
  · refine lv_iconst (v := 1) hx hb dX2_isZero_10 (by decide) ?_
    refine lv_goto (tgt := 15) hx hb dX2_isZero_11 (by decide) ?_
    exact W.zret hx hb hr (by decide) (fun t ht hW => ⟨_, rfl, (congrArg bI (show fX2_isZero a0 a1 = true from by simp only [fX2_isZero, if_pos c_1])).symm, ht⟩) (fun q hq => absurd hq List.not_mem_nil) dX2_isZero_15

def fX2_isVoid (a0 : Int32) (a1 : Int32) (a2 : Int64) (a3 : Int64) : Bool := if (lg_cmp (a2 ^^^ a3) 0) < 0 then (if a1 = 0 then (if (fX2_isEndless a0 a2) = true then (if (fX2_isEndless a0 a3) = true then true else false) else false) else (if a1 = 1 then (if (fX2_isEndless a0 a2) = true then (if (fX2_isEndless a0 a3) = true then false else false) else false) else (if a1 = 2 then (if (fX2_isZero a0 a2) = true then (if (fX2_isEndless a0 a3) = true then true else (if (fX2_isEndless a0 a2) = true then (if (fX2_isZero a0 a3) = true then true else false) else false)) else (if (fX2_isEndless a0 a2) = true then (if (fX2_isZero a0 a3) = true then true else false) else false)) else (if a1 = 3 then (if (fX2_isZero a0 a2) = true then (if (fX2_isZero a0 a3) = true then true else (if (fX2_isEndless a0 a2) = true then (if (fX2_isEndless a0 a3) = true then true else false) else false)) else (if (fX2_isEndless a0 a2) = true then (if (fX2_isEndless a0 a3) = true then true else false) else false)) else (if (fX2_isZero a0 a3) = true then true else (if (fX2_isEndless a0 a2) = true then true else false)))))) else (if a1 = 0 then (if (fX2_isEndless a0 a2) = true then (if (fX2_isEndless a0 a3) = true then false else false) else false) else (if a1 = 1 then (if (fX2_isEndless a0 a2) = true then (if (fX2_isEndless a0 a3) = true then true else false) else false) else (if a1 = 2 then (if (fX2_isZero a0 a2) = true then (if (fX2_isEndless a0 a3) = true then true else (if (fX2_isEndless a0 a2) = true then (if (fX2_isZero a0 a3) = true then true else false) else false)) else (if (fX2_isEndless a0 a2) = true then (if (fX2_isZero a0 a3) = true then true else false) else false)) else (if a1 = 3 then (if (fX2_isZero a0 a2) = true then (if (fX2_isZero a0 a3) = true then true else (if (fX2_isEndless a0 a2) = true then (if (fX2_isEndless a0 a3) = true then true else false) else false)) else (if (fX2_isEndless a0 a2) = true then (if (fX2_isEndless a0 a3) = true then true else false) else false)) else (if (fX2_isZero a0 a3) = true then true else (if (fX2_isEndless a0 a2) = true then true else false))))))
set_option maxHeartbeats 4000000 in
set_option maxRecDepth 100000 in
theorem met_X2_isVoid (l : Launch) (a0 : Int32) (a1 : Int32) (a2 : Int64) (a3 : Int64) : Met l yX2_isVoid wsX2_isVoid ({ frames := 3, cells := 0, slots := 0, locals := 64 }) (va_Pc [.int a0, .int a1, .long a2, .long a3] (fun _ => True)) (vp_Si (fun r => r = bI (fX2_isVoid a0 a1 a2 a3))) 0 0 (fun _ => False) := by
  refine Met.ofW (cc := cX2_isVoid) (maxL := 9) (ret := (some .boolean)) (by decide) rfl ?_
  intro p e s m args below meth c s₁ B hml hv
  obtain ⟨rfl, -⟩ := hv
  have hx := B.exec
  have hb := B.bytes
  have hr := B.returns
  have hts := atoms_spec (ws := wsX2_isVoid) B.pre
  have hown : s.vm.findClass RX2 = some m.cls := findClass_of_methodNamed B.named
  have hlocks := B.notSynchronized
  have hl := lv_entry ([.int a0, .int a1, .long a2, .long a3]) (n := 9) (Nat.le_of_ble_eq_true rfl)
  rw [lg_entry_eq]
  generalize (lg_sl ([.int a0, .int a1, .long a2, .long a3]) ++ List.replicate (9 - (lg_sl ([.int a0, .int a1, .long a2, .long a3])).length) Slot.unset).toArray = ls at hl ⊢
  have hl : lv_has ls 9 [(0, .int a0), (1, .int a1), (2, .long a2), (4, .long a3)] := hl
  refine lv_iload_n hx hb dX2_isVoid_0 rfl (lv_at hl 0 rfl) ?_
  refine lv_lload_n hx hb dX2_isVoid_1 rfl (lv_at hl 2 rfl) ?_
  refine vp_callSi ((va_runS (As := [.int a0, .long a2]) (rest := []) ⟨hx, hb, hml, hown, hts⟩ (met_X2_isEndless l a0 a2) (va_cwS 2 hts gX2_isVoid_X2_isEndless rfl rfl rfl (by decide +kernel) ⟨Nat.le_of_ble_eq_true rfl, Nat.le_of_ble_eq_true rfl⟩) ⟨fun _ _ _ _ q => q, fun U hU hW => ⟨rfl, trivial⟩⟩ rfl rfl hl.1 rfl (lv_room (Nat.le_of_ble_eq_true rfl)) dX2_isVoid_2 ⟨Nat.le_of_ble_eq_true rfl, Nat.le_of_ble_eq_true rfl⟩).run) (fun r hw => ?_)
  subst hw
  refine lv_istore (lv' := [(6, .int (bI (fX2_isEndless a0 a2))), (0, .int a0), (1, .int a1), (2, .long a2), (4, .long a3)]) hx hb dX2_isVoid_5 hl (by decide) rfl (fun ls hl => ?_)
  refine lv_iload_n hx hb dX2_isVoid_7 rfl (lv_at hl 1 rfl) ?_
  refine lv_lload hx hb dX2_isVoid_8 (lv_at hl 4 rfl) ?_
  refine vp_callSi ((va_runS (As := [.int a0, .long a3]) (rest := []) ⟨hx, hb, hml, hown, hts⟩ (met_X2_isEndless l a0 a3) (va_cwS 2 hts gX2_isVoid_X2_isEndless rfl rfl rfl (by decide +kernel) ⟨Nat.le_of_ble_eq_true rfl, Nat.le_of_ble_eq_true rfl⟩) ⟨fun _ _ _ _ q => q, fun U hU hW => ⟨rfl, trivial⟩⟩ rfl rfl hl.1 rfl (lv_room (Nat.le_of_ble_eq_true rfl)) dX2_isVoid_10 ⟨Nat.le_of_ble_eq_true rfl, Nat.le_of_ble_eq_true rfl⟩).run) (fun r hw => ?_)
  subst hw
  refine lv_istore (lv' := [(7, .int (bI (fX2_isEndless a0 a3))), (6, .int (bI (fX2_isEndless a0 a2))), (0, .int a0), (1, .int a1), (2, .long a2), (4, .long a3)]) hx hb dX2_isVoid_13 hl (by decide) rfl (fun ls hl => ?_)
  refine lv_lload_n hx hb dX2_isVoid_15 rfl (lv_at hl 4 rfl) ?_
  refine lv_lload hx hb dX2_isVoid_16 (lv_at hl 5 rfl) ?_
  refine lv_lxor hx hb dX2_isVoid_18 ?_
  refine lv_lconst (v := 0) hx hb dX2_isVoid_19 (by decide) ?_
  refine W.lcmp hx hb dX2_isVoid_20 ?_
  refine lv_if_lt (tgt := 28) hx hb dX2_isVoid_21 (by decide) (fun c_1 => ?_) (fun c_1 => ?_)
  · refine lv_iconst (v := 0) hx hb dX2_isVoid_28 (by decide) ?_
    refine lv_istore (lv' := [(8, .int 0), (7, .int (bI (fX2_isEndless a0 a3))), (6, .int (bI (fX2_isEndless a0 a2))), (0, .int a0), (1, .int a1), (2, .long a2), (4, .long a3)]) hx hb dX2_isVoid_29 hl (by decide) rfl (fun ls hl => ?_)
    refine lv_iload_n hx hb dX2_isVoid_31 rfl (lv_at hl 4 rfl) ?_
    rcases Decidable.em (a1 = 0) with c_2 | c_2
    · refine lv_tableIn (x := a1) (off := 32) (tgt := 64) hx hb dX2_isVoid_32 (by rw [c_2]; decide) (by rw [c_2]; decide) (by rw [c_2]; rfl) (by decide) ?_
      refine lv_iload hx hb dX2_isVoid_64 (lv_at hl 2 rfl) ?_
      refine lv_if_eq (tgt := 83) hx hb dX2_isVoid_66 (by decide) (fun c_3 => ?_) (fun c_3 => ?_)
      · replace c_3 := bI_eq c_3
        refine lv_iconst (v := 0) hx hb dX2_isVoid_83 (by decide) ?_
        exact W.zret hx hb hr (by decide) (fun t ht hW => ⟨_, rfl, (congrArg bI (show fX2_isVoid a0 a1 a2 a3 = false from by simp only [fX2_isVoid, if_pos c_1, if_pos c_2, if_neg c_3])).symm, ht⟩) (fun q hq => absurd hq List.not_mem_nil) dX2_isVoid_84
      · replace c_3 := bI_ne c_3
        refine lv_iload hx hb dX2_isVoid_69 (lv_at hl 1 rfl) ?_
        refine lv_if_eq (tgt := 83) hx hb dX2_isVoid_71 (by decide) (fun c_4 => ?_) (fun c_4 => ?_)
        · replace c_4 := bI_eq c_4
          refine lv_iconst (v := 0) hx hb dX2_isVoid_83 (by decide) ?_
          exact W.zret hx hb hr (by decide) (fun t ht hW => ⟨_, rfl, (congrArg bI (show fX2_isVoid a0 a1 a2 a3 = false from by simp only [fX2_isVoid, if_pos c_1, if_pos c_2, if_pos c_3, if_neg c_4])).symm, ht⟩) (fun q hq => absurd hq List.not_mem_nil) dX2_isVoid_84
        · replace c_4 := bI_ne c_4
          refine lv_iload hx hb dX2_isVoid_74 (lv_at hl 0 rfl) ?_
          refine lv_if_ne (tgt := 83) hx hb dX2_isVoid_76 (by decide) (fun h0 => absurd (by decide) h0) (fun _ => ?_)
          refine lv_iconst (v := 1) hx hb dX2_isVoid_79 (by decide) ?_
          refine lv_goto (tgt := 84) hx hb dX2_isVoid_80 (by decide) ?_
          exact W.zret hx hb hr (by decide) (fun t ht hW => ⟨_, rfl, (congrArg bI (show fX2_isVoid a0 a1 a2 a3 = true from by simp only [fX2_isVoid, if_pos c_1, if_pos c_2, if_pos c_3, if_pos c_4])).symm, ht⟩) (fun q hq => absurd hq List.not_mem_nil) dX2_isVoid_84
    rcases Decidable.em (a1 = 1) with c_5 | c_5
    · refine lv_tableIn (x := a1) (off := 53) (tgt := 85) hx hb dX2_isVoid_32 (by rw [c_5]; decide) (by rw [c_5]; decide) (by rw [c_5]; rfl) (by decide) ?_
      refine lv_iload hx hb dX2_isVoid_85 (lv_at hl 2 rfl) ?_
      refine lv_if_eq (tgt := 104) hx hb dX2_isVoid_87 (by decide) (fun c_6 => ?_) (fun c_6 => ?_)
      · replace c_6 := bI_eq c_6
        refine lv_iconst (v := 0) hx hb dX2_isVoid_104 (by decide) ?_
        exact W.zret hx hb hr (by decide) (fun t ht hW => ⟨_, rfl, (congrArg bI (show fX2_isVoid a0 a1 a2 a3 = false from by simp only [fX2_isVoid, if_pos c_1, if_neg c_2, if_pos c_5, if_neg c_6])).symm, ht⟩) (fun q hq => absurd hq List.not_mem_nil) dX2_isVoid_105
      · replace c_6 := bI_ne c_6
        refine lv_iload hx hb dX2_isVoid_90 (lv_at hl 1 rfl) ?_
        refine lv_if_eq (tgt := 104) hx hb dX2_isVoid_92 (by decide) (fun c_7 => ?_) (fun c_7 => ?_)
        · replace c_7 := bI_eq c_7
          refine lv_iconst (v := 0) hx hb dX2_isVoid_104 (by decide) ?_
          exact W.zret hx hb hr (by decide) (fun t ht hW => ⟨_, rfl, (congrArg bI (show fX2_isVoid a0 a1 a2 a3 = false from by simp only [fX2_isVoid, if_pos c_1, if_neg c_2, if_pos c_5, if_pos c_6, if_neg c_7])).symm, ht⟩) (fun q hq => absurd hq List.not_mem_nil) dX2_isVoid_105
        · replace c_7 := bI_ne c_7
          refine lv_iload hx hb dX2_isVoid_95 (lv_at hl 0 rfl) ?_
          refine lv_if_eq (tgt := 104) hx hb dX2_isVoid_97 (by decide) (fun _ => ?_) (fun h0 => absurd (by decide) h0)
          refine lv_iconst (v := 0) hx hb dX2_isVoid_104 (by decide) ?_
          exact W.zret hx hb hr (by decide) (fun t ht hW => ⟨_, rfl, (congrArg bI (show fX2_isVoid a0 a1 a2 a3 = false from by simp only [fX2_isVoid, if_pos c_1, if_neg c_2, if_pos c_5, if_pos c_6, if_pos c_7])).symm, ht⟩) (fun q hq => absurd hq List.not_mem_nil) dX2_isVoid_105
    rcases Decidable.em (a1 = 2) with c_8 | c_8
    · refine lv_tableIn (x := a1) (off := 74) (tgt := 106) hx hb dX2_isVoid_32 (by rw [c_8]; decide) (by rw [c_8]; decide) (by rw [c_8]; rfl) (by decide) ?_
      refine lv_iload_n hx hb dX2_isVoid_106 rfl (lv_at hl 3 rfl) ?_
      refine lv_lload_n hx hb dX2_isVoid_107 rfl (lv_at hl 5 rfl) ?_
      refine vp_callSi ((va_runS (As := [.int a0, .long a2]) (rest := []) ⟨hx, hb, hml, hown, hts⟩ (met_X2_isZero l a0 a2) (va_cwS 2 hts gX2_isVoid_X2_isZero rfl rfl rfl (by decide +kernel) ⟨Nat.le_of_ble_eq_true rfl, Nat.le_of_ble_eq_true rfl⟩) ⟨fun _ _ _ _ q => q, fun U hU hW => ⟨rfl, trivial⟩⟩ rfl rfl hl.1 rfl (lv_room (Nat.le_of_ble_eq_true rfl)) dX2_isVoid_108 ⟨Nat.le_of_ble_eq_true rfl, Nat.le_of_ble_eq_true rfl⟩).run) (fun r hw => ?_)
      subst hw
      refine lv_if_eq (tgt := 119) hx hb dX2_isVoid_111 (by decide) (fun c_9 => ?_) (fun c_9 => ?_)
      · replace c_9 := bI_eq c_9
        refine lv_iload hx hb dX2_isVoid_119 (lv_at hl 2 rfl) ?_
        refine lv_if_eq (tgt := 137) hx hb dX2_isVoid_121 (by decide) (fun c_10 => ?_) (fun c_10 => ?_)
        · replace c_10 := bI_eq c_10
          refine lv_iconst (v := 0) hx hb dX2_isVoid_137 (by decide) ?_
          exact W.zret hx hb hr (by decide) (fun t ht hW => ⟨_, rfl, (congrArg bI (show fX2_isVoid a0 a1 a2 a3 = false from by simp only [fX2_isVoid, if_pos c_1, if_neg c_2, if_neg c_5, if_pos c_8, if_neg c_9, if_neg c_10])).symm, ht⟩) (fun q hq => absurd hq List.not_mem_nil) dX2_isVoid_138
        · replace c_10 := bI_ne c_10
          refine lv_iload_n hx hb dX2_isVoid_124 rfl (lv_at hl 3 rfl) ?_
          refine lv_lload hx hb dX2_isVoid_125 (lv_at hl 6 rfl) ?_
          refine vp_callSi ((va_runS (As := [.int a0, .long a3]) (rest := []) ⟨hx, hb, hml, hown, hts⟩ (met_X2_isZero l a0 a3) (va_cwS 2 hts gX2_isVoid_X2_isZero rfl rfl rfl (by decide +kernel) ⟨Nat.le_of_ble_eq_true rfl, Nat.le_of_ble_eq_true rfl⟩) ⟨fun _ _ _ _ q => q, fun U hU hW => ⟨rfl, trivial⟩⟩ rfl rfl hl.1 rfl (lv_room (Nat.le_of_ble_eq_true rfl)) dX2_isVoid_127 ⟨Nat.le_of_ble_eq_true rfl, Nat.le_of_ble_eq_true rfl⟩).run) (fun r hw => ?_)
          subst hw
          refine lv_if_eq (tgt := 137) hx hb dX2_isVoid_130 (by decide) (fun c_11 => ?_) (fun c_11 => ?_)
          · replace c_11 := bI_eq c_11
            refine lv_iconst (v := 0) hx hb dX2_isVoid_137 (by decide) ?_
            exact W.zret hx hb hr (by decide) (fun t ht hW => ⟨_, rfl, (congrArg bI (show fX2_isVoid a0 a1 a2 a3 = false from by simp only [fX2_isVoid, if_pos c_1, if_neg c_2, if_neg c_5, if_pos c_8, if_neg c_9, if_pos c_10, if_neg c_11])).symm, ht⟩) (fun q hq => absurd hq List.not_mem_nil) dX2_isVoid_138
          · replace c_11 := bI_ne c_11
            refine lv_iconst (v := 1) hx hb dX2_isVoid_133 (by decide) ?_
            refine lv_goto (tgt := 138) hx hb dX2_isVoid_134 (by decide) ?_
            exact W.zret hx hb hr (by decide) (fun t ht hW => ⟨_, rfl, (congrArg bI (show fX2_isVoid a0 a1 a2 a3 = true from by simp only [fX2_isVoid, if_pos c_1, if_neg c_2, if_neg c_5, if_pos c_8, if_neg c_9, if_pos c_10, if_pos c_11])).symm, ht⟩) (fun q hq => absurd hq List.not_mem_nil) dX2_isVoid_138
      · replace c_9 := bI_ne c_9
        refine lv_iload hx hb dX2_isVoid_114 (lv_at hl 1 rfl) ?_
        refine lv_if_ne (tgt := 133) hx hb dX2_isVoid_116 (by decide) (fun c_12 => ?_) (fun c_12 => ?_)
        · replace c_12 := bI_ne c_12
          refine lv_iconst (v := 1) hx hb dX2_isVoid_133 (by decide) ?_
          refine lv_goto (tgt := 138) hx hb dX2_isVoid_134 (by decide) ?_
          exact W.zret hx hb hr (by decide) (fun t ht hW => ⟨_, rfl, (congrArg bI (show fX2_isVoid a0 a1 a2 a3 = true from by simp only [fX2_isVoid, if_pos c_1, if_neg c_2, if_neg c_5, if_pos c_8, if_pos c_9, if_pos c_12])).symm, ht⟩) (fun q hq => absurd hq List.not_mem_nil) dX2_isVoid_138
        · replace c_12 := bI_eq c_12
          refine lv_iload hx hb dX2_isVoid_119 (lv_at hl 2 rfl) ?_
          refine lv_if_eq (tgt := 137) hx hb dX2_isVoid_121 (by decide) (fun c_13 => ?_) (fun c_13 => ?_)
          · replace c_13 := bI_eq c_13
            refine lv_iconst (v := 0) hx hb dX2_isVoid_137 (by decide) ?_
            exact W.zret hx hb hr (by decide) (fun t ht hW => ⟨_, rfl, (congrArg bI (show fX2_isVoid a0 a1 a2 a3 = false from by simp only [fX2_isVoid, if_pos c_1, if_neg c_2, if_neg c_5, if_pos c_8, if_pos c_9, if_neg c_12, if_neg c_13])).symm, ht⟩) (fun q hq => absurd hq List.not_mem_nil) dX2_isVoid_138
          · replace c_13 := bI_ne c_13
            refine lv_iload_n hx hb dX2_isVoid_124 rfl (lv_at hl 3 rfl) ?_
            refine lv_lload hx hb dX2_isVoid_125 (lv_at hl 6 rfl) ?_
            refine vp_callSi ((va_runS (As := [.int a0, .long a3]) (rest := []) ⟨hx, hb, hml, hown, hts⟩ (met_X2_isZero l a0 a3) (va_cwS 2 hts gX2_isVoid_X2_isZero rfl rfl rfl (by decide +kernel) ⟨Nat.le_of_ble_eq_true rfl, Nat.le_of_ble_eq_true rfl⟩) ⟨fun _ _ _ _ q => q, fun U hU hW => ⟨rfl, trivial⟩⟩ rfl rfl hl.1 rfl (lv_room (Nat.le_of_ble_eq_true rfl)) dX2_isVoid_127 ⟨Nat.le_of_ble_eq_true rfl, Nat.le_of_ble_eq_true rfl⟩).run) (fun r hw => ?_)
            subst hw
            refine lv_if_eq (tgt := 137) hx hb dX2_isVoid_130 (by decide) (fun c_14 => ?_) (fun c_14 => ?_)
            · replace c_14 := bI_eq c_14
              refine lv_iconst (v := 0) hx hb dX2_isVoid_137 (by decide) ?_
              exact W.zret hx hb hr (by decide) (fun t ht hW => ⟨_, rfl, (congrArg bI (show fX2_isVoid a0 a1 a2 a3 = false from by simp only [fX2_isVoid, if_pos c_1, if_neg c_2, if_neg c_5, if_pos c_8, if_pos c_9, if_neg c_12, if_pos c_13, if_neg c_14])).symm, ht⟩) (fun q hq => absurd hq List.not_mem_nil) dX2_isVoid_138
            · replace c_14 := bI_ne c_14
              refine lv_iconst (v := 1) hx hb dX2_isVoid_133 (by decide) ?_
              refine lv_goto (tgt := 138) hx hb dX2_isVoid_134 (by decide) ?_
              exact W.zret hx hb hr (by decide) (fun t ht hW => ⟨_, rfl, (congrArg bI (show fX2_isVoid a0 a1 a2 a3 = true from by simp only [fX2_isVoid, if_pos c_1, if_neg c_2, if_neg c_5, if_pos c_8, if_pos c_9, if_neg c_12, if_pos c_13, if_pos c_14])).symm, ht⟩) (fun q hq => absurd hq List.not_mem_nil) dX2_isVoid_138
    rcases Decidable.em (a1 = 3) with c_15 | c_15
    · refine lv_tableIn (x := a1) (off := 107) (tgt := 139) hx hb dX2_isVoid_32 (by rw [c_15]; decide) (by rw [c_15]; decide) (by rw [c_15]; rfl) (by decide) ?_
      refine lv_iload_n hx hb dX2_isVoid_139 rfl (lv_at hl 3 rfl) ?_
      refine lv_lload_n hx hb dX2_isVoid_140 rfl (lv_at hl 5 rfl) ?_
      refine vp_callSi ((va_runS (As := [.int a0, .long a2]) (rest := []) ⟨hx, hb, hml, hown, hts⟩ (met_X2_isZero l a0 a2) (va_cwS 2 hts gX2_isVoid_X2_isZero rfl rfl rfl (by decide +kernel) ⟨Nat.le_of_ble_eq_true rfl, Nat.le_of_ble_eq_true rfl⟩) ⟨fun _ _ _ _ q => q, fun U hU hW => ⟨rfl, trivial⟩⟩ rfl rfl hl.1 rfl (lv_room (Nat.le_of_ble_eq_true rfl)) dX2_isVoid_141 ⟨Nat.le_of_ble_eq_true rfl, Nat.le_of_ble_eq_true rfl⟩).run) (fun r hw => ?_)
      subst hw
      refine lv_if_eq (tgt := 156) hx hb dX2_isVoid_144 (by decide) (fun c_16 => ?_) (fun c_16 => ?_)
      · replace c_16 := bI_eq c_16
        refine lv_iload hx hb dX2_isVoid_156 (lv_at hl 2 rfl) ?_
        refine lv_if_eq (tgt := 170) hx hb dX2_isVoid_158 (by decide) (fun c_17 => ?_) (fun c_17 => ?_)
        · replace c_17 := bI_eq c_17
          refine lv_iconst (v := 0) hx hb dX2_isVoid_170 (by decide) ?_
          exact W.zret hx hb hr (by decide) (fun t ht hW => ⟨_, rfl, (congrArg bI (show fX2_isVoid a0 a1 a2 a3 = false from by simp only [fX2_isVoid, if_pos c_1, if_neg c_2, if_neg c_5, if_neg c_8, if_pos c_15, if_neg c_16, if_neg c_17])).symm, ht⟩) (fun q hq => absurd hq List.not_mem_nil) dX2_isVoid_171
        · replace c_17 := bI_ne c_17
          refine lv_iload hx hb dX2_isVoid_161 (lv_at hl 1 rfl) ?_
          refine lv_if_eq (tgt := 170) hx hb dX2_isVoid_163 (by decide) (fun c_18 => ?_) (fun c_18 => ?_)
          · replace c_18 := bI_eq c_18
            refine lv_iconst (v := 0) hx hb dX2_isVoid_170 (by decide) ?_
            exact W.zret hx hb hr (by decide) (fun t ht hW => ⟨_, rfl, (congrArg bI (show fX2_isVoid a0 a1 a2 a3 = false from by simp only [fX2_isVoid, if_pos c_1, if_neg c_2, if_neg c_5, if_neg c_8, if_pos c_15, if_neg c_16, if_pos c_17, if_neg c_18])).symm, ht⟩) (fun q hq => absurd hq List.not_mem_nil) dX2_isVoid_171
          · replace c_18 := bI_ne c_18
            refine lv_iconst (v := 1) hx hb dX2_isVoid_166 (by decide) ?_
            refine lv_goto (tgt := 171) hx hb dX2_isVoid_167 (by decide) ?_
            exact W.zret hx hb hr (by decide) (fun t ht hW => ⟨_, rfl, (congrArg bI (show fX2_isVoid a0 a1 a2 a3 = true from by simp only [fX2_isVoid, if_pos c_1, if_neg c_2, if_neg c_5, if_neg c_8, if_pos c_15, if_neg c_16, if_pos c_17, if_pos c_18])).symm, ht⟩) (fun q hq => absurd hq List.not_mem_nil) dX2_isVoid_171
      · replace c_16 := bI_ne c_16
        refine lv_iload_n hx hb dX2_isVoid_147 rfl (lv_at hl 3 rfl) ?_
        refine lv_lload hx hb dX2_isVoid_148 (lv_at hl 6 rfl) ?_
        refine vp_callSi ((va_runS (As := [.int a0, .long a3]) (rest := []) ⟨hx, hb, hml, hown, hts⟩ (met_X2_isZero l a0 a3) (va_cwS 2 hts gX2_isVoid_X2_isZero rfl rfl rfl (by decide +kernel) ⟨Nat.le_of_ble_eq_true rfl, Nat.le_of_ble_eq_true rfl⟩) ⟨fun _ _ _ _ q => q, fun U hU hW => ⟨rfl, trivial⟩⟩ rfl rfl hl.1 rfl (lv_room (Nat.le_of_ble_eq_true rfl)) dX2_isVoid_150 ⟨Nat.le_of_ble_eq_true rfl, Nat.le_of_ble_eq_true rfl⟩).run) (fun r hw => ?_)
        subst hw
        refine lv_if_ne (tgt := 166) hx hb dX2_isVoid_153 (by decide) (fun c_19 => ?_) (fun c_19 => ?_)
        · replace c_19 := bI_ne c_19
          refine lv_iconst (v := 1) hx hb dX2_isVoid_166 (by decide) ?_
          refine lv_goto (tgt := 171) hx hb dX2_isVoid_167 (by decide) ?_
          exact W.zret hx hb hr (by decide) (fun t ht hW => ⟨_, rfl, (congrArg bI (show fX2_isVoid a0 a1 a2 a3 = true from by simp only [fX2_isVoid, if_pos c_1, if_neg c_2, if_neg c_5, if_neg c_8, if_pos c_15, if_pos c_16, if_pos c_19])).symm, ht⟩) (fun q hq => absurd hq List.not_mem_nil) dX2_isVoid_171
        · replace c_19 := bI_eq c_19
          refine lv_iload hx hb dX2_isVoid_156 (lv_at hl 2 rfl) ?_
          refine lv_if_eq (tgt := 170) hx hb dX2_isVoid_158 (by decide) (fun c_20 => ?_) (fun c_20 => ?_)
          · replace c_20 := bI_eq c_20
            refine lv_iconst (v := 0) hx hb dX2_isVoid_170 (by decide) ?_
            exact W.zret hx hb hr (by decide) (fun t ht hW => ⟨_, rfl, (congrArg bI (show fX2_isVoid a0 a1 a2 a3 = false from by simp only [fX2_isVoid, if_pos c_1, if_neg c_2, if_neg c_5, if_neg c_8, if_pos c_15, if_pos c_16, if_neg c_19, if_neg c_20])).symm, ht⟩) (fun q hq => absurd hq List.not_mem_nil) dX2_isVoid_171
          · replace c_20 := bI_ne c_20
            refine lv_iload hx hb dX2_isVoid_161 (lv_at hl 1 rfl) ?_
            refine lv_if_eq (tgt := 170) hx hb dX2_isVoid_163 (by decide) (fun c_21 => ?_) (fun c_21 => ?_)
            · replace c_21 := bI_eq c_21
              refine lv_iconst (v := 0) hx hb dX2_isVoid_170 (by decide) ?_
              exact W.zret hx hb hr (by decide) (fun t ht hW => ⟨_, rfl, (congrArg bI (show fX2_isVoid a0 a1 a2 a3 = false from by simp only [fX2_isVoid, if_pos c_1, if_neg c_2, if_neg c_5, if_neg c_8, if_pos c_15, if_pos c_16, if_neg c_19, if_pos c_20, if_neg c_21])).symm, ht⟩) (fun q hq => absurd hq List.not_mem_nil) dX2_isVoid_171
            · replace c_21 := bI_ne c_21
              refine lv_iconst (v := 1) hx hb dX2_isVoid_166 (by decide) ?_
              refine lv_goto (tgt := 171) hx hb dX2_isVoid_167 (by decide) ?_
              exact W.zret hx hb hr (by decide) (fun t ht hW => ⟨_, rfl, (congrArg bI (show fX2_isVoid a0 a1 a2 a3 = true from by simp only [fX2_isVoid, if_pos c_1, if_neg c_2, if_neg c_5, if_neg c_8, if_pos c_15, if_pos c_16, if_neg c_19, if_pos c_20, if_pos c_21])).symm, ht⟩) (fun q hq => absurd hq List.not_mem_nil) dX2_isVoid_171
    refine lv_tableOut (tgt := 172) hx hb dX2_isVoid_32 (sw_out3 c_2 c_5 c_8 c_15) (by decide) ?_
    refine lv_iload_n hx hb dX2_isVoid_172 rfl (lv_at hl 3 rfl) ?_
    refine lv_lload hx hb dX2_isVoid_173 (lv_at hl 6 rfl) ?_
    refine vp_callSi ((va_runS (As := [.int a0, .long a3]) (rest := []) ⟨hx, hb, hml, hown, hts⟩ (met_X2_isZero l a0 a3) (va_cwS 2 hts gX2_isVoid_X2_isZero rfl rfl rfl (by decide +kernel) ⟨Nat.le_of_ble_eq_true rfl, Nat.le_of_ble_eq_true rfl⟩) ⟨fun _ _ _ _ q => q, fun U hU hW => ⟨rfl, trivial⟩⟩ rfl rfl hl.1 rfl (lv_room (Nat.le_of_ble_eq_true rfl)) dX2_isVoid_175 ⟨Nat.le_of_ble_eq_true rfl, Nat.le_of_ble_eq_true rfl⟩).run) (fun r hw => ?_)
    subst hw
    refine lv_if_ne (tgt := 186) hx hb dX2_isVoid_178 (by decide) (fun c_22 => ?_) (fun c_22 => ?_)
    · replace c_22 := bI_ne c_22
      refine lv_iconst (v := 1) hx hb dX2_isVoid_186 (by decide) ?_
      refine lv_goto (tgt := 191) hx hb dX2_isVoid_187 (by decide) ?_
      exact W.zret hx hb hr (by decide) (fun t ht hW => ⟨_, rfl, (congrArg bI (show fX2_isVoid a0 a1 a2 a3 = true from by simp only [fX2_isVoid, if_pos c_1, if_neg c_2, if_neg c_5, if_neg c_8, if_neg c_15, if_pos c_22])).symm, ht⟩) (fun q hq => absurd hq List.not_mem_nil) dX2_isVoid_191
    · replace c_22 := bI_eq c_22
      refine lv_iload hx hb dX2_isVoid_181 (lv_at hl 2 rfl) ?_
      refine lv_if_eq (tgt := 190) hx hb dX2_isVoid_183 (by decide) (fun c_23 => ?_) (fun c_23 => ?_)
      · replace c_23 := bI_eq c_23
        refine lv_iconst (v := 0) hx hb dX2_isVoid_190 (by decide) ?_
        exact W.zret hx hb hr (by decide) (fun t ht hW => ⟨_, rfl, (congrArg bI (show fX2_isVoid a0 a1 a2 a3 = false from by simp only [fX2_isVoid, if_pos c_1, if_neg c_2, if_neg c_5, if_neg c_8, if_neg c_15, if_neg c_22, if_neg c_23])).symm, ht⟩) (fun q hq => absurd hq List.not_mem_nil) dX2_isVoid_191
      · replace c_23 := bI_ne c_23
        refine lv_iconst (v := 1) hx hb dX2_isVoid_186 (by decide) ?_
        refine lv_goto (tgt := 191) hx hb dX2_isVoid_187 (by decide) ?_
        exact W.zret hx hb hr (by decide) (fun t ht hW => ⟨_, rfl, (congrArg bI (show fX2_isVoid a0 a1 a2 a3 = true from by simp only [fX2_isVoid, if_pos c_1, if_neg c_2, if_neg c_5, if_neg c_8, if_neg c_15, if_neg c_22, if_pos c_23])).symm, ht⟩) (fun q hq => absurd hq List.not_mem_nil) dX2_isVoid_191
  · refine lv_iconst (v := 1) hx hb dX2_isVoid_24 (by decide) ?_
    refine lv_goto (tgt := 29) hx hb dX2_isVoid_25 (by decide) ?_
    refine lv_istore (lv' := [(8, .int 1), (7, .int (bI (fX2_isEndless a0 a3))), (6, .int (bI (fX2_isEndless a0 a2))), (0, .int a0), (1, .int a1), (2, .long a2), (4, .long a3)]) hx hb dX2_isVoid_29 hl (by decide) rfl (fun ls hl => ?_)
    refine lv_iload_n hx hb dX2_isVoid_31 rfl (lv_at hl 4 rfl) ?_
    rcases Decidable.em (a1 = 0) with c_24 | c_24
    · refine lv_tableIn (x := a1) (off := 32) (tgt := 64) hx hb dX2_isVoid_32 (by rw [c_24]; decide) (by rw [c_24]; decide) (by rw [c_24]; rfl) (by decide) ?_
      refine lv_iload hx hb dX2_isVoid_64 (lv_at hl 2 rfl) ?_
      refine lv_if_eq (tgt := 83) hx hb dX2_isVoid_66 (by decide) (fun c_25 => ?_) (fun c_25 => ?_)
      · replace c_25 := bI_eq c_25
        refine lv_iconst (v := 0) hx hb dX2_isVoid_83 (by decide) ?_
        exact W.zret hx hb hr (by decide) (fun t ht hW => ⟨_, rfl, (congrArg bI (show fX2_isVoid a0 a1 a2 a3 = false from by simp only [fX2_isVoid, if_neg c_1, if_pos c_24, if_neg c_25])).symm, ht⟩) (fun q hq => absurd hq List.not_mem_nil) dX2_isVoid_84
      · replace c_25 := bI_ne c_25
        refine lv_iload hx hb dX2_isVoid_69 (lv_at hl 1 rfl) ?_
        refine lv_if_eq (tgt := 83) hx hb dX2_isVoid_71 (by decide) (fun c_26 => ?_) (fun c_26 => ?_)
        · replace c_26 := bI_eq c_26
          refine lv_iconst (v := 0) hx hb dX2_isVoid_83 (by decide) ?_
          exact W.zret hx hb hr (by decide) (fun t ht hW => ⟨_, rfl, (congrArg bI (show fX2_isVoid a0 a1 a2 a3 = false from by simp only [fX2_isVoid, if_neg c_1, if_pos c_24, if_pos c_25, if_neg c_26])).symm, ht⟩) (fun q hq => absurd hq List.not_mem_nil) dX2_isVoid_84
        · replace c_26 := bI_ne c_26
          refine lv_iload hx hb dX2_isVoid_74 (lv_at hl 0 rfl) ?_
          refine lv_if_ne (tgt := 83) hx hb dX2_isVoid_76 (by decide) (fun _ => ?_) (fun h0 => absurd h0 (by decide))
          refine lv_iconst (v := 0) hx hb dX2_isVoid_83 (by decide) ?_
          exact W.zret hx hb hr (by decide) (fun t ht hW => ⟨_, rfl, (congrArg bI (show fX2_isVoid a0 a1 a2 a3 = false from by simp only [fX2_isVoid, if_neg c_1, if_pos c_24, if_pos c_25, if_pos c_26])).symm, ht⟩) (fun q hq => absurd hq List.not_mem_nil) dX2_isVoid_84
    rcases Decidable.em (a1 = 1) with c_27 | c_27
    · refine lv_tableIn (x := a1) (off := 53) (tgt := 85) hx hb dX2_isVoid_32 (by rw [c_27]; decide) (by rw [c_27]; decide) (by rw [c_27]; rfl) (by decide) ?_
      refine lv_iload hx hb dX2_isVoid_85 (lv_at hl 2 rfl) ?_
      refine lv_if_eq (tgt := 104) hx hb dX2_isVoid_87 (by decide) (fun c_28 => ?_) (fun c_28 => ?_)
      · replace c_28 := bI_eq c_28
        refine lv_iconst (v := 0) hx hb dX2_isVoid_104 (by decide) ?_
        exact W.zret hx hb hr (by decide) (fun t ht hW => ⟨_, rfl, (congrArg bI (show fX2_isVoid a0 a1 a2 a3 = false from by simp only [fX2_isVoid, if_neg c_1, if_neg c_24, if_pos c_27, if_neg c_28])).symm, ht⟩) (fun q hq => absurd hq List.not_mem_nil) dX2_isVoid_105
      · replace c_28 := bI_ne c_28
        refine lv_iload hx hb dX2_isVoid_90 (lv_at hl 1 rfl) ?_
        refine lv_if_eq (tgt := 104) hx hb dX2_isVoid_92 (by decide) (fun c_29 => ?_) (fun c_29 => ?_)
        · replace c_29 := bI_eq c_29
          refine lv_iconst (v := 0) hx hb dX2_isVoid_104 (by decide) ?_
          exact W.zret hx hb hr (by decide) (fun t ht hW => ⟨_, rfl, (congrArg bI (show fX2_isVoid a0 a1 a2 a3 = false from by simp only [fX2_isVoid, if_neg c_1, if_neg c_24, if_pos c_27, if_pos c_28, if_neg c_29])).symm, ht⟩) (fun q hq => absurd hq List.not_mem_nil) dX2_isVoid_105
        · replace c_29 := bI_ne c_29
          refine lv_iload hx hb dX2_isVoid_95 (lv_at hl 0 rfl) ?_
          refine lv_if_eq (tgt := 104) hx hb dX2_isVoid_97 (by decide) (fun h0 => absurd h0 (by decide)) (fun _ => ?_)
          refine lv_iconst (v := 1) hx hb dX2_isVoid_100 (by decide) ?_
          refine lv_goto (tgt := 105) hx hb dX2_isVoid_101 (by decide) ?_
          exact W.zret hx hb hr (by decide) (fun t ht hW => ⟨_, rfl, (congrArg bI (show fX2_isVoid a0 a1 a2 a3 = true from by simp only [fX2_isVoid, if_neg c_1, if_neg c_24, if_pos c_27, if_pos c_28, if_pos c_29])).symm, ht⟩) (fun q hq => absurd hq List.not_mem_nil) dX2_isVoid_105
    rcases Decidable.em (a1 = 2) with c_30 | c_30
    · refine lv_tableIn (x := a1) (off := 74) (tgt := 106) hx hb dX2_isVoid_32 (by rw [c_30]; decide) (by rw [c_30]; decide) (by rw [c_30]; rfl) (by decide) ?_
      refine lv_iload_n hx hb dX2_isVoid_106 rfl (lv_at hl 3 rfl) ?_
      refine lv_lload_n hx hb dX2_isVoid_107 rfl (lv_at hl 5 rfl) ?_
      refine vp_callSi ((va_runS (As := [.int a0, .long a2]) (rest := []) ⟨hx, hb, hml, hown, hts⟩ (met_X2_isZero l a0 a2) (va_cwS 2 hts gX2_isVoid_X2_isZero rfl rfl rfl (by decide +kernel) ⟨Nat.le_of_ble_eq_true rfl, Nat.le_of_ble_eq_true rfl⟩) ⟨fun _ _ _ _ q => q, fun U hU hW => ⟨rfl, trivial⟩⟩ rfl rfl hl.1 rfl (lv_room (Nat.le_of_ble_eq_true rfl)) dX2_isVoid_108 ⟨Nat.le_of_ble_eq_true rfl, Nat.le_of_ble_eq_true rfl⟩).run) (fun r hw => ?_)
      subst hw
      refine lv_if_eq (tgt := 119) hx hb dX2_isVoid_111 (by decide) (fun c_31 => ?_) (fun c_31 => ?_)
      · replace c_31 := bI_eq c_31
        refine lv_iload hx hb dX2_isVoid_119 (lv_at hl 2 rfl) ?_
        refine lv_if_eq (tgt := 137) hx hb dX2_isVoid_121 (by decide) (fun c_32 => ?_) (fun c_32 => ?_)
        · replace c_32 := bI_eq c_32
          refine lv_iconst (v := 0) hx hb dX2_isVoid_137 (by decide) ?_
          exact W.zret hx hb hr (by decide) (fun t ht hW => ⟨_, rfl, (congrArg bI (show fX2_isVoid a0 a1 a2 a3 = false from by simp only [fX2_isVoid, if_neg c_1, if_neg c_24, if_neg c_27, if_pos c_30, if_neg c_31, if_neg c_32])).symm, ht⟩) (fun q hq => absurd hq List.not_mem_nil) dX2_isVoid_138
        · replace c_32 := bI_ne c_32
          refine lv_iload_n hx hb dX2_isVoid_124 rfl (lv_at hl 3 rfl) ?_
          refine lv_lload hx hb dX2_isVoid_125 (lv_at hl 6 rfl) ?_
          refine vp_callSi ((va_runS (As := [.int a0, .long a3]) (rest := []) ⟨hx, hb, hml, hown, hts⟩ (met_X2_isZero l a0 a3) (va_cwS 2 hts gX2_isVoid_X2_isZero rfl rfl rfl (by decide +kernel) ⟨Nat.le_of_ble_eq_true rfl, Nat.le_of_ble_eq_true rfl⟩) ⟨fun _ _ _ _ q => q, fun U hU hW => ⟨rfl, trivial⟩⟩ rfl rfl hl.1 rfl (lv_room (Nat.le_of_ble_eq_true rfl)) dX2_isVoid_127 ⟨Nat.le_of_ble_eq_true rfl, Nat.le_of_ble_eq_true rfl⟩).run) (fun r hw => ?_)
          subst hw
          refine lv_if_eq (tgt := 137) hx hb dX2_isVoid_130 (by decide) (fun c_33 => ?_) (fun c_33 => ?_)
          · replace c_33 := bI_eq c_33
            refine lv_iconst (v := 0) hx hb dX2_isVoid_137 (by decide) ?_
            exact W.zret hx hb hr (by decide) (fun t ht hW => ⟨_, rfl, (congrArg bI (show fX2_isVoid a0 a1 a2 a3 = false from by simp only [fX2_isVoid, if_neg c_1, if_neg c_24, if_neg c_27, if_pos c_30, if_neg c_31, if_pos c_32, if_neg c_33])).symm, ht⟩) (fun q hq => absurd hq List.not_mem_nil) dX2_isVoid_138
          · replace c_33 := bI_ne c_33
            refine lv_iconst (v := 1) hx hb dX2_isVoid_133 (by decide) ?_
            refine lv_goto (tgt := 138) hx hb dX2_isVoid_134 (by decide) ?_
            exact W.zret hx hb hr (by decide) (fun t ht hW => ⟨_, rfl, (congrArg bI (show fX2_isVoid a0 a1 a2 a3 = true from by simp only [fX2_isVoid, if_neg c_1, if_neg c_24, if_neg c_27, if_pos c_30, if_neg c_31, if_pos c_32, if_pos c_33])).symm, ht⟩) (fun q hq => absurd hq List.not_mem_nil) dX2_isVoid_138
      · replace c_31 := bI_ne c_31
        refine lv_iload hx hb dX2_isVoid_114 (lv_at hl 1 rfl) ?_
        refine lv_if_ne (tgt := 133) hx hb dX2_isVoid_116 (by decide) (fun c_34 => ?_) (fun c_34 => ?_)
        · replace c_34 := bI_ne c_34
          refine lv_iconst (v := 1) hx hb dX2_isVoid_133 (by decide) ?_
          refine lv_goto (tgt := 138) hx hb dX2_isVoid_134 (by decide) ?_
          exact W.zret hx hb hr (by decide) (fun t ht hW => ⟨_, rfl, (congrArg bI (show fX2_isVoid a0 a1 a2 a3 = true from by simp only [fX2_isVoid, if_neg c_1, if_neg c_24, if_neg c_27, if_pos c_30, if_pos c_31, if_pos c_34])).symm, ht⟩) (fun q hq => absurd hq List.not_mem_nil) dX2_isVoid_138
        · replace c_34 := bI_eq c_34
          refine lv_iload hx hb dX2_isVoid_119 (lv_at hl 2 rfl) ?_
          refine lv_if_eq (tgt := 137) hx hb dX2_isVoid_121 (by decide) (fun c_35 => ?_) (fun c_35 => ?_)
          · replace c_35 := bI_eq c_35
            refine lv_iconst (v := 0) hx hb dX2_isVoid_137 (by decide) ?_
            exact W.zret hx hb hr (by decide) (fun t ht hW => ⟨_, rfl, (congrArg bI (show fX2_isVoid a0 a1 a2 a3 = false from by simp only [fX2_isVoid, if_neg c_1, if_neg c_24, if_neg c_27, if_pos c_30, if_pos c_31, if_neg c_34, if_neg c_35])).symm, ht⟩) (fun q hq => absurd hq List.not_mem_nil) dX2_isVoid_138
          · replace c_35 := bI_ne c_35
            refine lv_iload_n hx hb dX2_isVoid_124 rfl (lv_at hl 3 rfl) ?_
            refine lv_lload hx hb dX2_isVoid_125 (lv_at hl 6 rfl) ?_
            refine vp_callSi ((va_runS (As := [.int a0, .long a3]) (rest := []) ⟨hx, hb, hml, hown, hts⟩ (met_X2_isZero l a0 a3) (va_cwS 2 hts gX2_isVoid_X2_isZero rfl rfl rfl (by decide +kernel) ⟨Nat.le_of_ble_eq_true rfl, Nat.le_of_ble_eq_true rfl⟩) ⟨fun _ _ _ _ q => q, fun U hU hW => ⟨rfl, trivial⟩⟩ rfl rfl hl.1 rfl (lv_room (Nat.le_of_ble_eq_true rfl)) dX2_isVoid_127 ⟨Nat.le_of_ble_eq_true rfl, Nat.le_of_ble_eq_true rfl⟩).run) (fun r hw => ?_)
            subst hw
            refine lv_if_eq (tgt := 137) hx hb dX2_isVoid_130 (by decide) (fun c_36 => ?_) (fun c_36 => ?_)
            · replace c_36 := bI_eq c_36
              refine lv_iconst (v := 0) hx hb dX2_isVoid_137 (by decide) ?_
              exact W.zret hx hb hr (by decide) (fun t ht hW => ⟨_, rfl, (congrArg bI (show fX2_isVoid a0 a1 a2 a3 = false from by simp only [fX2_isVoid, if_neg c_1, if_neg c_24, if_neg c_27, if_pos c_30, if_pos c_31, if_neg c_34, if_pos c_35, if_neg c_36])).symm, ht⟩) (fun q hq => absurd hq List.not_mem_nil) dX2_isVoid_138
            · replace c_36 := bI_ne c_36
              refine lv_iconst (v := 1) hx hb dX2_isVoid_133 (by decide) ?_
              refine lv_goto (tgt := 138) hx hb dX2_isVoid_134 (by decide) ?_
              exact W.zret hx hb hr (by decide) (fun t ht hW => ⟨_, rfl, (congrArg bI (show fX2_isVoid a0 a1 a2 a3 = true from by simp only [fX2_isVoid, if_neg c_1, if_neg c_24, if_neg c_27, if_pos c_30, if_pos c_31, if_neg c_34, if_pos c_35, if_pos c_36])).symm, ht⟩) (fun q hq => absurd hq List.not_mem_nil) dX2_isVoid_138
    rcases Decidable.em (a1 = 3) with c_37 | c_37
    · refine lv_tableIn (x := a1) (off := 107) (tgt := 139) hx hb dX2_isVoid_32 (by rw [c_37]; decide) (by rw [c_37]; decide) (by rw [c_37]; rfl) (by decide) ?_
      refine lv_iload_n hx hb dX2_isVoid_139 rfl (lv_at hl 3 rfl) ?_
      refine lv_lload_n hx hb dX2_isVoid_140 rfl (lv_at hl 5 rfl) ?_
      refine vp_callSi ((va_runS (As := [.int a0, .long a2]) (rest := []) ⟨hx, hb, hml, hown, hts⟩ (met_X2_isZero l a0 a2) (va_cwS 2 hts gX2_isVoid_X2_isZero rfl rfl rfl (by decide +kernel) ⟨Nat.le_of_ble_eq_true rfl, Nat.le_of_ble_eq_true rfl⟩) ⟨fun _ _ _ _ q => q, fun U hU hW => ⟨rfl, trivial⟩⟩ rfl rfl hl.1 rfl (lv_room (Nat.le_of_ble_eq_true rfl)) dX2_isVoid_141 ⟨Nat.le_of_ble_eq_true rfl, Nat.le_of_ble_eq_true rfl⟩).run) (fun r hw => ?_)
      subst hw
      refine lv_if_eq (tgt := 156) hx hb dX2_isVoid_144 (by decide) (fun c_38 => ?_) (fun c_38 => ?_)
      · replace c_38 := bI_eq c_38
        refine lv_iload hx hb dX2_isVoid_156 (lv_at hl 2 rfl) ?_
        refine lv_if_eq (tgt := 170) hx hb dX2_isVoid_158 (by decide) (fun c_39 => ?_) (fun c_39 => ?_)
        · replace c_39 := bI_eq c_39
          refine lv_iconst (v := 0) hx hb dX2_isVoid_170 (by decide) ?_
          exact W.zret hx hb hr (by decide) (fun t ht hW => ⟨_, rfl, (congrArg bI (show fX2_isVoid a0 a1 a2 a3 = false from by simp only [fX2_isVoid, if_neg c_1, if_neg c_24, if_neg c_27, if_neg c_30, if_pos c_37, if_neg c_38, if_neg c_39])).symm, ht⟩) (fun q hq => absurd hq List.not_mem_nil) dX2_isVoid_171
        · replace c_39 := bI_ne c_39
          refine lv_iload hx hb dX2_isVoid_161 (lv_at hl 1 rfl) ?_
          refine lv_if_eq (tgt := 170) hx hb dX2_isVoid_163 (by decide) (fun c_40 => ?_) (fun c_40 => ?_)
          · replace c_40 := bI_eq c_40
            refine lv_iconst (v := 0) hx hb dX2_isVoid_170 (by decide) ?_
            exact W.zret hx hb hr (by decide) (fun t ht hW => ⟨_, rfl, (congrArg bI (show fX2_isVoid a0 a1 a2 a3 = false from by simp only [fX2_isVoid, if_neg c_1, if_neg c_24, if_neg c_27, if_neg c_30, if_pos c_37, if_neg c_38, if_pos c_39, if_neg c_40])).symm, ht⟩) (fun q hq => absurd hq List.not_mem_nil) dX2_isVoid_171
          · replace c_40 := bI_ne c_40
            refine lv_iconst (v := 1) hx hb dX2_isVoid_166 (by decide) ?_
            refine lv_goto (tgt := 171) hx hb dX2_isVoid_167 (by decide) ?_
            exact W.zret hx hb hr (by decide) (fun t ht hW => ⟨_, rfl, (congrArg bI (show fX2_isVoid a0 a1 a2 a3 = true from by simp only [fX2_isVoid, if_neg c_1, if_neg c_24, if_neg c_27, if_neg c_30, if_pos c_37, if_neg c_38, if_pos c_39, if_pos c_40])).symm, ht⟩) (fun q hq => absurd hq List.not_mem_nil) dX2_isVoid_171
      · replace c_38 := bI_ne c_38
        refine lv_iload_n hx hb dX2_isVoid_147 rfl (lv_at hl 3 rfl) ?_
        refine lv_lload hx hb dX2_isVoid_148 (lv_at hl 6 rfl) ?_
        refine vp_callSi ((va_runS (As := [.int a0, .long a3]) (rest := []) ⟨hx, hb, hml, hown, hts⟩ (met_X2_isZero l a0 a3) (va_cwS 2 hts gX2_isVoid_X2_isZero rfl rfl rfl (by decide +kernel) ⟨Nat.le_of_ble_eq_true rfl, Nat.le_of_ble_eq_true rfl⟩) ⟨fun _ _ _ _ q => q, fun U hU hW => ⟨rfl, trivial⟩⟩ rfl rfl hl.1 rfl (lv_room (Nat.le_of_ble_eq_true rfl)) dX2_isVoid_150 ⟨Nat.le_of_ble_eq_true rfl, Nat.le_of_ble_eq_true rfl⟩).run) (fun r hw => ?_)
        subst hw
        refine lv_if_ne (tgt := 166) hx hb dX2_isVoid_153 (by decide) (fun c_41 => ?_) (fun c_41 => ?_)
        · replace c_41 := bI_ne c_41
          refine lv_iconst (v := 1) hx hb dX2_isVoid_166 (by decide) ?_
          refine lv_goto (tgt := 171) hx hb dX2_isVoid_167 (by decide) ?_
          exact W.zret hx hb hr (by decide) (fun t ht hW => ⟨_, rfl, (congrArg bI (show fX2_isVoid a0 a1 a2 a3 = true from by simp only [fX2_isVoid, if_neg c_1, if_neg c_24, if_neg c_27, if_neg c_30, if_pos c_37, if_pos c_38, if_pos c_41])).symm, ht⟩) (fun q hq => absurd hq List.not_mem_nil) dX2_isVoid_171
        · replace c_41 := bI_eq c_41
          refine lv_iload hx hb dX2_isVoid_156 (lv_at hl 2 rfl) ?_
          refine lv_if_eq (tgt := 170) hx hb dX2_isVoid_158 (by decide) (fun c_42 => ?_) (fun c_42 => ?_)
          · replace c_42 := bI_eq c_42
            refine lv_iconst (v := 0) hx hb dX2_isVoid_170 (by decide) ?_
            exact W.zret hx hb hr (by decide) (fun t ht hW => ⟨_, rfl, (congrArg bI (show fX2_isVoid a0 a1 a2 a3 = false from by simp only [fX2_isVoid, if_neg c_1, if_neg c_24, if_neg c_27, if_neg c_30, if_pos c_37, if_pos c_38, if_neg c_41, if_neg c_42])).symm, ht⟩) (fun q hq => absurd hq List.not_mem_nil) dX2_isVoid_171
          · replace c_42 := bI_ne c_42
            refine lv_iload hx hb dX2_isVoid_161 (lv_at hl 1 rfl) ?_
            refine lv_if_eq (tgt := 170) hx hb dX2_isVoid_163 (by decide) (fun c_43 => ?_) (fun c_43 => ?_)
            · replace c_43 := bI_eq c_43
              refine lv_iconst (v := 0) hx hb dX2_isVoid_170 (by decide) ?_
              exact W.zret hx hb hr (by decide) (fun t ht hW => ⟨_, rfl, (congrArg bI (show fX2_isVoid a0 a1 a2 a3 = false from by simp only [fX2_isVoid, if_neg c_1, if_neg c_24, if_neg c_27, if_neg c_30, if_pos c_37, if_pos c_38, if_neg c_41, if_pos c_42, if_neg c_43])).symm, ht⟩) (fun q hq => absurd hq List.not_mem_nil) dX2_isVoid_171
            · replace c_43 := bI_ne c_43
              refine lv_iconst (v := 1) hx hb dX2_isVoid_166 (by decide) ?_
              refine lv_goto (tgt := 171) hx hb dX2_isVoid_167 (by decide) ?_
              exact W.zret hx hb hr (by decide) (fun t ht hW => ⟨_, rfl, (congrArg bI (show fX2_isVoid a0 a1 a2 a3 = true from by simp only [fX2_isVoid, if_neg c_1, if_neg c_24, if_neg c_27, if_neg c_30, if_pos c_37, if_pos c_38, if_neg c_41, if_pos c_42, if_pos c_43])).symm, ht⟩) (fun q hq => absurd hq List.not_mem_nil) dX2_isVoid_171
    refine lv_tableOut (tgt := 172) hx hb dX2_isVoid_32 (sw_out3 c_24 c_27 c_30 c_37) (by decide) ?_
    refine lv_iload_n hx hb dX2_isVoid_172 rfl (lv_at hl 3 rfl) ?_
    refine lv_lload hx hb dX2_isVoid_173 (lv_at hl 6 rfl) ?_
    refine vp_callSi ((va_runS (As := [.int a0, .long a3]) (rest := []) ⟨hx, hb, hml, hown, hts⟩ (met_X2_isZero l a0 a3) (va_cwS 2 hts gX2_isVoid_X2_isZero rfl rfl rfl (by decide +kernel) ⟨Nat.le_of_ble_eq_true rfl, Nat.le_of_ble_eq_true rfl⟩) ⟨fun _ _ _ _ q => q, fun U hU hW => ⟨rfl, trivial⟩⟩ rfl rfl hl.1 rfl (lv_room (Nat.le_of_ble_eq_true rfl)) dX2_isVoid_175 ⟨Nat.le_of_ble_eq_true rfl, Nat.le_of_ble_eq_true rfl⟩).run) (fun r hw => ?_)
    subst hw
    refine lv_if_ne (tgt := 186) hx hb dX2_isVoid_178 (by decide) (fun c_44 => ?_) (fun c_44 => ?_)
    · replace c_44 := bI_ne c_44
      refine lv_iconst (v := 1) hx hb dX2_isVoid_186 (by decide) ?_
      refine lv_goto (tgt := 191) hx hb dX2_isVoid_187 (by decide) ?_
      exact W.zret hx hb hr (by decide) (fun t ht hW => ⟨_, rfl, (congrArg bI (show fX2_isVoid a0 a1 a2 a3 = true from by simp only [fX2_isVoid, if_neg c_1, if_neg c_24, if_neg c_27, if_neg c_30, if_neg c_37, if_pos c_44])).symm, ht⟩) (fun q hq => absurd hq List.not_mem_nil) dX2_isVoid_191
    · replace c_44 := bI_eq c_44
      refine lv_iload hx hb dX2_isVoid_181 (lv_at hl 2 rfl) ?_
      refine lv_if_eq (tgt := 190) hx hb dX2_isVoid_183 (by decide) (fun c_45 => ?_) (fun c_45 => ?_)
      · replace c_45 := bI_eq c_45
        refine lv_iconst (v := 0) hx hb dX2_isVoid_190 (by decide) ?_
        exact W.zret hx hb hr (by decide) (fun t ht hW => ⟨_, rfl, (congrArg bI (show fX2_isVoid a0 a1 a2 a3 = false from by simp only [fX2_isVoid, if_neg c_1, if_neg c_24, if_neg c_27, if_neg c_30, if_neg c_37, if_neg c_44, if_neg c_45])).symm, ht⟩) (fun q hq => absurd hq List.not_mem_nil) dX2_isVoid_191
      · replace c_45 := bI_ne c_45
        refine lv_iconst (v := 1) hx hb dX2_isVoid_186 (by decide) ?_
        refine lv_goto (tgt := 191) hx hb dX2_isVoid_187 (by decide) ?_
        exact W.zret hx hb hr (by decide) (fun t ht hW => ⟨_, rfl, (congrArg bI (show fX2_isVoid a0 a1 a2 a3 = true from by simp only [fX2_isVoid, if_neg c_1, if_neg c_24, if_neg c_27, if_neg c_30, if_neg c_37, if_neg c_44, if_pos c_45])).symm, ht⟩) (fun q hq => absurd hq List.not_mem_nil) dX2_isVoid_191

def fX2_signed (a0 : Int32) (a1 : Int64) (a2 : Int32) : Int64 := if a2 = 0 then a1 else (a1 ||| ((fX2_sizeMask a0) ^^^ (-1)))
set_option maxHeartbeats 4000000 in
set_option maxRecDepth 100000 in
theorem met_X2_signed (l : Launch) (a0 : Int32) (a1 : Int64) (a2 : Int32) : Met l yX2_signed wsX2_signed ({ frames := 1, cells := 0, slots := 0, locals := 20 }) (va_Pc [.int a0, .long a1, .int a2] (fun _ => True)) (vp_Sl (fun r => r = fX2_signed a0 a1 a2)) 0 0 (fun _ => False) := by
  refine Met.ofW (cc := cX2_signed) (maxL := 4) (ret := (some .long)) (by decide) rfl ?_
  intro p e s m args below meth c s₁ B hml hv
  obtain ⟨rfl, -⟩ := hv
  have hx := B.exec
  have hb := B.bytes
  have hr := B.returns
  have hts := atoms_spec (ws := wsX2_signed) B.pre
  have hown : s.vm.findClass RX2 = some m.cls := findClass_of_methodNamed B.named
  have hlocks := B.notSynchronized
  have hl := lv_entry ([.int a0, .long a1, .int a2]) (n := 4) (Nat.le_of_ble_eq_true rfl)
  rw [lg_entry_eq]
  generalize (lg_sl ([.int a0, .long a1, .int a2]) ++ List.replicate (4 - (lg_sl ([.int a0, .long a1, .int a2])).length) Slot.unset).toArray = ls at hl ⊢
  have hl : lv_has ls 4 [(0, .int a0), (1, .long a1), (3, .int a2)] := hl
  refine lv_iload_n hx hb dX2_signed_0 rfl (lv_at hl 2 rfl) ?_
  refine lv_if_eq (tgt := 17) hx hb dX2_signed_1 (by decide) (fun c_1 => ?_) (fun c_1 => ?_)
  · refine lv_lload_n hx hb dX2_signed_17 rfl (lv_at hl 1 rfl) ?_
    exact W.lret (v := a1) hx hb hr (fun t ht hW => ⟨_, rfl, by simp only [fX2_signed, if_pos c_1], ht⟩) (fun q hq => absurd hq List.not_mem_nil) dX2_signed_18
  · refine lv_lload_n hx hb dX2_signed_4 rfl (lv_at hl 1 rfl) ?_
    refine lv_iload_n hx hb dX2_signed_5 rfl (lv_at hl 0 rfl) ?_
    refine vp_callSl ((va_runS (As := [.int a0]) (rest := [.long a1]) ⟨hx, hb, hml, hown, hts⟩ (met_X2_sizeMask l a0) (va_cwS 1 hts gX2_signed_X2_sizeMask rfl rfl rfl (by decide +kernel) ⟨Nat.le_of_ble_eq_true rfl, Nat.le_of_ble_eq_true rfl⟩) ⟨fun _ _ _ _ q => q, fun U hU hW => ⟨rfl, trivial⟩⟩ rfl rfl hl.1 rfl (lv_room (Nat.le_of_ble_eq_true rfl)) dX2_signed_6 ⟨Nat.le_of_ble_eq_true rfl, Nat.le_of_ble_eq_true rfl⟩).run) (fun r hw => ?_)
    subst hw
    refine lv_ldc2 hx hb hown (hts (.constantLong RX2 90 (-1)) (by decide +kernel)) dX2_signed_9 ?_
    refine lv_lxor hx hb dX2_signed_12 ?_
    refine lv_lor hx hb dX2_signed_13 ?_
    refine lv_goto (tgt := 18) hx hb dX2_signed_14 (by decide) ?_
    exact W.lret (v := a1 ||| ((fX2_sizeMask a0) ^^^ (-1))) hx hb hr (fun t ht hW => ⟨_, rfl, by simp only [fX2_signed, if_neg c_1], ht⟩) (fun q hq => absurd hq List.not_mem_nil) dX2_signed_18

def fX2_sizeOfParts (a0 : Int32) (a1 : Int32) (a2 : Int64) : Int64 := (((a1 - 1).toInt64) <<< ((a0 : Int32).toInt64 &&& 63)) + a2
set_option maxHeartbeats 4000000 in
set_option maxRecDepth 100000 in
theorem met_X2_sizeOfParts (l : Launch) (a0 : Int32) (a1 : Int32) (a2 : Int64) : Met l yX2_sizeOfParts wsX2_sizeOfParts ({ frames := 0, cells := 0, slots := 0, locals := 0 }) (va_Pc [.int a0, .int a1, .long a2] (fun _ => True)) (vp_Sl (fun r => r = fX2_sizeOfParts a0 a1 a2)) 0 0 (fun _ => False) := by
  refine Met.ofW (cc := cX2_sizeOfParts) (maxL := 4) (ret := (some .long)) (by decide) rfl ?_
  intro p e s m args below meth c s₁ B hml hv
  obtain ⟨rfl, -⟩ := hv
  have hx := B.exec
  have hb := B.bytes
  have hr := B.returns
  have hts := atoms_spec (ws := wsX2_sizeOfParts) B.pre
  have hown : s.vm.findClass RX2 = some m.cls := findClass_of_methodNamed B.named
  have hlocks := B.notSynchronized
  have hl := lv_entry ([.int a0, .int a1, .long a2]) (n := 4) (Nat.le_of_ble_eq_true rfl)
  rw [lg_entry_eq]
  generalize (lg_sl ([.int a0, .int a1, .long a2]) ++ List.replicate (4 - (lg_sl ([.int a0, .int a1, .long a2])).length) Slot.unset).toArray = ls at hl ⊢
  have hl : lv_has ls 4 [(0, .int a0), (1, .int a1), (2, .long a2)] := hl
  refine lv_iload_n hx hb dX2_sizeOfParts_0 rfl (lv_at hl 1 rfl) ?_
  refine lv_iconst (v := 1) hx hb dX2_sizeOfParts_1 (by decide) ?_
  refine lv_isub hx hb dX2_sizeOfParts_2 ?_
  refine lv_i2l hx hb dX2_sizeOfParts_3 rfl ?_
  refine lv_iload_n hx hb dX2_sizeOfParts_4 rfl (lv_at hl 0 rfl) ?_
  refine lv_lshl hx hb dX2_sizeOfParts_5 rfl ?_
  refine lv_lload_n hx hb dX2_sizeOfParts_6 rfl (lv_at hl 2 rfl) ?_
  refine lv_ladd hx hb dX2_sizeOfParts_7 ?_
  exact W.lret (v := (((a1 - 1).toInt64) <<< ((a0 : Int32).toInt64 &&& 63)) + a2) hx hb hr (fun t ht hW => ⟨_, rfl, by simp only [fX2_sizeOfParts], ht⟩) (fun q hq => absurd hq List.not_mem_nil) dX2_sizeOfParts_8

def fX2_fieldOf (a0 : Int32) (a1 : Int64) : Int32 := if 1 < ((a1.toUInt64 >>> ((fX2_fractionBits a0 : Int32).toInt64.toUInt64 &&& Int64.toUInt64 63)).toInt64).toInt32 then ((a1.toUInt64 >>> ((fX2_fractionBits a0 : Int32).toInt64.toUInt64 &&& Int64.toUInt64 63)).toInt64).toInt32 else 1
set_option maxHeartbeats 4000000 in
set_option maxRecDepth 100000 in
theorem met_X2_fieldOf (l : Launch) (a0 : Int32) (a1 : Int64) : Met l yX2_fieldOf wsX2_fieldOf ({ frames := 1, cells := 0, slots := 0, locals := 20 }) (va_Pc [.int a0, .long a1] (fun _ => True)) (vp_Si (fun r => r = fX2_fieldOf a0 a1)) 0 0 (fun _ => False) := by
  refine Met.ofW (cc := cX2_fieldOf) (maxL := 3) (ret := (some .int)) (by decide) rfl ?_
  intro p e s m args below meth c s₁ B hml hv
  obtain ⟨rfl, -⟩ := hv
  have hx := B.exec
  have hb := B.bytes
  have hr := B.returns
  have hts := atoms_spec (ws := wsX2_fieldOf) B.pre
  have hown : s.vm.findClass RX2 = some m.cls := findClass_of_methodNamed B.named
  have hlocks := B.notSynchronized
  have hl := lv_entry ([.int a0, .long a1]) (n := 3) (Nat.le_of_ble_eq_true rfl)
  rw [lg_entry_eq]
  generalize (lg_sl ([.int a0, .long a1]) ++ List.replicate (3 - (lg_sl ([.int a0, .long a1])).length) Slot.unset).toArray = ls at hl ⊢
  have hl : lv_has ls 3 [(0, .int a0), (1, .long a1)] := hl
  refine lv_iconst (v := 1) hx hb dX2_fieldOf_0 (by decide) ?_
  refine lv_lload_n hx hb dX2_fieldOf_1 rfl (lv_at hl 1 rfl) ?_
  refine lv_iload_n hx hb dX2_fieldOf_2 rfl (lv_at hl 0 rfl) ?_
  refine vp_callSi ((va_runS (As := [.int a0]) (rest := [.long a1, .int 1]) ⟨hx, hb, hml, hown, hts⟩ (met_X2_fractionBits l a0) (va_cwS 1 hts gX2_fieldOf_X2_fractionBits rfl rfl rfl (by decide +kernel) ⟨Nat.le_of_ble_eq_true rfl, Nat.le_of_ble_eq_true rfl⟩) ⟨fun _ _ _ _ q => q, fun U hU hW => ⟨rfl, trivial⟩⟩ rfl rfl hl.1 rfl (lv_room (Nat.le_of_ble_eq_true rfl)) dX2_fieldOf_3 ⟨Nat.le_of_ble_eq_true rfl, Nat.le_of_ble_eq_true rfl⟩).run) (fun r hw => ?_)
  subst hw
  refine lv_lushr hx hb dX2_fieldOf_6 rfl ?_
  refine lv_l2i hx hb dX2_fieldOf_7 rfl ?_
  refine va_mmax hx hb (hml.trans hl.1.symm) hown (hts (.methodLink RX2 84 Lib.Math.max.name) (by decide +kernel)) (hts (.static Lib.Math.max.name) (by decide +kernel)) (hts (.initialized "java/lang/Math") (by decide +kernel)) (hts (.code Lib.Math.max.name Lib.Math.max.code 2 (some .int)) (by decide +kernel)) (Nat.le_of_ble_eq_true rfl) (Nat.le_of_ble_eq_true rfl) (Nat.le_of_ble_eq_true rfl) (Nat.le_of_ble_eq_true rfl) dX2_fieldOf_8 ?_
  exact W.iret (v := if 1 < ((a1.toUInt64 >>> ((fX2_fractionBits a0 : Int32).toInt64.toUInt64 &&& Int64.toUInt64 63)).toInt64).toInt32 then ((a1.toUInt64 >>> ((fX2_fractionBits a0 : Int32).toInt64.toUInt64 &&& Int64.toUInt64 63)).toInt64).toInt32 else 1) hx hb hr (fun t ht hW => ⟨_, rfl, by simp only [fX2_fieldOf], ht⟩) (fun q hq => absurd hq List.not_mem_nil) dX2_fieldOf_11

def fX2_wholeOf (a0 : Int32) (a1 : Int64) : Int64 := if 0 ≤ (lg_cmp a1 ((1 : Int64) <<< ((fX2_fractionBits a0 : Int32).toInt64 &&& 63))) then ((a1 &&& (((1 : Int64) <<< ((fX2_fractionBits a0 : Int32).toInt64 &&& 63)) - 1)) ||| ((1 : Int64) <<< ((fX2_fractionBits a0 : Int32).toInt64 &&& 63))) else a1
set_option maxHeartbeats 4000000 in
set_option maxRecDepth 100000 in
theorem met_X2_wholeOf (l : Launch) (a0 : Int32) (a1 : Int64) : Met l yX2_wholeOf wsX2_wholeOf ({ frames := 1, cells := 0, slots := 0, locals := 20 }) (va_Pc [.int a0, .long a1] (fun _ => True)) (vp_Sl (fun r => r = fX2_wholeOf a0 a1)) 0 0 (fun _ => False) := by
  refine Met.ofW (cc := cX2_wholeOf) (maxL := 5) (ret := (some .long)) (by decide) rfl ?_
  intro p e s m args below meth c s₁ B hml hv
  obtain ⟨rfl, -⟩ := hv
  have hx := B.exec
  have hb := B.bytes
  have hr := B.returns
  have hts := atoms_spec (ws := wsX2_wholeOf) B.pre
  have hown : s.vm.findClass RX2 = some m.cls := findClass_of_methodNamed B.named
  have hlocks := B.notSynchronized
  have hl := lv_entry ([.int a0, .long a1]) (n := 5) (Nat.le_of_ble_eq_true rfl)
  rw [lg_entry_eq]
  generalize (lg_sl ([.int a0, .long a1]) ++ List.replicate (5 - (lg_sl ([.int a0, .long a1])).length) Slot.unset).toArray = ls at hl ⊢
  have hl : lv_has ls 5 [(0, .int a0), (1, .long a1)] := hl
  refine lv_lconst (v := 1) hx hb dX2_wholeOf_0 (by decide) ?_
  refine lv_iload_n hx hb dX2_wholeOf_1 rfl (lv_at hl 0 rfl) ?_
  refine vp_callSi ((va_runS (As := [.int a0]) (rest := [.long 1]) ⟨hx, hb, hml, hown, hts⟩ (met_X2_fractionBits l a0) (va_cwS 1 hts gX2_wholeOf_X2_fractionBits rfl rfl rfl (by decide +kernel) ⟨Nat.le_of_ble_eq_true rfl, Nat.le_of_ble_eq_true rfl⟩) ⟨fun _ _ _ _ q => q, fun U hU hW => ⟨rfl, trivial⟩⟩ rfl rfl hl.1 rfl (lv_room (Nat.le_of_ble_eq_true rfl)) dX2_wholeOf_2 ⟨Nat.le_of_ble_eq_true rfl, Nat.le_of_ble_eq_true rfl⟩).run) (fun r hw => ?_)
  subst hw
  refine lv_lshl hx hb dX2_wholeOf_5 rfl ?_
  refine lv_lstore_n (lv' := [(3, .long ((1 : Int64) <<< ((fX2_fractionBits a0 : Int32).toInt64 &&& 63))), (0, .int a0), (1, .long a1)]) hx hb dX2_wholeOf_6 rfl hl (by decide) rfl (fun ls hl => ?_)
  refine lv_lload_n hx hb dX2_wholeOf_7 rfl (lv_at hl 2 rfl) ?_
  refine lv_lload_n hx hb dX2_wholeOf_8 rfl (lv_at hl 0 rfl) ?_
  refine W.lcmp hx hb dX2_wholeOf_9 ?_
  refine lv_if_ge (tgt := 17) hx hb dX2_wholeOf_10 (by decide) (fun c_1 => ?_) (fun c_1 => ?_)
  · refine lv_lload_n hx hb dX2_wholeOf_17 rfl (lv_at hl 2 rfl) ?_
    refine lv_lload_n hx hb dX2_wholeOf_18 rfl (lv_at hl 0 rfl) ?_
    refine lv_lconst (v := 1) hx hb dX2_wholeOf_19 (by decide) ?_
    refine lv_lsub hx hb dX2_wholeOf_20 ?_
    refine lv_land hx hb dX2_wholeOf_21 ?_
    refine lv_lload_n hx hb dX2_wholeOf_22 rfl (lv_at hl 0 rfl) ?_
    refine lv_lor hx hb dX2_wholeOf_23 ?_
    exact W.lret (v := (a1 &&& (((1 : Int64) <<< ((fX2_fractionBits a0 : Int32).toInt64 &&& 63)) - 1)) ||| ((1 : Int64) <<< ((fX2_fractionBits a0 : Int32).toInt64 &&& 63))) hx hb hr (fun t ht hW => ⟨_, rfl, by simp only [fX2_wholeOf, if_pos c_1], ht⟩) (fun q hq => absurd hq List.not_mem_nil) dX2_wholeOf_24
  · refine lv_lload_n hx hb dX2_wholeOf_13 rfl (lv_at hl 2 rfl) ?_
    refine lv_goto (tgt := 24) hx hb dX2_wholeOf_14 (by decide) ?_
    exact W.lret (v := a1) hx hb hr (fun t ht hW => ⟨_, rfl, by simp only [fX2_wholeOf, if_neg c_1], ht⟩) (fun q hq => absurd hq List.not_mem_nil) dX2_wholeOf_24

def fX0_isKind (a0 : Int32) : Bool := if a0 < 0 then false else (if 3 < a0 then false else true)
set_option maxHeartbeats 4000000 in
set_option maxRecDepth 100000 in
theorem met_X0_isKind (l : Launch) (a0 : Int32) : Met l yX0_isKind wsX0_isKind ({ frames := 0, cells := 0, slots := 0, locals := 0 }) (va_Pc [.int a0] (fun _ => True)) (vp_Si (fun r => r = bI (fX0_isKind a0))) 0 0 (fun _ => False) := by
  refine Met.ofW (cc := cX0_isKind) (maxL := 1) (ret := (some .boolean)) (by decide) rfl ?_
  intro p e s m args below meth c s₁ B hml hv
  obtain ⟨rfl, -⟩ := hv
  have hx := B.exec
  have hb := B.bytes
  have hr := B.returns
  have hts := atoms_spec (ws := wsX0_isKind) B.pre
  have hown : s.vm.findClass RX0 = some m.cls := findClass_of_methodNamed B.named
  have hlocks := B.notSynchronized
  have hl := lv_entry ([.int a0]) (n := 1) (Nat.le_of_ble_eq_true rfl)
  rw [lg_entry_eq]
  generalize (lg_sl ([.int a0]) ++ List.replicate (1 - (lg_sl ([.int a0])).length) Slot.unset).toArray = ls at hl ⊢
  have hl : lv_has ls 1 [(0, .int a0)] := hl
  refine lv_iload_n hx hb dX0_isKind_0 rfl (lv_at hl 0 rfl) ?_
  refine lv_if_lt (tgt := 13) hx hb dX0_isKind_1 (by decide) (fun c_1 => ?_) (fun c_1 => ?_)
  · refine lv_iconst (v := 0) hx hb dX0_isKind_13 (by decide) ?_
    exact W.zret hx hb hr (by decide) (fun t ht hW => ⟨_, rfl, (congrArg bI (show fX0_isKind a0 = false from by simp only [fX0_isKind, if_pos c_1])).symm, ht⟩) (fun q hq => absurd hq List.not_mem_nil) dX0_isKind_14
  · refine lv_iload_n hx hb dX0_isKind_4 rfl (lv_at hl 0 rfl) ?_
    refine lv_iconst (v := 3) hx hb dX0_isKind_5 (by decide) ?_
    refine lv_icmp_gt (tgt := 13) hx hb dX0_isKind_6 (by decide) (fun c_2 => ?_) (fun c_2 => ?_)
    · refine lv_iconst (v := 0) hx hb dX0_isKind_13 (by decide) ?_
      exact W.zret hx hb hr (by decide) (fun t ht hW => ⟨_, rfl, (congrArg bI (show fX0_isKind a0 = false from by simp only [fX0_isKind, if_neg c_1, if_pos c_2])).symm, ht⟩) (fun q hq => absurd hq List.not_mem_nil) dX0_isKind_14
    · refine lv_iconst (v := 1) hx hb dX0_isKind_9 (by decide) ?_
      refine lv_goto (tgt := 14) hx hb dX0_isKind_10 (by decide) ?_
      exact W.zret hx hb hr (by decide) (fun t ht hW => ⟨_, rfl, (congrArg bI (show fX0_isKind a0 = true from by simp only [fX0_isKind, if_neg c_1, if_neg c_2])).symm, ht⟩) (fun q hq => absurd hq List.not_mem_nil) dX0_isKind_14

def fX0_isNumber (a0 : Int32) (a1 : Int64) : Bool := if a0 ≤ 1 then true else (if (fX2_isNumber a0 a1) = true then true else false)
set_option maxHeartbeats 4000000 in
set_option maxRecDepth 100000 in
theorem met_X0_isNumber (l : Launch) (a0 : Int32) (a1 : Int64) : Met l yX0_isNumber wsX0_isNumber ({ frames := 3, cells := 0, slots := 0, locals := 64 }) (va_Pc [.int a0, .long a1] (fun _ => True)) (vp_Si (fun r => r = bI (fX0_isNumber a0 a1))) 0 0 (fun _ => False) := by
  refine Met.ofW (cc := cX0_isNumber) (maxL := 3) (ret := (some .boolean)) (by decide) rfl ?_
  intro p e s m args below meth c s₁ B hml hv
  obtain ⟨rfl, -⟩ := hv
  have hx := B.exec
  have hb := B.bytes
  have hr := B.returns
  have hts := atoms_spec (ws := wsX0_isNumber) B.pre
  have hown : s.vm.findClass RX0 = some m.cls := findClass_of_methodNamed B.named
  have hlocks := B.notSynchronized
  have hl := lv_entry ([.int a0, .long a1]) (n := 3) (Nat.le_of_ble_eq_true rfl)
  rw [lg_entry_eq]
  generalize (lg_sl ([.int a0, .long a1]) ++ List.replicate (3 - (lg_sl ([.int a0, .long a1])).length) Slot.unset).toArray = ls at hl ⊢
  have hl : lv_has ls 3 [(0, .int a0), (1, .long a1)] := hl
  refine lv_iload_n hx hb dX0_isNumber_0 rfl (lv_at hl 0 rfl) ?_
  refine lv_iconst (v := 1) hx hb dX0_isNumber_1 (by decide) ?_
  refine lv_icmp_le (tgt := 13) hx hb dX0_isNumber_2 (by decide) (fun c_1 => ?_) (fun c_1 => ?_)
  · refine lv_iconst (v := 1) hx hb dX0_isNumber_13 (by decide) ?_
    refine lv_goto (tgt := 18) hx hb dX0_isNumber_14 (by decide) ?_
    exact W.zret hx hb hr (by decide) (fun t ht hW => ⟨_, rfl, (congrArg bI (show fX0_isNumber a0 a1 = true from by simp only [fX0_isNumber, if_pos c_1])).symm, ht⟩) (fun q hq => absurd hq List.not_mem_nil) dX0_isNumber_18
  · refine lv_iload_n hx hb dX0_isNumber_5 rfl (lv_at hl 0 rfl) ?_
    refine lv_lload_n hx hb dX0_isNumber_6 rfl (lv_at hl 1 rfl) ?_
    refine vp_callSi ((va_runS (As := [.int a0, .long a1]) (rest := []) ⟨hx, hb, hml, hown, hts⟩ (met_X2_isNumber l a0 a1) (va_cwS 2 hts gX0_isNumber_X2_isNumber rfl rfl rfl (by decide +kernel) ⟨Nat.le_of_ble_eq_true rfl, Nat.le_of_ble_eq_true rfl⟩) ⟨fun _ _ _ _ q => q, fun U hU hW => ⟨rfl, trivial⟩⟩ rfl rfl hl.1 rfl (lv_room (Nat.le_of_ble_eq_true rfl)) dX0_isNumber_7 ⟨Nat.le_of_ble_eq_true rfl, Nat.le_of_ble_eq_true rfl⟩).run) (fun r hw => ?_)
    subst hw
    refine lv_if_eq (tgt := 17) hx hb dX0_isNumber_10 (by decide) (fun c_2 => ?_) (fun c_2 => ?_)
    · replace c_2 := bI_eq c_2
      refine lv_iconst (v := 0) hx hb dX0_isNumber_17 (by decide) ?_
      exact W.zret hx hb hr (by decide) (fun t ht hW => ⟨_, rfl, (congrArg bI (show fX0_isNumber a0 a1 = false from by simp only [fX0_isNumber, if_neg c_1, if_neg c_2])).symm, ht⟩) (fun q hq => absurd hq List.not_mem_nil) dX0_isNumber_18
    · replace c_2 := bI_ne c_2
      refine lv_iconst (v := 1) hx hb dX0_isNumber_13 (by decide) ?_
      refine lv_goto (tgt := 18) hx hb dX0_isNumber_14 (by decide) ?_
      exact W.zret hx hb hr (by decide) (fun t ht hW => ⟨_, rfl, (congrArg bI (show fX0_isNumber a0 a1 = true from by simp only [fX0_isNumber, if_neg c_1, if_pos c_2])).symm, ht⟩) (fun q hq => absurd hq List.not_mem_nil) dX0_isNumber_18
