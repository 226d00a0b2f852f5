theorem fb_rng (x : Int32) : -2147483648 ≤ x.toInt ∧ x.toInt < 2147483648 := by
  have h1 := Int32.le_toInt x
  have h2 := Int32.toInt_lt x
  omega
theorem fb_bmod {z : Int} (h1 : -2147483648 ≤ z) (h2 : z < 2147483648) : z.bmod (2 ^ 32) = z := by
  rw [Int.bmod_eq_of_le (by omega) (by omega)]
theorem fb_addI {x y : Int32} (h1 : -2147483648 ≤ x.toInt + y.toInt) (h2 : x.toInt + y.toInt < 2147483648) : (x + y).toInt = x.toInt + y.toInt := by
  rw [Int32.toInt_add, fb_bmod h1 h2]
theorem fb_subI {x y : Int32} (h1 : -2147483648 ≤ x.toInt - y.toInt) (h2 : x.toInt - y.toInt < 2147483648) : (x - y).toInt = x.toInt - y.toInt := by
  rw [Int32.toInt_sub, fb_bmod h1 h2]
theorem fb_mulI {x y : Int32} (h1 : -2147483648 ≤ x.toInt * y.toInt) (h2 : x.toInt * y.toInt < 2147483648) : (x * y).toInt = x.toInt * y.toInt := by
  rw [Int32.toInt_mul, fb_bmod h1 h2]
theorem fb_negI {x : Int32} (h : x.toInt ≠ -2147483648) : (-x).toInt = -x.toInt := by
  have := fb_rng x
  rw [Int32.toInt_neg, fb_bmod (by omega) (by omega)]
theorem fb_ofI {z : Int} (h1 : -2147483648 ≤ z) (h2 : z < 2147483648) : (Int32.ofInt z).toInt = z := by
  rw [Int32.toInt_ofInt, fb_bmod h1 h2]
theorem fb_asI (x : Int32) : Int32.ofInt x.toInt = x := Int32.ofInt_toInt x
theorem fb_rngL (x : Int64) : -9223372036854775808 ≤ x.toInt ∧ x.toInt < 9223372036854775808 := by
  have h1 := Int64.le_toInt x
  have h2 := Int64.toInt_lt x
  omega
theorem fb_bmodL {z : Int} (h1 : -9223372036854775808 ≤ z) (h2 : z < 9223372036854775808) : z.bmod (2 ^ 64) = z := by
  rw [Int.bmod_eq_of_le (by omega) (by omega)]
theorem fb_addL {x y : Int64} (h1 : -9223372036854775808 ≤ x.toInt + y.toInt) (h2 : x.toInt + y.toInt < 9223372036854775808) : (x + y).toInt = x.toInt + y.toInt := by
  rw [Int64.toInt_add, fb_bmodL h1 h2]
theorem fb_subL {x y : Int64} (h1 : -9223372036854775808 ≤ x.toInt - y.toInt) (h2 : x.toInt - y.toInt < 9223372036854775808) : (x - y).toInt = x.toInt - y.toInt := by
  rw [Int64.toInt_sub, fb_bmodL h1 h2]
theorem fb_mulL {x y : Int64} (h1 : -9223372036854775808 ≤ x.toInt * y.toInt) (h2 : x.toInt * y.toInt < 9223372036854775808) : (x * y).toInt = x.toInt * y.toInt := by
  rw [Int64.toInt_mul, fb_bmodL h1 h2]


theorem i32_nI {x : Int32} (h : 0 ≤ x.toInt) : x = nI x.toInt.toNat := by
  have := fb_rng x
  apply Int32.toInt_inj.1
  rw [nI_toInt (by omega)]; omega
theorem shl1 {L : Int32} (h0 : 0 ≤ L.toInt) (h1 : L.toInt < 64) : (1 : Int64) <<< ((L : Int32).toInt64 &&& 63) = lN (2 ^ L.toInt.toNat) := by
  conv => lhs; rw [i32_nI h0]
  rw [show (1 : Int64) = lN 1 from rfl, wb_shl 1 (by omega), Nat.one_mul]
theorem sc_up {v : UInt64} {w : Nat} {j e0 : Int} {L : Int32} (hv : dE v w j) (hw : w < 2 ^ 53) (j1 : -1074 ≤ j) (j2 : j ≤ 971) (hs : j + L.toInt = e0) (h0 : ¬ L < 0) (h1 : L.toInt < 32) : dE (FP.dmul v (FP.l2d ((1 : Int64) <<< ((L : Int32).toInt64 &&& 63)))) w e0 := by
  have h0 : 0 ≤ L.toInt := by rw [Int32.lt_iff_toInt_lt] at h0; exact Int.not_lt.mp h0
  rw [shl1 h0 (by omega)]
  have p : 2 ^ L.toInt.toNat < 2 ^ 63 := Nat.pow_lt_pow_right (by decide) (by omega)
  have := dE_mul hv hw j1 j2 (dE_l2d p) (by omega)
  rw [show j + (L.toInt.toNat : Int) = e0 by omega] at this
  exact this
theorem sc_dn {v : UInt64} {w : Nat} {j e0 : Int} {L : Int32} (hv : dE v w j) (hw : w < 2 ^ 53) (j1 : -1074 ≤ j) (j2 : j ≤ 971) (hs : j + L.toInt = e0) (h0 : L < 0) (h1 : -32 < L.toInt) : dE (FP.ddiv v (FP.l2d ((1 : Int64) <<< ((-L : Int32).toInt64 &&& 63)))) w e0 := by
  have h0 : L.toInt < 0 := by rw [Int32.lt_iff_toInt_lt] at h0; exact h0
  have hn : (-L).toInt = -L.toInt := fb_negI (by omega)
  rw [shl1 (by omega) (by omega)]
  have p : 2 ^ (-L).toInt.toNat < 2 ^ 63 := Nat.pow_lt_pow_right (by decide) (by omega)
  have := dE_div hv hw j1 j2 (dE_l2d p) (by omega)
  rw [show j - ((-L).toInt.toNat : Int) = e0 by omega] at this
  exact this
theorem i32_l {x y : Int32} {a b : Int} (hx : x.toInt = a) (hy : y.toInt = b) (h : a < b) : x < y := by rw [Int32.lt_iff_toInt_lt]; omega
theorem i32_nl {x y : Int32} {a b : Int} (hx : x.toInt = a) (hy : y.toInt = b) (h : b ≤ a) : ¬ x < y := by rw [Int32.lt_iff_toInt_lt]; omega
theorem i32_le {x y : Int32} {a b : Int} (hx : x.toInt = a) (hy : y.toInt = b) (h : a ≤ b) : x ≤ y := by rw [Int32.le_iff_toInt_le]; omega
theorem i32_nle {x y : Int32} {a b : Int} (hx : x.toInt = a) (hy : y.toInt = b) (h : b < a) : ¬ x ≤ y := by rw [Int32.le_iff_toInt_le]; omega
theorem i32_m32 {L : Int32} (h : -2147483616 ≤ L.toInt) : (L + (-32)).toInt = L.toInt - 32 := by
  have := fb_rng L
  rw [fb_addI (by rw [show (-32 : Int32).toInt = -32 from rfl]; omega) (by rw [show (-32 : Int32).toInt = -32 from rfl]; omega)]; rfl
theorem i32_p32 {L : Int32} (h : L.toInt < 2147483616) : (L + 32).toInt = L.toInt + 32 := by
  have := fb_rng L
  rw [fb_addI (by rw [show (32 : Int32).toInt = 32 from rfl]; omega) (by rw [show (32 : Int32).toInt = 32 from rfl]; omega)]; rfl

set_option maxHeartbeats 4000000 in
set_option maxRecDepth 100000 in
theorem met_X2_scaled (l : Launch) (a0 : UInt64) (a1 : Int32) (w : Nat) (e0 : Int) (hd : dE a0 w 0) (hw : w < 2 ^ 53) (he : a1.toInt = e0) (h1 : -1074 ≤ e0) (h2 : e0 ≤ 972) : Met l yX2_scaled wsX2_scaled ({ frames := 0, cells := 0, slots := 0, locals := 0 }) (va_Pc [.double a0, .int a1] (fun _ => True)) (vp_Sd (fun r => dE r w e0)) 0 0 (fun _ => False) := by
  refine Met.ofW (cc := cX2_scaled) (maxL := 6) (ret := (some .double)) (by decide) rfl ?_
  intro p e s m args below meth c s₁ B hml hv
  obtain ⟨rfl, -⟩ := hv
  have hx := B.exec
  have hb := B.bytes
  have hr := B.returns
  have hts := atoms_spec (ws := wsX2_scaled) B.pre
  have hown : s.vm.findClass RX2 = some m.cls := findClass_of_methodNamed B.named
  have hlocks := B.notSynchronized
  have hl := lv_entry ([.double a0, .int a1]) (n := 6) (Nat.le_of_ble_eq_true rfl)
  rw [lg_entry_eq]
  generalize (lg_sl ([.double a0, .int a1]) ++ List.replicate (6 - (lg_sl ([.double a0, .int a1])).length) Slot.unset).toArray = ls at hl ⊢
  have hl : lv_has ls 6 [(0, .double a0), (2, .int a1)] := hl
  refine lv_dload_n hx hb dX2_scaled_0 rfl (lv_at hl 0 rfl) ?_
  refine lv_dstore_n (lv' := [(3, .double a0), (0, .double a0), (2, .int a1)]) hx hb dX2_scaled_1 rfl hl (by decide) rfl (fun ls hl => ?_)
  refine lv_iload_n hx hb dX2_scaled_2 rfl (lv_at hl 2 rfl) ?_
  refine lv_istore (lv' := [(5, .int a1), (3, .double a0), (0, .double a0), (2, .int a1)]) hx hb dX2_scaled_3 hl (by decide) rfl (fun ls hl => ?_)
  have hq : ∃ (v : UInt64) (L : Int32) (j : Nat), lv_has ls 6 [(5, .int L), (3, .double v), (0, .double a0), (2, .int a1)] ∧ dE v w (32 * (j : Int)) ∧ 32 * (j : Int) + L.toInt = e0 ∧ (j = 0 ∨ 0 ≤ L.toInt) := ⟨a0, a1, 0, hl, hd, by rw [he]; omega, Or.inl rfl⟩
  clear hl
  obtain ⟨v, L, j, hl, hv, hs, hj⟩ := hq
  obtain ⟨n, hn⟩ : ∃ n : Nat, L.toInt < 32 * (n : Int) + 32 ∧ (n = 0 ∨ 32 * (n : Int) ≤ L.toInt) := ⟨(L.toInt / 32).toNat, by omega⟩
  induction n generalizing v L j ls with
  | zero =>
    have c0 : L < 32 := i32_l (b := 32) rfl rfl (by omega)
    refine lv_iload hx hb dX2_scaled_5 (lv_at hl 0 rfl) ?_
    refine lv_bipush (v := 32) hx hb dX2_scaled_7 (by decide) ?_
    refine lv_icmp_lt (tgt := 24) hx hb dX2_scaled_9 (by decide) (fun _ => ?_) (fun h0 => absurd c0 h0)
    have hq : ∃ (v : UInt64) (L : Int32) (j : Int), lv_has ls 6 [(5, .int L), (3, .double v), (0, .double a0), (2, .int a1)] ∧ dE v w j ∧ j + L.toInt = e0 ∧ j ≤ 971 ∧ L.toInt < 32 ∧ -1074 ≤ j := ⟨v, L, 32 * (j : Int), hl, hv, hs, by omega, by omega, by omega⟩
    clear hl hv hs hj hn c0
    obtain ⟨v, L, j, hl, hv, hs, hj, hL, hj2⟩ := hq
    obtain ⟨n, hn⟩ : ∃ n : Nat, -L.toInt < 32 * (n : Int) + 32 ∧ (n = 0 ∨ 32 * (n : Int) ≤ -L.toInt) := ⟨(-L.toInt / 32).toNat, by omega⟩
    induction n generalizing v L j ls with
    | zero =>
      have c0 : (-32) < L := i32_l rfl rfl (by show (-32 : Int) < _; omega)
      refine lv_iload hx hb dX2_scaled_24 (lv_at hl 0 rfl) ?_
      refine lv_bipush (v := (-32)) hx hb dX2_scaled_26 (by decide) ?_
      refine lv_icmp_gt (tgt := 43) hx hb dX2_scaled_28 (by decide) (fun _ => ?_) (fun h0 => absurd c0 h0)
      refine lv_iload hx hb dX2_scaled_43 (lv_at hl 0 rfl) ?_
      refine lv_if_lt (tgt := 58) hx hb dX2_scaled_45 (by decide) (fun c_1 => ?_) (fun c_1 => ?_)
      · refine lv_dload_n hx hb dX2_scaled_58 rfl (lv_at hl 1 rfl) ?_
        refine lv_lconst (v := 1) hx hb dX2_scaled_59 (by decide) ?_
        refine lv_iload hx hb dX2_scaled_60 (lv_at hl 0 rfl) ?_
        refine lv_ineg hx hb dX2_scaled_62 ?_
        refine lv_lshl hx hb dX2_scaled_63 rfl ?_
        refine lv_l2d hx hb dX2_scaled_64 ?_
        refine lv_ddiv hx hb dX2_scaled_65 (dE_n (sc_dn hv hw (by omega) (by omega) hs c_1 (by omega))) ?_
        exact W.dret (v := FP.ddiv v (FP.l2d ((1 : Int64) <<< ((-L : Int32).toInt64 &&& 63)))) hx hb hr (fun t ht hW => ⟨_, rfl, sc_dn hv hw (by omega) (by omega) hs c_1 (by omega), ht⟩) (fun q hq => absurd hq List.not_mem_nil) dX2_scaled_66
      · refine lv_dload_n hx hb dX2_scaled_48 rfl (lv_at hl 1 rfl) ?_
        refine lv_lconst (v := 1) hx hb dX2_scaled_49 (by decide) ?_
        refine lv_iload hx hb dX2_scaled_50 (lv_at hl 0 rfl) ?_
        refine lv_lshl hx hb dX2_scaled_52 rfl ?_
        refine lv_l2d hx hb dX2_scaled_53 ?_
        refine lv_dmul hx hb dX2_scaled_54 (dE_n (sc_up hv hw (by omega) (by omega) hs c_1 (by omega))) ?_
        refine lv_goto (tgt := 66) hx hb dX2_scaled_55 (by decide) ?_
        exact W.dret (v := FP.dmul v (FP.l2d ((1 : Int64) <<< ((L : Int32).toInt64 &&& 63)))) hx hb hr (fun t ht hW => ⟨_, rfl, sc_up hv hw (by omega) (by omega) hs c_1 (by omega), ht⟩) (fun q hq => absurd hq List.not_mem_nil) dX2_scaled_66
    | succ n ih =>
      have c0 : ¬ (-32) < L := i32_nl rfl rfl (by show _ ≤ (-32 : Int); omega)
      refine lv_iload hx hb dX2_scaled_24 (lv_at hl 0 rfl) ?_
      refine lv_bipush (v := (-32)) hx hb dX2_scaled_26 (by decide) ?_
      refine lv_icmp_gt (tgt := 43) hx hb dX2_scaled_28 (by decide) (fun h0 => absurd h0 c0) (fun _ => ?_)
      refine lv_dload_n hx hb dX2_scaled_31 rfl (lv_at hl 1 rfl) ?_
      refine lv_ldc2d hx hb hown (hts (.constantDouble RX2 82 (4751297606875873280)) (by decide +kernel)) dX2_scaled_32 ?_
      refine lv_ddiv hx hb dX2_scaled_35 (dE_n (dE_div (k := 32) hv hw (by omega) (by omega) dE_32 (by decide))) ?_
      refine lv_dstore_n (lv' := [(3, .double (FP.ddiv v 4751297606875873280)), (5, .int L), (0, .double a0), (2, .int a1)]) hx hb dX2_scaled_36 rfl hl (by decide) rfl (fun ls hl => ?_)
      refine lv_iinc (v := L + 32) (lv' := [(5, .int (L + 32)), (3, .double (FP.ddiv v 4751297606875873280)), (0, .double a0), (2, .int a1)]) hx hb dX2_scaled_37 hl (k := 1) rfl rfl (by decide) rfl (fun ls hl => ?_)
      refine lv_goto (tgt := 24) hx hb dX2_scaled_40 (by decide) ?_
      exact ih _ _ _ _ hl (by have h := dE_div (k := 32) hv hw (by omega) (by omega) dE_32 (by decide); exact h) (by rw [i32_p32 (by omega)]; omega) (by omega) (by rw [i32_p32 (by omega)]; omega) (by omega) (by rw [i32_p32 (by omega)]; omega)
  | succ n ih =>
    have c0 : ¬ L < 32 := i32_nl (b := 32) rfl rfl (by omega)
    refine lv_iload hx hb dX2_scaled_5 (lv_at hl 0 rfl) ?_
    refine lv_bipush (v := 32) hx hb dX2_scaled_7 (by decide) ?_
    refine lv_icmp_lt (tgt := 24) hx hb dX2_scaled_9 (by decide) (fun h0 => absurd h0 c0) (fun _ => ?_)
    refine lv_dload_n hx hb dX2_scaled_12 rfl (lv_at hl 1 rfl) ?_
    refine lv_ldc2d hx hb hown (hts (.constantDouble RX2 82 (4751297606875873280)) (by decide +kernel)) dX2_scaled_13 ?_
    refine lv_dmul hx hb dX2_scaled_16 (dE_n (dE_mul (k := 32) hv hw (by omega) (by omega) dE_32 (by decide))) ?_
    refine lv_dstore_n (lv' := [(3, .double (FP.dmul v 4751297606875873280)), (5, .int L), (0, .double a0), (2, .int a1)]) hx hb dX2_scaled_17 rfl hl (by decide) rfl (fun ls hl => ?_)
    refine lv_iinc (v := L + (-32)) (lv' := [(5, .int (L + (-32))), (3, .double (FP.dmul v 4751297606875873280)), (0, .double a0), (2, .int a1)]) hx hb dX2_scaled_18 hl (k := 1) rfl rfl (by decide) rfl (fun ls hl => ?_)
    refine lv_goto (tgt := 5) hx hb dX2_scaled_21 (by decide) ?_
    exact ih _ _ _ _ hl (by have h := dE_mul (k := 32) hv hw (by omega) (by omega) dE_32 (by decide); rwa [show (32 * (j : Int) + (32 : Nat)) = 32 * ((j + 1 : Nat) : Int) by omega] at h) (by rw [i32_m32 (by omega)]; omega) (by right; rw [i32_m32 (by omega)]; omega) (by rw [i32_m32 (by omega)]; omega)
