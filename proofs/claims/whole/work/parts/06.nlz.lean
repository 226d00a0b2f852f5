
theorem nI_pos_lt {n : Nat} (h : n < 2 ^ 32) (h0 : 0 < nI n) : n < 2 ^ 31 := by
  rcases Nat.lt_or_ge n (2 ^ 31) with g | g
  · exact g
  · exfalso
    have : (nI n).toInt < 0 := by
      show (Int32.ofNat n).toInt < 0
      rw [Int32.toInt_ofNat']
      rw [show Int32.size = 4294967296 from rfl]
      simp only [Int.bmod]
      split <;> omega
    rw [Int32.lt_iff_toInt_lt] at h0
    rw [show (0 : Int32).toInt = 0 from rfl] at h0
    omega
theorem lz_leaf {n q : Nat} {c : Int32} (s : Nat) (hs : s ≤ 30) (h1 : 2 ^ s ≤ n) (h2 : n < 2 ^ (s + 2)) (hq : q = n / 2 ^ s / 2) (hc : c = nI (31 - s)) : c - nI q = nI (31 - n.log2) := by
  have p := Nat.two_pow_pos s
  have a1 : 1 ≤ n / 2 ^ s := (Nat.le_div_iff_mul_le p).mpr (by omega)
  have a2 : n / 2 ^ s < 4 := (Nat.div_lt_iff_lt_mul p).mpr (by rw [Nat.pow_add] at h2; omega)
  have n0 : n ≠ 0 := by omega
  by_cases h : n / 2 ^ s < 2
  · have h3 : n < 2 ^ (s + 1) := by rw [Nat.div_lt_iff_lt_mul p] at h; rw [Nat.pow_succ]; omega
    have hl : n.log2 = s := (Nat.log2_eq_iff n0).mpr ⟨h1, h3⟩
    rw [hl, hq, hc, show n / 2 ^ s / 2 = 0 by omega, pk_sub (by omega)]; rfl
  · have h3 : 2 ^ (s + 1) ≤ n := by rw [Nat.pow_succ, Nat.mul_comm, ← Nat.le_div_iff_mul_le p]; omega
    have hl : n.log2 = s + 1 := (Nat.log2_eq_iff n0).mpr ⟨h3, h2⟩
    rw [hl, hq, hc, show n / 2 ^ s / 2 = 1 by omega, pk_sub (by omega)]
    congr 1
theorem sub63 {a : Nat} (h : a ≤ 63) : (63 : Int32) - nI (63 - a) = nI a := by
  rw [show (63 : Int32) = nI 63 from rfl, pk_sub (by omega)]; congr 1; omega

set_option maxHeartbeats 4000000 in
set_option maxRecDepth 100000 in
theorem met_J6_numberOfLeadingZeros_0f7a4 (l : Launch) (n : Nat) (h0 : 0 < n) (hn : n < 2 ^ 32) : Met l yJ6_numberOfLeadingZeros_0f7a4 wsJ6_numberOfLeadingZeros_0f7a4 ({ frames := 0, cells := 0, slots := 0, locals := 0 }) (va_Pc [.int (nI n)] (fun _ => True)) (vp_Si (fun r => r = nI (31 - n.log2))) 0 0 (fun _ => False) := by
  refine Met.ofW (cc := cJ6_numberOfLeadingZeros_0f7a4) (maxL := 2) (ret := (some .int)) (by decide) rfl ?_
  intro p e s m args below meth c s₁ B hml hv
  obtain ⟨rfl, -⟩ := hv
  have hx := B.exec
  have hb := B.bytes
  have hr := B.returns
  have hts := atoms_spec (ws := wsJ6_numberOfLeadingZeros_0f7a4) B.pre
  have hown : s.vm.findClass RJ6 = some m.cls := findClass_of_methodNamed B.named
  have hlocks := B.notSynchronized
  have hl := lv_entry ([.int (nI n)]) (n := 2) (Nat.le_of_ble_eq_true rfl)
  rw [lg_entry_eq]
  generalize (lg_sl ([.int (nI n)]) ++ List.replicate (2 - (lg_sl ([.int (nI n)])).length) Slot.unset).toArray = ls at hl ⊢
  have hl : lv_has ls 2 [(0, .int (nI n))] := hl
  refine lv_iload_n hx hb dJ6_numberOfLeadingZeros_0f7a4_0 rfl (lv_at hl 0 rfl) ?_
  refine lv_if_gt (tgt := 15) hx hb dJ6_numberOfLeadingZeros_0f7a4_1 (by decide) (fun c_1 => ?_) (fun c_1 => ?_)
  · replace c_1 := nI_pos_lt hn c_1
    refine lv_bipush (v := 31) hx hb dJ6_numberOfLeadingZeros_0f7a4_15 (by decide) ?_
    refine lv_istore_n (lv' := [(1, .int 31), (0, .int (nI n))]) hx hb dJ6_numberOfLeadingZeros_0f7a4_17 rfl hl (by decide) rfl (fun ls hl => ?_)
    refine lv_iload_n hx hb dJ6_numberOfLeadingZeros_0f7a4_18 rfl (lv_at hl 1 rfl) ?_
    refine lv_ldcw hx hb hown (hts (.constant RJ6 264 (65536)) (by decide +kernel)) dJ6_numberOfLeadingZeros_0f7a4_19 ?_
    refine lv_icmp_lt (tgt := 33) hx hb dJ6_numberOfLeadingZeros_0f7a4_22 (by decide) (fun c_2 => ?_) (fun c_2 => ?_)
    · replace c_2 : n < 65536 := (nI_ltI (b := 65536) (by omega) (by omega)).mp c_2
      refine lv_iload_n hx hb dJ6_numberOfLeadingZeros_0f7a4_33 rfl (lv_at hl 1 rfl) ?_
      refine lv_sipush (v := 256) hx hb dJ6_numberOfLeadingZeros_0f7a4_34 (by decide) ?_
      refine lv_icmp_lt (tgt := 48) hx hb dJ6_numberOfLeadingZeros_0f7a4_37 (by decide) (fun c_3 => ?_) (fun c_3 => ?_)
      · replace c_3 : n < 256 := (nI_ltI (b := 256) (by omega) (by omega)).mp c_3
        refine lv_iload_n hx hb dJ6_numberOfLeadingZeros_0f7a4_48 rfl (lv_at hl 1 rfl) ?_
        refine lv_bipush (v := 16) hx hb dJ6_numberOfLeadingZeros_0f7a4_49 (by decide) ?_
        refine lv_icmp_lt (tgt := 61) hx hb dJ6_numberOfLeadingZeros_0f7a4_51 (by decide) (fun c_4 => ?_) (fun c_4 => ?_)
        · replace c_4 : n < 16 := (nI_ltI (b := 16) (by omega) (by omega)).mp c_4
          refine lv_iload_n hx hb dJ6_numberOfLeadingZeros_0f7a4_61 rfl (lv_at hl 1 rfl) ?_
          refine lv_iconst (v := 4) hx hb dJ6_numberOfLeadingZeros_0f7a4_62 (by decide) ?_
          refine lv_icmp_lt (tgt := 73) hx hb dJ6_numberOfLeadingZeros_0f7a4_63 (by decide) (fun c_5 => ?_) (fun c_5 => ?_)
          · replace c_5 : n < 4 := (nI_ltI (b := 4) (by omega) (by omega)).mp c_5
            refine lv_iload_n hx hb dJ6_numberOfLeadingZeros_0f7a4_73 rfl (lv_at hl 0 rfl) ?_
            refine lv_iload_n hx hb dJ6_numberOfLeadingZeros_0f7a4_74 rfl (lv_at hl 1 rfl) ?_
            refine lv_iconst (v := 1) hx hb dJ6_numberOfLeadingZeros_0f7a4_75 (by decide) ?_
            refine lv_iushr hx hb dJ6_numberOfLeadingZeros_0f7a4_76 rfl ?_
            refine lv_topi (fun z_6 ez_6 => ?_)
            obtain rfl : z_6 = nI (n / 2 ^ 1) := ez_6.trans (pk_ushrN (by omega) 1 1 (by decide))
            refine lv_isub hx hb dJ6_numberOfLeadingZeros_0f7a4_77 ?_
            exact W.iret (v := 31 - (nI (n / 2 ^ 1))) hx hb hr (fun t ht hW => ⟨_, rfl, lz_leaf (c := 31) 0 (by decide) (by omega) (by omega) (by omega) (by decide), ht⟩) (fun q hq => absurd hq List.not_mem_nil) dJ6_numberOfLeadingZeros_0f7a4_78
          · replace c_5 : ¬ n < 4 := (fun h => c_5 ((nI_ltI (b := 4) (by omega) (by omega)).mpr h))
            refine lv_iinc (v := 31 + (-2)) (lv' := [(1, .int (31 + (-2))), (0, .int (nI n))]) hx hb dJ6_numberOfLeadingZeros_0f7a4_66 hl (k := 0) rfl rfl (by decide) rfl (fun ls hl => ?_)
            refine lv_iload_n hx hb dJ6_numberOfLeadingZeros_0f7a4_69 rfl (lv_at hl 1 rfl) ?_
            refine lv_iconst (v := 2) hx hb dJ6_numberOfLeadingZeros_0f7a4_70 (by decide) ?_
            refine lv_iushr hx hb dJ6_numberOfLeadingZeros_0f7a4_71 rfl ?_
            refine lv_topi (fun z_7 ez_7 => ?_)
            obtain rfl : z_7 = nI (n / 2 ^ 2) := ez_7.trans (pk_ushrN (by omega) 2 2 (by decide))
            refine lv_istore_n (lv' := [(0, .int (nI (n / 2 ^ 2))), (1, .int (31 + (-2)))]) hx hb dJ6_numberOfLeadingZeros_0f7a4_72 rfl hl (by decide) rfl (fun ls hl => ?_)
            refine lv_iload_n hx hb dJ6_numberOfLeadingZeros_0f7a4_73 rfl (lv_at hl 1 rfl) ?_
            refine lv_iload_n hx hb dJ6_numberOfLeadingZeros_0f7a4_74 rfl (lv_at hl 0 rfl) ?_
            refine lv_iconst (v := 1) hx hb dJ6_numberOfLeadingZeros_0f7a4_75 (by decide) ?_
            refine lv_iushr hx hb dJ6_numberOfLeadingZeros_0f7a4_76 rfl ?_
            refine lv_topi (fun z_8 ez_8 => ?_)
            obtain rfl : z_8 = nI (n / 2 ^ 2 / 2 ^ 1) := ez_8.trans (pk_ushrN (by omega) 1 1 (by decide))
            refine lv_isub hx hb dJ6_numberOfLeadingZeros_0f7a4_77 ?_
            exact W.iret (v := (31 + (-2)) - (nI (n / 2 ^ 2 / 2 ^ 1))) hx hb hr (fun t ht hW => ⟨_, rfl, lz_leaf (c := (31 + (-2))) 2 (by decide) (by omega) (by omega) (by omega) (by decide), ht⟩) (fun q hq => absurd hq List.not_mem_nil) dJ6_numberOfLeadingZeros_0f7a4_78
        · replace c_4 : ¬ n < 16 := (fun h => c_4 ((nI_ltI (b := 16) (by omega) (by omega)).mpr h))
          refine lv_iinc (v := 31 + (-4)) (lv' := [(1, .int (31 + (-4))), (0, .int (nI n))]) hx hb dJ6_numberOfLeadingZeros_0f7a4_54 hl (k := 0) rfl rfl (by decide) rfl (fun ls hl => ?_)
          refine lv_iload_n hx hb dJ6_numberOfLeadingZeros_0f7a4_57 rfl (lv_at hl 1 rfl) ?_
          refine lv_iconst (v := 4) hx hb dJ6_numberOfLeadingZeros_0f7a4_58 (by decide) ?_
          refine lv_iushr hx hb dJ6_numberOfLeadingZeros_0f7a4_59 rfl ?_
          refine lv_topi (fun z_9 ez_9 => ?_)
          obtain rfl : z_9 = nI (n / 2 ^ 4) := ez_9.trans (pk_ushrN (by omega) 4 4 (by decide))
          refine lv_istore_n (lv' := [(0, .int (nI (n / 2 ^ 4))), (1, .int (31 + (-4)))]) hx hb dJ6_numberOfLeadingZeros_0f7a4_60 rfl hl (by decide) rfl (fun ls hl => ?_)
          refine lv_iload_n hx hb dJ6_numberOfLeadingZeros_0f7a4_61 rfl (lv_at hl 0 rfl) ?_
          refine lv_iconst (v := 4) hx hb dJ6_numberOfLeadingZeros_0f7a4_62 (by decide) ?_
          refine lv_icmp_lt (tgt := 73) hx hb dJ6_numberOfLeadingZeros_0f7a4_63 (by decide) (fun c_10 => ?_) (fun c_10 => ?_)
          · replace c_10 : (n / 2 ^ 4) < 4 := (nI_ltI (b := 4) (by omega) (by omega)).mp c_10
            refine lv_iload_n hx hb dJ6_numberOfLeadingZeros_0f7a4_73 rfl (lv_at hl 1 rfl) ?_
            refine lv_iload_n hx hb dJ6_numberOfLeadingZeros_0f7a4_74 rfl (lv_at hl 0 rfl) ?_
            refine lv_iconst (v := 1) hx hb dJ6_numberOfLeadingZeros_0f7a4_75 (by decide) ?_
            refine lv_iushr hx hb dJ6_numberOfLeadingZeros_0f7a4_76 rfl ?_
            refine lv_topi (fun z_11 ez_11 => ?_)
            obtain rfl : z_11 = nI (n / 2 ^ 4 / 2 ^ 1) := ez_11.trans (pk_ushrN (by omega) 1 1 (by decide))
            refine lv_isub hx hb dJ6_numberOfLeadingZeros_0f7a4_77 ?_
            exact W.iret (v := (31 + (-4)) - (nI (n / 2 ^ 4 / 2 ^ 1))) hx hb hr (fun t ht hW => ⟨_, rfl, lz_leaf (c := (31 + (-4))) 4 (by decide) (by omega) (by omega) (by omega) (by decide), ht⟩) (fun q hq => absurd hq List.not_mem_nil) dJ6_numberOfLeadingZeros_0f7a4_78
          · replace c_10 : ¬ (n / 2 ^ 4) < 4 := (fun h => c_10 ((nI_ltI (b := 4) (by omega) (by omega)).mpr h))
            refine lv_iinc (v := (31 + (-4)) + (-2)) (lv' := [(1, .int ((31 + (-4)) + (-2))), (0, .int (nI (n / 2 ^ 4)))]) hx hb dJ6_numberOfLeadingZeros_0f7a4_66 hl (k := 1) rfl rfl (by decide) rfl (fun ls hl => ?_)
            refine lv_iload_n hx hb dJ6_numberOfLeadingZeros_0f7a4_69 rfl (lv_at hl 1 rfl) ?_
            refine lv_iconst (v := 2) hx hb dJ6_numberOfLeadingZeros_0f7a4_70 (by decide) ?_
            refine lv_iushr hx hb dJ6_numberOfLeadingZeros_0f7a4_71 rfl ?_
            refine lv_topi (fun z_12 ez_12 => ?_)
            obtain rfl : z_12 = nI (n / 2 ^ 4 / 2 ^ 2) := ez_12.trans (pk_ushrN (by omega) 2 2 (by decide))
            refine lv_istore_n (lv' := [(0, .int (nI (n / 2 ^ 4 / 2 ^ 2))), (1, .int ((31 + (-4)) + (-2)))]) hx hb dJ6_numberOfLeadingZeros_0f7a4_72 rfl hl (by decide) rfl (fun ls hl => ?_)
            refine lv_iload_n hx hb dJ6_numberOfLeadingZeros_0f7a4_73 rfl (lv_at hl 1 rfl) ?_
            refine lv_iload_n hx hb dJ6_numberOfLeadingZeros_0f7a4_74 rfl (lv_at hl 0 rfl) ?_
            refine lv_iconst (v := 1) hx hb dJ6_numberOfLeadingZeros_0f7a4_75 (by decide) ?_
            refine lv_iushr hx hb dJ6_numberOfLeadingZeros_0f7a4_76 rfl ?_
            refine lv_topi (fun z_13 ez_13 => ?_)
            obtain rfl : z_13 = nI (n / 2 ^ 4 / 2 ^ 2 / 2 ^ 1) := ez_13.trans (pk_ushrN (by omega) 1 1 (by decide))
            refine lv_isub hx hb dJ6_numberOfLeadingZeros_0f7a4_77 ?_
            exact W.iret (v := ((31 + (-4)) + (-2)) - (nI (n / 2 ^ 4 / 2 ^ 2 / 2 ^ 1))) hx hb hr (fun t ht hW => ⟨_, rfl, lz_leaf (c := ((31 + (-4)) + (-2))) 6 (by decide) (by omega) (by omega) (by omega) (by decide), ht⟩) (fun q hq => absurd hq List.not_mem_nil) dJ6_numberOfLeadingZeros_0f7a4_78
      · replace c_3 : ¬ n < 256 := (fun h => c_3 ((nI_ltI (b := 256) (by omega) (by omega)).mpr h))
        refine lv_iinc (v := 31 + (-8)) (lv' := [(1, .int (31 + (-8))), (0, .int (nI n))]) hx hb dJ6_numberOfLeadingZeros_0f7a4_40 hl (k := 0) rfl rfl (by decide) rfl (fun ls hl => ?_)
        refine lv_iload_n hx hb dJ6_numberOfLeadingZeros_0f7a4_43 rfl (lv_at hl 1 rfl) ?_
        refine lv_bipush (v := 8) hx hb dJ6_numberOfLeadingZeros_0f7a4_44 (by decide) ?_
        refine lv_iushr hx hb dJ6_numberOfLeadingZeros_0f7a4_46 rfl ?_
        refine lv_topi (fun z_14 ez_14 => ?_)
        obtain rfl : z_14 = nI (n / 2 ^ 8) := ez_14.trans (pk_ushrN (by omega) 8 8 (by decide))
        refine lv_istore_n (lv' := [(0, .int (nI (n / 2 ^ 8))), (1, .int (31 + (-8)))]) hx hb dJ6_numberOfLeadingZeros_0f7a4_47 rfl hl (by decide) rfl (fun ls hl => ?_)
        refine lv_iload_n hx hb dJ6_numberOfLeadingZeros_0f7a4_48 rfl (lv_at hl 0 rfl) ?_
        refine lv_bipush (v := 16) hx hb dJ6_numberOfLeadingZeros_0f7a4_49 (by decide) ?_
        refine lv_icmp_lt (tgt := 61) hx hb dJ6_numberOfLeadingZeros_0f7a4_51 (by decide) (fun c_15 => ?_) (fun c_15 => ?_)
        · replace c_15 : (n / 2 ^ 8) < 16 := (nI_ltI (b := 16) (by omega) (by omega)).mp c_15
          refine lv_iload_n hx hb dJ6_numberOfLeadingZeros_0f7a4_61 rfl (lv_at hl 0 rfl) ?_
          refine lv_iconst (v := 4) hx hb dJ6_numberOfLeadingZeros_0f7a4_62 (by decide) ?_
          refine lv_icmp_lt (tgt := 73) hx hb dJ6_numberOfLeadingZeros_0f7a4_63 (by decide) (fun c_16 => ?_) (fun c_16 => ?_)
          · replace c_16 : (n / 2 ^ 8) < 4 := (nI_ltI (b := 4) (by omega) (by omega)).mp c_16
            refine lv_iload_n hx hb dJ6_numberOfLeadingZeros_0f7a4_73 rfl (lv_at hl 1 rfl) ?_
            refine lv_iload_n hx hb dJ6_numberOfLeadingZeros_0f7a4_74 rfl (lv_at hl 0 rfl) ?_
            refine lv_iconst (v := 1) hx hb dJ6_numberOfLeadingZeros_0f7a4_75 (by decide) ?_
            refine lv_iushr hx hb dJ6_numberOfLeadingZeros_0f7a4_76 rfl ?_
            refine lv_topi (fun z_17 ez_17 => ?_)
            obtain rfl : z_17 = nI (n / 2 ^ 8 / 2 ^ 1) := ez_17.trans (pk_ushrN (by omega) 1 1 (by decide))
            refine lv_isub hx hb dJ6_numberOfLeadingZeros_0f7a4_77 ?_
            exact W.iret (v := (31 + (-8)) - (nI (n / 2 ^ 8 / 2 ^ 1))) hx hb hr (fun t ht hW => ⟨_, rfl, lz_leaf (c := (31 + (-8))) 8 (by decide) (by omega) (by omega) (by omega) (by decide), ht⟩) (fun q hq => absurd hq List.not_mem_nil) dJ6_numberOfLeadingZeros_0f7a4_78
          · replace c_16 : ¬ (n / 2 ^ 8) < 4 := (fun h => c_16 ((nI_ltI (b := 4) (by omega) (by omega)).mpr h))
            refine lv_iinc (v := (31 + (-8)) + (-2)) (lv' := [(1, .int ((31 + (-8)) + (-2))), (0, .int (nI (n / 2 ^ 8)))]) hx hb dJ6_numberOfLeadingZeros_0f7a4_66 hl (k := 1) rfl rfl (by decide) rfl (fun ls hl => ?_)
            refine lv_iload_n hx hb dJ6_numberOfLeadingZeros_0f7a4_69 rfl (lv_at hl 1 rfl) ?_
            refine lv_iconst (v := 2) hx hb dJ6_numberOfLeadingZeros_0f7a4_70 (by decide) ?_
            refine lv_iushr hx hb dJ6_numberOfLeadingZeros_0f7a4_71 rfl ?_
            refine lv_topi (fun z_18 ez_18 => ?_)
            obtain rfl : z_18 = nI (n / 2 ^ 8 / 2 ^ 2) := ez_18.trans (pk_ushrN (by omega) 2 2 (by decide))
            refine lv_istore_n (lv' := [(0, .int (nI (n / 2 ^ 8 / 2 ^ 2))), (1, .int ((31 + (-8)) + (-2)))]) hx hb dJ6_numberOfLeadingZeros_0f7a4_72 rfl hl (by decide) rfl (fun ls hl => ?_)
            refine lv_iload_n hx hb dJ6_numberOfLeadingZeros_0f7a4_73 rfl (lv_at hl 1 rfl) ?_
            refine lv_iload_n hx hb dJ6_numberOfLeadingZeros_0f7a4_74 rfl (lv_at hl 0 rfl) ?_
            refine lv_iconst (v := 1) hx hb dJ6_numberOfLeadingZeros_0f7a4_75 (by decide) ?_
            refine lv_iushr hx hb dJ6_numberOfLeadingZeros_0f7a4_76 rfl ?_
            refine lv_topi (fun z_19 ez_19 => ?_)
            obtain rfl : z_19 = nI (n / 2 ^ 8 / 2 ^ 2 / 2 ^ 1) := ez_19.trans (pk_ushrN (by omega) 1 1 (by decide))
            refine lv_isub hx hb dJ6_numberOfLeadingZeros_0f7a4_77 ?_
            exact W.iret (v := ((31 + (-8)) + (-2)) - (nI (n / 2 ^ 8 / 2 ^ 2 / 2 ^ 1))) hx hb hr (fun t ht hW => ⟨_, rfl, lz_leaf (c := ((31 + (-8)) + (-2))) 10 (by decide) (by omega) (by omega) (by omega) (by decide), ht⟩) (fun q hq => absurd hq List.not_mem_nil) dJ6_numberOfLeadingZeros_0f7a4_78
        · replace c_15 : ¬ (n / 2 ^ 8) < 16 := (fun h => c_15 ((nI_ltI (b := 16) (by omega) (by omega)).mpr h))
          refine lv_iinc (v := (31 + (-8)) + (-4)) (lv' := [(1, .int ((31 + (-8)) + (-4))), (0, .int (nI (n / 2 ^ 8)))]) hx hb dJ6_numberOfLeadingZeros_0f7a4_54 hl (k := 1) rfl rfl (by decide) rfl (fun ls hl => ?_)
          refine lv_iload_n hx hb dJ6_numberOfLeadingZeros_0f7a4_57 rfl (lv_at hl 1 rfl) ?_
          refine lv_iconst (v := 4) hx hb dJ6_numberOfLeadingZeros_0f7a4_58 (by decide) ?_
          refine lv_iushr hx hb dJ6_numberOfLeadingZeros_0f7a4_59 rfl ?_
          refine lv_topi (fun z_20 ez_20 => ?_)
          obtain rfl : z_20 = nI (n / 2 ^ 8 / 2 ^ 4) := ez_20.trans (pk_ushrN (by omega) 4 4 (by decide))
          refine lv_istore_n (lv' := [(0, .int (nI (n / 2 ^ 8 / 2 ^ 4))), (1, .int ((31 + (-8)) + (-4)))]) hx hb dJ6_numberOfLeadingZeros_0f7a4_60 rfl hl (by decide) rfl (fun ls hl => ?_)
          refine lv_iload_n hx hb dJ6_numberOfLeadingZeros_0f7a4_61 rfl (lv_at hl 0 rfl) ?_
          refine lv_iconst (v := 4) hx hb dJ6_numberOfLeadingZeros_0f7a4_62 (by decide) ?_
          refine lv_icmp_lt (tgt := 73) hx hb dJ6_numberOfLeadingZeros_0f7a4_63 (by decide) (fun c_21 => ?_) (fun c_21 => ?_)
          · replace c_21 : (n / 2 ^ 8 / 2 ^ 4) < 4 := (nI_ltI (b := 4) (by omega) (by omega)).mp c_21
            refine lv_iload_n hx hb dJ6_numberOfLeadingZeros_0f7a4_73 rfl (lv_at hl 1 rfl) ?_
            refine lv_iload_n hx hb dJ6_numberOfLeadingZeros_0f7a4_74 rfl (lv_at hl 0 rfl) ?_
            refine lv_iconst (v := 1) hx hb dJ6_numberOfLeadingZeros_0f7a4_75 (by decide) ?_
            refine lv_iushr hx hb dJ6_numberOfLeadingZeros_0f7a4_76 rfl ?_
            refine lv_topi (fun z_22 ez_22 => ?_)
            obtain rfl : z_22 = nI (n / 2 ^ 8 / 2 ^ 4 / 2 ^ 1) := ez_22.trans (pk_ushrN (by omega) 1 1 (by decide))
            refine lv_isub hx hb dJ6_numberOfLeadingZeros_0f7a4_77 ?_
            exact W.iret (v := ((31 + (-8)) + (-4)) - (nI (n / 2 ^ 8 / 2 ^ 4 / 2 ^ 1))) hx hb hr (fun t ht hW => ⟨_, rfl, lz_leaf (c := ((31 + (-8)) + (-4))) 12 (by decide) (by omega) (by omega) (by omega) (by decide), ht⟩) (fun q hq => absurd hq List.not_mem_nil) dJ6_numberOfLeadingZeros_0f7a4_78
          · replace c_21 : ¬ (n / 2 ^ 8 / 2 ^ 4) < 4 := (fun h => c_21 ((nI_ltI (b := 4) (by omega) (by omega)).mpr h))
            refine lv_iinc (v := ((31 + (-8)) + (-4)) + (-2)) (lv' := [(1, .int (((31 + (-8)) + (-4)) + (-2))), (0, .int (nI (n / 2 ^ 8 / 2 ^ 4)))]) hx hb dJ6_numberOfLeadingZeros_0f7a4_66 hl (k := 1) rfl rfl (by decide) rfl (fun ls hl => ?_)
            refine lv_iload_n hx hb dJ6_numberOfLeadingZeros_0f7a4_69 rfl (lv_at hl 1 rfl) ?_
            refine lv_iconst (v := 2) hx hb dJ6_numberOfLeadingZeros_0f7a4_70 (by decide) ?_
            refine lv_iushr hx hb dJ6_numberOfLeadingZeros_0f7a4_71 rfl ?_
            refine lv_topi (fun z_23 ez_23 => ?_)
            obtain rfl : z_23 = nI (n / 2 ^ 8 / 2 ^ 4 / 2 ^ 2) := ez_23.trans (pk_ushrN (by omega) 2 2 (by decide))
            refine lv_istore_n (lv' := [(0, .int (nI (n / 2 ^ 8 / 2 ^ 4 / 2 ^ 2))), (1, .int (((31 + (-8)) + (-4)) + (-2)))]) hx hb dJ6_numberOfLeadingZeros_0f7a4_72 rfl hl (by decide) rfl (fun ls hl => ?_)
            refine lv_iload_n hx hb dJ6_numberOfLeadingZeros_0f7a4_73 rfl (lv_at hl 1 rfl) ?_
            refine lv_iload_n hx hb dJ6_numberOfLeadingZeros_0f7a4_74 rfl (lv_at hl 0 rfl) ?_
            refine lv_iconst (v := 1) hx hb dJ6_numberOfLeadingZeros_0f7a4_75 (by decide) ?_
            refine lv_iushr hx hb dJ6_numberOfLeadingZeros_0f7a4_76 rfl ?_
            refine lv_topi (fun z_24 ez_24 => ?_)
            obtain rfl : z_24 = nI (n / 2 ^ 8 / 2 ^ 4 / 2 ^ 2 / 2 ^ 1) := ez_24.trans (pk_ushrN (by omega) 1 1 (by decide))
            refine lv_isub hx hb dJ6_numberOfLeadingZeros_0f7a4_77 ?_
            exact W.iret (v := (((31 + (-8)) + (-4)) + (-2)) - (nI (n / 2 ^ 8 / 2 ^ 4 / 2 ^ 2 / 2 ^ 1))) hx hb hr (fun t ht hW => ⟨_, rfl, lz_leaf (c := (((31 + (-8)) + (-4)) + (-2))) 14 (by decide) (by omega) (by omega) (by omega) (by decide), ht⟩) (fun q hq => absurd hq List.not_mem_nil) dJ6_numberOfLeadingZeros_0f7a4_78
    · replace c_2 : ¬ n < 65536 := (fun h => c_2 ((nI_ltI (b := 65536) (by omega) (by omega)).mpr h))
      refine lv_iinc (v := 31 + (-16)) (lv' := [(1, .int (31 + (-16))), (0, .int (nI n))]) hx hb dJ6_numberOfLeadingZeros_0f7a4_25 hl (k := 0) rfl rfl (by decide) rfl (fun ls hl => ?_)
      refine lv_iload_n hx hb dJ6_numberOfLeadingZeros_0f7a4_28 rfl (lv_at hl 1 rfl) ?_
      refine lv_bipush (v := 16) hx hb dJ6_numberOfLeadingZeros_0f7a4_29 (by decide) ?_
      refine lv_iushr hx hb dJ6_numberOfLeadingZeros_0f7a4_31 rfl ?_
      refine lv_topi (fun z_25 ez_25 => ?_)
      obtain rfl : z_25 = nI (n / 2 ^ 16) := ez_25.trans (pk_ushrN (by omega) 16 16 (by decide))
      refine lv_istore_n (lv' := [(0, .int (nI (n / 2 ^ 16))), (1, .int (31 + (-16)))]) hx hb dJ6_numberOfLeadingZeros_0f7a4_32 rfl hl (by decide) rfl (fun ls hl => ?_)
      refine lv_iload_n hx hb dJ6_numberOfLeadingZeros_0f7a4_33 rfl (lv_at hl 0 rfl) ?_
      refine lv_sipush (v := 256) hx hb dJ6_numberOfLeadingZeros_0f7a4_34 (by decide) ?_
      refine lv_icmp_lt (tgt := 48) hx hb dJ6_numberOfLeadingZeros_0f7a4_37 (by decide) (fun c_26 => ?_) (fun c_26 => ?_)
      · replace c_26 : (n / 2 ^ 16) < 256 := (nI_ltI (b := 256) (by omega) (by omega)).mp c_26
        refine lv_iload_n hx hb dJ6_numberOfLeadingZeros_0f7a4_48 rfl (lv_at hl 0 rfl) ?_
        refine lv_bipush (v := 16) hx hb dJ6_numberOfLeadingZeros_0f7a4_49 (by decide) ?_
        refine lv_icmp_lt (tgt := 61) hx hb dJ6_numberOfLeadingZeros_0f7a4_51 (by decide) (fun c_27 => ?_) (fun c_27 => ?_)
        · replace c_27 : (n / 2 ^ 16) < 16 := (nI_ltI (b := 16) (by omega) (by omega)).mp c_27
          refine lv_iload_n hx hb dJ6_numberOfLeadingZeros_0f7a4_61 rfl (lv_at hl 0 rfl) ?_
          refine lv_iconst (v := 4) hx hb dJ6_numberOfLeadingZeros_0f7a4_62 (by decide) ?_
          refine lv_icmp_lt (tgt := 73) hx hb dJ6_numberOfLeadingZeros_0f7a4_63 (by decide) (fun c_28 => ?_) (fun c_28 => ?_)
          · replace c_28 : (n / 2 ^ 16) < 4 := (nI_ltI (b := 4) (by omega) (by omega)).mp c_28
            refine lv_iload_n hx hb dJ6_numberOfLeadingZeros_0f7a4_73 rfl (lv_at hl 1 rfl) ?_
            refine lv_iload_n hx hb dJ6_numberOfLeadingZeros_0f7a4_74 rfl (lv_at hl 0 rfl) ?_
            refine lv_iconst (v := 1) hx hb dJ6_numberOfLeadingZeros_0f7a4_75 (by decide) ?_
            refine lv_iushr hx hb dJ6_numberOfLeadingZeros_0f7a4_76 rfl ?_
            refine lv_topi (fun z_29 ez_29 => ?_)
            obtain rfl : z_29 = nI (n / 2 ^ 16 / 2 ^ 1) := ez_29.trans (pk_ushrN (by omega) 1 1 (by decide))
            refine lv_isub hx hb dJ6_numberOfLeadingZeros_0f7a4_77 ?_
            exact W.iret (v := (31 + (-16)) - (nI (n / 2 ^ 16 / 2 ^ 1))) hx hb hr (fun t ht hW => ⟨_, rfl, lz_leaf (c := (31 + (-16))) 16 (by decide) (by omega) (by omega) (by omega) (by decide), ht⟩) (fun q hq => absurd hq List.not_mem_nil) dJ6_numberOfLeadingZeros_0f7a4_78
          · replace c_28 : ¬ (n / 2 ^ 16) < 4 := (fun h => c_28 ((nI_ltI (b := 4) (by omega) (by omega)).mpr h))
            refine lv_iinc (v := (31 + (-16)) + (-2)) (lv' := [(1, .int ((31 + (-16)) + (-2))), (0, .int (nI (n / 2 ^ 16)))]) hx hb dJ6_numberOfLeadingZeros_0f7a4_66 hl (k := 1) rfl rfl (by decide) rfl (fun ls hl => ?_)
            refine lv_iload_n hx hb dJ6_numberOfLeadingZeros_0f7a4_69 rfl (lv_at hl 1 rfl) ?_
            refine lv_iconst (v := 2) hx hb dJ6_numberOfLeadingZeros_0f7a4_70 (by decide) ?_
            refine lv_iushr hx hb dJ6_numberOfLeadingZeros_0f7a4_71 rfl ?_
            refine lv_topi (fun z_30 ez_30 => ?_)
            obtain rfl : z_30 = nI (n / 2 ^ 16 / 2 ^ 2) := ez_30.trans (pk_ushrN (by omega) 2 2 (by decide))
            refine lv_istore_n (lv' := [(0, .int (nI (n / 2 ^ 16 / 2 ^ 2))), (1, .int ((31 + (-16)) + (-2)))]) hx hb dJ6_numberOfLeadingZeros_0f7a4_72 rfl hl (by decide) rfl (fun ls hl => ?_)
            refine lv_iload_n hx hb dJ6_numberOfLeadingZeros_0f7a4_73 rfl (lv_at hl 1 rfl) ?_
            refine lv_iload_n hx hb dJ6_numberOfLeadingZeros_0f7a4_74 rfl (lv_at hl 0 rfl) ?_
            refine lv_iconst (v := 1) hx hb dJ6_numberOfLeadingZeros_0f7a4_75 (by decide) ?_
            refine lv_iushr hx hb dJ6_numberOfLeadingZeros_0f7a4_76 rfl ?_
            refine lv_topi (fun z_31 ez_31 => ?_)
            obtain rfl : z_31 = nI (n / 2 ^ 16 / 2 ^ 2 / 2 ^ 1) := ez_31.trans (pk_ushrN (by omega) 1 1 (by decide))
            refine lv_isub hx hb dJ6_numberOfLeadingZeros_0f7a4_77 ?_
            exact W.iret (v := ((31 + (-16)) + (-2)) - (nI (n / 2 ^ 16 / 2 ^ 2 / 2 ^ 1))) hx hb hr (fun t ht hW => ⟨_, rfl, lz_leaf (c := ((31 + (-16)) + (-2))) 18 (by decide) (by omega) (by omega) (by omega) (by decide), ht⟩) (fun q hq => absurd hq List.not_mem_nil) dJ6_numberOfLeadingZeros_0f7a4_78
        · replace c_27 : ¬ (n / 2 ^ 16) < 16 := (fun h => c_27 ((nI_ltI (b := 16) (by omega) (by omega)).mpr h))
          refine lv_iinc (v := (31 + (-16)) + (-4)) (lv' := [(1, .int ((31 + (-16)) + (-4))), (0, .int (nI (n / 2 ^ 16)))]) hx hb dJ6_numberOfLeadingZeros_0f7a4_54 hl (k := 1) rfl rfl (by decide) rfl (fun ls hl => ?_)
          refine lv_iload_n hx hb dJ6_numberOfLeadingZeros_0f7a4_57 rfl (lv_at hl 1 rfl) ?_
          refine lv_iconst (v := 4) hx hb dJ6_numberOfLeadingZeros_0f7a4_58 (by decide) ?_
          refine lv_iushr hx hb dJ6_numberOfLeadingZeros_0f7a4_59 rfl ?_
          refine lv_topi (fun z_32 ez_32 => ?_)
          obtain rfl : z_32 = nI (n / 2 ^ 16 / 2 ^ 4) := ez_32.trans (pk_ushrN (by omega) 4 4 (by decide))
          refine lv_istore_n (lv' := [(0, .int (nI (n / 2 ^ 16 / 2 ^ 4))), (1, .int ((31 + (-16)) + (-4)))]) hx hb dJ6_numberOfLeadingZeros_0f7a4_60 rfl hl (by decide) rfl (fun ls hl => ?_)
          refine lv_iload_n hx hb dJ6_numberOfLeadingZeros_0f7a4_61 rfl (lv_at hl 0 rfl) ?_
          refine lv_iconst (v := 4) hx hb dJ6_numberOfLeadingZeros_0f7a4_62 (by decide) ?_
          refine lv_icmp_lt (tgt := 73) hx hb dJ6_numberOfLeadingZeros_0f7a4_63 (by decide) (fun c_33 => ?_) (fun c_33 => ?_)
          · replace c_33 : (n / 2 ^ 16 / 2 ^ 4) < 4 := (nI_ltI (b := 4) (by omega) (by omega)).mp c_33
            refine lv_iload_n hx hb dJ6_numberOfLeadingZeros_0f7a4_73 rfl (lv_at hl 1 rfl) ?_
            refine lv_iload_n hx hb dJ6_numberOfLeadingZeros_0f7a4_74 rfl (lv_at hl 0 rfl) ?_
            refine lv_iconst (v := 1) hx hb dJ6_numberOfLeadingZeros_0f7a4_75 (by decide) ?_
            refine lv_iushr hx hb dJ6_numberOfLeadingZeros_0f7a4_76 rfl ?_
            refine lv_topi (fun z_34 ez_34 => ?_)
            obtain rfl : z_34 = nI (n / 2 ^ 16 / 2 ^ 4 / 2 ^ 1) := ez_34.trans (pk_ushrN (by omega) 1 1 (by decide))
            refine lv_isub hx hb dJ6_numberOfLeadingZeros_0f7a4_77 ?_
            exact W.iret (v := ((31 + (-16)) + (-4)) - (nI (n / 2 ^ 16 / 2 ^ 4 / 2 ^ 1))) hx hb hr (fun t ht hW => ⟨_, rfl, lz_leaf (c := ((31 + (-16)) + (-4))) 20 (by decide) (by omega) (by omega) (by omega) (by decide), ht⟩) (fun q hq => absurd hq List.not_mem_nil) dJ6_numberOfLeadingZeros_0f7a4_78
          · replace c_33 : ¬ (n / 2 ^ 16 / 2 ^ 4) < 4 := (fun h => c_33 ((nI_ltI (b := 4) (by omega) (by omega)).mpr h))
            refine lv_iinc (v := ((31 + (-16)) + (-4)) + (-2)) (lv' := [(1, .int (((31 + (-16)) + (-4)) + (-2))), (0, .int (nI (n / 2 ^ 16 / 2 ^ 4)))]) hx hb dJ6_numberOfLeadingZeros_0f7a4_66 hl (k := 1) rfl rfl (by decide) rfl (fun ls hl => ?_)
            refine lv_iload_n hx hb dJ6_numberOfLeadingZeros_0f7a4_69 rfl (lv_at hl 1 rfl) ?_
            refine lv_iconst (v := 2) hx hb dJ6_numberOfLeadingZeros_0f7a4_70 (by decide) ?_
            refine lv_iushr hx hb dJ6_numberOfLeadingZeros_0f7a4_71 rfl ?_
            refine lv_topi (fun z_35 ez_35 => ?_)
            obtain rfl : z_35 = nI (n / 2 ^ 16 / 2 ^ 4 / 2 ^ 2) := ez_35.trans (pk_ushrN (by omega) 2 2 (by decide))
            refine lv_istore_n (lv' := [(0, .int (nI (n / 2 ^ 16 / 2 ^ 4 / 2 ^ 2))), (1, .int (((31 + (-16)) + (-4)) + (-2)))]) hx hb dJ6_numberOfLeadingZeros_0f7a4_72 rfl hl (by decide) rfl (fun ls hl => ?_)
            refine lv_iload_n hx hb dJ6_numberOfLeadingZeros_0f7a4_73 rfl (lv_at hl 1 rfl) ?_
            refine lv_iload_n hx hb dJ6_numberOfLeadingZeros_0f7a4_74 rfl (lv_at hl 0 rfl) ?_
            refine lv_iconst (v := 1) hx hb dJ6_numberOfLeadingZeros_0f7a4_75 (by decide) ?_
            refine lv_iushr hx hb dJ6_numberOfLeadingZeros_0f7a4_76 rfl ?_
            refine lv_topi (fun z_36 ez_36 => ?_)
            obtain rfl : z_36 = nI (n / 2 ^ 16 / 2 ^ 4 / 2 ^ 2 / 2 ^ 1) := ez_36.trans (pk_ushrN (by omega) 1 1 (by decide))
            refine lv_isub hx hb dJ6_numberOfLeadingZeros_0f7a4_77 ?_
            exact W.iret (v := (((31 + (-16)) + (-4)) + (-2)) - (nI (n / 2 ^ 16 / 2 ^ 4 / 2 ^ 2 / 2 ^ 1))) hx hb hr (fun t ht hW => ⟨_, rfl, lz_leaf (c := (((31 + (-16)) + (-4)) + (-2))) 22 (by decide) (by omega) (by omega) (by omega) (by decide), ht⟩) (fun q hq => absurd hq List.not_mem_nil) dJ6_numberOfLeadingZeros_0f7a4_78
      · replace c_26 : ¬ (n / 2 ^ 16) < 256 := (fun h => c_26 ((nI_ltI (b := 256) (by omega) (by omega)).mpr h))
        refine lv_iinc (v := (31 + (-16)) + (-8)) (lv' := [(1, .int ((31 + (-16)) + (-8))), (0, .int (nI (n / 2 ^ 16)))]) hx hb dJ6_numberOfLeadingZeros_0f7a4_40 hl (k := 1) rfl rfl (by decide) rfl (fun ls hl => ?_)
        refine lv_iload_n hx hb dJ6_numberOfLeadingZeros_0f7a4_43 rfl (lv_at hl 1 rfl) ?_
        refine lv_bipush (v := 8) hx hb dJ6_numberOfLeadingZeros_0f7a4_44 (by decide) ?_
        refine lv_iushr hx hb dJ6_numberOfLeadingZeros_0f7a4_46 rfl ?_
        refine lv_topi (fun z_37 ez_37 => ?_)
        obtain rfl : z_37 = nI (n / 2 ^ 16 / 2 ^ 8) := ez_37.trans (pk_ushrN (by omega) 8 8 (by decide))
        refine lv_istore_n (lv' := [(0, .int (nI (n / 2 ^ 16 / 2 ^ 8))), (1, .int ((31 + (-16)) + (-8)))]) hx hb dJ6_numberOfLeadingZeros_0f7a4_47 rfl hl (by decide) rfl (fun ls hl => ?_)
        refine lv_iload_n hx hb dJ6_numberOfLeadingZeros_0f7a4_48 rfl (lv_at hl 0 rfl) ?_
        refine lv_bipush (v := 16) hx hb dJ6_numberOfLeadingZeros_0f7a4_49 (by decide) ?_
        refine lv_icmp_lt (tgt := 61) hx hb dJ6_numberOfLeadingZeros_0f7a4_51 (by decide) (fun c_38 => ?_) (fun c_38 => ?_)
        · replace c_38 : (n / 2 ^ 16 / 2 ^ 8) < 16 := (nI_ltI (b := 16) (by omega) (by omega)).mp c_38
          refine lv_iload_n hx hb dJ6_numberOfLeadingZeros_0f7a4_61 rfl (lv_at hl 0 rfl) ?_
          refine lv_iconst (v := 4) hx hb dJ6_numberOfLeadingZeros_0f7a4_62 (by decide) ?_
          refine lv_icmp_lt (tgt := 73) hx hb dJ6_numberOfLeadingZeros_0f7a4_63 (by decide) (fun c_39 => ?_) (fun c_39 => ?_)
          · replace c_39 : (n / 2 ^ 16 / 2 ^ 8) < 4 := (nI_ltI (b := 4) (by omega) (by omega)).mp c_39
            refine lv_iload_n hx hb dJ6_numberOfLeadingZeros_0f7a4_73 rfl (lv_at hl 1 rfl) ?_
            refine lv_iload_n hx hb dJ6_numberOfLeadingZeros_0f7a4_74 rfl (lv_at hl 0 rfl) ?_
            refine lv_iconst (v := 1) hx hb dJ6_numberOfLeadingZeros_0f7a4_75 (by decide) ?_
            refine lv_iushr hx hb dJ6_numberOfLeadingZeros_0f7a4_76 rfl ?_
            refine lv_topi (fun z_40 ez_40 => ?_)
            obtain rfl : z_40 = nI (n / 2 ^ 16 / 2 ^ 8 / 2 ^ 1) := ez_40.trans (pk_ushrN (by omega) 1 1 (by decide))
            refine lv_isub hx hb dJ6_numberOfLeadingZeros_0f7a4_77 ?_
            exact W.iret (v := ((31 + (-16)) + (-8)) - (nI (n / 2 ^ 16 / 2 ^ 8 / 2 ^ 1))) hx hb hr (fun t ht hW => ⟨_, rfl, lz_leaf (c := ((31 + (-16)) + (-8))) 24 (by decide) (by omega) (by omega) (by omega) (by decide), ht⟩) (fun q hq => absurd hq List.not_mem_nil) dJ6_numberOfLeadingZeros_0f7a4_78
          · replace c_39 : ¬ (n / 2 ^ 16 / 2 ^ 8) < 4 := (fun h => c_39 ((nI_ltI (b := 4) (by omega) (by omega)).mpr h))
            refine lv_iinc (v := ((31 + (-16)) + (-8)) + (-2)) (lv' := [(1, .int (((31 + (-16)) + (-8)) + (-2))), (0, .int (nI (n / 2 ^ 16 / 2 ^ 8)))]) hx hb dJ6_numberOfLeadingZeros_0f7a4_66 hl (k := 1) rfl rfl (by decide) rfl (fun ls hl => ?_)
            refine lv_iload_n hx hb dJ6_numberOfLeadingZeros_0f7a4_69 rfl (lv_at hl 1 rfl) ?_
            refine lv_iconst (v := 2) hx hb dJ6_numberOfLeadingZeros_0f7a4_70 (by decide) ?_
            refine lv_iushr hx hb dJ6_numberOfLeadingZeros_0f7a4_71 rfl ?_
            refine lv_topi (fun z_41 ez_41 => ?_)
            obtain rfl : z_41 = nI (n / 2 ^ 16 / 2 ^ 8 / 2 ^ 2) := ez_41.trans (pk_ushrN (by omega) 2 2 (by decide))
            refine lv_istore_n (lv' := [(0, .int (nI (n / 2 ^ 16 / 2 ^ 8 / 2 ^ 2))), (1, .int (((31 + (-16)) + (-8)) + (-2)))]) hx hb dJ6_numberOfLeadingZeros_0f7a4_72 rfl hl (by decide) rfl (fun ls hl => ?_)
            refine lv_iload_n hx hb dJ6_numberOfLeadingZeros_0f7a4_73 rfl (lv_at hl 1 rfl) ?_
            refine lv_iload_n hx hb dJ6_numberOfLeadingZeros_0f7a4_74 rfl (lv_at hl 0 rfl) ?_
            refine lv_iconst (v := 1) hx hb dJ6_numberOfLeadingZeros_0f7a4_75 (by decide) ?_
            refine lv_iushr hx hb dJ6_numberOfLeadingZeros_0f7a4_76 rfl ?_
            refine lv_topi (fun z_42 ez_42 => ?_)
            obtain rfl : z_42 = nI (n / 2 ^ 16 / 2 ^ 8 / 2 ^ 2 / 2 ^ 1) := ez_42.trans (pk_ushrN (by omega) 1 1 (by decide))
            refine lv_isub hx hb dJ6_numberOfLeadingZeros_0f7a4_77 ?_
            exact W.iret (v := (((31 + (-16)) + (-8)) + (-2)) - (nI (n / 2 ^ 16 / 2 ^ 8 / 2 ^ 2 / 2 ^ 1))) hx hb hr (fun t ht hW => ⟨_, rfl, lz_leaf (c := (((31 + (-16)) + (-8)) + (-2))) 26 (by decide) (by omega) (by omega) (by omega) (by decide), ht⟩) (fun q hq => absurd hq List.not_mem_nil) dJ6_numberOfLeadingZeros_0f7a4_78
        · replace c_38 : ¬ (n / 2 ^ 16 / 2 ^ 8) < 16 := (fun h => c_38 ((nI_ltI (b := 16) (by omega) (by omega)).mpr h))
          refine lv_iinc (v := ((31 + (-16)) + (-8)) + (-4)) (lv' := [(1, .int (((31 + (-16)) + (-8)) + (-4))), (0, .int (nI (n / 2 ^ 16 / 2 ^ 8)))]) hx hb dJ6_numberOfLeadingZeros_0f7a4_54 hl (k := 1) rfl rfl (by decide) rfl (fun ls hl => ?_)
          refine lv_iload_n hx hb dJ6_numberOfLeadingZeros_0f7a4_57 rfl (lv_at hl 1 rfl) ?_
          refine lv_iconst (v := 4) hx hb dJ6_numberOfLeadingZeros_0f7a4_58 (by decide) ?_
          refine lv_iushr hx hb dJ6_numberOfLeadingZeros_0f7a4_59 rfl ?_
          refine lv_topi (fun z_43 ez_43 => ?_)
          obtain rfl : z_43 = nI (n / 2 ^ 16 / 2 ^ 8 / 2 ^ 4) := ez_43.trans (pk_ushrN (by omega) 4 4 (by decide))
          refine lv_istore_n (lv' := [(0, .int (nI (n / 2 ^ 16 / 2 ^ 8 / 2 ^ 4))), (1, .int (((31 + (-16)) + (-8)) + (-4)))]) hx hb dJ6_numberOfLeadingZeros_0f7a4_60 rfl hl (by decide) rfl (fun ls hl => ?_)
          refine lv_iload_n hx hb dJ6_numberOfLeadingZeros_0f7a4_61 rfl (lv_at hl 0 rfl) ?_
          refine lv_iconst (v := 4) hx hb dJ6_numberOfLeadingZeros_0f7a4_62 (by decide) ?_
          refine lv_icmp_lt (tgt := 73) hx hb dJ6_numberOfLeadingZeros_0f7a4_63 (by decide) (fun c_44 => ?_) (fun c_44 => ?_)
          · replace c_44 : (n / 2 ^ 16 / 2 ^ 8 / 2 ^ 4) < 4 := (nI_ltI (b := 4) (by omega) (by omega)).mp c_44
            refine lv_iload_n hx hb dJ6_numberOfLeadingZeros_0f7a4_73 rfl (lv_at hl 1 rfl) ?_
            refine lv_iload_n hx hb dJ6_numberOfLeadingZeros_0f7a4_74 rfl (lv_at hl 0 rfl) ?_
            refine lv_iconst (v := 1) hx hb dJ6_numberOfLeadingZeros_0f7a4_75 (by decide) ?_
            refine lv_iushr hx hb dJ6_numberOfLeadingZeros_0f7a4_76 rfl ?_
            refine lv_topi (fun z_45 ez_45 => ?_)
            obtain rfl : z_45 = nI (n / 2 ^ 16 / 2 ^ 8 / 2 ^ 4 / 2 ^ 1) := ez_45.trans (pk_ushrN (by omega) 1 1 (by decide))
            refine lv_isub hx hb dJ6_numberOfLeadingZeros_0f7a4_77 ?_
            exact W.iret (v := (((31 + (-16)) + (-8)) + (-4)) - (nI (n / 2 ^ 16 / 2 ^ 8 / 2 ^ 4 / 2 ^ 1))) hx hb hr (fun t ht hW => ⟨_, rfl, lz_leaf (c := (((31 + (-16)) + (-8)) + (-4))) 28 (by decide) (by omega) (by omega) (by omega) (by decide), ht⟩) (fun q hq => absurd hq List.not_mem_nil) dJ6_numberOfLeadingZeros_0f7a4_78
          · replace c_44 : ¬ (n / 2 ^ 16 / 2 ^ 8 / 2 ^ 4) < 4 := (fun h => c_44 ((nI_ltI (b := 4) (by omega) (by omega)).mpr h))
            refine lv_iinc (v := (((31 + (-16)) + (-8)) + (-4)) + (-2)) (lv' := [(1, .int ((((31 + (-16)) + (-8)) + (-4)) + (-2))), (0, .int (nI (n / 2 ^ 16 / 2 ^ 8 / 2 ^ 4)))]) hx hb dJ6_numberOfLeadingZeros_0f7a4_66 hl (k := 1) rfl rfl (by decide) rfl (fun ls hl => ?_)
            refine lv_iload_n hx hb dJ6_numberOfLeadingZeros_0f7a4_69 rfl (lv_at hl 1 rfl) ?_
            refine lv_iconst (v := 2) hx hb dJ6_numberOfLeadingZeros_0f7a4_70 (by decide) ?_
            refine lv_iushr hx hb dJ6_numberOfLeadingZeros_0f7a4_71 rfl ?_
            refine lv_topi (fun z_46 ez_46 => ?_)
            obtain rfl : z_46 = nI (n / 2 ^ 16 / 2 ^ 8 / 2 ^ 4 / 2 ^ 2) := ez_46.trans (pk_ushrN (by omega) 2 2 (by decide))
            refine lv_istore_n (lv' := [(0, .int (nI (n / 2 ^ 16 / 2 ^ 8 / 2 ^ 4 / 2 ^ 2))), (1, .int ((((31 + (-16)) + (-8)) + (-4)) + (-2)))]) hx hb dJ6_numberOfLeadingZeros_0f7a4_72 rfl hl (by decide) rfl (fun ls hl => ?_)
            refine lv_iload_n hx hb dJ6_numberOfLeadingZeros_0f7a4_73 rfl (lv_at hl 1 rfl) ?_
            refine lv_iload_n hx hb dJ6_numberOfLeadingZeros_0f7a4_74 rfl (lv_at hl 0 rfl) ?_
            refine lv_iconst (v := 1) hx hb dJ6_numberOfLeadingZeros_0f7a4_75 (by decide) ?_
            refine lv_iushr hx hb dJ6_numberOfLeadingZeros_0f7a4_76 rfl ?_
            refine lv_topi (fun z_47 ez_47 => ?_)
            obtain rfl : z_47 = nI (n / 2 ^ 16 / 2 ^ 8 / 2 ^ 4 / 2 ^ 2 / 2 ^ 1) := ez_47.trans (pk_ushrN (by omega) 1 1 (by decide))
            refine lv_isub hx hb dJ6_numberOfLeadingZeros_0f7a4_77 ?_
            exact W.iret (v := ((((31 + (-16)) + (-8)) + (-4)) + (-2)) - (nI (n / 2 ^ 16 / 2 ^ 8 / 2 ^ 4 / 2 ^ 2 / 2 ^ 1))) hx hb hr (fun t ht hW => ⟨_, rfl, lz_leaf (c := ((((31 + (-16)) + (-8)) + (-4)) + (-2))) 30 (by decide) (by omega) (by omega) (by omega) (by decide), ht⟩) (fun q hq => absurd hq List.not_mem_nil) dJ6_numberOfLeadingZeros_0f7a4_78
  · refine lv_iload_n hx hb dJ6_numberOfLeadingZeros_0f7a4_4 rfl (lv_at hl 0 rfl) ?_
    refine lv_if_ne (tgt := 13) hx hb dJ6_numberOfLeadingZeros_0f7a4_5 (by decide) (fun c_48 => ?_) (fun c_48 => ?_)
    · refine lv_iconst (v := 0) hx hb dJ6_numberOfLeadingZeros_0f7a4_13 (by decide) ?_
      exact W.iret (v := 0) hx hb hr (fun t ht hW => ⟨_, rfl, (by have g : 2 ^ 31 ≤ n := Nat.le_of_not_lt (fun h => c_1 (by rw [show (0 : Int32) = nI 0 from rfl]; exact nI_lt h0 h)); rw [(Nat.log2_eq_iff (by omega)).mpr ⟨g, hn⟩]; rfl), ht⟩) (fun q hq => absurd hq List.not_mem_nil) dJ6_numberOfLeadingZeros_0f7a4_14
    · refine lv_bipush (v := 32) hx hb dJ6_numberOfLeadingZeros_0f7a4_8 (by decide) ?_
      refine lv_goto (tgt := 14) hx hb dJ6_numberOfLeadingZeros_0f7a4_10 (by decide) ?_
      exact W.iret (v := 32) hx hb hr (fun t ht hW => ⟨_, rfl, absurd c_48 (fun h => by have h2 := congrArg (fun z : Int32 => z.toBitVec.toNat) h; simp only [pk_tn hn] at h2; have : (0 : Int32).toBitVec.toNat = 0 := rfl; omega), ht⟩) (fun q hq => absurd hq List.not_mem_nil) dJ6_numberOfLeadingZeros_0f7a4_14


theorem hi0 {n : Nat} (hn : n < 2 ^ 63) : nI (n / 2 ^ 32) = 0 ↔ n < 2 ^ 32 := by
  rw [show (0 : Int32) = nI 0 from rfl, nI_eq (by omega) (by omega)]; omega
theorem lg_ge {n : Nat} (g : ¬ n < 2 ^ 32) : 32 ≤ n.log2 := by
  rcases Nat.lt_or_ge n.log2 32 with h | h
  · exact absurd ((Nat.log2_lt (by omega)).mp h) g
  · exact h
theorem lg32 {n : Nat} (g : ¬ n < 2 ^ 32) : (n / 2 ^ 32).log2 = n.log2 - 32 := by
  have h1 := Nat.log2_self_le (n := n) (by omega)
  have h2 := Nat.lt_log2_self (n := n)
  have h3 := lg_ge g
  generalize n.log2 = t at *
  have e1 : 2 ^ t = 2 ^ (t - 32) * 2 ^ 32 := by rw [← Nat.pow_add]; congr 1; omega
  have e2 : 2 ^ (t + 1) = 2 ^ (t - 32 + 1) * 2 ^ 32 := by rw [← Nat.pow_add]; congr 1; omega
  refine (Nat.log2_eq_iff (by omega)).mpr ⟨?_, ?_⟩
  · rw [Nat.le_div_iff_mul_le (by decide)]; omega
  · rw [Nat.div_lt_iff_lt_mul (by decide)]; omega

set_option maxHeartbeats 4000000 in
set_option maxRecDepth 100000 in
theorem met_J13_numberOfLeadingZeros_95d88 (l : Launch) (n : Nat) (h0 : 0 < n) (hn : n < 2 ^ 63) : Met l yJ13_numberOfLeadingZeros_95d88 wsJ13_numberOfLeadingZeros_95d88 ({ frames := 1, cells := 0, slots := 0, locals := 21 }) (va_Pc [.long (lN n)] (fun _ => True)) (vp_Si (fun r => r = nI (63 - n.log2))) 0 0 (fun _ => False) := by
  refine Met.ofW (cc := cJ13_numberOfLeadingZeros_95d88) (maxL := 3) (ret := (some .int)) (by decide) rfl ?_
  intro p e s m args below meth c s₁ B hml hv
  obtain ⟨rfl, -⟩ := hv
  have hx := B.exec
  have hb := B.bytes
  have hr := B.returns
  have hts := atoms_spec (ws := wsJ13_numberOfLeadingZeros_95d88) B.pre
  have hown : s.vm.findClass RJ13 = some m.cls := findClass_of_methodNamed B.named
  have hlocks := B.notSynchronized
  have hl := lv_entry ([.long (lN n)]) (n := 3) (Nat.le_of_ble_eq_true rfl)
  rw [lg_entry_eq]
  generalize (lg_sl ([.long (lN n)]) ++ List.replicate (3 - (lg_sl ([.long (lN n)])).length) Slot.unset).toArray = ls at hl ⊢
  have hl : lv_has ls 3 [(0, .long (lN n))] := hl
  refine lv_lload_n hx hb dJ13_numberOfLeadingZeros_95d88_0 rfl (lv_at hl 0 rfl) ?_
  refine lv_bipush (v := 32) hx hb dJ13_numberOfLeadingZeros_95d88_1 (by decide) ?_
  refine lv_lushr hx hb dJ13_numberOfLeadingZeros_95d88_3 rfl ?_
  refine lv_topl (fun z_1 ez_1 => ?_)
  obtain rfl : z_1 = lN (n / 2 ^ 32) := ez_1.trans (wb_shr (k := 32) (by omega) (by decide))
  refine lv_l2i hx hb dJ13_numberOfLeadingZeros_95d88_4 rfl ?_
  refine lv_topi (fun z_2 ez_2 => ?_)
  obtain rfl : z_2 = nI (n / 2 ^ 32) := ez_2.trans (lN_i _)
  refine lv_istore_n (lv' := [(2, .int (nI (n / 2 ^ 32))), (0, .long (lN n))]) hx hb dJ13_numberOfLeadingZeros_95d88_5 rfl hl (by decide) rfl (fun ls hl => ?_)
  refine lv_iload_n hx hb dJ13_numberOfLeadingZeros_95d88_6 rfl (lv_at hl 0 rfl) ?_
  refine lv_if_ne (tgt := 21) hx hb dJ13_numberOfLeadingZeros_95d88_7 (by decide) (fun c_3 => ?_) (fun c_3 => ?_)
  · refine lv_iload_n hx hb dJ13_numberOfLeadingZeros_95d88_21 rfl (lv_at hl 0 rfl) ?_
    refine vp_callSi ((va_runS (As := [.int (nI (n / 2 ^ 32))]) (rest := []) ⟨hx, hb, hml, hown, hts⟩ (met_J6_numberOfLeadingZeros_0f7a4 l  (n / 2 ^ 32) (Nat.pos_of_ne_zero (fun h => c_3 (by rw [h]; rfl))) (by omega)) (va_cwS 1 hts gJ13_numberOfLeadingZeros_95d88_J6_numberOfLeadingZeros_0f7a4 rfl rfl rfl (by decide +kernel) ⟨Nat.le_of_ble_eq_true rfl, Nat.le_of_ble_eq_true rfl⟩) ⟨fun _ _ _ _ q => q, fun U hU hW => ⟨rfl, trivial⟩⟩ rfl rfl hl.1 rfl (lv_room (Nat.le_of_ble_eq_true rfl)) dJ13_numberOfLeadingZeros_95d88_22 ⟨Nat.le_of_ble_eq_true rfl, Nat.le_of_ble_eq_true rfl⟩).run) (fun r_1 h_1 => ?_)
    subst h_1
    exact W.iret (v := nI (31 - Nat.log2 (n / 2 ^ 32))) hx hb hr (fun t ht hW => ⟨_, rfl, (by have g : ¬ n < 2 ^ 32 := fun h => c_3 ((hi0 hn).mpr h); rw [lg32 g]; congr 1; have := (Nat.log2_lt (k := 63) (n := n) (by omega)).mpr hn; have := lg_ge g; omega), ht⟩) (fun q hq => absurd hq List.not_mem_nil) dJ13_numberOfLeadingZeros_95d88_25
  · refine lv_bipush (v := 32) hx hb dJ13_numberOfLeadingZeros_95d88_10 (by decide) ?_
    refine lv_lload_n hx hb dJ13_numberOfLeadingZeros_95d88_12 rfl (lv_at hl 1 rfl) ?_
    refine lv_l2i hx hb dJ13_numberOfLeadingZeros_95d88_13 rfl ?_
    refine lv_topi (fun z_4 ez_4 => ?_)
    obtain rfl : z_4 = nI n := ez_4.trans (lN_i _)
    refine vp_callSi ((va_runS (As := [.int (nI n)]) (rest := [.int 32]) ⟨hx, hb, hml, hown, hts⟩ (met_J6_numberOfLeadingZeros_0f7a4 l  n h0 ((hi0 hn).mp c_3)) (va_cwS 1 hts gJ13_numberOfLeadingZeros_95d88_J6_numberOfLeadingZeros_0f7a4 rfl rfl rfl (by decide +kernel) ⟨Nat.le_of_ble_eq_true rfl, Nat.le_of_ble_eq_true rfl⟩) ⟨fun _ _ _ _ q => q, fun U hU hW => ⟨rfl, trivial⟩⟩ rfl rfl hl.1 rfl (lv_room (Nat.le_of_ble_eq_true rfl)) dJ13_numberOfLeadingZeros_95d88_14 ⟨Nat.le_of_ble_eq_true rfl, Nat.le_of_ble_eq_true rfl⟩).run) (fun r_2 h_2 => ?_)
    subst h_2
    refine lv_iadd hx hb dJ13_numberOfLeadingZeros_95d88_17 ?_
    refine lv_goto (tgt := 25) hx hb dJ13_numberOfLeadingZeros_95d88_18 (by decide) ?_
    exact W.iret (v := 32 + (nI (31 - Nat.log2 n))) hx hb hr (fun t ht hW => ⟨_, rfl, (by have g : n < 2 ^ 32 := (hi0 hn).mp c_3; have := (Nat.log2_lt (by omega)).mpr g; rw [show (32 : Int32) = nI 32 from rfl, nI_add]; congr 1; omega), ht⟩) (fun q hq => absurd hq List.not_mem_nil) dJ13_numberOfLeadingZeros_95d88_25
