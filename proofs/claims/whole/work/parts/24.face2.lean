theorem in_X7_X7_strip : ∀ w ∈ wsX70, w ∈ wsX7_strip := fun w h => List.mem_cons_of_mem _ (List.mem_append_left _ (List.mem_append_right _ h))
theorem in_X5_X7_strip : ∀ w ∈ wsX50, w ∈ wsX7_strip := fun w h => List.mem_cons_of_mem _ (List.mem_append_right _ h)
set_option maxHeartbeats 4000000 in
set_option maxRecDepth 100000 in
theorem met_X7_strip (l : Launch) (Dg : va_G) (x0 sz : Nat) (b : Nat → Nat) (z : Nat → ClassId) (σ : St) (L : List Nat) (f : Nat → va_E) (ad : Nat → Nat → Nat) (g : Nat → Nat → Option Nat) (p1 : Int32) (p2 : Int32) (hV : vOK σ) (hC : CI z σ L f ad g)  : Met l yX7_strip wsX7_strip ({ frames := 2, cells := 2, slots := 18, locals := 34 }) (va_Pc [.ref x0, .int p1, .int p2] (wB Dg (cT z) (cX x0 b z (σ.1 0 0) (σ.1 2 0) (σ.1 2 1) (σ.1 2 2) (σ.1 2 3) (σ.1 2 4) (σ.1 1) (g 0) (g 1) (g 2) (g 3) (g 4) ++ va_pl L f) sz)) (va_Qi (fun (r : Int32) (u : va_W) => r = an_strip σ p1 p2 ∧ CX x0 b z (nw_strip σ p1 p2) u) (wE Dg (cT z) (va_A (cX x0 b z (σ.1 0 0) (σ.1 2 0) (σ.1 2 1) (σ.1 2 2) (σ.1 2 3) (σ.1 2 4) (σ.1 1) (g 0) (g 1) (g 2) (g 3) (g 4) ++ va_pl L f) sz)) (va_A (cX x0 b z (σ.1 0 0) (σ.1 2 0) (σ.1 2 1) (σ.1 2 2) (σ.1 2 3) (σ.1 2 4) (σ.1 1) (g 0) (g 1) (g 2) (g 3) (g 4) ++ va_pl L f) sz)) 2 18 (va_A (cX x0 b z (σ.1 0 0) (σ.1 2 0) (σ.1 2 1) (σ.1 2 2) (σ.1 2 3) (σ.1 2 4) (σ.1 1) (g 0) (g 1) (g 2) (g 3) (g 4) ++ va_pl L f) sz) := by
  refine Met.ofW (cc := cX7_strip) (maxL := 3) (ret := (some .int)) (by decide) rfl ?_
  intro p e s m args below meth c s₁ B hml hv
  obtain ⟨rfl, hsz, hP, hK, hD0⟩ := hv
  have hx := B.exec
  have hb := B.bytes
  have hr := B.returns
  have hts := atoms_spec (ws := wsX7_strip) B.pre
  have hown : s.vm.findClass RX7 = some m.cls := findClass_of_methodNamed B.named
  have hlocks := B.notSynchronized
  subst hsz
  have hD := hD0.self (sz := s.heap.size)
  generalize hAe : va_A (cX x0 b z (σ.1 0 0) (σ.1 2 0) (σ.1 2 1) (σ.1 2 2) (σ.1 2 3) (σ.1 2 4) (σ.1 1) (g 0) (g 1) (g 2) (g 3) (g 4) ++ va_pl L f) s.heap.size = A at hD ⊢
  have hA : ∀ q : Nat, s.heap.size ≤ q → A q := fun q h => by rw [← hAe]; exact Or.inr h
  have hS : va_S A s.heap s.heap [] := va_S.rf
  have hP : va_P Dg vwCl (cX x0 b z (σ.1 0 0) (σ.1 2 0) (σ.1 2 1) (σ.1 2 2) (σ.1 2 3) (σ.1 2 4) (σ.1 1) (g 0) (g 1) (g 2) (g 3) (g 4) ++ va_pl L f) s.heap := hP
  have hl := lv_entry ([.ref x0, .int p1, .int p2]) (n := 3) (Nat.le_of_ble_eq_true rfl)
  rw [lg_entry_eq]
  generalize (lg_sl ([.ref x0, .int p1, .int p2]) ++ List.replicate (3 - (lg_sl ([.ref x0, .int p1, .int p2])).length) Slot.unset).toArray = ls at hl ⊢
  have hl : lv_has ls 3 [(0, .ref x0), (1, .int p1), (2, .int p2)] := hl
  refine lv_iload_n hx hb dX7_strip_0 rfl (lv_at hl 1 rfl) ?_
  refine vp_callSi ((va_runS (As := [.int p1]) (rest := []) ⟨hx, hb, hml, hown, hts⟩ (met_X0_isKind l p1) (va_cwS 1 hts gX7_strip_X0_isKind rfl rfl rfl (by decide +kernel) ⟨Nat.le_of_ble_eq_true rfl, Nat.le_of_ble_eq_true rfl⟩) ⟨fun _ _ _ _ q => q, fun U hU hW => ⟨rfl, trivial⟩⟩ rfl rfl hl.1 rfl (lv_room (Nat.le_of_ble_eq_true rfl)) dX7_strip_1 ⟨Nat.le_of_ble_eq_true rfl, Nat.le_of_ble_eq_true rfl⟩).run) (fun r hw => ?_)
  subst hw
  refine lv_if_eq (tgt := 17) hx hb dX7_strip_4 (by decide) (fun c_1 => ?_) (fun c_1 => ?_)
  · replace c_1 := bI_eq c_1
    replace c_1 := mt (kind_eq).mpr c_1
    refine lv_aload_n hx hb dX7_strip_17 rfl (lv_at hl 0 rfl) ?_
    refine lv_bipush (v := (-2)) hx hb dX7_strip_18 (by decide) ?_
    have hFc := wFree hD hS hA
    refine va_calli (va_runV (As := [.int (-2)]) (rest := []) ⟨hx, hb, hml, hown, hts⟩ (met_X7_refuse l Dg x0 s.heap.size b z (σ.1 0 0) (σ.1 2 0) (σ.1 2 1) (σ.1 2 2) (σ.1 2 3) (σ.1 2 4) (σ.1 1) (g 0) (g 1) (g 2) (g 3) (g 4) L f (-2) (by decide) (by unfold vp_in; decide)) (cwV 1 hts gX7_strip_X7_refuse rfl rfl rfl (by decide +kernel) ⟨Nat.le_of_ble_eq_true rfl, Nat.le_of_ble_eq_true rfl⟩) (wPreV hK hP (hD.weaken (fun _ _ _ _ => trivial)) (va_recv hK hP (ci := 5) (q0 := 0) rfl rfl)) rfl rfl hl.1 rfl (lv_room (Nat.le_of_ble_eq_true rfl)) dX7_strip_20 ⟨Nat.le_of_ble_eq_true rfl, Nat.le_of_ble_eq_true rfl⟩) hS (fun q _ h => hFc q h) hFc (fun r u t H locs ht hvm hw hB _ _ hS => ?_)
    obtain ⟨hP, -, hD⟩ := hB
    rw [ht] at hP
    replace hD := hD.weaken (fun _ q _ h => hFc q.1 h)
    rw [hw.2] at hP hD
    rw [hw.1]
    clear hw hFc
    have hP : va_P Dg vwCl (cX x0 b z (-2) (σ.1 2 0) (σ.1 2 1) (σ.1 2 2) (σ.1 2 3) (σ.1 2 4) (rfO (-2) (σ.1 1)) (g 0) (g 1) (g 2) (g 3) (g 4) ++ va_pl L f) H := hP
    have hD : va_D A (cX x0 b z (-2) (σ.1 2 0) (σ.1 2 1) (σ.1 2 2) (σ.1 2 3) (σ.1 2 4) (rfO (-2) (σ.1 1)) (g 0) (g 1) (g 2) (g 3) (g 4) ++ va_pl L f) := hD
    have hw : wh_strip σ p1 p2 = (-2) := by simp only [wh_strip, if_neg c_1]
    have hn : ¬ wh_strip σ p1 p2 = 0 := by rw [hw]; decide
    refine W.widen (k := 2) (n := 18) (Nat.le_of_ble_eq_true rfl) (Nat.le_of_ble_eq_true rfl) ?_
    exact W.iret (v := (-2)) hx hb hr (fun t ht hW => ⟨⟨_, (cX x0 b z (-2) (σ.1 2 0) (σ.1 2 1) (σ.1 2 2) (σ.1 2 3) (σ.1 2 4) (rfO (-2) (σ.1 1)) (g 0) (g 1) (g 2) (g 3) (g 4) ++ va_pl L f), rfl, ⟨by rw [an_strip, if_neg hn, hw]; try rfl, L, f, ad, g, by rw [nw_strip, if_neg hn, hw]; rfl, by rw [nw_strip, if_neg hn]; exact CI_rf hC _⟩, by rw [ht]; exact hP, va_K.moved hW.alike hK, hD⟩, hS.F ht⟩) hS.2.2 dX7_strip_23
  · replace c_1 := bI_ne c_1
    replace c_1 := (kind_eq).mp c_1
    refine lv_iload_n hx hb dX7_strip_7 rfl (lv_at hl 2 rfl) ?_
    refine lv_if_lt (tgt := 17) hx hb dX7_strip_8 (by decide) (fun c_2 => ?_) (fun c_2 => ?_)
    · refine lv_aload_n hx hb dX7_strip_17 rfl (lv_at hl 0 rfl) ?_
      refine lv_bipush (v := (-2)) hx hb dX7_strip_18 (by decide) ?_
      have hFc := wFree hD hS hA
      refine va_calli (va_runV (As := [.int (-2)]) (rest := []) ⟨hx, hb, hml, hown, hts⟩ (met_X7_refuse l Dg x0 s.heap.size b z (σ.1 0 0) (σ.1 2 0) (σ.1 2 1) (σ.1 2 2) (σ.1 2 3) (σ.1 2 4) (σ.1 1) (g 0) (g 1) (g 2) (g 3) (g 4) L f (-2) (by decide) (by unfold vp_in; decide)) (cwV 1 hts gX7_strip_X7_refuse rfl rfl rfl (by decide +kernel) ⟨Nat.le_of_ble_eq_true rfl, Nat.le_of_ble_eq_true rfl⟩) (wPreV hK hP (hD.weaken (fun _ _ _ _ => trivial)) (va_recv hK hP (ci := 5) (q0 := 0) rfl rfl)) rfl rfl hl.1 rfl (lv_room (Nat.le_of_ble_eq_true rfl)) dX7_strip_20 ⟨Nat.le_of_ble_eq_true rfl, Nat.le_of_ble_eq_true rfl⟩) hS (fun q _ h => hFc q h) hFc (fun r u t H locs ht hvm hw hB _ _ hS => ?_)
      obtain ⟨hP, -, hD⟩ := hB
      rw [ht] at hP
      replace hD := hD.weaken (fun _ q _ h => hFc q.1 h)
      rw [hw.2] at hP hD
      rw [hw.1]
      clear hw hFc
      have hP : va_P Dg vwCl (cX x0 b z (-2) (σ.1 2 0) (σ.1 2 1) (σ.1 2 2) (σ.1 2 3) (σ.1 2 4) (rfO (-2) (σ.1 1)) (g 0) (g 1) (g 2) (g 3) (g 4) ++ va_pl L f) H := hP
      have hD : va_D A (cX x0 b z (-2) (σ.1 2 0) (σ.1 2 1) (σ.1 2 2) (σ.1 2 3) (σ.1 2 4) (rfO (-2) (σ.1 1)) (g 0) (g 1) (g 2) (g 3) (g 4) ++ va_pl L f) := hD
      have hw : wh_strip σ p1 p2 = (-2) := by simp only [wh_strip, if_neg (nIn_l (b := 16) c_2), if_pos c_1]
      have hn : ¬ wh_strip σ p1 p2 = 0 := by rw [hw]; decide
      refine W.widen (k := 2) (n := 18) (Nat.le_of_ble_eq_true rfl) (Nat.le_of_ble_eq_true rfl) ?_
      exact W.iret (v := (-2)) hx hb hr (fun t ht hW => ⟨⟨_, (cX x0 b z (-2) (σ.1 2 0) (σ.1 2 1) (σ.1 2 2) (σ.1 2 3) (σ.1 2 4) (rfO (-2) (σ.1 1)) (g 0) (g 1) (g 2) (g 3) (g 4) ++ va_pl L f), rfl, ⟨by rw [an_strip, if_neg hn, hw]; try rfl, L, f, ad, g, by rw [nw_strip, if_neg hn, hw]; rfl, by rw [nw_strip, if_neg hn]; exact CI_rf hC _⟩, by rw [ht]; exact hP, va_K.moved hW.alike hK, hD⟩, hS.F ht⟩) hS.2.2 dX7_strip_23
    · refine lv_iload_n hx hb dX7_strip_11 rfl (lv_at hl 2 rfl) ?_
      refine lv_bipush (v := 16) hx hb dX7_strip_12 (by decide) ?_
      refine lv_icmp_le (tgt := 24) hx hb dX7_strip_14 (by decide) (fun c_3 => ?_) (fun c_3 => ?_)
      · refine lv_aload_n hx hb dX7_strip_24 rfl (lv_at hl 0 rfl) ?_
        refine va_get (D := Dg) (ci := 5) (v := .int (σ.1 2 2)) (C := RX7) (T := TX7) (N := 12) hx hb hts in_X7_X7_strip hown hK hP 0 rfl rfl 7 (by decide) (hts (.fieldLink RX7 46 "OrreryWorks" "stripCount" "I") (by decide +kernel)) (fun _ h9 => h9) rfl dX7_strip_25 ?_
        refine lv_bipush (v := 8) hx hb dX7_strip_28 (by decide) ?_
        refine lv_icmp_lt (tgt := 40) hx hb dX7_strip_30 (by decide) (fun c_4 => ?_) (fun c_4 => ?_)
        · have hb2 : bnd p2 16 := isIn_iff.mp (yIn_e (a := 0) (b := 16) c_2 c_3)
          refine lv_aload_n hx hb dX7_strip_40 rfl (lv_at hl 0 rfl) ?_
          refine va_get (D := Dg) (ci := 5) (v := .ref (b 2)) (C := RX7) (T := TX7) (N := 12) hx hb hts in_X7_X7_strip hown hK hP 0 rfl rfl 2 (by decide) (hts (.fieldLink RX7 23 "OrreryWorks" "strips" "[LOrreryWorks$Strip;") (by decide +kernel)) (fun _ h9 => h9) rfl dX7_strip_41 ?_
          refine lv_aload_n hx hb dX7_strip_44 rfl (lv_at hl 0 rfl) ?_
          refine va_get (D := Dg) (ci := 5) (v := .int (σ.1 2 2)) (C := RX7) (T := TX7) (N := 12) hx hb hts in_X7_X7_strip hown hK hP 0 rfl rfl 7 (by decide) (hts (.fieldLink RX7 46 "OrreryWorks" "stripCount" "I") (by decide +kernel)) (fun _ h9 => h9) rfl dX7_strip_45 ?_
          have hqq := @va_pl_fresh2 A (cX x0 b z (σ.1 0 0) (σ.1 2 0) (σ.1 2 1) (σ.1 2 2) (σ.1 2 3) (σ.1 2 4) (σ.1 1) (g 0) (g 1) (g 2) (g 3) (g 4)) L f
          refine va_new (c0 := c) (D := Dg) (ci := 3) (C := RX5) (T := TX5) (N := 2) (fs := [.int 0, .null]) hx hb hts in_X5_X7_strip tyX5 tyX5_ok hown (hts (.classLink RX7 21 RX5) (by decide +kernel)) (hts (.instantiable RX5 2) (by decide +kernel)) (hts (.initialized RX5) (by decide +kernel)) hK hP hD hS hA rfl (by decide +kernel) (Nat.le_of_ble_eq_true rfl) (Nat.le_of_ble_eq_true rfl) dX7_strip_48 (fun q H hP hD hS => ?_)
          have hP : va_P Dg vwCl ((cX x0 b z (σ.1 0 0) (σ.1 2 0) (σ.1 2 1) (σ.1 2 2) (σ.1 2 3) (σ.1 2 4) (σ.1 1) (g 0) (g 1) (g 2) (g 3) (g 4) ++ va_pl L f) ++ [(q, .inr (3, [.int 0, .null]))]) H := hP
          have hD : va_D A ((cX x0 b z (σ.1 0 0) (σ.1 2 0) (σ.1 2 1) (σ.1 2 2) (σ.1 2 3) (σ.1 2 4) (σ.1 1) (g 0) (g 1) (g 2) (g 3) (g 4) ++ va_pl L f) ++ [(q, .inr (3, [.int 0, .null]))]) := hD
          replace hqq := hqq hD
          refine lv_dup hx hb dX7_strip_51 rfl ?_
          refine lv_iload_n hx hb dX7_strip_52 rfl (lv_at hl 1 rfl) ?_
          refine lv_iload_n hx hb dX7_strip_53 rfl (lv_at hl 2 rfl) ?_
          have hPc := P_last hP
          have hDc := D_last hD
          have hKc := hK.sub (tys' := [(z 6, .long)]) [6] rfl
          have hFc : ∀ q9, va_A [(q, .inr (3, [.int 0, .null]))] H.size q9 → A q9 := fun q9 h => h.elim (fun ⟨k, e9, hk⟩ => hDc.2 k (q9, e9) hk) (fun h => hA q9 (Nat.le_trans hS.1 h))
          refine va_callv (va_runI (As := [.int p1, .int p2]) (rest := [.ref q, .int (σ.1 2 2), .ref (b 2)]) ⟨hx, hb, hml, hown, hts⟩ (met_X5_init l Dg q H.size (z 6) p1 p2 hb2) (cwI 2 hts gX7_strip_X5_init rfl rfl rfl (hts (.initialized RX5) (by decide +kernel)) (hts (.methodLink RX7 156 yX5_init) (by decide +kernel)) (hts (.instanceMethod yX5_init) (by decide +kernel)) rfl (by decide +kernel) ⟨Nat.le_of_ble_eq_true rfl, Nat.le_of_ble_eq_true rfl⟩) (wPreI hKc hPc (hDc.weaken (fun _ _ _ _ => trivial))) rfl rfl hl.1 rfl (lv_room (Nat.le_of_ble_eq_true rfl)) dX7_strip_54 ⟨Nat.le_of_ble_eq_true rfl, Nat.le_of_ble_eq_true rfl⟩) hS (fun q9 _ h => hFc q9 h) hFc (fun u t H1 locs ht hvm hw hB _ hk1 hS => ?_)
          obtain ⟨hP1, -, hD1⟩ := hB
          rw [ht] at hP1
          obtain ⟨r0, hw⟩ := hw
          rw [hw] at hP1 hD1
          obtain ⟨hP, hD⟩ := ct_join hP hD hk1 hFc hP1 hD1
          have hrr := pl_fr2 hqq hD
          rw [pl_push2 hqq hrr] at hP hD
          have hfe : (va_up (va_up f q (.inr (3, [.int p1, .ref r0]))) r0 (.inl (z 6, ix p2, .inr (.inl (fun _ => 0))))) q = .inr (3, [.int p1, .ref r0]) := up2 hrr
          have hP : va_P Dg vwCl (cX x0 b z (σ.1 0 0) (σ.1 2 0) (σ.1 2 1) (σ.1 2 2) (σ.1 2 3) (σ.1 2 4) (σ.1 1) (g 0) (g 1) (g 2) (g 3) (g 4) ++ va_pl ((L ++ [q]) ++ [r0]) (va_up (va_up f q (.inr (3, [.int p1, .ref r0]))) r0 (.inl (z 6, ix p2, .inr (.inl (fun _ => 0)))))) H1 := hP
          have hD : va_D A (cX x0 b z (σ.1 0 0) (σ.1 2 0) (σ.1 2 1) (σ.1 2 2) (σ.1 2 3) (σ.1 2 4) (σ.1 1) (g 0) (g 1) (g 2) (g 3) (g 4) ++ va_pl ((L ++ [q]) ++ [r0]) (va_up (va_up f q (.inr (3, [.int p1, .ref r0]))) r0 (.inl (z 6, ix p2, .inr (.inl (fun _ => 0)))))) := hD
          obtain ⟨q9, h9⟩ := va_pl_get (X := cX x0 b z (σ.1 0 0) (σ.1 2 0) (σ.1 2 1) (σ.1 2 2) (σ.1 2 3) (σ.1 2 4) (σ.1 1) (g 0) (g 1) (g 2) (g 3) (g 4)) (f := va_up (va_up f q (.inr (3, [.int p1, .ref r0]))) r0 (.inl (z 6, ix p2, .inr (.inl (fun _ => 0))))) (List.mem_append_left _ (List.mem_append_right _ (List.mem_singleton.mpr rfl)))
          rw [hfe] at h9
          refine va_astq hx hb hK hP hD hS 3 2 q9 3 rfl rfl h9 rfl (top_in hV.1.2.2.1 rfl (nfull c_4)) dX7_strip_57 (fun H locs hP hD hS => ?_)
          clear h9
          have hP : va_P Dg vwCl (cX x0 b z (σ.1 0 0) (σ.1 2 0) (σ.1 2 1) (σ.1 2 2) (σ.1 2 3) (σ.1 2 4) (σ.1 1) (g 0) (g 1) (va_up (g 2) (σ.1 2 2).toNatClampNeg (some q)) (g 3) (g 4) ++ va_pl ((L ++ [q]) ++ [r0]) (va_up (va_up f q (.inr (3, [.int p1, .ref r0]))) r0 (.inl (z 6, ix p2, .inr (.inl (fun _ => 0)))))) H := hP
          have hD : va_D A (cX x0 b z (σ.1 0 0) (σ.1 2 0) (σ.1 2 1) (σ.1 2 2) (σ.1 2 3) (σ.1 2 4) (σ.1 1) (g 0) (g 1) (va_up (g 2) (σ.1 2 2).toNatClampNeg (some q)) (g 3) (g 4) ++ va_pl ((L ++ [q]) ++ [r0]) (va_up (va_up f q (.inr (3, [.int p1, .ref r0]))) r0 (.inl (z 6, ix p2, .inr (.inl (fun _ => 0)))))) := hD
          refine lv_aload_n hx hb dX7_strip_58 rfl (lv_at hl 0 rfl) ?_
          refine lv_aload_n hx hb dX7_strip_59 rfl (lv_at hl 0 rfl) ?_
          refine lv_dup hx hb dX7_strip_60 rfl ?_
          refine va_get (D := Dg) (ci := 5) (v := .int (σ.1 2 2)) (C := RX7) (T := TX7) (N := 12) hx hb hts in_X7_X7_strip hown hK hP 0 rfl rfl 7 (by decide) (hts (.fieldLink RX7 46 "OrreryWorks" "stripCount" "I") (by decide +kernel)) (fun _ h9 => h9) rfl dX7_strip_61 ?_
          refine lv_dup_x1 hx hb dX7_strip_64 rfl rfl ?_
          refine lv_iconst (v := 1) hx hb dX7_strip_65 (by decide) ?_
          refine lv_iadd hx hb dX7_strip_66 ?_
          refine va_put (D := Dg) (ci := 5) (v := .int ((σ.1 2 2) + 1)) (ty := .int) (C := RX7) (T := TX7) (N := 12) hx hb hts in_X7_X7_strip tyX7 tyX7_ok nmX7 hown hK hP hD hS 0 rfl rfl 7 (by decide) (hts (.fieldLink RX7 46 "OrreryWorks" "stripCount" "I") (by decide +kernel)) (fun _ h9 => h9) rfl (by decide +kernel) rfl rfl (Nat.le_of_ble_eq_true rfl) dX7_strip_67 (fun H locs hP hD hS => ?_)
          have hP : va_P Dg vwCl (cX x0 b z (σ.1 0 0) (σ.1 2 0) (σ.1 2 1) ((σ.1 2 2) + 1) (σ.1 2 3) (σ.1 2 4) (σ.1 1) (g 0) (g 1) (va_up (g 2) (σ.1 2 2).toNatClampNeg (some q)) (g 3) (g 4) ++ va_pl ((L ++ [q]) ++ [r0]) (va_up (va_up f q (.inr (3, [.int p1, .ref r0]))) r0 (.inl (z 6, ix p2, .inr (.inl (fun _ => 0)))))) H := hP
          have hD : va_D A (cX x0 b z (σ.1 0 0) (σ.1 2 0) (σ.1 2 1) ((σ.1 2 2) + 1) (σ.1 2 3) (σ.1 2 4) (σ.1 1) (g 0) (g 1) (va_up (g 2) (σ.1 2 2).toNatClampNeg (some q)) (g 3) (g 4) ++ va_pl ((L ++ [q]) ++ [r0]) (va_up (va_up f q (.inr (3, [.int p1, .ref r0]))) r0 (.inl (z 6, ix p2, .inr (.inl (fun _ => 0)))))) := hD
          have hFc := wFree hD hS hA
          refine va_calli (va_runV (As := [.int (σ.1 2 2)]) (rest := []) ⟨hx, hb, hml, hown, hts⟩ (met_X7_answer l Dg x0 H.size b z (σ.1 0 0) (σ.1 2 0) (σ.1 2 1) ((σ.1 2 2) + 1) (σ.1 2 3) (σ.1 2 4) (σ.1 1) (g 0) (g 1) (va_up (g 2) (σ.1 2 2).toNatClampNeg (some q)) (g 3) (g 4) ((L ++ [q]) ++ [r0]) (va_up (va_up f q (.inr (3, [.int p1, .ref r0]))) r0 (.inl (z 6, ix p2, .inr (.inl (fun _ => 0))))) (σ.1 2 2) ) (cwV 1 hts gX7_strip_X7_answer rfl rfl rfl (by decide +kernel) ⟨Nat.le_of_ble_eq_true rfl, Nat.le_of_ble_eq_true rfl⟩) (wPreV hK hP (hD.weaken (fun _ _ _ _ => trivial)) (va_recv hK hP (ci := 5) (q0 := 0) rfl rfl)) rfl rfl hl.1 rfl (lv_room (Nat.le_of_ble_eq_true rfl)) dX7_strip_70 ⟨Nat.le_of_ble_eq_true rfl, Nat.le_of_ble_eq_true rfl⟩) hS (fun q _ h => hFc q h) hFc (fun r u t H locs ht hvm hw hB _ _ hS => ?_)
          obtain ⟨hP, -, hD⟩ := hB
          rw [ht] at hP
          replace hD := hD.weaken (fun _ q _ h => hFc q.1 h)
          rw [hw.2] at hP hD
          rw [hw.1]
          clear hw hFc
          have hP : va_P Dg vwCl (cX x0 b z 0 (σ.1 2 0) (σ.1 2 1) ((σ.1 2 2) + 1) (σ.1 2 3) (σ.1 2 4) (σ.1 1) (g 0) (g 1) (va_up (g 2) (σ.1 2 2).toNatClampNeg (some q)) (g 3) (g 4) ++ va_pl ((L ++ [q]) ++ [r0]) (va_up (va_up f q (.inr (3, [.int p1, .ref r0]))) r0 (.inl (z 6, ix p2, .inr (.inl (fun _ => 0)))))) H := hP
          have hD : va_D A (cX x0 b z 0 (σ.1 2 0) (σ.1 2 1) ((σ.1 2 2) + 1) (σ.1 2 3) (σ.1 2 4) (σ.1 1) (g 0) (g 1) (va_up (g 2) (σ.1 2 2).toNatClampNeg (some q)) (g 3) (g 4) ++ va_pl ((L ++ [q]) ++ [r0]) (va_up (va_up f q (.inr (3, [.int p1, .ref r0]))) r0 (.inl (z 6, ix p2, .inr (.inl (fun _ => 0)))))) := hD
          have hw : wh_strip σ p1 p2 = 0 := by simp only [wh_strip, if_pos (yIn_e c_2 c_3), if_pos c_1, if_neg (nfull c_4)]
          refine W.widen (k := 2) (n := 18) (Nat.le_of_ble_eq_true rfl) (Nat.le_of_ble_eq_true rfl) ?_
          exact W.iret (v := (σ.1 2 2)) hx hb hr (fun t ht hW => ⟨⟨_, (cX x0 b z 0 (σ.1 2 0) (σ.1 2 1) ((σ.1 2 2) + 1) (σ.1 2 3) (σ.1 2 4) (σ.1 1) (g 0) (g 1) (va_up (g 2) (σ.1 2 2).toNatClampNeg (some q)) (g 3) (g 4) ++ va_pl ((L ++ [q]) ++ [r0]) (va_up (va_up f q (.inr (3, [.int p1, .ref r0]))) r0 (.inl (z 6, ix p2, .inr (.inl (fun _ => 0)))))), rfl, ⟨by rw [an_strip, if_pos hw]; try rfl, (L ++ [q]) ++ [r0], va_up (va_up f q (.inr (3, [.int p1, .ref r0]))) r0 (.inl (z 6, ix p2, .inr (.inl (fun _ => 0)))), adp (adp ad 2 (cN σ 2) q) 3 (cN σ 2) r0, fun t => if t = 2 then va_up (g 2) (cN σ 2) (some q) else g t, by rw [nw_strip, if_pos hw]; rfl, by rw [nw_strip, if_pos hw]; exact CI_strip hV hC hqq hrr⟩, by rw [ht]; exact hP, va_K.moved hW.alike hK, hD⟩, hS.F ht⟩) hS.2.2 dX7_strip_73
        · refine lv_aload_n hx hb dX7_strip_33 rfl (lv_at hl 0 rfl) ?_
          refine lv_bipush (v := (-3)) hx hb dX7_strip_34 (by decide) ?_
          have hFc := wFree hD hS hA
          refine va_calli (va_runV (As := [.int (-3)]) (rest := []) ⟨hx, hb, hml, hown, hts⟩ (met_X7_refuse l Dg x0 s.heap.size b z (σ.1 0 0) (σ.1 2 0) (σ.1 2 1) (σ.1 2 2) (σ.1 2 3) (σ.1 2 4) (σ.1 1) (g 0) (g 1) (g 2) (g 3) (g 4) L f (-3) (by decide) (by unfold vp_in; decide)) (cwV 1 hts gX7_strip_X7_refuse rfl rfl rfl (by decide +kernel) ⟨Nat.le_of_ble_eq_true rfl, Nat.le_of_ble_eq_true rfl⟩) (wPreV hK hP (hD.weaken (fun _ _ _ _ => trivial)) (va_recv hK hP (ci := 5) (q0 := 0) rfl rfl)) rfl rfl hl.1 rfl (lv_room (Nat.le_of_ble_eq_true rfl)) dX7_strip_36 ⟨Nat.le_of_ble_eq_true rfl, Nat.le_of_ble_eq_true rfl⟩) hS (fun q _ h => hFc q h) hFc (fun r u t H locs ht hvm hw hB _ _ hS => ?_)
          obtain ⟨hP, -, hD⟩ := hB
          rw [ht] at hP
          replace hD := hD.weaken (fun _ q _ h => hFc q.1 h)
          rw [hw.2] at hP hD
          rw [hw.1]
          clear hw hFc
          have hP : va_P Dg vwCl (cX x0 b z (-3) (σ.1 2 0) (σ.1 2 1) (σ.1 2 2) (σ.1 2 3) (σ.1 2 4) (rfO (-3) (σ.1 1)) (g 0) (g 1) (g 2) (g 3) (g 4) ++ va_pl L f) H := hP
          have hD : va_D A (cX x0 b z (-3) (σ.1 2 0) (σ.1 2 1) (σ.1 2 2) (σ.1 2 3) (σ.1 2 4) (rfO (-3) (σ.1 1)) (g 0) (g 1) (g 2) (g 3) (g 4) ++ va_pl L f) := hD
          have hw : wh_strip σ p1 p2 = (-3) := by simp only [wh_strip, if_pos (yIn_e c_2 c_3), if_pos c_1, if_pos (full_of hV.1.2.2.1 rfl c_4)]
          have hn : ¬ wh_strip σ p1 p2 = 0 := by rw [hw]; decide
          refine W.widen (k := 2) (n := 18) (Nat.le_of_ble_eq_true rfl) (Nat.le_of_ble_eq_true rfl) ?_
          exact W.iret (v := (-3)) hx hb hr (fun t ht hW => ⟨⟨_, (cX x0 b z (-3) (σ.1 2 0) (σ.1 2 1) (σ.1 2 2) (σ.1 2 3) (σ.1 2 4) (rfO (-3) (σ.1 1)) (g 0) (g 1) (g 2) (g 3) (g 4) ++ va_pl L f), rfl, ⟨by rw [an_strip, if_neg hn, hw]; try rfl, L, f, ad, g, by rw [nw_strip, if_neg hn, hw]; rfl, by rw [nw_strip, if_neg hn]; exact CI_rf hC _⟩, by rw [ht]; exact hP, va_K.moved hW.alike hK, hD⟩, hS.F ht⟩) hS.2.2 dX7_strip_39
      · refine lv_aload_n hx hb dX7_strip_17 rfl (lv_at hl 0 rfl) ?_
        refine lv_bipush (v := (-2)) hx hb dX7_strip_18 (by decide) ?_
        have hFc := wFree hD hS hA
        refine va_calli (va_runV (As := [.int (-2)]) (rest := []) ⟨hx, hb, hml, hown, hts⟩ (met_X7_refuse l Dg x0 s.heap.size b z (σ.1 0 0) (σ.1 2 0) (σ.1 2 1) (σ.1 2 2) (σ.1 2 3) (σ.1 2 4) (σ.1 1) (g 0) (g 1) (g 2) (g 3) (g 4) L f (-2) (by decide) (by unfold vp_in; decide)) (cwV 1 hts gX7_strip_X7_refuse rfl rfl rfl (by decide +kernel) ⟨Nat.le_of_ble_eq_true rfl, Nat.le_of_ble_eq_true rfl⟩) (wPreV hK hP (hD.weaken (fun _ _ _ _ => trivial)) (va_recv hK hP (ci := 5) (q0 := 0) rfl rfl)) rfl rfl hl.1 rfl (lv_room (Nat.le_of_ble_eq_true rfl)) dX7_strip_20 ⟨Nat.le_of_ble_eq_true rfl, Nat.le_of_ble_eq_true rfl⟩) hS (fun q _ h => hFc q h) hFc (fun r u t H locs ht hvm hw hB _ _ hS => ?_)
        obtain ⟨hP, -, hD⟩ := hB
        rw [ht] at hP
        replace hD := hD.weaken (fun _ q _ h => hFc q.1 h)
        rw [hw.2] at hP hD
        rw [hw.1]
        clear hw hFc
        have hP : va_P Dg vwCl (cX x0 b z (-2) (σ.1 2 0) (σ.1 2 1) (σ.1 2 2) (σ.1 2 3) (σ.1 2 4) (rfO (-2) (σ.1 1)) (g 0) (g 1) (g 2) (g 3) (g 4) ++ va_pl L f) H := hP
        have hD : va_D A (cX x0 b z (-2) (σ.1 2 0) (σ.1 2 1) (σ.1 2 2) (σ.1 2 3) (σ.1 2 4) (rfO (-2) (σ.1 1)) (g 0) (g 1) (g 2) (g 3) (g 4) ++ va_pl L f) := hD
        have hw : wh_strip σ p1 p2 = (-2) := by simp only [wh_strip, if_neg (nIn_e (a := 0) c_3), if_pos c_1]
        have hn : ¬ wh_strip σ p1 p2 = 0 := by rw [hw]; decide
        refine W.widen (k := 2) (n := 18) (Nat.le_of_ble_eq_true rfl) (Nat.le_of_ble_eq_true rfl) ?_
        exact W.iret (v := (-2)) hx hb hr (fun t ht hW => ⟨⟨_, (cX x0 b z (-2) (σ.1 2 0) (σ.1 2 1) (σ.1 2 2) (σ.1 2 3) (σ.1 2 4) (rfO (-2) (σ.1 1)) (g 0) (g 1) (g 2) (g 3) (g 4) ++ va_pl L f), rfl, ⟨by rw [an_strip, if_neg hn, hw]; try rfl, L, f, ad, g, by rw [nw_strip, if_neg hn, hw]; rfl, by rw [nw_strip, if_neg hn]; exact CI_rf hC _⟩, by rw [ht]; exact hP, va_K.moved hW.alike hK, hD⟩, hS.F ht⟩) hS.2.2 dX7_strip_23

theorem in_X7_X7_stand : ∀ w ∈ wsX70, w ∈ wsX7_stand := fun w h => List.mem_cons_of_mem _ (List.mem_append_left _ (List.mem_append_right _ h))
theorem in_X4_X7_stand : ∀ w ∈ wsX40, w ∈ wsX7_stand := fun w h => List.mem_cons_of_mem _ (List.mem_append_right _ h)
set_option maxHeartbeats 4000000 in
set_option maxRecDepth 100000 in
theorem met_X7_stand (l : Launch) (Dg : va_G) (x0 sz : Nat) (b : Nat → Nat) (z : Nat → ClassId) (σ : St) (L : List Nat) (f : Nat → va_E) (ad : Nat → Nat → Nat) (g : Nat → Nat → Option Nat) (p1 : Int32) (p2 : Int32) (hV : vOK σ) (hC : CI z σ L f ad g)  : Met l yX7_stand wsX7_stand ({ frames := 2, cells := 2, slots := 8, locals := 34 }) (va_Pc [.ref x0, .int p1, .int p2] (wBO RX1 Dg (cT z) (cX x0 b z (σ.1 0 0) (σ.1 2 0) (σ.1 2 1) (σ.1 2 2) (σ.1 2 3) (σ.1 2 4) (σ.1 1) (g 0) (g 1) (g 2) (g 3) (g 4) ++ va_pl L f) sz)) (va_Qi (fun (r : Int32) (u : va_W) => r = an_stand σ p1 p2 ∧ CX x0 b z (nw_stand σ p1 p2) u) (wE Dg (cT z) (va_A (cX x0 b z (σ.1 0 0) (σ.1 2 0) (σ.1 2 1) (σ.1 2 2) (σ.1 2 3) (σ.1 2 4) (σ.1 1) (g 0) (g 1) (g 2) (g 3) (g 4) ++ va_pl L f) sz)) (va_A (cX x0 b z (σ.1 0 0) (σ.1 2 0) (σ.1 2 1) (σ.1 2 2) (σ.1 2 3) (σ.1 2 4) (σ.1 1) (g 0) (g 1) (g 2) (g 3) (g 4) ++ va_pl L f) sz)) 2 8 (va_A (cX x0 b z (σ.1 0 0) (σ.1 2 0) (σ.1 2 1) (σ.1 2 2) (σ.1 2 3) (σ.1 2 4) (σ.1 1) (g 0) (g 1) (g 2) (g 3) (g 4) ++ va_pl L f) sz) := by
  refine Met.ofW (cc := cX7_stand) (maxL := 3) (ret := (some .int)) (by decide) rfl ?_
  intro p e s m args below meth c s₁ B hml hv
  obtain ⟨rfl, hao, hsz, hP, hK, hD0⟩ := hv
  have hx := B.exec
  have hb := B.bytes
  have hr := B.returns
  have hts := atoms_spec (ws := wsX7_stand) B.pre
  have hown : s.vm.findClass RX7 = some m.cls := findClass_of_methodNamed B.named
  have hlocks := B.notSynchronized
  subst hsz
  have hD := hD0.self (sz := s.heap.size)
  generalize hAe : va_A (cX x0 b z (σ.1 0 0) (σ.1 2 0) (σ.1 2 1) (σ.1 2 2) (σ.1 2 3) (σ.1 2 4) (σ.1 1) (g 0) (g 1) (g 2) (g 3) (g 4) ++ va_pl L f) s.heap.size = A at hD ⊢
  have hA : ∀ q : Nat, s.heap.size ≤ q → A q := fun q h => by rw [← hAe]; exact Or.inr h
  have hS : va_S A s.heap s.heap [] := va_S.rf
  have hP : va_P Dg vwCl (cX x0 b z (σ.1 0 0) (σ.1 2 0) (σ.1 2 1) (σ.1 2 2) (σ.1 2 3) (σ.1 2 4) (σ.1 1) (g 0) (g 1) (g 2) (g 3) (g 4) ++ va_pl L f) s.heap := hP
  have hl := lv_entry ([.ref x0, .int p1, .int p2]) (n := 3) (Nat.le_of_ble_eq_true rfl)
  rw [lg_entry_eq]
  generalize (lg_sl ([.ref x0, .int p1, .int p2]) ++ List.replicate (3 - (lg_sl ([.ref x0, .int p1, .int p2])).length) Slot.unset).toArray = ls at hl ⊢
  have hl : lv_has ls 3 [(0, .ref x0), (1, .int p1), (2, .int p2)] := hl
  refine lv_iload_n hx hb dX7_stand_0 rfl (lv_at hl 1 rfl) ?_
  refine lv_if_lt (tgt := 20) hx hb dX7_stand_1 (by decide) (fun c_1 => ?_) (fun c_1 => ?_)
  · refine lv_aload_n hx hb dX7_stand_20 rfl (lv_at hl 0 rfl) ?_
    refine lv_bipush (v := (-2)) hx hb dX7_stand_21 (by decide) ?_
    have hFc := wFree hD hS hA
    refine va_calli (va_runV (As := [.int (-2)]) (rest := []) ⟨hx, hb, hml, hown, hts⟩ (met_X7_refuse l Dg x0 s.heap.size b z (σ.1 0 0) (σ.1 2 0) (σ.1 2 1) (σ.1 2 2) (σ.1 2 3) (σ.1 2 4) (σ.1 1) (g 0) (g 1) (g 2) (g 3) (g 4) L f (-2) (by decide) (by unfold vp_in; decide)) (cwV 1 hts gX7_stand_X7_refuse rfl rfl rfl (by decide +kernel) ⟨Nat.le_of_ble_eq_true rfl, Nat.le_of_ble_eq_true rfl⟩) (wPreV hK hP (hD.weaken (fun _ _ _ _ => trivial)) (va_recv hK hP (ci := 5) (q0 := 0) rfl rfl)) rfl rfl hl.1 rfl (lv_room (Nat.le_of_ble_eq_true rfl)) dX7_stand_23 ⟨Nat.le_of_ble_eq_true rfl, Nat.le_of_ble_eq_true rfl⟩) hS (fun q _ h => hFc q h) hFc (fun r u t H locs ht hvm hw hB _ _ hS => ?_)
    obtain ⟨hP, -, hD⟩ := hB
    rw [ht] at hP
    replace hD := hD.weaken (fun _ q _ h => hFc q.1 h)
    rw [hw.2] at hP hD
    rw [hw.1]
    clear hw hFc
    have hP : va_P Dg vwCl (cX x0 b z (-2) (σ.1 2 0) (σ.1 2 1) (σ.1 2 2) (σ.1 2 3) (σ.1 2 4) (rfO (-2) (σ.1 1)) (g 0) (g 1) (g 2) (g 3) (g 4) ++ va_pl L f) H := hP
    have hD : va_D A (cX x0 b z (-2) (σ.1 2 0) (σ.1 2 1) (σ.1 2 2) (σ.1 2 3) (σ.1 2 4) (rfO (-2) (σ.1 1)) (g 0) (g 1) (g 2) (g 3) (g 4) ++ va_pl L f) := hD
    have hw : wh_stand σ p1 p2 = (-2) := by simp only [wh_stand, if_neg (nIn_l (b := 3) c_1)]
    have hn : ¬ wh_stand σ p1 p2 = 0 := by rw [hw]; decide
    refine W.widen (k := 2) (n := 8) (Nat.le_of_ble_eq_true rfl) (Nat.le_of_ble_eq_true rfl) ?_
    exact W.iret (v := (-2)) hx hb hr (fun t ht hW => ⟨⟨_, (cX x0 b z (-2) (σ.1 2 0) (σ.1 2 1) (σ.1 2 2) (σ.1 2 3) (σ.1 2 4) (rfO (-2) (σ.1 1)) (g 0) (g 1) (g 2) (g 3) (g 4) ++ va_pl L f), rfl, ⟨by rw [an_stand, if_neg hn, hw]; try rfl, L, f, ad, g, by rw [nw_stand, if_neg hn, hw]; rfl, by rw [nw_stand, if_neg hn]; exact CI_rf hC _⟩, by rw [ht]; exact hP, va_K.moved hW.alike hK, hD⟩, hS.F ht⟩) hS.2.2 dX7_stand_26
  · refine lv_iload_n hx hb dX7_stand_4 rfl (lv_at hl 1 rfl) ?_
    refine lv_iconst (v := 3) hx hb dX7_stand_5 (by decide) ?_
    refine lv_icmp_gt (tgt := 20) hx hb dX7_stand_6 (by decide) (fun c_2 => ?_) (fun c_2 => ?_)
    · refine lv_aload_n hx hb dX7_stand_20 rfl (lv_at hl 0 rfl) ?_
      refine lv_bipush (v := (-2)) hx hb dX7_stand_21 (by decide) ?_
      have hFc := wFree hD hS hA
      refine va_calli (va_runV (As := [.int (-2)]) (rest := []) ⟨hx, hb, hml, hown, hts⟩ (met_X7_refuse l Dg x0 s.heap.size b z (σ.1 0 0) (σ.1 2 0) (σ.1 2 1) (σ.1 2 2) (σ.1 2 3) (σ.1 2 4) (σ.1 1) (g 0) (g 1) (g 2) (g 3) (g 4) L f (-2) (by decide) (by unfold vp_in; decide)) (cwV 1 hts gX7_stand_X7_refuse rfl rfl rfl (by decide +kernel) ⟨Nat.le_of_ble_eq_true rfl, Nat.le_of_ble_eq_true rfl⟩) (wPreV hK hP (hD.weaken (fun _ _ _ _ => trivial)) (va_recv hK hP (ci := 5) (q0 := 0) rfl rfl)) rfl rfl hl.1 rfl (lv_room (Nat.le_of_ble_eq_true rfl)) dX7_stand_23 ⟨Nat.le_of_ble_eq_true rfl, Nat.le_of_ble_eq_true rfl⟩) hS (fun q _ h => hFc q h) hFc (fun r u t H locs ht hvm hw hB _ _ hS => ?_)
      obtain ⟨hP, -, hD⟩ := hB
      rw [ht] at hP
      replace hD := hD.weaken (fun _ q _ h => hFc q.1 h)
      rw [hw.2] at hP hD
      rw [hw.1]
      clear hw hFc
      have hP : va_P Dg vwCl (cX x0 b z (-2) (σ.1 2 0) (σ.1 2 1) (σ.1 2 2) (σ.1 2 3) (σ.1 2 4) (rfO (-2) (σ.1 1)) (g 0) (g 1) (g 2) (g 3) (g 4) ++ va_pl L f) H := hP
      have hD : va_D A (cX x0 b z (-2) (σ.1 2 0) (σ.1 2 1) (σ.1 2 2) (σ.1 2 3) (σ.1 2 4) (rfO (-2) (σ.1 1)) (g 0) (g 1) (g 2) (g 3) (g 4) ++ va_pl L f) := hD
      have hw : wh_stand σ p1 p2 = (-2) := by simp only [wh_stand, if_neg (nIn_h (a := 0) c_2)]
      have hn : ¬ wh_stand σ p1 p2 = 0 := by rw [hw]; decide
      refine W.widen (k := 2) (n := 8) (Nat.le_of_ble_eq_true rfl) (Nat.le_of_ble_eq_true rfl) ?_
      exact W.iret (v := (-2)) hx hb hr (fun t ht hW => ⟨⟨_, (cX x0 b z (-2) (σ.1 2 0) (σ.1 2 1) (σ.1 2 2) (σ.1 2 3) (σ.1 2 4) (rfO (-2) (σ.1 1)) (g 0) (g 1) (g 2) (g 3) (g 4) ++ va_pl L f), rfl, ⟨by rw [an_stand, if_neg hn, hw]; try rfl, L, f, ad, g, by rw [nw_stand, if_neg hn, hw]; rfl, by rw [nw_stand, if_neg hn]; exact CI_rf hC _⟩, by rw [ht]; exact hP, va_K.moved hW.alike hK, hD⟩, hS.F ht⟩) hS.2.2 dX7_stand_26
    · refine lv_iload_n hx hb dX7_stand_9 rfl (lv_at hl 2 rfl) ?_
      refine lv_iconst (v := 1) hx hb dX7_stand_10 (by decide) ?_
      refine lv_icmp_lt (tgt := 20) hx hb dX7_stand_11 (by decide) (fun c_3 => ?_) (fun c_3 => ?_)
      · refine lv_aload_n hx hb dX7_stand_20 rfl (lv_at hl 0 rfl) ?_
        refine lv_bipush (v := (-2)) hx hb dX7_stand_21 (by decide) ?_
        have hFc := wFree hD hS hA
        refine va_calli (va_runV (As := [.int (-2)]) (rest := []) ⟨hx, hb, hml, hown, hts⟩ (met_X7_refuse l Dg x0 s.heap.size b z (σ.1 0 0) (σ.1 2 0) (σ.1 2 1) (σ.1 2 2) (σ.1 2 3) (σ.1 2 4) (σ.1 1) (g 0) (g 1) (g 2) (g 3) (g 4) L f (-2) (by decide) (by unfold vp_in; decide)) (cwV 1 hts gX7_stand_X7_refuse rfl rfl rfl (by decide +kernel) ⟨Nat.le_of_ble_eq_true rfl, Nat.le_of_ble_eq_true rfl⟩) (wPreV hK hP (hD.weaken (fun _ _ _ _ => trivial)) (va_recv hK hP (ci := 5) (q0 := 0) rfl rfl)) rfl rfl hl.1 rfl (lv_room (Nat.le_of_ble_eq_true rfl)) dX7_stand_23 ⟨Nat.le_of_ble_eq_true rfl, Nat.le_of_ble_eq_true rfl⟩) hS (fun q _ h => hFc q h) hFc (fun r u t H locs ht hvm hw hB _ _ hS => ?_)
        obtain ⟨hP, -, hD⟩ := hB
        rw [ht] at hP
        replace hD := hD.weaken (fun _ q _ h => hFc q.1 h)
        rw [hw.2] at hP hD
        rw [hw.1]
        clear hw hFc
        have hP : va_P Dg vwCl (cX x0 b z (-2) (σ.1 2 0) (σ.1 2 1) (σ.1 2 2) (σ.1 2 3) (σ.1 2 4) (rfO (-2) (σ.1 1)) (g 0) (g 1) (g 2) (g 3) (g 4) ++ va_pl L f) H := hP
        have hD : va_D A (cX x0 b z (-2) (σ.1 2 0) (σ.1 2 1) (σ.1 2 2) (σ.1 2 3) (σ.1 2 4) (rfO (-2) (σ.1 1)) (g 0) (g 1) (g 2) (g 3) (g 4) ++ va_pl L f) := hD
        have hw : wh_stand σ p1 p2 = (-2) := by simp only [wh_stand, if_pos (yIn_h c_1 c_2), if_neg (nIn_l (b := 6) c_3)]
        have hn : ¬ wh_stand σ p1 p2 = 0 := by rw [hw]; decide
        refine W.widen (k := 2) (n := 8) (Nat.le_of_ble_eq_true rfl) (Nat.le_of_ble_eq_true rfl) ?_
        exact W.iret (v := (-2)) hx hb hr (fun t ht hW => ⟨⟨_, (cX x0 b z (-2) (σ.1 2 0) (σ.1 2 1) (σ.1 2 2) (σ.1 2 3) (σ.1 2 4) (rfO (-2) (σ.1 1)) (g 0) (g 1) (g 2) (g 3) (g 4) ++ va_pl L f), rfl, ⟨by rw [an_stand, if_neg hn, hw]; try rfl, L, f, ad, g, by rw [nw_stand, if_neg hn, hw]; rfl, by rw [nw_stand, if_neg hn]; exact CI_rf hC _⟩, by rw [ht]; exact hP, va_K.moved hW.alike hK, hD⟩, hS.F ht⟩) hS.2.2 dX7_stand_26
      · refine lv_iload_n hx hb dX7_stand_14 rfl (lv_at hl 2 rfl) ?_
        refine lv_bipush (v := 6) hx hb dX7_stand_15 (by decide) ?_
        refine lv_icmp_le (tgt := 27) hx hb dX7_stand_17 (by decide) (fun c_4 => ?_) (fun c_4 => ?_)
        · refine lv_aload_n hx hb dX7_stand_27 rfl (lv_at hl 0 rfl) ?_
          refine va_get (D := Dg) (ci := 5) (v := .int (σ.1 2 4)) (C := RX7) (T := TX7) (N := 12) hx hb hts in_X7_X7_stand hown hK hP 0 rfl rfl 9 (by decide) (hts (.fieldLink RX7 52 "OrreryWorks" "standCount" "I") (by decide +kernel)) (fun _ h9 => h9) rfl dX7_stand_28 ?_
          refine lv_bipush (v := 8) hx hb dX7_stand_31 (by decide) ?_
          refine lv_icmp_lt (tgt := 43) hx hb dX7_stand_33 (by decide) (fun c_5 => ?_) (fun c_5 => ?_)
          · have hb2 : bnd p2 6 := by have h := isIn_iff.mp (yIn_e (a := 1) (b := 6) c_3 c_4); have e1 : (1 : Int32).toInt = 1 := rfl; exact ⟨by omega, h.2⟩
            refine lv_aload_n hx hb dX7_stand_43 rfl (lv_at hl 0 rfl) ?_
            refine va_get (D := Dg) (ci := 5) (v := .ref (b 4)) (C := RX7) (T := TX7) (N := 12) hx hb hts in_X7_X7_stand hown hK hP 0 rfl rfl 4 (by decide) (hts (.fieldLink RX7 35 "OrreryWorks" "stands" "[LOrreryWorks$Stand;") (by decide +kernel)) (fun _ h9 => h9) rfl dX7_stand_44 ?_
            refine lv_aload_n hx hb dX7_stand_47 rfl (lv_at hl 0 rfl) ?_
            refine va_get (D := Dg) (ci := 5) (v := .int (σ.1 2 4)) (C := RX7) (T := TX7) (N := 12) hx hb hts in_X7_X7_stand hown hK hP 0 rfl rfl 9 (by decide) (hts (.fieldLink RX7 52 "OrreryWorks" "standCount" "I") (by decide +kernel)) (fun _ h9 => h9) rfl dX7_stand_48 ?_
            have hqq := @va_pl_fresh2 A (cX x0 b z (σ.1 0 0) (σ.1 2 0) (σ.1 2 1) (σ.1 2 2) (σ.1 2 3) (σ.1 2 4) (σ.1 1) (g 0) (g 1) (g 2) (g 3) (g 4)) L f
            refine va_new (c0 := c) (D := Dg) (ci := 2) (C := RX4) (T := TX4) (N := 2) (fs := [.int 0, .null]) hx hb hts in_X4_X7_stand tyX4 tyX4_ok hown (hts (.classLink RX7 33 RX4) (by decide +kernel)) (hts (.instantiable RX4 2) (by decide +kernel)) (hts (.initialized RX4) (by decide +kernel)) hK hP hD hS hA rfl (by decide +kernel) (Nat.le_of_ble_eq_true rfl) (Nat.le_of_ble_eq_true rfl) dX7_stand_51 (fun q H hP hD hS => ?_)
            have hP : va_P Dg vwCl ((cX x0 b z (σ.1 0 0) (σ.1 2 0) (σ.1 2 1) (σ.1 2 2) (σ.1 2 3) (σ.1 2 4) (σ.1 1) (g 0) (g 1) (g 2) (g 3) (g 4) ++ va_pl L f) ++ [(q, .inr (2, [.int 0, .null]))]) H := hP
            have hD : va_D A ((cX x0 b z (σ.1 0 0) (σ.1 2 0) (σ.1 2 1) (σ.1 2 2) (σ.1 2 3) (σ.1 2 4) (σ.1 1) (g 0) (g 1) (g 2) (g 3) (g 4) ++ va_pl L f) ++ [(q, .inr (2, [.int 0, .null]))]) := hD
            replace hqq := hqq hD
            refine lv_dup hx hb dX7_stand_54 rfl ?_
            refine lv_iload_n hx hb dX7_stand_55 rfl (lv_at hl 1 rfl) ?_
            refine lv_iload_n hx hb dX7_stand_56 rfl (lv_at hl 2 rfl) ?_
            have hPc := P_last hP
            have hDc := D_last hD
            have hKc := hK.sub (tys' := [(z 3, .object RX1)]) [3] rfl
            have hFc : ∀ q9, va_A [(q, .inr (2, [.int 0, .null]))] H.size q9 → A q9 := fun q9 h => h.elim (fun ⟨k, e9, hk⟩ => hDc.2 k (q9, e9) hk) (fun h => hA q9 (Nat.le_trans hS.1 h))
            refine va_callv (va_runI (As := [.int p1, .int p2]) (rest := [.ref q, .int (σ.1 2 4), .ref (b 4)]) ⟨hx, hb, hml, hown, hts⟩ (met_X4_init l Dg q H.size (z 3) p1 p2 hb2) (cwI 2 hts gX7_stand_X4_init rfl rfl rfl (hts (.initialized RX4) (by decide +kernel)) (hts (.methodLink RX7 177 yX4_init) (by decide +kernel)) (hts (.instanceMethod yX4_init) (by decide +kernel)) rfl (by decide +kernel) ⟨Nat.le_of_ble_eq_true rfl, Nat.le_of_ble_eq_true rfl⟩) (wPreIO hao hKc hPc (hDc.weaken (fun _ _ _ _ => trivial))) rfl rfl hl.1 rfl (lv_room (Nat.le_of_ble_eq_true rfl)) dX7_stand_57 ⟨Nat.le_of_ble_eq_true rfl, Nat.le_of_ble_eq_true rfl⟩) hS (fun q9 _ h => hFc q9 h) hFc (fun u t H1 locs ht hvm hw hB _ hk1 hS => ?_)
            obtain ⟨hP1, -, hD1⟩ := hB
            rw [ht] at hP1
            obtain ⟨r0, hw⟩ := hw
            rw [hw] at hP1 hD1
            obtain ⟨hP, hD⟩ := ct_join hP hD hk1 hFc hP1 hD1
            have hrr := pl_fr2 hqq hD
            rw [pl_push2 hqq hrr] at hP hD
            have hfe : (va_up (va_up f q (.inr (2, [.int p1, .ref r0]))) r0 (.inl (z 3, ix p2, .inr (.inr (.inr (.inr (fun _ => none))))))) q = .inr (2, [.int p1, .ref r0]) := up2 hrr
            have hP : va_P Dg vwCl (cX x0 b z (σ.1 0 0) (σ.1 2 0) (σ.1 2 1) (σ.1 2 2) (σ.1 2 3) (σ.1 2 4) (σ.1 1) (g 0) (g 1) (g 2) (g 3) (g 4) ++ va_pl ((L ++ [q]) ++ [r0]) (va_up (va_up f q (.inr (2, [.int p1, .ref r0]))) r0 (.inl (z 3, ix p2, .inr (.inr (.inr (.inr (fun _ => none)))))))) H1 := hP
            have hD : va_D A (cX x0 b z (σ.1 0 0) (σ.1 2 0) (σ.1 2 1) (σ.1 2 2) (σ.1 2 3) (σ.1 2 4) (σ.1 1) (g 0) (g 1) (g 2) (g 3) (g 4) ++ va_pl ((L ++ [q]) ++ [r0]) (va_up (va_up f q (.inr (2, [.int p1, .ref r0]))) r0 (.inl (z 3, ix p2, .inr (.inr (.inr (.inr (fun _ => none)))))))) := hD
            obtain ⟨q9, h9⟩ := va_pl_get (X := cX x0 b z (σ.1 0 0) (σ.1 2 0) (σ.1 2 1) (σ.1 2 2) (σ.1 2 3) (σ.1 2 4) (σ.1 1) (g 0) (g 1) (g 2) (g 3) (g 4)) (f := va_up (va_up f q (.inr (2, [.int p1, .ref r0]))) r0 (.inl (z 3, ix p2, .inr (.inr (.inr (.inr (fun _ => none))))))) (List.mem_append_left _ (List.mem_append_right _ (List.mem_singleton.mpr rfl)))
            rw [hfe] at h9
            refine va_astq hx hb hK hP hD hS 5 4 q9 2 rfl rfl h9 rfl (top_in hV.1.2.2.2.2 rfl (nfull c_5)) dX7_stand_60 (fun H locs hP hD hS => ?_)
            clear h9
            have hP : va_P Dg vwCl (cX x0 b z (σ.1 0 0) (σ.1 2 0) (σ.1 2 1) (σ.1 2 2) (σ.1 2 3) (σ.1 2 4) (σ.1 1) (g 0) (g 1) (g 2) (g 3) (va_up (g 4) (σ.1 2 4).toNatClampNeg (some q)) ++ va_pl ((L ++ [q]) ++ [r0]) (va_up (va_up f q (.inr (2, [.int p1, .ref r0]))) r0 (.inl (z 3, ix p2, .inr (.inr (.inr (.inr (fun _ => none)))))))) H := hP
            have hD : va_D A (cX x0 b z (σ.1 0 0) (σ.1 2 0) (σ.1 2 1) (σ.1 2 2) (σ.1 2 3) (σ.1 2 4) (σ.1 1) (g 0) (g 1) (g 2) (g 3) (va_up (g 4) (σ.1 2 4).toNatClampNeg (some q)) ++ va_pl ((L ++ [q]) ++ [r0]) (va_up (va_up f q (.inr (2, [.int p1, .ref r0]))) r0 (.inl (z 3, ix p2, .inr (.inr (.inr (.inr (fun _ => none)))))))) := hD
            refine lv_aload_n hx hb dX7_stand_61 rfl (lv_at hl 0 rfl) ?_
            refine lv_aload_n hx hb dX7_stand_62 rfl (lv_at hl 0 rfl) ?_
            refine lv_dup hx hb dX7_stand_63 rfl ?_
            refine va_get (D := Dg) (ci := 5) (v := .int (σ.1 2 4)) (C := RX7) (T := TX7) (N := 12) hx hb hts in_X7_X7_stand hown hK hP 0 rfl rfl 9 (by decide) (hts (.fieldLink RX7 52 "OrreryWorks" "standCount" "I") (by decide +kernel)) (fun _ h9 => h9) rfl dX7_stand_64 ?_
            refine lv_dup_x1 hx hb dX7_stand_67 rfl rfl ?_
            refine lv_iconst (v := 1) hx hb dX7_stand_68 (by decide) ?_
            refine lv_iadd hx hb dX7_stand_69 ?_
            refine va_put (D := Dg) (ci := 5) (v := .int ((σ.1 2 4) + 1)) (ty := .int) (C := RX7) (T := TX7) (N := 12) hx hb hts in_X7_X7_stand tyX7 tyX7_ok nmX7 hown hK hP hD hS 0 rfl rfl 9 (by decide) (hts (.fieldLink RX7 52 "OrreryWorks" "standCount" "I") (by decide +kernel)) (fun _ h9 => h9) rfl (by decide +kernel) rfl rfl (Nat.le_of_ble_eq_true rfl) dX7_stand_70 (fun H locs hP hD hS => ?_)
            have hP : va_P Dg vwCl (cX x0 b z (σ.1 0 0) (σ.1 2 0) (σ.1 2 1) (σ.1 2 2) (σ.1 2 3) ((σ.1 2 4) + 1) (σ.1 1) (g 0) (g 1) (g 2) (g 3) (va_up (g 4) (σ.1 2 4).toNatClampNeg (some q)) ++ va_pl ((L ++ [q]) ++ [r0]) (va_up (va_up f q (.inr (2, [.int p1, .ref r0]))) r0 (.inl (z 3, ix p2, .inr (.inr (.inr (.inr (fun _ => none)))))))) H := hP
            have hD : va_D A (cX x0 b z (σ.1 0 0) (σ.1 2 0) (σ.1 2 1) (σ.1 2 2) (σ.1 2 3) ((σ.1 2 4) + 1) (σ.1 1) (g 0) (g 1) (g 2) (g 3) (va_up (g 4) (σ.1 2 4).toNatClampNeg (some q)) ++ va_pl ((L ++ [q]) ++ [r0]) (va_up (va_up f q (.inr (2, [.int p1, .ref r0]))) r0 (.inl (z 3, ix p2, .inr (.inr (.inr (.inr (fun _ => none)))))))) := hD
            have hFc := wFree hD hS hA
            refine va_calli (va_runV (As := [.int (σ.1 2 4)]) (rest := []) ⟨hx, hb, hml, hown, hts⟩ (met_X7_answer l Dg x0 H.size b z (σ.1 0 0) (σ.1 2 0) (σ.1 2 1) (σ.1 2 2) (σ.1 2 3) ((σ.1 2 4) + 1) (σ.1 1) (g 0) (g 1) (g 2) (g 3) (va_up (g 4) (σ.1 2 4).toNatClampNeg (some q)) ((L ++ [q]) ++ [r0]) (va_up (va_up f q (.inr (2, [.int p1, .ref r0]))) r0 (.inl (z 3, ix p2, .inr (.inr (.inr (.inr (fun _ => none))))))) (σ.1 2 4) ) (cwV 1 hts gX7_stand_X7_answer rfl rfl rfl (by decide +kernel) ⟨Nat.le_of_ble_eq_true rfl, Nat.le_of_ble_eq_true rfl⟩) (wPreV hK hP (hD.weaken (fun _ _ _ _ => trivial)) (va_recv hK hP (ci := 5) (q0 := 0) rfl rfl)) rfl rfl hl.1 rfl (lv_room (Nat.le_of_ble_eq_true rfl)) dX7_stand_73 ⟨Nat.le_of_ble_eq_true rfl, Nat.le_of_ble_eq_true rfl⟩) hS (fun q _ h => hFc q h) hFc (fun r u t H locs ht hvm hw hB _ _ hS => ?_)
            obtain ⟨hP, -, hD⟩ := hB
            rw [ht] at hP
            replace hD := hD.weaken (fun _ q _ h => hFc q.1 h)
            rw [hw.2] at hP hD
            rw [hw.1]
            clear hw hFc
            have hP : va_P Dg vwCl (cX x0 b z 0 (σ.1 2 0) (σ.1 2 1) (σ.1 2 2) (σ.1 2 3) ((σ.1 2 4) + 1) (σ.1 1) (g 0) (g 1) (g 2) (g 3) (va_up (g 4) (σ.1 2 4).toNatClampNeg (some q)) ++ va_pl ((L ++ [q]) ++ [r0]) (va_up (va_up f q (.inr (2, [.int p1, .ref r0]))) r0 (.inl (z 3, ix p2, .inr (.inr (.inr (.inr (fun _ => none)))))))) H := hP
            have hD : va_D A (cX x0 b z 0 (σ.1 2 0) (σ.1 2 1) (σ.1 2 2) (σ.1 2 3) ((σ.1 2 4) + 1) (σ.1 1) (g 0) (g 1) (g 2) (g 3) (va_up (g 4) (σ.1 2 4).toNatClampNeg (some q)) ++ va_pl ((L ++ [q]) ++ [r0]) (va_up (va_up f q (.inr (2, [.int p1, .ref r0]))) r0 (.inl (z 3, ix p2, .inr (.inr (.inr (.inr (fun _ => none)))))))) := hD
            have hw : wh_stand σ p1 p2 = 0 := by simp only [wh_stand, if_pos (yIn_h c_1 c_2), if_pos (yIn_e c_3 c_4), if_neg (nfull c_5)]
            refine W.widen (k := 2) (n := 8) (Nat.le_of_ble_eq_true rfl) (Nat.le_of_ble_eq_true rfl) ?_
            exact W.iret (v := (σ.1 2 4)) hx hb hr (fun t ht hW => ⟨⟨_, (cX x0 b z 0 (σ.1 2 0) (σ.1 2 1) (σ.1 2 2) (σ.1 2 3) ((σ.1 2 4) + 1) (σ.1 1) (g 0) (g 1) (g 2) (g 3) (va_up (g 4) (σ.1 2 4).toNatClampNeg (some q)) ++ va_pl ((L ++ [q]) ++ [r0]) (va_up (va_up f q (.inr (2, [.int p1, .ref r0]))) r0 (.inl (z 3, ix p2, .inr (.inr (.inr (.inr (fun _ => none)))))))), rfl, ⟨by rw [an_stand, if_pos hw]; try rfl, (L ++ [q]) ++ [r0], va_up (va_up f q (.inr (2, [.int p1, .ref r0]))) r0 (.inl (z 3, ix p2, .inr (.inr (.inr (.inr (fun _ => none)))))), adp (adp ad 5 (cN σ 4) q) 6 (cN σ 4) r0, fun t => if t = 4 then va_up (g 4) (cN σ 4) (some q) else g t, by rw [nw_stand, if_pos hw]; rfl, by rw [nw_stand, if_pos hw]; exact CI_stand hV hC hqq hrr⟩, by rw [ht]; exact hP, va_K.moved hW.alike hK, hD⟩, hS.F ht⟩) hS.2.2 dX7_stand_76
          · refine lv_aload_n hx hb dX7_stand_36 rfl (lv_at hl 0 rfl) ?_
            refine lv_bipush (v := (-3)) hx hb dX7_stand_37 (by decide) ?_
            have hFc := wFree hD hS hA
            refine va_calli (va_runV (As := [.int (-3)]) (rest := []) ⟨hx, hb, hml, hown, hts⟩ (met_X7_refuse l Dg x0 s.heap.size b z (σ.1 0 0) (σ.1 2 0) (σ.1 2 1) (σ.1 2 2) (σ.1 2 3) (σ.1 2 4) (σ.1 1) (g 0) (g 1) (g 2) (g 3) (g 4) L f (-3) (by decide) (by unfold vp_in; decide)) (cwV 1 hts gX7_stand_X7_refuse rfl rfl rfl (by decide +kernel) ⟨Nat.le_of_ble_eq_true rfl, Nat.le_of_ble_eq_true rfl⟩) (wPreV hK hP (hD.weaken (fun _ _ _ _ => trivial)) (va_recv hK hP (ci := 5) (q0 := 0) rfl rfl)) rfl rfl hl.1 rfl (lv_room (Nat.le_of_ble_eq_true rfl)) dX7_stand_39 ⟨Nat.le_of_ble_eq_true rfl, Nat.le_of_ble_eq_true rfl⟩) hS (fun q _ h => hFc q h) hFc (fun r u t H locs ht hvm hw hB _ _ hS => ?_)
            obtain ⟨hP, -, hD⟩ := hB
            rw [ht] at hP
            replace hD := hD.weaken (fun _ q _ h => hFc q.1 h)
            rw [hw.2] at hP hD
            rw [hw.1]
            clear hw hFc
            have hP : va_P Dg vwCl (cX x0 b z (-3) (σ.1 2 0) (σ.1 2 1) (σ.1 2 2) (σ.1 2 3) (σ.1 2 4) (rfO (-3) (σ.1 1)) (g 0) (g 1) (g 2) (g 3) (g 4) ++ va_pl L f) H := hP
            have hD : va_D A (cX x0 b z (-3) (σ.1 2 0) (σ.1 2 1) (σ.1 2 2) (σ.1 2 3) (σ.1 2 4) (rfO (-3) (σ.1 1)) (g 0) (g 1) (g 2) (g 3) (g 4) ++ va_pl L f) := hD
            have hw : wh_stand σ p1 p2 = (-3) := by simp only [wh_stand, if_pos (yIn_h c_1 c_2), if_pos (yIn_e c_3 c_4), if_pos (full_of hV.1.2.2.2.2 rfl c_5)]
            have hn : ¬ wh_stand σ p1 p2 = 0 := by rw [hw]; decide
            refine W.widen (k := 2) (n := 8) (Nat.le_of_ble_eq_true rfl) (Nat.le_of_ble_eq_true rfl) ?_
            exact W.iret (v := (-3)) hx hb hr (fun t ht hW => ⟨⟨_, (cX x0 b z (-3) (σ.1 2 0) (σ.1 2 1) (σ.1 2 2) (σ.1 2 3) (σ.1 2 4) (rfO (-3) (σ.1 1)) (g 0) (g 1) (g 2) (g 3) (g 4) ++ va_pl L f), rfl, ⟨by rw [an_stand, if_neg hn, hw]; try rfl, L, f, ad, g, by rw [nw_stand, if_neg hn, hw]; rfl, by rw [nw_stand, if_neg hn]; exact CI_rf hC _⟩, by rw [ht]; exact hP, va_K.moved hW.alike hK, hD⟩, hS.F ht⟩) hS.2.2 dX7_stand_42
        · refine lv_aload_n hx hb dX7_stand_20 rfl (lv_at hl 0 rfl) ?_
          refine lv_bipush (v := (-2)) hx hb dX7_stand_21 (by decide) ?_
          have hFc := wFree hD hS hA
          refine va_calli (va_runV (As := [.int (-2)]) (rest := []) ⟨hx, hb, hml, hown, hts⟩ (met_X7_refuse l Dg x0 s.heap.size b z (σ.1 0 0) (σ.1 2 0) (σ.1 2 1) (σ.1 2 2) (σ.1 2 3) (σ.1 2 4) (σ.1 1) (g 0) (g 1) (g 2) (g 3) (g 4) L f (-2) (by decide) (by unfold vp_in; decide)) (cwV 1 hts gX7_stand_X7_refuse rfl rfl rfl (by decide +kernel) ⟨Nat.le_of_ble_eq_true rfl, Nat.le_of_ble_eq_true rfl⟩) (wPreV hK hP (hD.weaken (fun _ _ _ _ => trivial)) (va_recv hK hP (ci := 5) (q0 := 0) rfl rfl)) rfl rfl hl.1 rfl (lv_room (Nat.le_of_ble_eq_true rfl)) dX7_stand_23 ⟨Nat.le_of_ble_eq_true rfl, Nat.le_of_ble_eq_true rfl⟩) hS (fun q _ h => hFc q h) hFc (fun r u t H locs ht hvm hw hB _ _ hS => ?_)
          obtain ⟨hP, -, hD⟩ := hB
          rw [ht] at hP
          replace hD := hD.weaken (fun _ q _ h => hFc q.1 h)
          rw [hw.2] at hP hD
          rw [hw.1]
          clear hw hFc
          have hP : va_P Dg vwCl (cX x0 b z (-2) (σ.1 2 0) (σ.1 2 1) (σ.1 2 2) (σ.1 2 3) (σ.1 2 4) (rfO (-2) (σ.1 1)) (g 0) (g 1) (g 2) (g 3) (g 4) ++ va_pl L f) H := hP
          have hD : va_D A (cX x0 b z (-2) (σ.1 2 0) (σ.1 2 1) (σ.1 2 2) (σ.1 2 3) (σ.1 2 4) (rfO (-2) (σ.1 1)) (g 0) (g 1) (g 2) (g 3) (g 4) ++ va_pl L f) := hD
          have hw : wh_stand σ p1 p2 = (-2) := by simp only [wh_stand, if_pos (yIn_h c_1 c_2), if_neg (nIn_e (a := 1) c_4)]
          have hn : ¬ wh_stand σ p1 p2 = 0 := by rw [hw]; decide
          refine W.widen (k := 2) (n := 8) (Nat.le_of_ble_eq_true rfl) (Nat.le_of_ble_eq_true rfl) ?_
          exact W.iret (v := (-2)) hx hb hr (fun t ht hW => ⟨⟨_, (cX x0 b z (-2) (σ.1 2 0) (σ.1 2 1) (σ.1 2 2) (σ.1 2 3) (σ.1 2 4) (rfO (-2) (σ.1 1)) (g 0) (g 1) (g 2) (g 3) (g 4) ++ va_pl L f), rfl, ⟨by rw [an_stand, if_neg hn, hw]; try rfl, L, f, ad, g, by rw [nw_stand, if_neg hn, hw]; rfl, by rw [nw_stand, if_neg hn]; exact CI_rf hC _⟩, by rw [ht]; exact hP, va_K.moved hW.alike hK, hD⟩, hS.F ht⟩) hS.2.2 dX7_stand_26

theorem in_X6_X7_wheelOf : ∀ w ∈ wsX60, w ∈ wsX7_wheelOf := fun w h => List.mem_cons_of_mem _ (List.mem_append_left _ (List.mem_append_right _ h))
theorem in_X7_X7_wheelOf : ∀ w ∈ wsX70, w ∈ wsX7_wheelOf := fun w h => List.mem_cons_of_mem _ (List.mem_append_right _ h)
set_option maxHeartbeats 4000000 in
set_option maxRecDepth 100000 in
theorem met_X7_wheelOf (l : Launch) (Dg : va_G) (x0 sz : Nat) (b : Nat → Nat) (z : Nat → ClassId) (σ : St) (L : List Nat) (f : Nat → va_E) (ad : Nat → Nat → Nat) (g : Nat → Nat → Option Nat) (p1 : Int32) (p2 : Int32) (hV : vOK σ) (hC : CI z σ L f ad g)  : Met l yX7_wheelOf wsX7_wheelOf ({ frames := 2, cells := 0, slots := 0, locals := 42 }) (va_Pc [.ref x0, .int p1, .int p2] (wB Dg (cT z) (cX x0 b z (σ.1 0 0) (σ.1 2 0) (σ.1 2 1) (σ.1 2 2) (σ.1 2 3) (σ.1 2 4) (σ.1 1) (g 0) (g 1) (g 2) (g 3) (g 4) ++ va_pl L f) sz)) (va_Ql (fun (r : Int64) (u : va_W) => r = an_wheelOf σ p1 p2 ∧ CX x0 b z (nw_wheelOf σ p1 p2) u) (wE Dg (cT z) (va_A (cX x0 b z (σ.1 0 0) (σ.1 2 0) (σ.1 2 1) (σ.1 2 2) (σ.1 2 3) (σ.1 2 4) (σ.1 1) (g 0) (g 1) (g 2) (g 3) (g 4) ++ va_pl L f) sz)) (va_A (cX x0 b z (σ.1 0 0) (σ.1 2 0) (σ.1 2 1) (σ.1 2 2) (σ.1 2 3) (σ.1 2 4) (σ.1 1) (g 0) (g 1) (g 2) (g 3) (g 4) ++ va_pl L f) sz)) 0 0 (va_A (cX x0 b z (σ.1 0 0) (σ.1 2 0) (σ.1 2 1) (σ.1 2 2) (σ.1 2 3) (σ.1 2 4) (σ.1 1) (g 0) (g 1) (g 2) (g 3) (g 4) ++ va_pl L f) sz) := by
  refine Met.ofW (cc := cX7_wheelOf) (maxL := 4) (ret := (some .long)) (by decide) rfl ?_
  intro p e s m args below meth c s₁ B hml hv
  obtain ⟨rfl, hsz, hP, hK, hD0⟩ := hv
  have hx := B.exec
  have hb := B.bytes
  have hr := B.returns
  have hts := atoms_spec (ws := wsX7_wheelOf) B.pre
  have hown : s.vm.findClass RX7 = some m.cls := findClass_of_methodNamed B.named
  have hlocks := B.notSynchronized
  subst hsz
  have hD := hD0.self (sz := s.heap.size)
  generalize hAe : va_A (cX x0 b z (σ.1 0 0) (σ.1 2 0) (σ.1 2 1) (σ.1 2 2) (σ.1 2 3) (σ.1 2 4) (σ.1 1) (g 0) (g 1) (g 2) (g 3) (g 4) ++ va_pl L f) s.heap.size = A at hD ⊢
  have hA : ∀ q : Nat, s.heap.size ≤ q → A q := fun q h => by rw [← hAe]; exact Or.inr h
  have hS : va_S A s.heap s.heap [] := va_S.rf
  have hP : va_P Dg vwCl (cX x0 b z (σ.1 0 0) (σ.1 2 0) (σ.1 2 1) (σ.1 2 2) (σ.1 2 3) (σ.1 2 4) (σ.1 1) (g 0) (g 1) (g 2) (g 3) (g 4) ++ va_pl L f) s.heap := hP
  have hl := lv_entry ([.ref x0, .int p1, .int p2]) (n := 4) (Nat.le_of_ble_eq_true rfl)
  rw [lg_entry_eq]
  generalize (lg_sl ([.ref x0, .int p1, .int p2]) ++ List.replicate (4 - (lg_sl ([.ref x0, .int p1, .int p2])).length) Slot.unset).toArray = ls at hl ⊢
  have hl : lv_has ls 4 [(0, .ref x0), (1, .int p1), (2, .int p2)] := hl
  refine lv_aload_n hx hb dX7_wheelOf_0 rfl (lv_at hl 0 rfl) ?_
  refine lv_iload_n hx hb dX7_wheelOf_1 rfl (lv_at hl 1 rfl) ?_
  rcases Decidable.em (fX8_isIn p1 0 ((σ.1 2 0) - 1) = true) with c_1 | c_1
  · refine va_csq ((va_runV (As := [.int p1]) (rest := []) ⟨hx, hb, hml, hown, hts⟩ (met_X7_wheelAt l Dg x0 b z (σ.1 0 0) (σ.1 2 0) (σ.1 2 1) (σ.1 2 2) (σ.1 2 3) (σ.1 2 4) (σ.1 1) (g 0) (g 1) (g 2) (g 3) (g 4) L f p1 hV.1.1) (cwV 1 hts gX7_wheelOf_X7_wheelAt rfl rfl rfl (by decide +kernel) ⟨Nat.le_of_ble_eq_true rfl, Nat.le_of_ble_eq_true rfl⟩) (rPreV hK hP (va_recv hK hP (ci := 5) (q0 := 0) rfl rfl)) rfl rfl hl.1 rfl (lv_room (Nat.le_of_ble_eq_true rfl)) dX7_wheelOf_2 ⟨Nat.le_of_ble_eq_true rfl, Nat.le_of_ble_eq_true rfl⟩).run) (fun r hw => ?_)
    obtain rfl : r = some (ad 0 (ix p1)) := hw.trans ((if_pos c_1).trans (hC.2.1 _ (inC_lt hV.1.1 c_1)))
    refine W.eq (g2 := F0 m 5 ls [.ref (ad 0 (ix p1))]) rfl ?_
    have lt_2 := inC_lt hV.1.1 c_1
    have o_2 := hC.1.1 0 _ (by decide) lt_2
    have f_2 : f (ad 0 (ix p1)) = .inr (4, [.int (σ.1 3 (ix p1)), .long (σ.2 0 (ix p1)), .long (σ.2 1 (ix p1))]) := o_2.2
    refine lv_astore_n (lv' := [(3, .ref (ad 0 (ix p1))), (0, .ref x0), (1, .int p1), (2, .int p2)]) hx hb dX7_wheelOf_5 rfl hl (by decide) rfl (fun ls hl => ?_)
    refine lv_aload_n hx hb dX7_wheelOf_6 rfl (lv_at hl 0 rfl) ?_
    refine lv_ifnull hx hb dX7_wheelOf_7 ?_
    refine lv_iload_n hx hb dX7_wheelOf_10 rfl (lv_at hl 3 rfl) ?_
    refine lv_if_lt (tgt := 19) hx hb dX7_wheelOf_11 (by decide) (fun c_3 => ?_) (fun c_3 => ?_)
    · refine lv_aload_n hx hb dX7_wheelOf_19 rfl (lv_at hl 1 rfl) ?_
      refine lv_bipush (v := (-2)) hx hb dX7_wheelOf_20 (by decide) ?_
      have hFc := wFree hD hS hA
      refine va_calli (va_runV (As := [.int (-2)]) (rest := []) ⟨hx, hb, hml, hown, hts⟩ (met_X7_refuseAnyNumber l Dg x0 s.heap.size b z (σ.1 0 0) (σ.1 2 0) (σ.1 2 1) (σ.1 2 2) (σ.1 2 3) (σ.1 2 4) (σ.1 1) (g 0) (g 1) (g 2) (g 3) (g 4) L f (-2) (by decide) (by unfold vp_in; decide)) (cwV 1 hts gX7_wheelOf_X7_refuseAnyNumber rfl rfl rfl (by decide +kernel) ⟨Nat.le_of_ble_eq_true rfl, Nat.le_of_ble_eq_true rfl⟩) (wPreV hK hP (hD.weaken (fun _ _ _ _ => trivial)) (va_recv hK hP (ci := 5) (q0 := 0) rfl rfl)) rfl rfl hl.1 rfl (lv_room (Nat.le_of_ble_eq_true rfl)) dX7_wheelOf_22 ⟨Nat.le_of_ble_eq_true rfl, Nat.le_of_ble_eq_true rfl⟩) hS (fun q _ h => hFc q h) hFc (fun r u t H locs ht hvm hw hB _ _ hS => ?_)
      obtain ⟨hP, -, hD⟩ := hB
      rw [ht] at hP
      replace hD := hD.weaken (fun _ q _ h => hFc q.1 h)
      rw [hw.2] at hP hD
      rw [hw.1]
      clear hw hFc
      have hP : va_P Dg vwCl (cX x0 b z (-2) (σ.1 2 0) (σ.1 2 1) (σ.1 2 2) (σ.1 2 3) (σ.1 2 4) (rfO (-2) (σ.1 1)) (g 0) (g 1) (g 2) (g 3) (g 4) ++ va_pl L f) H := hP
      have hD : va_D A (cX x0 b z (-2) (σ.1 2 0) (σ.1 2 1) (σ.1 2 2) (σ.1 2 3) (σ.1 2 4) (rfO (-2) (σ.1 1)) (g 0) (g 1) (g 2) (g 3) (g 4) ++ va_pl L f) := hD
      refine lv_i2l hx hb dX7_wheelOf_25 rfl ?_
      have hw : wh_wheelOf σ p1 p2 = (-2) := by simp only [wh_wheelOf, if_neg (nIn_l (b := 1) c_3), if_pos c_1]
      have hn : ¬ wh_wheelOf σ p1 p2 = 0 := by rw [hw]; decide
      exact W.lret (v := (0 : Int32).toInt64) hx hb hr (fun t ht hW => ⟨⟨_, (cX x0 b z (-2) (σ.1 2 0) (σ.1 2 1) (σ.1 2 2) (σ.1 2 3) (σ.1 2 4) (rfO (-2) (σ.1 1)) (g 0) (g 1) (g 2) (g 3) (g 4) ++ va_pl L f), rfl, ⟨by rw [an_wheelOf, if_neg hn]; try rfl, L, f, ad, g, by rw [nw_wheelOf, if_neg hn, hw]; rfl, by rw [nw_wheelOf, if_neg hn]; exact CI_rf hC _⟩, by rw [ht]; exact hP, va_K.moved hW.alike hK, hD⟩, hS.F ht⟩) hS.2.2 dX7_wheelOf_26
    · refine lv_iload_n hx hb dX7_wheelOf_14 rfl (lv_at hl 3 rfl) ?_
      refine lv_iconst (v := 1) hx hb dX7_wheelOf_15 (by decide) ?_
      refine lv_icmp_le (tgt := 27) hx hb dX7_wheelOf_16 (by decide) (fun c_4 => ?_) (fun c_4 => ?_)
      · refine lv_aload_n hx hb dX7_wheelOf_27 rfl (lv_at hl 1 rfl) ?_
        refine lv_iload_n hx hb dX7_wheelOf_28 rfl (lv_at hl 3 rfl) ?_
        refine lv_if_ne (tgt := 39) hx hb dX7_wheelOf_29 (by decide) (fun c_5 => ?_) (fun c_5 => ?_)
        · refine lv_aload_n hx hb dX7_wheelOf_39 rfl (lv_at hl 0 rfl) ?_
          refine vg_get (D := Dg) (ci := 4) (v := .long (σ.2 0 (ix p1))) (C := RX6) (T := TX6) (N := 3) hx hb hts in_X6_X7_wheelOf hown hK hP o_2.1 f_2 rfl 1 (by decide) (hts (.fieldLink RX7 116 "OrreryWorks$Wheel" "turn" "J") (by decide +kernel)) (fun _ h9 => h9) rfl dX7_wheelOf_40 ?_
          have hFc := wFree hD hS hA
          refine va_calll (va_runV (As := [.long (σ.2 0 (ix p1))]) (rest := []) ⟨hx, hb, hml, hown, hts⟩ (met_X7_answerLong l Dg x0 s.heap.size b z (σ.1 0 0) (σ.1 2 0) (σ.1 2 1) (σ.1 2 2) (σ.1 2 3) (σ.1 2 4) (σ.1 1) (g 0) (g 1) (g 2) (g 3) (g 4) L f (σ.2 0 (ix p1)) ) (cwV 1 hts gX7_wheelOf_X7_answerLong rfl rfl rfl (by decide +kernel) ⟨Nat.le_of_ble_eq_true rfl, Nat.le_of_ble_eq_true rfl⟩) (wPreV hK hP (hD.weaken (fun _ _ _ _ => trivial)) (va_recv hK hP (ci := 5) (q0 := 0) rfl rfl)) rfl rfl hl.1 rfl (lv_room (Nat.le_of_ble_eq_true rfl)) dX7_wheelOf_43 ⟨Nat.le_of_ble_eq_true rfl, Nat.le_of_ble_eq_true rfl⟩) hS (fun q _ h => hFc q h) hFc (fun r u t H locs ht hvm hw hB _ _ hS => ?_)
          obtain ⟨hP, -, hD⟩ := hB
          rw [ht] at hP
          replace hD := hD.weaken (fun _ q _ h => hFc q.1 h)
          rw [hw.2] at hP hD
          rw [hw.1]
          clear hw hFc
          have hP : va_P Dg vwCl (cX x0 b z 0 (σ.1 2 0) (σ.1 2 1) (σ.1 2 2) (σ.1 2 3) (σ.1 2 4) (σ.1 1) (g 0) (g 1) (g 2) (g 3) (g 4) ++ va_pl L f) H := hP
          have hD : va_D A (cX x0 b z 0 (σ.1 2 0) (σ.1 2 1) (σ.1 2 2) (σ.1 2 3) (σ.1 2 4) (σ.1 1) (g 0) (g 1) (g 2) (g 3) (g 4) ++ va_pl L f) := hD
          have hw : wh_wheelOf σ p1 p2 = 0 := by simp only [wh_wheelOf, if_pos (yIn_e c_3 c_4), if_pos c_1]
          exact W.lret (v := (σ.2 0 (ix p1))) hx hb hr (fun t ht hW => ⟨⟨_, (cX x0 b z 0 (σ.1 2 0) (σ.1 2 1) (σ.1 2 2) (σ.1 2 3) (σ.1 2 4) (σ.1 1) (g 0) (g 1) (g 2) (g 3) (g 4) ++ va_pl L f), rfl, ⟨by rw [an_wheelOf, if_pos hw]; rw [if_neg c_5], L, f, ad, g, by rw [nw_wheelOf, if_pos hw]; rfl, by rw [nw_wheelOf, if_pos hw]; exact CI_ok0 hC⟩, by rw [ht]; exact hP, va_K.moved hW.alike hK, hD⟩, hS.F ht⟩) hS.2.2 dX7_wheelOf_46
        · refine lv_aload_n hx hb dX7_wheelOf_32 rfl (lv_at hl 0 rfl) ?_
          refine vg_get (D := Dg) (ci := 4) (v := .long (σ.2 1 (ix p1))) (C := RX6) (T := TX6) (N := 3) hx hb hts in_X6_X7_wheelOf hown hK hP o_2.1 f_2 rfl 2 (by decide) (hts (.fieldLink RX7 101 "OrreryWorks$Wheel" "position" "J") (by decide +kernel)) (fun _ h9 => h9) rfl dX7_wheelOf_33 ?_
          refine lv_goto (tgt := 43) hx hb dX7_wheelOf_36 (by decide) ?_
          have hFc := wFree hD hS hA
          refine va_calll (va_runV (As := [.long (σ.2 1 (ix p1))]) (rest := []) ⟨hx, hb, hml, hown, hts⟩ (met_X7_answerLong l Dg x0 s.heap.size b z (σ.1 0 0) (σ.1 2 0) (σ.1 2 1) (σ.1 2 2) (σ.1 2 3) (σ.1 2 4) (σ.1 1) (g 0) (g 1) (g 2) (g 3) (g 4) L f (σ.2 1 (ix p1)) ) (cwV 1 hts gX7_wheelOf_X7_answerLong rfl rfl rfl (by decide +kernel) ⟨Nat.le_of_ble_eq_true rfl, Nat.le_of_ble_eq_true rfl⟩) (wPreV hK hP (hD.weaken (fun _ _ _ _ => trivial)) (va_recv hK hP (ci := 5) (q0 := 0) rfl rfl)) rfl rfl hl.1 rfl (lv_room (Nat.le_of_ble_eq_true rfl)) dX7_wheelOf_43 ⟨Nat.le_of_ble_eq_true rfl, Nat.le_of_ble_eq_true rfl⟩) hS (fun q _ h => hFc q h) hFc (fun r u t H locs ht hvm hw hB _ _ hS => ?_)
          obtain ⟨hP, -, hD⟩ := hB
          rw [ht] at hP
          replace hD := hD.weaken (fun _ q _ h => hFc q.1 h)
          rw [hw.2] at hP hD
          rw [hw.1]
          clear hw hFc
          have hP : va_P Dg vwCl (cX x0 b z 0 (σ.1 2 0) (σ.1 2 1) (σ.1 2 2) (σ.1 2 3) (σ.1 2 4) (σ.1 1) (g 0) (g 1) (g 2) (g 3) (g 4) ++ va_pl L f) H := hP
          have hD : va_D A (cX x0 b z 0 (σ.1 2 0) (σ.1 2 1) (σ.1 2 2) (σ.1 2 3) (σ.1 2 4) (σ.1 1) (g 0) (g 1) (g 2) (g 3) (g 4) ++ va_pl L f) := hD
          have hw : wh_wheelOf σ p1 p2 = 0 := by simp only [wh_wheelOf, if_pos (yIn_e c_3 c_4), if_pos c_1]
          exact W.lret (v := (σ.2 1 (ix p1))) hx hb hr (fun t ht hW => ⟨⟨_, (cX x0 b z 0 (σ.1 2 0) (σ.1 2 1) (σ.1 2 2) (σ.1 2 3) (σ.1 2 4) (σ.1 1) (g 0) (g 1) (g 2) (g 3) (g 4) ++ va_pl L f), rfl, ⟨by rw [an_wheelOf, if_pos hw]; rw [if_pos c_5], L, f, ad, g, by rw [nw_wheelOf, if_pos hw]; rfl, by rw [nw_wheelOf, if_pos hw]; exact CI_ok0 hC⟩, by rw [ht]; exact hP, va_K.moved hW.alike hK, hD⟩, hS.F ht⟩) hS.2.2 dX7_wheelOf_46
      · refine lv_aload_n hx hb dX7_wheelOf_19 rfl (lv_at hl 1 rfl) ?_
        refine lv_bipush (v := (-2)) hx hb dX7_wheelOf_20 (by decide) ?_
        have hFc := wFree hD hS hA
        refine va_calli (va_runV (As := [.int (-2)]) (rest := []) ⟨hx, hb, hml, hown, hts⟩ (met_X7_refuseAnyNumber l Dg x0 s.heap.size b z (σ.1 0 0) (σ.1 2 0) (σ.1 2 1) (σ.1 2 2) (σ.1 2 3) (σ.1 2 4) (σ.1 1) (g 0) (g 1) (g 2) (g 3) (g 4) L f (-2) (by decide) (by unfold vp_in; decide)) (cwV 1 hts gX7_wheelOf_X7_refuseAnyNumber rfl rfl rfl (by decide +kernel) ⟨Nat.le_of_ble_eq_true rfl, Nat.le_of_ble_eq_true rfl⟩) (wPreV hK hP (hD.weaken (fun _ _ _ _ => trivial)) (va_recv hK hP (ci := 5) (q0 := 0) rfl rfl)) rfl rfl hl.1 rfl (lv_room (Nat.le_of_ble_eq_true rfl)) dX7_wheelOf_22 ⟨Nat.le_of_ble_eq_true rfl, Nat.le_of_ble_eq_true rfl⟩) hS (fun q _ h => hFc q h) hFc (fun r u t H locs ht hvm hw hB _ _ hS => ?_)
        obtain ⟨hP, -, hD⟩ := hB
        rw [ht] at hP
        replace hD := hD.weaken (fun _ q _ h => hFc q.1 h)
        rw [hw.2] at hP hD
        rw [hw.1]
        clear hw hFc
        have hP : va_P Dg vwCl (cX x0 b z (-2) (σ.1 2 0) (σ.1 2 1) (σ.1 2 2) (σ.1 2 3) (σ.1 2 4) (rfO (-2) (σ.1 1)) (g 0) (g 1) (g 2) (g 3) (g 4) ++ va_pl L f) H := hP
        have hD : va_D A (cX x0 b z (-2) (σ.1 2 0) (σ.1 2 1) (σ.1 2 2) (σ.1 2 3) (σ.1 2 4) (rfO (-2) (σ.1 1)) (g 0) (g 1) (g 2) (g 3) (g 4) ++ va_pl L f) := hD
        refine lv_i2l hx hb dX7_wheelOf_25 rfl ?_
        have hw : wh_wheelOf σ p1 p2 = (-2) := by simp only [wh_wheelOf, if_neg (nIn_e (a := 0) c_4), if_pos c_1]
        have hn : ¬ wh_wheelOf σ p1 p2 = 0 := by rw [hw]; decide
        exact W.lret (v := (0 : Int32).toInt64) hx hb hr (fun t ht hW => ⟨⟨_, (cX x0 b z (-2) (σ.1 2 0) (σ.1 2 1) (σ.1 2 2) (σ.1 2 3) (σ.1 2 4) (rfO (-2) (σ.1 1)) (g 0) (g 1) (g 2) (g 3) (g 4) ++ va_pl L f), rfl, ⟨by rw [an_wheelOf, if_neg hn]; try rfl, L, f, ad, g, by rw [nw_wheelOf, if_neg hn, hw]; rfl, by rw [nw_wheelOf, if_neg hn]; exact CI_rf hC _⟩, by rw [ht]; exact hP, va_K.moved hW.alike hK, hD⟩, hS.F ht⟩) hS.2.2 dX7_wheelOf_26
  · refine va_csq ((va_runV (As := [.int p1]) (rest := []) ⟨hx, hb, hml, hown, hts⟩ (met_X7_wheelAt l Dg x0 b z (σ.1 0 0) (σ.1 2 0) (σ.1 2 1) (σ.1 2 2) (σ.1 2 3) (σ.1 2 4) (σ.1 1) (g 0) (g 1) (g 2) (g 3) (g 4) L f p1 hV.1.1) (cwV 1 hts gX7_wheelOf_X7_wheelAt rfl rfl rfl (by decide +kernel) ⟨Nat.le_of_ble_eq_true rfl, Nat.le_of_ble_eq_true rfl⟩) (rPreV hK hP (va_recv hK hP (ci := 5) (q0 := 0) rfl rfl)) rfl rfl hl.1 rfl (lv_room (Nat.le_of_ble_eq_true rfl)) dX7_wheelOf_2 ⟨Nat.le_of_ble_eq_true rfl, Nat.le_of_ble_eq_true rfl⟩).run) (fun r hw => ?_)
    obtain rfl : r = none := hw.trans (if_neg c_1)
    refine W.eq (g2 := F0 m 5 ls [.null]) rfl ?_
    refine lv_astore_nN (lv' := [(3, .null), (0, .ref x0), (1, .int p1), (2, .int p2)]) hx hb dX7_wheelOf_5 rfl hl (by decide) rfl (fun ls hl => ?_)
    refine lv_aload_nN hx hb dX7_wheelOf_6 rfl (lv_at hl 0 rfl) ?_
    refine lv_ifnullN (tgt := 19) hx hb dX7_wheelOf_7 (by decide) ?_
    refine lv_aload_n hx hb dX7_wheelOf_19 rfl (lv_at hl 1 rfl) ?_
    refine lv_bipush (v := (-2)) hx hb dX7_wheelOf_20 (by decide) ?_
    have hFc := wFree hD hS hA
    refine va_calli (va_runV (As := [.int (-2)]) (rest := []) ⟨hx, hb, hml, hown, hts⟩ (met_X7_refuseAnyNumber l Dg x0 s.heap.size b z (σ.1 0 0) (σ.1 2 0) (σ.1 2 1) (σ.1 2 2) (σ.1 2 3) (σ.1 2 4) (σ.1 1) (g 0) (g 1) (g 2) (g 3) (g 4) L f (-2) (by decide) (by unfold vp_in; decide)) (cwV 1 hts gX7_wheelOf_X7_refuseAnyNumber rfl rfl rfl (by decide +kernel) ⟨Nat.le_of_ble_eq_true rfl, Nat.le_of_ble_eq_true rfl⟩) (wPreV hK hP (hD.weaken (fun _ _ _ _ => trivial)) (va_recv hK hP (ci := 5) (q0 := 0) rfl rfl)) rfl rfl hl.1 rfl (lv_room (Nat.le_of_ble_eq_true rfl)) dX7_wheelOf_22 ⟨Nat.le_of_ble_eq_true rfl, Nat.le_of_ble_eq_true rfl⟩) hS (fun q _ h => hFc q h) hFc (fun r u t H locs ht hvm hw hB _ _ hS => ?_)
    obtain ⟨hP, -, hD⟩ := hB
    rw [ht] at hP
    replace hD := hD.weaken (fun _ q _ h => hFc q.1 h)
    rw [hw.2] at hP hD
    rw [hw.1]
    clear hw hFc
    have hP : va_P Dg vwCl (cX x0 b z (-2) (σ.1 2 0) (σ.1 2 1) (σ.1 2 2) (σ.1 2 3) (σ.1 2 4) (rfO (-2) (σ.1 1)) (g 0) (g 1) (g 2) (g 3) (g 4) ++ va_pl L f) H := hP
    have hD : va_D A (cX x0 b z (-2) (σ.1 2 0) (σ.1 2 1) (σ.1 2 2) (σ.1 2 3) (σ.1 2 4) (rfO (-2) (σ.1 1)) (g 0) (g 1) (g 2) (g 3) (g 4) ++ va_pl L f) := hD
    refine lv_i2l hx hb dX7_wheelOf_25 rfl ?_
    have hw : wh_wheelOf σ p1 p2 = (-2) := by simp only [wh_wheelOf, if_neg c_1]
    have hn : ¬ wh_wheelOf σ p1 p2 = 0 := by rw [hw]; decide
    exact W.lret (v := (0 : Int32).toInt64) hx hb hr (fun t ht hW => ⟨⟨_, (cX x0 b z (-2) (σ.1 2 0) (σ.1 2 1) (σ.1 2 2) (σ.1 2 3) (σ.1 2 4) (rfO (-2) (σ.1 1)) (g 0) (g 1) (g 2) (g 3) (g 4) ++ va_pl L f), rfl, ⟨by rw [an_wheelOf, if_neg hn]; try rfl, L, f, ad, g, by rw [nw_wheelOf, if_neg hn, hw]; rfl, by rw [nw_wheelOf, if_neg hn]; exact CI_rf hC _⟩, by rw [ht]; exact hP, va_K.moved hW.alike hK, hD⟩, hS.F ht⟩) hS.2.2 dX7_wheelOf_26

theorem in_X6_X7_turn : ∀ w ∈ wsX60, w ∈ wsX7_turn := fun w h => List.mem_cons_of_mem _ (List.mem_append_left _ (List.mem_append_right _ h))
theorem in_X7_X7_turn : ∀ w ∈ wsX70, w ∈ wsX7_turn := fun w h => List.mem_cons_of_mem _ (List.mem_append_right _ h)
set_option maxHeartbeats 4000000 in
set_option maxRecDepth 100000 in
theorem met_X7_turn (l : Launch) (Dg : va_G) (x0 sz : Nat) (b : Nat → Nat) (z : Nat → ClassId) (σ : St) (L : List Nat) (f : Nat → va_E) (ad : Nat → Nat → Nat) (g : Nat → Nat → Option Nat) (p1 : Int32) (p2 : Int64) (hV : vOK σ) (hC : CI z σ L f ad g)  : Met l yX7_turn wsX7_turn ({ frames := 6, cells := 0, slots := 0, locals := 141 }) (va_Pc [.ref x0, .int p1, .long p2] (wB Dg (cT z) (cX x0 b z (σ.1 0 0) (σ.1 2 0) (σ.1 2 1) (σ.1 2 2) (σ.1 2 3) (σ.1 2 4) (σ.1 1) (g 0) (g 1) (g 2) (g 3) (g 4) ++ va_pl L f) sz)) (va_Qi (fun (r : Int32) (u : va_W) => r = an_turn σ p1 p2 ∧ CX x0 b z (nw_turn σ p1 p2) u) (wE Dg (cT z) (va_A (cX x0 b z (σ.1 0 0) (σ.1 2 0) (σ.1 2 1) (σ.1 2 2) (σ.1 2 3) (σ.1 2 4) (σ.1 1) (g 0) (g 1) (g 2) (g 3) (g 4) ++ va_pl L f) sz)) (va_A (cX x0 b z (σ.1 0 0) (σ.1 2 0) (σ.1 2 1) (σ.1 2 2) (σ.1 2 3) (σ.1 2 4) (σ.1 1) (g 0) (g 1) (g 2) (g 3) (g 4) ++ va_pl L f) sz)) 0 0 (va_A (cX x0 b z (σ.1 0 0) (σ.1 2 0) (σ.1 2 1) (σ.1 2 2) (σ.1 2 3) (σ.1 2 4) (σ.1 1) (g 0) (g 1) (g 2) (g 3) (g 4) ++ va_pl L f) sz) := by
  refine Met.ofW (cc := cX7_turn) (maxL := 12) (ret := (some .int)) (by decide) rfl ?_
  intro p e s m args below meth c s₁ B hml hv
  obtain ⟨rfl, hsz, hP, hK, hD0⟩ := hv
  have hx := B.exec
  have hb := B.bytes
  have hr := B.returns
  have hts := atoms_spec (ws := wsX7_turn) B.pre
  have hown : s.vm.findClass RX7 = some m.cls := findClass_of_methodNamed B.named
  have hlocks := B.notSynchronized
  subst hsz
  have hD := hD0.self (sz := s.heap.size)
  generalize hAe : va_A (cX x0 b z (σ.1 0 0) (σ.1 2 0) (σ.1 2 1) (σ.1 2 2) (σ.1 2 3) (σ.1 2 4) (σ.1 1) (g 0) (g 1) (g 2) (g 3) (g 4) ++ va_pl L f) s.heap.size = A at hD ⊢
  have hA : ∀ q : Nat, s.heap.size ≤ q → A q := fun q h => by rw [← hAe]; exact Or.inr h
  have hS : va_S A s.heap s.heap [] := va_S.rf
  have hP : va_P Dg vwCl (cX x0 b z (σ.1 0 0) (σ.1 2 0) (σ.1 2 1) (σ.1 2 2) (σ.1 2 3) (σ.1 2 4) (σ.1 1) (g 0) (g 1) (g 2) (g 3) (g 4) ++ va_pl L f) s.heap := hP
  have hl := lv_entry ([.ref x0, .int p1, .long p2]) (n := 12) (Nat.le_of_ble_eq_true rfl)
  rw [lg_entry_eq]
  generalize (lg_sl ([.ref x0, .int p1, .long p2]) ++ List.replicate (12 - (lg_sl ([.ref x0, .int p1, .long p2])).length) Slot.unset).toArray = ls at hl ⊢
  have hl : lv_has ls 12 [(0, .ref x0), (1, .int p1), (2, .long p2)] := hl
  refine lv_aload_n hx hb dX7_turn_0 rfl (lv_at hl 0 rfl) ?_
  refine lv_iload_n hx hb dX7_turn_1 rfl (lv_at hl 1 rfl) ?_
  rcases Decidable.em (fX8_isIn p1 0 ((σ.1 2 0) - 1) = true) with c_1 | c_1
  · refine va_csq ((va_runV (As := [.int p1]) (rest := []) ⟨hx, hb, hml, hown, hts⟩ (met_X7_wheelAt l Dg x0 b z (σ.1 0 0) (σ.1 2 0) (σ.1 2 1) (σ.1 2 2) (σ.1 2 3) (σ.1 2 4) (σ.1 1) (g 0) (g 1) (g 2) (g 3) (g 4) L f p1 hV.1.1) (cwV 1 hts gX7_turn_X7_wheelAt rfl rfl rfl (by decide +kernel) ⟨Nat.le_of_ble_eq_true rfl, Nat.le_of_ble_eq_true rfl⟩) (rPreV hK hP (va_recv hK hP (ci := 5) (q0 := 0) rfl rfl)) rfl rfl hl.1 rfl (lv_room (Nat.le_of_ble_eq_true rfl)) dX7_turn_2 ⟨Nat.le_of_ble_eq_true rfl, Nat.le_of_ble_eq_true rfl⟩).run) (fun r hw => ?_)
    obtain rfl : r = some (ad 0 (ix p1)) := hw.trans ((if_pos c_1).trans (hC.2.1 _ (inC_lt hV.1.1 c_1)))
    refine W.eq (g2 := F0 m 5 ls [.ref (ad 0 (ix p1))]) rfl ?_
    have lt_2 := inC_lt hV.1.1 c_1
    have o_2 := hC.1.1 0 _ (by decide) lt_2
    have f_2 : f (ad 0 (ix p1)) = .inr (4, [.int (σ.1 3 (ix p1)), .long (σ.2 0 (ix p1)), .long (σ.2 1 (ix p1))]) := o_2.2
    refine lv_astore (lv' := [(4, .ref (ad 0 (ix p1))), (0, .ref x0), (1, .int p1), (2, .long p2)]) hx hb dX7_turn_5 hl (by decide) rfl (fun ls hl => ?_)
    refine lv_aload hx hb dX7_turn_7 (lv_at hl 0 rfl) ?_
    refine lv_ifnull hx hb dX7_turn_9 ?_
    refine lv_iconst (v := 3) hx hb dX7_turn_12 (by decide) ?_
    refine lv_lload_n hx hb dX7_turn_13 rfl (lv_at hl 3 rfl) ?_
    refine vp_callSi ((va_runS (As := [.int 3, .long p2]) (rest := []) ⟨hx, hb, hml, hown, hts⟩ (met_X2_isNumber l 3 p2) (va_cwS 2 hts gX7_turn_X2_isNumber rfl rfl rfl (by decide +kernel) ⟨Nat.le_of_ble_eq_true rfl, Nat.le_of_ble_eq_true rfl⟩) ⟨fun _ _ _ _ q => q, fun U hU hW => ⟨rfl, trivial⟩⟩ rfl rfl hl.1 rfl (lv_room (Nat.le_of_ble_eq_true rfl)) dX7_turn_14 ⟨Nat.le_of_ble_eq_true rfl, Nat.le_of_ble_eq_true rfl⟩).run) (fun r hw => ?_)
    subst hw
    refine lv_if_ne (tgt := 27) hx hb dX7_turn_17 (by decide) (fun c_3 => ?_) (fun c_3 => ?_)
    · replace c_3 := bI_ne c_3
      replace c_3 := (num2_eq).mp c_3
      have w1 := hV.2.1 _ lt_2
      have ht := (num_eq p2).mp c_3
      have hb1 := cst_ok3 w1.1 ht
      have hs := tn_ok hV c_1 c_3
      refine lv_aload hx hb dX7_turn_27 (lv_at hl 0 rfl) ?_
      refine vg_get (D := Dg) (ci := 4) (v := .int (σ.1 3 (ix p1))) (C := RX6) (T := TX6) (N := 3) hx hb hts in_X6_X7_turn hown hK hP o_2.1 f_2 rfl 0 (by decide) (hts (.fieldLink RX7 94 "OrreryWorks$Wheel" "kind" "I") (by decide +kernel)) (fun _ h9 => h9) rfl dX7_turn_29 ?_
      refine lv_istore (lv' := [(5, .int (σ.1 3 (ix p1))), (4, .ref (ad 0 (ix p1))), (0, .ref x0), (1, .int p1), (2, .long p2)]) hx hb dX7_turn_32 hl (by decide) rfl (fun ls hl => ?_)
      refine lv_iload hx hb dX7_turn_34 (lv_at hl 0 rfl) ?_
      refine lv_iconst (v := 3) hx hb dX7_turn_36 (by decide) ?_
      refine lv_lload_n hx hb dX7_turn_37 rfl (lv_at hl 4 rfl) ?_
      refine lv_iload hx hb dX7_turn_38 (lv_at hl 0 rfl) ?_
      refine vp_callSl ((va_runS (As := [.int 3, .long p2, .int (σ.1 3 (ix p1))]) (rest := [.int (σ.1 3 (ix p1))]) ⟨hx, hb, hml, hown, hts⟩ (met_X0_cast l 3 p2 (σ.1 3 (ix p1)) (Or.inr ht)) (va_cwS 3 hts gX7_turn_X0_cast rfl rfl rfl (by decide +kernel) ⟨Nat.le_of_ble_eq_true rfl, Nat.le_of_ble_eq_true rfl⟩) ⟨fun _ _ _ _ q => q, fun U hU hW => ⟨rfl, trivial⟩⟩ rfl rfl hl.1 rfl (lv_room (Nat.le_of_ble_eq_true rfl)) dX7_turn_40 ⟨Nat.le_of_ble_eq_true rfl, Nat.le_of_ble_eq_true rfl⟩).run) (fun r_1 h_1 => ?_)
      subst h_1
      refine vp_callSd ((va_runS (As := [.int (σ.1 3 (ix p1)), .long (cst 3 p2 (σ.1 3 (ix p1)))]) (rest := []) ⟨hx, hb, hml, hown, hts⟩ (met_X2_valueOf l (σ.1 3 (ix p1)) (cst 3 p2 (σ.1 3 (ix p1))) hb1) (va_cwS 2 hts gX7_turn_X2_valueOf rfl rfl rfl (by decide +kernel) ⟨Nat.le_of_ble_eq_true rfl, Nat.le_of_ble_eq_true rfl⟩) ⟨fun _ _ _ _ q => q, fun U hU hW => ⟨rfl, trivial⟩⟩ rfl rfl hl.1 rfl (lv_room (Nat.le_of_ble_eq_true rfl)) dX7_turn_43 ⟨Nat.le_of_ble_eq_true rfl, Nat.le_of_ble_eq_true rfl⟩).run) (fun r_2 h_2 => ?_)
      subst h_2
      refine lv_dstore (lv' := [(6, .double (vl (σ.1 3 (ix p1)) (cst 3 p2 (σ.1 3 (ix p1))))), (5, .int (σ.1 3 (ix p1))), (4, .ref (ad 0 (ix p1))), (0, .ref x0), (1, .int p1), (2, .long p2)]) hx hb dX7_turn_46 hl (by decide) rfl (fun ls hl => ?_)
      refine lv_iload hx hb dX7_turn_48 (lv_at hl 1 rfl) ?_
      refine lv_iconst (v := 0) hx hb dX7_turn_50 (by decide) ?_
      refine lv_iload hx hb dX7_turn_51 (lv_at hl 1 rfl) ?_
      refine lv_aload hx hb dX7_turn_53 (lv_at hl 2 rfl) ?_
      refine vg_get (D := Dg) (ci := 4) (v := .long (σ.2 1 (ix p1))) (C := RX6) (T := TX6) (N := 3) hx hb hts in_X6_X7_turn hown hK hP o_2.1 f_2 rfl 2 (by decide) (hts (.fieldLink RX7 101 "OrreryWorks$Wheel" "position" "J") (by decide +kernel)) (fun _ h9 => h9) rfl dX7_turn_55 ?_
      refine vp_callSd ((va_runS (As := [.int (σ.1 3 (ix p1)), .long (σ.2 1 (ix p1))]) (rest := [.int 0, .int (σ.1 3 (ix p1))]) ⟨hx, hb, hml, hown, hts⟩ (met_X2_valueOf l (σ.1 3 (ix p1)) (σ.2 1 (ix p1)) w1.2.2.2.1) (va_cwS 2 hts gX7_turn_X2_valueOf rfl rfl rfl (by decide +kernel) ⟨Nat.le_of_ble_eq_true rfl, Nat.le_of_ble_eq_true rfl⟩) ⟨fun _ _ _ _ q => q, fun U hU hW => ⟨rfl, trivial⟩⟩ rfl rfl hl.1 rfl (lv_room (Nat.le_of_ble_eq_true rfl)) dX7_turn_58 ⟨Nat.le_of_ble_eq_true rfl, Nat.le_of_ble_eq_true rfl⟩).run) (fun r_3 h_3 => ?_)
      subst h_3
      refine lv_dload hx hb dX7_turn_61 (lv_at hl 0 rfl) ?_
      refine vp_callSd ((va_runS (As := [.int (σ.1 3 (ix p1)), .int 0, .double (vl (σ.1 3 (ix p1)) (σ.2 1 (ix p1))), .double (vl (σ.1 3 (ix p1)) (cst 3 p2 (σ.1 3 (ix p1))))]) (rest := []) ⟨hx, hb, hml, hown, hts⟩ (met_X2_worked l  (σ.1 3 (ix p1)) 0 (σ.2 1 (ix p1)) (cst 3 p2 (σ.1 3 (ix p1))) w1.2.2.2.1 hb1 hs) (va_cwS 4 hts gX7_turn_X2_worked rfl rfl rfl (by decide +kernel) ⟨Nat.le_of_ble_eq_true rfl, Nat.le_of_ble_eq_true rfl⟩) ⟨fun _ _ _ _ q => q, fun U hU hW => ⟨rfl, trivial⟩⟩ rfl rfl hl.1 rfl (lv_room (Nat.le_of_ble_eq_true rfl)) dX7_turn_63 ⟨Nat.le_of_ble_eq_true rfl, Nat.le_of_ble_eq_true rfl⟩).run) (fun r_4 h_4 => ?_)
      subst h_4
      refine lv_topd (fun z_4 ez_4 => ?_)
      rw [show z_4 = vl (σ.1 3 (ix p1)) (suB σ p1 p2) from ez_4.trans rfl]
      refine lv_dstore (lv' := [(8, .double (vl (σ.1 3 (ix p1)) (suB σ p1 p2))), (6, .double (vl (σ.1 3 (ix p1)) (cst 3 p2 (σ.1 3 (ix p1))))), (5, .int (σ.1 3 (ix p1))), (4, .ref (ad 0 (ix p1))), (0, .ref x0), (1, .int p1), (2, .long p2)]) hx hb dX7_turn_66 hl (by decide) rfl (fun ls hl => ?_)
      refine lv_iload hx hb dX7_turn_68 (lv_at hl 2 rfl) ?_
      refine lv_dload hx hb dX7_turn_70 (lv_at hl 0 rfl) ?_
      refine vp_callSl ((va_runS (As := [.int (σ.1 3 (ix p1)), .double (vl (σ.1 3 (ix p1)) (suB σ p1 p2))]) (rest := []) ⟨hx, hb, hml, hown, hts⟩ (met_X2_bitsOf l  (σ.1 3 (ix p1)) (suB σ p1 p2) hs) (va_cwS 2 hts gX7_turn_X2_bitsOf rfl rfl rfl (by decide +kernel) ⟨Nat.le_of_ble_eq_true rfl, Nat.le_of_ble_eq_true rfl⟩) ⟨fun _ _ _ _ q => q, fun U hU hW => ⟨rfl, trivial⟩⟩ rfl rfl hl.1 rfl (lv_room (Nat.le_of_ble_eq_true rfl)) dX7_turn_72 ⟨Nat.le_of_ble_eq_true rfl, Nat.le_of_ble_eq_true rfl⟩).run) (fun r_5 h_5 => ?_)
      subst h_5
      refine lv_lstore (lv' := [(10, .long (suB σ p1 p2)), (8, .double (vl (σ.1 3 (ix p1)) (suB σ p1 p2))), (6, .double (vl (σ.1 3 (ix p1)) (cst 3 p2 (σ.1 3 (ix p1))))), (5, .int (σ.1 3 (ix p1))), (4, .ref (ad 0 (ix p1))), (0, .ref x0), (1, .int p1), (2, .long p2)]) hx hb dX7_turn_75 hl (by decide) rfl (fun ls hl => ?_)
      refine lv_iload hx hb dX7_turn_77 (lv_at hl 3 rfl) ?_
      refine lv_lload hx hb dX7_turn_79 (lv_at hl 0 rfl) ?_
      refine vp_callSi ((va_runS (As := [.int (σ.1 3 (ix p1)), .long (suB σ p1 p2)]) (rest := []) ⟨hx, hb, hml, hown, hts⟩ (met_X2_isEndless l (σ.1 3 (ix p1)) (suB σ p1 p2)) (va_cwS 2 hts gX7_turn_X2_isEndless rfl rfl rfl (by decide +kernel) ⟨Nat.le_of_ble_eq_true rfl, Nat.le_of_ble_eq_true rfl⟩) ⟨fun _ _ _ _ q => q, fun U hU hW => ⟨rfl, trivial⟩⟩ rfl rfl hl.1 rfl (lv_room (Nat.le_of_ble_eq_true rfl)) dX7_turn_81 ⟨Nat.le_of_ble_eq_true rfl, Nat.le_of_ble_eq_true rfl⟩).run) (fun r hw => ?_)
      subst hw
      refine lv_if_eq (tgt := 94) hx hb dX7_turn_84 (by decide) (fun c_5 => ?_) (fun c_5 => ?_)
      · replace c_5 := bI_eq c_5
        have hfin : ¬ mgN (σ.1 3 (ix p1)) (suB σ p1 p2) = infN (σ.1 3 (ix p1)) := fun g => c_5 (isE_iff.mpr g)
        have hd3 : okR (σ.1 3 (ix p1)) (wkB (σ.1 3 (ix p1)) 3 (suB σ p1 p2) (σ.2 0 (ix p1))) := wk_ok w1.1 hs w1.2.1 (fun g => (show (_ ∧ _) ∨ (_ ∧ _) from g).elim (fun g => w1.2.2.1 g.2) (fun g => hfin g.1)) (Or.inr (Or.inr (Or.inr rfl)))
        refine lv_aload hx hb dX7_turn_94 (lv_at hl 4 rfl) ?_
        refine lv_iload hx hb dX7_turn_96 (lv_at hl 3 rfl) ?_
        refine lv_lload hx hb dX7_turn_98 (lv_at hl 0 rfl) ?_
        refine lv_aload hx hb dX7_turn_100 (lv_at hl 4 rfl) ?_
        refine vg_get (D := Dg) (ci := 4) (v := .long (σ.2 0 (ix p1))) (C := RX6) (T := TX6) (N := 3) hx hb hts in_X6_X7_turn hown hK hP o_2.1 f_2 rfl 1 (by decide) (hts (.fieldLink RX7 116 "OrreryWorks$Wheel" "turn" "J") (by decide +kernel)) (fun _ h9 => h9) rfl dX7_turn_102 ?_
        refine vp_callSl ((va_runS (As := [.int (σ.1 3 (ix p1)), .long (suB σ p1 p2), .long (σ.2 0 (ix p1))]) (rest := [.ref (ad 0 (ix p1))]) ⟨hx, hb, hml, hown, hts⟩ (met_X2_restOf l (σ.1 3 (ix p1)) (suB σ p1 p2) (σ.2 0 (ix p1)) hs w1.2.1 hfin w1.2.2.1) (va_cwS 3 hts gX7_turn_X2_restOf rfl rfl rfl (by decide +kernel) ⟨Nat.le_of_ble_eq_true rfl, Nat.le_of_ble_eq_true rfl⟩) ⟨fun _ _ _ _ q => q, fun U hU hW => ⟨rfl, trivial⟩⟩ rfl rfl hl.1 rfl (lv_room (Nat.le_of_ble_eq_true rfl)) dX7_turn_105 ⟨Nat.le_of_ble_eq_true rfl, Nat.le_of_ble_eq_true rfl⟩).run) (fun r_6 h_6 => ?_)
        subst h_6
        refine vg_put (D := Dg) (ci := 4) (v := .long (rmB (σ.1 3 (ix p1)) (suB σ p1 p2) (σ.2 0 (ix p1)))) (ty := .long) (C := RX6) (T := TX6) (N := 3) hx hb hts in_X6_X7_turn tyX6 tyX6_ok nmX6 hown hK hP hD hS o_2.1 f_2 rfl 2 (by decide) (hts (.fieldLink RX7 101 "OrreryWorks$Wheel" "position" "J") (by decide +kernel)) (fun _ h9 => h9) rfl (by decide +kernel) rfl rfl (Nat.le_of_ble_eq_true rfl) dX7_turn_108 (fun H locs hP hD hS => ?_)
        have hP : va_P Dg vwCl (cX x0 b z (σ.1 0 0) (σ.1 2 0) (σ.1 2 1) (σ.1 2 2) (σ.1 2 3) (σ.1 2 4) (σ.1 1) (g 0) (g 1) (g 2) (g 3) (g 4) ++ va_pl L (va_up f (ad 0 (ix p1)) (.inr (4, [.int (σ.1 3 (ix p1)), .long (σ.2 0 (ix p1)), .long (rmB (σ.1 3 (ix p1)) (suB σ p1 p2) (σ.2 0 (ix p1)))])))) H := hP
        have hD : va_D A (cX x0 b z (σ.1 0 0) (σ.1 2 0) (σ.1 2 1) (σ.1 2 2) (σ.1 2 3) (σ.1 2 4) (σ.1 1) (g 0) (g 1) (g 2) (g 3) (g 4) ++ va_pl L (va_up f (ad 0 (ix p1)) (.inr (4, [.int (σ.1 3 (ix p1)), .long (σ.2 0 (ix p1)), .long (rmB (σ.1 3 (ix p1)) (suB σ p1 p2) (σ.2 0 (ix p1)))])))) := hD
        refine lv_aload_n hx hb dX7_turn_111 rfl (lv_at hl 5 rfl) ?_
        refine lv_iload hx hb dX7_turn_112 (lv_at hl 3 rfl) ?_
        refine lv_iconst (v := 3) hx hb dX7_turn_114 (by decide) ?_
        refine lv_dload hx hb dX7_turn_115 (lv_at hl 1 rfl) ?_
        refine lv_iload hx hb dX7_turn_117 (lv_at hl 3 rfl) ?_
        refine lv_aload hx hb dX7_turn_119 (lv_at hl 4 rfl) ?_
        refine vg_get (D := Dg) (ci := 4) (v := .long (σ.2 0 (ix p1))) (C := RX6) (T := TX6) (N := 3) hx hb hts in_X6_X7_turn hown hK hP o_2.1 (va_up_self _ _ _) rfl 1 (by decide) (hts (.fieldLink RX7 116 "OrreryWorks$Wheel" "turn" "J") (by decide +kernel)) (fun _ h9 => h9) rfl dX7_turn_121 ?_
        refine vp_callSd ((va_runS (As := [.int (σ.1 3 (ix p1)), .long (σ.2 0 (ix p1))]) (rest := [.double (vl (σ.1 3 (ix p1)) (suB σ p1 p2)), .int 3, .int (σ.1 3 (ix p1)), .ref x0]) ⟨hx, hb, hml, hown, hts⟩ (met_X2_valueOf l (σ.1 3 (ix p1)) (σ.2 0 (ix p1)) w1.2.1) (va_cwS 2 hts gX7_turn_X2_valueOf rfl rfl rfl (by decide +kernel) ⟨Nat.le_of_ble_eq_true rfl, Nat.le_of_ble_eq_true rfl⟩) ⟨fun _ _ _ _ q => q, fun U hU hW => ⟨rfl, trivial⟩⟩ rfl rfl hl.1 rfl (lv_room (Nat.le_of_ble_eq_true rfl)) dX7_turn_124 ⟨Nat.le_of_ble_eq_true rfl, Nat.le_of_ble_eq_true rfl⟩).run) (fun r_7 h_7 => ?_)
        subst h_7
        refine vp_callSd ((va_runS (As := [.int (σ.1 3 (ix p1)), .int 3, .double (vl (σ.1 3 (ix p1)) (suB σ p1 p2)), .double (vl (σ.1 3 (ix p1)) (σ.2 0 (ix p1)))]) (rest := [.ref x0]) ⟨hx, hb, hml, hown, hts⟩ (met_X2_worked l  (σ.1 3 (ix p1)) 3 (suB σ p1 p2) (σ.2 0 (ix p1)) hs w1.2.1 hd3) (va_cwS 4 hts gX7_turn_X2_worked rfl rfl rfl (by decide +kernel) ⟨Nat.le_of_ble_eq_true rfl, Nat.le_of_ble_eq_true rfl⟩) ⟨fun _ _ _ _ q => q, fun U hU hW => ⟨rfl, trivial⟩⟩ rfl rfl hl.1 rfl (lv_room (Nat.le_of_ble_eq_true rfl)) dX7_turn_127 ⟨Nat.le_of_ble_eq_true rfl, Nat.le_of_ble_eq_true rfl⟩).run) (fun r_8 h_8 => ?_)
        subst h_8
        refine lv_d2i hx hb dX7_turn_130 ?_
        have hFc := wFree hD hS hA
        refine va_calli (va_runV (As := [.int (FP.d2i (vl (σ.1 3 (ix p1)) (wkB (σ.1 3 (ix p1)) 3 (suB σ p1 p2) (σ.2 0 (ix p1)))))]) (rest := []) ⟨hx, hb, hml, hown, hts⟩ (met_X7_answer l Dg x0 H.size b z (σ.1 0 0) (σ.1 2 0) (σ.1 2 1) (σ.1 2 2) (σ.1 2 3) (σ.1 2 4) (σ.1 1) (g 0) (g 1) (g 2) (g 3) (g 4) L (va_up f (ad 0 (ix p1)) (.inr (4, [.int (σ.1 3 (ix p1)), .long (σ.2 0 (ix p1)), .long (rmB (σ.1 3 (ix p1)) (suB σ p1 p2) (σ.2 0 (ix p1)))]))) (FP.d2i (vl (σ.1 3 (ix p1)) (wkB (σ.1 3 (ix p1)) 3 (suB σ p1 p2) (σ.2 0 (ix p1))))) ) (cwV 1 hts gX7_turn_X7_answer rfl rfl rfl (by decide +kernel) ⟨Nat.le_of_ble_eq_true rfl, Nat.le_of_ble_eq_true rfl⟩) (wPreV hK hP (hD.weaken (fun _ _ _ _ => trivial)) (va_recv hK hP (ci := 5) (q0 := 0) rfl rfl)) rfl rfl hl.1 rfl (lv_room (Nat.le_of_ble_eq_true rfl)) dX7_turn_131 ⟨Nat.le_of_ble_eq_true rfl, Nat.le_of_ble_eq_true rfl⟩) hS (fun q _ h => hFc q h) hFc (fun r u t H locs ht hvm hw hB _ _ hS => ?_)
        obtain ⟨hP, -, hD⟩ := hB
        rw [ht] at hP
        replace hD := hD.weaken (fun _ q _ h => hFc q.1 h)
        rw [hw.2] at hP hD
        rw [hw.1]
        clear hw hFc
        have hP : va_P Dg vwCl (cX x0 b z 0 (σ.1 2 0) (σ.1 2 1) (σ.1 2 2) (σ.1 2 3) (σ.1 2 4) (σ.1 1) (g 0) (g 1) (g 2) (g 3) (g 4) ++ va_pl L (va_up f (ad 0 (ix p1)) (.inr (4, [.int (σ.1 3 (ix p1)), .long (σ.2 0 (ix p1)), .long (rmB (σ.1 3 (ix p1)) (suB σ p1 p2) (σ.2 0 (ix p1)))])))) H := hP
        have hD : va_D A (cX x0 b z 0 (σ.1 2 0) (σ.1 2 1) (σ.1 2 2) (σ.1 2 3) (σ.1 2 4) (σ.1 1) (g 0) (g 1) (g 2) (g 3) (g 4) ++ va_pl L (va_up f (ad 0 (ix p1)) (.inr (4, [.int (σ.1 3 (ix p1)), .long (σ.2 0 (ix p1)), .long (rmB (σ.1 3 (ix p1)) (suB σ p1 p2) (σ.2 0 (ix p1)))])))) := hD
        have hw : wh_turn σ p1 p2 = 0 := by simp only [wh_turn, if_pos c_1, if_pos c_3, if_neg (fun g => c_5 (isE_iff.mpr g))]
        exact W.iret (v := FP.d2i (vl (σ.1 3 (ix p1)) (wkB (σ.1 3 (ix p1)) 3 (suB σ p1 p2) (σ.2 0 (ix p1))))) hx hb hr (fun t ht hW => ⟨⟨_, (cX x0 b z 0 (σ.1 2 0) (σ.1 2 1) (σ.1 2 2) (σ.1 2 3) (σ.1 2 4) (σ.1 1) (g 0) (g 1) (g 2) (g 3) (g 4) ++ va_pl L (va_up f (ad 0 (ix p1)) (.inr (4, [.int (σ.1 3 (ix p1)), .long (σ.2 0 (ix p1)), .long (rmB (σ.1 3 (ix p1)) (suB σ p1 p2) (σ.2 0 (ix p1)))])))), rfl, ⟨by rw [an_turn, if_pos hw]; try rfl, L, va_up f (ad 0 (ix p1)) (.inr (4, [.int (σ.1 3 (ix p1)), .long (σ.2 0 (ix p1)), .long (rmB (σ.1 3 (ix p1)) (suB σ p1 p2) (σ.2 0 (ix p1)))])), ad, g, by rw [nw_turn, if_pos hw]; rfl, by rw [nw_turn, if_pos hw]; exact CI_turn hC lt_2⟩, by rw [ht]; exact hP, va_K.moved hW.alike hK, hD⟩, hS.F ht⟩) hS.2.2 dX7_turn_134
      · replace c_5 := bI_ne c_5
        refine lv_aload_n hx hb dX7_turn_87 rfl (lv_at hl 5 rfl) ?_
        refine lv_bipush (v := (-4)) hx hb dX7_turn_88 (by decide) ?_
        have hFc := wFree hD hS hA
        refine va_calli (va_runV (As := [.int (-4)]) (rest := []) ⟨hx, hb, hml, hown, hts⟩ (met_X7_refuseAnyNumber l Dg x0 s.heap.size b z (σ.1 0 0) (σ.1 2 0) (σ.1 2 1) (σ.1 2 2) (σ.1 2 3) (σ.1 2 4) (σ.1 1) (g 0) (g 1) (g 2) (g 3) (g 4) L f (-4) (by decide) (by unfold vp_in; decide)) (cwV 1 hts gX7_turn_X7_refuseAnyNumber rfl rfl rfl (by decide +kernel) ⟨Nat.le_of_ble_eq_true rfl, Nat.le_of_ble_eq_true rfl⟩) (wPreV hK hP (hD.weaken (fun _ _ _ _ => trivial)) (va_recv hK hP (ci := 5) (q0 := 0) rfl rfl)) rfl rfl hl.1 rfl (lv_room (Nat.le_of_ble_eq_true rfl)) dX7_turn_90 ⟨Nat.le_of_ble_eq_true rfl, Nat.le_of_ble_eq_true rfl⟩) hS (fun q _ h => hFc q h) hFc (fun r u t H locs ht hvm hw hB _ _ hS => ?_)
        obtain ⟨hP, -, hD⟩ := hB
        rw [ht] at hP
        replace hD := hD.weaken (fun _ q _ h => hFc q.1 h)
        rw [hw.2] at hP hD
        rw [hw.1]
        clear hw hFc
        have hP : va_P Dg vwCl (cX x0 b z (-4) (σ.1 2 0) (σ.1 2 1) (σ.1 2 2) (σ.1 2 3) (σ.1 2 4) (rfO (-4) (σ.1 1)) (g 0) (g 1) (g 2) (g 3) (g 4) ++ va_pl L f) H := hP
        have hD : va_D A (cX x0 b z (-4) (σ.1 2 0) (σ.1 2 1) (σ.1 2 2) (σ.1 2 3) (σ.1 2 4) (rfO (-4) (σ.1 1)) (g 0) (g 1) (g 2) (g 3) (g 4) ++ va_pl L f) := hD
        have hw : wh_turn σ p1 p2 = (-4) := by simp only [wh_turn, if_pos c_1, if_pos c_3, if_pos (isE_iff.mp c_5)]
        have hn : ¬ wh_turn σ p1 p2 = 0 := by rw [hw]; decide
        exact W.iret (v := 0) hx hb hr (fun t ht hW => ⟨⟨_, (cX x0 b z (-4) (σ.1 2 0) (σ.1 2 1) (σ.1 2 2) (σ.1 2 3) (σ.1 2 4) (rfO (-4) (σ.1 1)) (g 0) (g 1) (g 2) (g 3) (g 4) ++ va_pl L f), rfl, ⟨by rw [an_turn, if_neg hn]; try rfl, L, f, ad, g, by rw [nw_turn, if_neg hn, hw]; rfl, by rw [nw_turn, if_neg hn]; exact CI_rf hC _⟩, by rw [ht]; exact hP, va_K.moved hW.alike hK, hD⟩, hS.F ht⟩) hS.2.2 dX7_turn_93
    · replace c_3 := bI_eq c_3
      replace c_3 := mt (num2_eq).mpr c_3
      refine lv_aload_n hx hb dX7_turn_20 rfl (lv_at hl 1 rfl) ?_
      refine lv_bipush (v := (-2)) hx hb dX7_turn_21 (by decide) ?_
      have hFc := wFree hD hS hA
      refine va_calli (va_runV (As := [.int (-2)]) (rest := []) ⟨hx, hb, hml, hown, hts⟩ (met_X7_refuseAnyNumber l Dg x0 s.heap.size b z (σ.1 0 0) (σ.1 2 0) (σ.1 2 1) (σ.1 2 2) (σ.1 2 3) (σ.1 2 4) (σ.1 1) (g 0) (g 1) (g 2) (g 3) (g 4) L f (-2) (by decide) (by unfold vp_in; decide)) (cwV 1 hts gX7_turn_X7_refuseAnyNumber rfl rfl rfl (by decide +kernel) ⟨Nat.le_of_ble_eq_true rfl, Nat.le_of_ble_eq_true rfl⟩) (wPreV hK hP (hD.weaken (fun _ _ _ _ => trivial)) (va_recv hK hP (ci := 5) (q0 := 0) rfl rfl)) rfl rfl hl.1 rfl (lv_room (Nat.le_of_ble_eq_true rfl)) dX7_turn_23 ⟨Nat.le_of_ble_eq_true rfl, Nat.le_of_ble_eq_true rfl⟩) hS (fun q _ h => hFc q h) hFc (fun r u t H locs ht hvm hw hB _ _ hS => ?_)
      obtain ⟨hP, -, hD⟩ := hB
      rw [ht] at hP
      replace hD := hD.weaken (fun _ q _ h => hFc q.1 h)
      rw [hw.2] at hP hD
      rw [hw.1]
      clear hw hFc
      have hP : va_P Dg vwCl (cX x0 b z (-2) (σ.1 2 0) (σ.1 2 1) (σ.1 2 2) (σ.1 2 3) (σ.1 2 4) (rfO (-2) (σ.1 1)) (g 0) (g 1) (g 2) (g 3) (g 4) ++ va_pl L f) H := hP
      have hD : va_D A (cX x0 b z (-2) (σ.1 2 0) (σ.1 2 1) (σ.1 2 2) (σ.1 2 3) (σ.1 2 4) (rfO (-2) (σ.1 1)) (g 0) (g 1) (g 2) (g 3) (g 4) ++ va_pl L f) := hD
      have hw : wh_turn σ p1 p2 = (-2) := by simp only [wh_turn, if_pos c_1, if_neg c_3]
      have hn : ¬ wh_turn σ p1 p2 = 0 := by rw [hw]; decide
      exact W.iret (v := 0) hx hb hr (fun t ht hW => ⟨⟨_, (cX x0 b z (-2) (σ.1 2 0) (σ.1 2 1) (σ.1 2 2) (σ.1 2 3) (σ.1 2 4) (rfO (-2) (σ.1 1)) (g 0) (g 1) (g 2) (g 3) (g 4) ++ va_pl L f), rfl, ⟨by rw [an_turn, if_neg hn]; try rfl, L, f, ad, g, by rw [nw_turn, if_neg hn, hw]; rfl, by rw [nw_turn, if_neg hn]; exact CI_rf hC _⟩, by rw [ht]; exact hP, va_K.moved hW.alike hK, hD⟩, hS.F ht⟩) hS.2.2 dX7_turn_26
  · refine va_csq ((va_runV (As := [.int p1]) (rest := []) ⟨hx, hb, hml, hown, hts⟩ (met_X7_wheelAt l Dg x0 b z (σ.1 0 0) (σ.1 2 0) (σ.1 2 1) (σ.1 2 2) (σ.1 2 3) (σ.1 2 4) (σ.1 1) (g 0) (g 1) (g 2) (g 3) (g 4) L f p1 hV.1.1) (cwV 1 hts gX7_turn_X7_wheelAt rfl rfl rfl (by decide +kernel) ⟨Nat.le_of_ble_eq_true rfl, Nat.le_of_ble_eq_true rfl⟩) (rPreV hK hP (va_recv hK hP (ci := 5) (q0 := 0) rfl rfl)) rfl rfl hl.1 rfl (lv_room (Nat.le_of_ble_eq_true rfl)) dX7_turn_2 ⟨Nat.le_of_ble_eq_true rfl, Nat.le_of_ble_eq_true rfl⟩).run) (fun r hw => ?_)
    obtain rfl : r = none := hw.trans (if_neg c_1)
    refine W.eq (g2 := F0 m 5 ls [.null]) rfl ?_
    refine lv_astoreN (lv' := [(4, .null), (0, .ref x0), (1, .int p1), (2, .long p2)]) hx hb dX7_turn_5 hl (by decide) rfl (fun ls hl => ?_)
    refine lv_aloadN hx hb dX7_turn_7 (lv_at hl 0 rfl) ?_
    refine lv_ifnullN (tgt := 20) hx hb dX7_turn_9 (by decide) ?_
    refine lv_aload_n hx hb dX7_turn_20 rfl (lv_at hl 1 rfl) ?_
    refine lv_bipush (v := (-2)) hx hb dX7_turn_21 (by decide) ?_
    have hFc := wFree hD hS hA
    refine va_calli (va_runV (As := [.int (-2)]) (rest := []) ⟨hx, hb, hml, hown, hts⟩ (met_X7_refuseAnyNumber l Dg x0 s.heap.size b z (σ.1 0 0) (σ.1 2 0) (σ.1 2 1) (σ.1 2 2) (σ.1 2 3) (σ.1 2 4) (σ.1 1) (g 0) (g 1) (g 2) (g 3) (g 4) L f (-2) (by decide) (by unfold vp_in; decide)) (cwV 1 hts gX7_turn_X7_refuseAnyNumber rfl rfl rfl (by decide +kernel) ⟨Nat.le_of_ble_eq_true rfl, Nat.le_of_ble_eq_true rfl⟩) (wPreV hK hP (hD.weaken (fun _ _ _ _ => trivial)) (va_recv hK hP (ci := 5) (q0 := 0) rfl rfl)) rfl rfl hl.1 rfl (lv_room (Nat.le_of_ble_eq_true rfl)) dX7_turn_23 ⟨Nat.le_of_ble_eq_true rfl, Nat.le_of_ble_eq_true rfl⟩) hS (fun q _ h => hFc q h) hFc (fun r u t H locs ht hvm hw hB _ _ hS => ?_)
    obtain ⟨hP, -, hD⟩ := hB
    rw [ht] at hP
    replace hD := hD.weaken (fun _ q _ h => hFc q.1 h)
    rw [hw.2] at hP hD
    rw [hw.1]
    clear hw hFc
    have hP : va_P Dg vwCl (cX x0 b z (-2) (σ.1 2 0) (σ.1 2 1) (σ.1 2 2) (σ.1 2 3) (σ.1 2 4) (rfO (-2) (σ.1 1)) (g 0) (g 1) (g 2) (g 3) (g 4) ++ va_pl L f) H := hP
    have hD : va_D A (cX x0 b z (-2) (σ.1 2 0) (σ.1 2 1) (σ.1 2 2) (σ.1 2 3) (σ.1 2 4) (rfO (-2) (σ.1 1)) (g 0) (g 1) (g 2) (g 3) (g 4) ++ va_pl L f) := hD
    have hw : wh_turn σ p1 p2 = (-2) := by simp only [wh_turn, if_neg c_1]
    have hn : ¬ wh_turn σ p1 p2 = 0 := by rw [hw]; decide
    exact W.iret (v := 0) hx hb hr (fun t ht hW => ⟨⟨_, (cX x0 b z (-2) (σ.1 2 0) (σ.1 2 1) (σ.1 2 2) (σ.1 2 3) (σ.1 2 4) (rfO (-2) (σ.1 1)) (g 0) (g 1) (g 2) (g 3) (g 4) ++ va_pl L f), rfl, ⟨by rw [an_turn, if_neg hn]; try rfl, L, f, ad, g, by rw [nw_turn, if_neg hn, hw]; rfl, by rw [nw_turn, if_neg hn]; exact CI_rf hC _⟩, by rw [ht]; exact hP, va_K.moved hW.alike hK, hD⟩, hS.F ht⟩) hS.2.2 dX7_turn_26

theorem in_X3_X7_load : ∀ w ∈ wsX30, w ∈ wsX7_load := fun w h => List.mem_cons_of_mem _ (List.mem_append_left _ (List.mem_append_right _ h))
theorem in_X7_X7_load : ∀ w ∈ wsX70, w ∈ wsX7_load := fun w h => List.mem_cons_of_mem _ (List.mem_append_right _ h)
set_option maxHeartbeats 4000000 in
set_option maxRecDepth 100000 in
theorem met_X7_load (l : Launch) (Dg : va_G) (x0 sz : Nat) (b : Nat → Nat) (z : Nat → ClassId) (σ : St) (L : List Nat) (f : Nat → va_E) (ad : Nat → Nat → Nat) (g : Nat → Nat → Option Nat) (p1 : Int32) (p2 : Int32) (p3 : Int64) (hV : vOK σ) (hC : CI z σ L f ad g)  : Met l yX7_load wsX7_load ({ frames := 6, cells := 0, slots := 0, locals := 141 }) (va_Pc [.ref x0, .int p1, .int p2, .long p3] (wB Dg (cT z) (cX x0 b z (σ.1 0 0) (σ.1 2 0) (σ.1 2 1) (σ.1 2 2) (σ.1 2 3) (σ.1 2 4) (σ.1 1) (g 0) (g 1) (g 2) (g 3) (g 4) ++ va_pl L f) sz)) (va_Qi (fun (r : Int32) (u : va_W) => r = an_load σ p1 p2 p3 ∧ CX x0 b z (nw_load σ p1 p2 p3) u) (wE Dg (cT z) (va_A (cX x0 b z (σ.1 0 0) (σ.1 2 0) (σ.1 2 1) (σ.1 2 2) (σ.1 2 3) (σ.1 2 4) (σ.1 1) (g 0) (g 1) (g 2) (g 3) (g 4) ++ va_pl L f) sz)) (va_A (cX x0 b z (σ.1 0 0) (σ.1 2 0) (σ.1 2 1) (σ.1 2 2) (σ.1 2 3) (σ.1 2 4) (σ.1 1) (g 0) (g 1) (g 2) (g 3) (g 4) ++ va_pl L f) sz)) 0 0 (va_A (cX x0 b z (σ.1 0 0) (σ.1 2 0) (σ.1 2 1) (σ.1 2 2) (σ.1 2 3) (σ.1 2 4) (σ.1 1) (g 0) (g 1) (g 2) (g 3) (g 4) ++ va_pl L f) sz) := by
  refine Met.ofW (cc := cX7_load) (maxL := 8) (ret := (some .int)) (by decide) rfl ?_
  intro p e s m args below meth c s₁ B hml hv
  obtain ⟨rfl, hsz, hP, hK, hD0⟩ := hv
  have hx := B.exec
  have hb := B.bytes
  have hr := B.returns
  have hts := atoms_spec (ws := wsX7_load) B.pre
  have hown : s.vm.findClass RX7 = some m.cls := findClass_of_methodNamed B.named
  have hlocks := B.notSynchronized
  subst hsz
  have hD := hD0.self (sz := s.heap.size)
  generalize hAe : va_A (cX x0 b z (σ.1 0 0) (σ.1 2 0) (σ.1 2 1) (σ.1 2 2) (σ.1 2 3) (σ.1 2 4) (σ.1 1) (g 0) (g 1) (g 2) (g 3) (g 4) ++ va_pl L f) s.heap.size = A at hD ⊢
  have hA : ∀ q : Nat, s.heap.size ≤ q → A q := fun q h => by rw [← hAe]; exact Or.inr h
  have hS : va_S A s.heap s.heap [] := va_S.rf
  have hP : va_P Dg vwCl (cX x0 b z (σ.1 0 0) (σ.1 2 0) (σ.1 2 1) (σ.1 2 2) (σ.1 2 3) (σ.1 2 4) (σ.1 1) (g 0) (g 1) (g 2) (g 3) (g 4) ++ va_pl L f) s.heap := hP
  have hl := lv_entry ([.ref x0, .int p1, .int p2, .long p3]) (n := 8) (Nat.le_of_ble_eq_true rfl)
  rw [lg_entry_eq]
  generalize (lg_sl ([.ref x0, .int p1, .int p2, .long p3]) ++ List.replicate (8 - (lg_sl ([.ref x0, .int p1, .int p2, .long p3])).length) Slot.unset).toArray = ls at hl ⊢
  have hl : lv_has ls 8 [(0, .ref x0), (1, .int p1), (2, .int p2), (3, .long p3)] := hl
  refine lv_aload_n hx hb dX7_load_0 rfl (lv_at hl 0 rfl) ?_
  refine lv_iload_n hx hb dX7_load_1 rfl (lv_at hl 1 rfl) ?_
  rcases Decidable.em (fX8_isIn p1 0 ((σ.1 2 1) - 1) = true) with c_1 | c_1
  · refine va_csq ((va_runV (As := [.int p1]) (rest := []) ⟨hx, hb, hml, hown, hts⟩ (met_X7_registerAt l Dg x0 b z (σ.1 0 0) (σ.1 2 0) (σ.1 2 1) (σ.1 2 2) (σ.1 2 3) (σ.1 2 4) (σ.1 1) (g 0) (g 1) (g 2) (g 3) (g 4) L f p1 hV.1.2.1) (cwV 1 hts gX7_load_X7_registerAt rfl rfl rfl (by decide +kernel) ⟨Nat.le_of_ble_eq_true rfl, Nat.le_of_ble_eq_true rfl⟩) (rPreV hK hP (va_recv hK hP (ci := 5) (q0 := 0) rfl rfl)) rfl rfl hl.1 rfl (lv_room (Nat.le_of_ble_eq_true rfl)) dX7_load_2 ⟨Nat.le_of_ble_eq_true rfl, Nat.le_of_ble_eq_true rfl⟩).run) (fun r hw => ?_)
    obtain rfl : r = some (ad 1 (ix p1)) := hw.trans ((if_pos c_1).trans (hC.2.2.1 _ (inC_lt hV.1.2.1 c_1)))
    refine W.eq (g2 := F0 m 5 ls [.ref (ad 1 (ix p1))]) rfl ?_
    have lt_2 := inC_lt hV.1.2.1 c_1
    have o_2 := hC.1.1 1 _ (by decide) lt_2
    have f_2 : f (ad 1 (ix p1)) = .inr (1, [.int (σ.1 4 (ix p1)), .long (σ.2 2 (ix p1))]) := o_2.2
    refine lv_astore (lv' := [(5, .ref (ad 1 (ix p1))), (0, .ref x0), (1, .int p1), (2, .int p2), (3, .long p3)]) hx hb dX7_load_5 hl (by decide) rfl (fun ls hl => ?_)
    refine lv_aload hx hb dX7_load_7 (lv_at hl 0 rfl) ?_
    refine lv_ifnull hx hb dX7_load_9 ?_
    refine lv_iload_n hx hb dX7_load_12 rfl (lv_at hl 3 rfl) ?_
    refine vp_callSi ((va_runS (As := [.int p2]) (rest := []) ⟨hx, hb, hml, hown, hts⟩ (met_X0_isKind l p2) (va_cwS 1 hts gX7_load_X0_isKind rfl rfl rfl (by decide +kernel) ⟨Nat.le_of_ble_eq_true rfl, Nat.le_of_ble_eq_true rfl⟩) ⟨fun _ _ _ _ q => q, fun U hU hW => ⟨rfl, trivial⟩⟩ rfl rfl hl.1 rfl (lv_room (Nat.le_of_ble_eq_true rfl)) dX7_load_13 ⟨Nat.le_of_ble_eq_true rfl, Nat.le_of_ble_eq_true rfl⟩).run) (fun r hw => ?_)
    subst hw
    refine lv_if_ne (tgt := 26) hx hb dX7_load_16 (by decide) (fun c_3 => ?_) (fun c_3 => ?_)
    · replace c_3 := bI_ne c_3
      replace c_3 := (kind_eq).mp c_3
      refine lv_iload_n hx hb dX7_load_26 rfl (lv_at hl 3 rfl) ?_
      refine lv_if_eq (tgt := 35) hx hb dX7_load_27 (by decide) (fun c_4 => ?_) (fun c_4 => ?_)
      · refine lv_lload_n hx hb dX7_load_35 rfl (lv_at hl 4 rfl) ?_
        refine lv_l2i hx hb dX7_load_36 rfl ?_
        refine lv_i2l hx hb dX7_load_37 rfl ?_
        refine lv_goto (tgt := 42) hx hb dX7_load_38 (by decide) ?_
        refine lv_topl (fun z_5 ez_5 => ?_)
        rw [show z_5 = told p2 p3 from ez_5.trans (told_0 c_4)]
        refine lv_lstore (lv' := [(6, .long (told p2 p3)), (5, .ref (ad 1 (ix p1))), (0, .ref x0), (1, .int p1), (2, .int p2), (3, .long p3)]) hx hb dX7_load_42 hl (by decide) rfl (fun ls hl => ?_)
        refine lv_iload_n hx hb dX7_load_44 rfl (lv_at hl 4 rfl) ?_
        refine lv_lload hx hb dX7_load_45 (lv_at hl 0 rfl) ?_
        refine vp_callSi ((va_runS (As := [.int p2, .long (told p2 p3)]) (rest := []) ⟨hx, hb, hml, hown, hts⟩ (met_X0_isNumber l p2 (told p2 p3)) (va_cwS 2 hts gX7_load_X0_isNumber rfl rfl rfl (by decide +kernel) ⟨Nat.le_of_ble_eq_true rfl, Nat.le_of_ble_eq_true rfl⟩) ⟨fun _ _ _ _ q => q, fun U hU hW => ⟨rfl, trivial⟩⟩ rfl rfl hl.1 rfl (lv_room (Nat.le_of_ble_eq_true rfl)) dX7_load_47 ⟨Nat.le_of_ble_eq_true rfl, Nat.le_of_ble_eq_true rfl⟩).run) (fun r hw => ?_)
        subst hw
        refine lv_if_ne (tgt := 60) hx hb dX7_load_50 (by decide) (fun c_6 => ?_) (fun c_6 => ?_)
        · replace c_6 := bI_ne c_6
          have hw0 := wl_ok (σ := σ) c_1 c_3 c_6
          have hq := ld_ok hw0
          have R1 := rg_ok hV hq.1
          refine lv_aload hx hb dX7_load_60 (lv_at hl 1 rfl) ?_
          refine lv_iload_n hx hb dX7_load_62 rfl (lv_at hl 4 rfl) ?_
          refine lv_lload hx hb dX7_load_63 (lv_at hl 0 rfl) ?_
          refine lv_aload hx hb dX7_load_65 (lv_at hl 1 rfl) ?_
          refine vg_get (D := Dg) (ci := 1) (v := .int (σ.1 4 (ix p1))) (C := RX3) (T := TX3) (N := 2) hx hb hts in_X3_X7_load hown hK hP o_2.1 f_2 rfl 0 (by decide) (hts (.fieldLink RX7 139 "OrreryWorks$Register" "kind" "I") (by decide +kernel)) (fun _ h9 => h9) rfl dX7_load_67 ?_
          refine vp_callSl ((va_runS (As := [.int p2, .long (told p2 p3), .int (σ.1 4 (ix p1))]) (rest := [.ref (ad 1 (ix p1))]) ⟨hx, hb, hml, hown, hts⟩ (met_X0_cast l p2 (told p2 p3) (σ.1 4 (ix p1)) (okB_c hq.2.1 hq.2.2)) (va_cwS 3 hts gX7_load_X0_cast rfl rfl rfl (by decide +kernel) ⟨Nat.le_of_ble_eq_true rfl, Nat.le_of_ble_eq_true rfl⟩) ⟨fun _ _ _ _ q => q, fun U hU hW => ⟨rfl, trivial⟩⟩ rfl rfl hl.1 rfl (lv_room (Nat.le_of_ble_eq_true rfl)) dX7_load_70 ⟨Nat.le_of_ble_eq_true rfl, Nat.le_of_ble_eq_true rfl⟩).run) (fun r_1 h_1 => ?_)
          subst h_1
          refine vg_put (D := Dg) (ci := 1) (v := .long (cst p2 (told p2 p3) (σ.1 4 (ix p1)))) (ty := .long) (C := RX3) (T := TX3) (N := 2) hx hb hts in_X3_X7_load tyX3 tyX3_ok nmX3 hown hK hP hD hS o_2.1 f_2 rfl 1 (by decide) (hts (.fieldLink RX7 140 "OrreryWorks$Register" "bits" "J") (by decide +kernel)) (fun _ h9 => h9) rfl (by decide +kernel) rfl rfl (Nat.le_of_ble_eq_true rfl) dX7_load_73 (fun H locs hP hD hS => ?_)
          have hP : va_P Dg vwCl (cX x0 b z (σ.1 0 0) (σ.1 2 0) (σ.1 2 1) (σ.1 2 2) (σ.1 2 3) (σ.1 2 4) (σ.1 1) (g 0) (g 1) (g 2) (g 3) (g 4) ++ va_pl L (va_up f (ad 1 (ix p1)) (.inr (1, [.int (σ.1 4 (ix p1)), .long (cst p2 (told p2 p3) (σ.1 4 (ix p1)))])))) H := hP
          have hD : va_D A (cX x0 b z (σ.1 0 0) (σ.1 2 0) (σ.1 2 1) (σ.1 2 2) (σ.1 2 3) (σ.1 2 4) (σ.1 1) (g 0) (g 1) (g 2) (g 3) (g 4) ++ va_pl L (va_up f (ad 1 (ix p1)) (.inr (1, [.int (σ.1 4 (ix p1)), .long (cst p2 (told p2 p3) (σ.1 4 (ix p1)))])))) := hD
          refine lv_aload_n hx hb dX7_load_76 rfl (lv_at hl 2 rfl) ?_
          refine lv_iconst (v := 1) hx hb dX7_load_77 (by decide) ?_
          have hFc := wFree hD hS hA
          refine va_calli (va_runV (As := [.int 1]) (rest := []) ⟨hx, hb, hml, hown, hts⟩ (met_X7_answer l Dg x0 H.size b z (σ.1 0 0) (σ.1 2 0) (σ.1 2 1) (σ.1 2 2) (σ.1 2 3) (σ.1 2 4) (σ.1 1) (g 0) (g 1) (g 2) (g 3) (g 4) L (va_up f (ad 1 (ix p1)) (.inr (1, [.int (σ.1 4 (ix p1)), .long (cst p2 (told p2 p3) (σ.1 4 (ix p1)))]))) 1 ) (cwV 1 hts gX7_load_X7_answer rfl rfl rfl (by decide +kernel) ⟨Nat.le_of_ble_eq_true rfl, Nat.le_of_ble_eq_true rfl⟩) (wPreV hK hP (hD.weaken (fun _ _ _ _ => trivial)) (va_recv hK hP (ci := 5) (q0 := 0) rfl rfl)) rfl rfl hl.1 rfl (lv_room (Nat.le_of_ble_eq_true rfl)) dX7_load_78 ⟨Nat.le_of_ble_eq_true rfl, Nat.le_of_ble_eq_true rfl⟩) hS (fun q _ h => hFc q h) hFc (fun r u t H locs ht hvm hw hB _ _ hS => ?_)
          obtain ⟨hP, -, hD⟩ := hB
          rw [ht] at hP
          replace hD := hD.weaken (fun _ q _ h => hFc q.1 h)
          rw [hw.2] at hP hD
          rw [hw.1]
          clear hw hFc
          have hP : va_P Dg vwCl (cX x0 b z 0 (σ.1 2 0) (σ.1 2 1) (σ.1 2 2) (σ.1 2 3) (σ.1 2 4) (σ.1 1) (g 0) (g 1) (g 2) (g 3) (g 4) ++ va_pl L (va_up f (ad 1 (ix p1)) (.inr (1, [.int (σ.1 4 (ix p1)), .long (cst p2 (told p2 p3) (σ.1 4 (ix p1)))])))) H := hP
          have hD : va_D A (cX x0 b z 0 (σ.1 2 0) (σ.1 2 1) (σ.1 2 2) (σ.1 2 3) (σ.1 2 4) (σ.1 1) (g 0) (g 1) (g 2) (g 3) (g 4) ++ va_pl L (va_up f (ad 1 (ix p1)) (.inr (1, [.int (σ.1 4 (ix p1)), .long (cst p2 (told p2 p3) (σ.1 4 (ix p1)))])))) := hD
          have hw : wh_load σ p1 p2 p3 = 0 := by exact hw0
          exact W.iret (v := 1) hx hb hr (fun t ht hW => ⟨⟨_, (cX x0 b z 0 (σ.1 2 0) (σ.1 2 1) (σ.1 2 2) (σ.1 2 3) (σ.1 2 4) (σ.1 1) (g 0) (g 1) (g 2) (g 3) (g 4) ++ va_pl L (va_up f (ad 1 (ix p1)) (.inr (1, [.int (σ.1 4 (ix p1)), .long (cst p2 (told p2 p3) (σ.1 4 (ix p1)))])))), rfl, ⟨by rw [an_load, if_pos hw]; try rfl, L, va_up f (ad 1 (ix p1)) (.inr (1, [.int (σ.1 4 (ix p1)), .long (cst p2 (told p2 p3) (σ.1 4 (ix p1)))])), ad, g, by rw [nw_load, if_pos hw]; rfl, by rw [nw_load, if_pos hw]; exact CI_store hC (inC_lt hV.1.2.1 c_1)⟩, by rw [ht]; exact hP, va_K.moved hW.alike hK, hD⟩, hS.F ht⟩) hS.2.2 dX7_load_81
        · replace c_6 := bI_eq c_6
          refine lv_aload_n hx hb dX7_load_53 rfl (lv_at hl 2 rfl) ?_
          refine lv_bipush (v := (-2)) hx hb dX7_load_54 (by decide) ?_
          have hFc := wFree hD hS hA
          refine va_calli (va_runV (As := [.int (-2)]) (rest := []) ⟨hx, hb, hml, hown, hts⟩ (met_X7_refuse l Dg x0 s.heap.size b z (σ.1 0 0) (σ.1 2 0) (σ.1 2 1) (σ.1 2 2) (σ.1 2 3) (σ.1 2 4) (σ.1 1) (g 0) (g 1) (g 2) (g 3) (g 4) L f (-2) (by decide) (by unfold vp_in; decide)) (cwV 1 hts gX7_load_X7_refuse rfl rfl rfl (by decide +kernel) ⟨Nat.le_of_ble_eq_true rfl, Nat.le_of_ble_eq_true rfl⟩) (wPreV hK hP (hD.weaken (fun _ _ _ _ => trivial)) (va_recv hK hP (ci := 5) (q0 := 0) rfl rfl)) rfl rfl hl.1 rfl (lv_room (Nat.le_of_ble_eq_true rfl)) dX7_load_56 ⟨Nat.le_of_ble_eq_true rfl, Nat.le_of_ble_eq_true rfl⟩) hS (fun q _ h => hFc q h) hFc (fun r u t H locs ht hvm hw hB _ _ hS => ?_)
          obtain ⟨hP, -, hD⟩ := hB
          rw [ht] at hP
          replace hD := hD.weaken (fun _ q _ h => hFc q.1 h)
          rw [hw.2] at hP hD
          rw [hw.1]
          clear hw hFc
          have hP : va_P Dg vwCl (cX x0 b z (-2) (σ.1 2 0) (σ.1 2 1) (σ.1 2 2) (σ.1 2 3) (σ.1 2 4) (rfO (-2) (σ.1 1)) (g 0) (g 1) (g 2) (g 3) (g 4) ++ va_pl L f) H := hP
          have hD : va_D A (cX x0 b z (-2) (σ.1 2 0) (σ.1 2 1) (σ.1 2 2) (σ.1 2 3) (σ.1 2 4) (rfO (-2) (σ.1 1)) (g 0) (g 1) (g 2) (g 3) (g 4) ++ va_pl L f) := hD
          have hw : wh_load σ p1 p2 p3 = (-2) := by exact wl_no c_1 c_3 c_6
          have hn : ¬ wh_load σ p1 p2 p3 = 0 := by rw [hw]; decide
          exact W.iret (v := (-2)) hx hb hr (fun t ht hW => ⟨⟨_, (cX x0 b z (-2) (σ.1 2 0) (σ.1 2 1) (σ.1 2 2) (σ.1 2 3) (σ.1 2 4) (rfO (-2) (σ.1 1)) (g 0) (g 1) (g 2) (g 3) (g 4) ++ va_pl L f), rfl, ⟨by rw [an_load, if_neg hn, hw]; try rfl, L, f, ad, g, by rw [nw_load, if_neg hn, hw]; rfl, by rw [nw_load, if_neg hn]; exact CI_rf hC _⟩, by rw [ht]; exact hP, va_K.moved hW.alike hK, hD⟩, hS.F ht⟩) hS.2.2 dX7_load_59
      · refine lv_iload_n hx hb dX7_load_30 rfl (lv_at hl 3 rfl) ?_
        refine lv_iconst (v := 2) hx hb dX7_load_31 (by decide) ?_
        refine lv_icmp_ne (tgt := 41) hx hb dX7_load_32 (by decide) (fun c_7 => ?_) (fun c_7 => ?_)
        · refine lv_lload_n hx hb dX7_load_41 rfl (lv_at hl 4 rfl) ?_
          refine lv_topl (fun z_8 ez_8 => ?_)
          rw [show z_8 = told p2 p3 from ez_8.trans (told_n c_4 c_7)]
          refine lv_lstore (lv' := [(6, .long (told p2 p3)), (5, .ref (ad 1 (ix p1))), (0, .ref x0), (1, .int p1), (2, .int p2), (3, .long p3)]) hx hb dX7_load_42 hl (by decide) rfl (fun ls hl => ?_)
          refine lv_iload_n hx hb dX7_load_44 rfl (lv_at hl 4 rfl) ?_
          refine lv_lload hx hb dX7_load_45 (lv_at hl 0 rfl) ?_
          refine vp_callSi ((va_runS (As := [.int p2, .long (told p2 p3)]) (rest := []) ⟨hx, hb, hml, hown, hts⟩ (met_X0_isNumber l p2 (told p2 p3)) (va_cwS 2 hts gX7_load_X0_isNumber rfl rfl rfl (by decide +kernel) ⟨Nat.le_of_ble_eq_true rfl, Nat.le_of_ble_eq_true rfl⟩) ⟨fun _ _ _ _ q => q, fun U hU hW => ⟨rfl, trivial⟩⟩ rfl rfl hl.1 rfl (lv_room (Nat.le_of_ble_eq_true rfl)) dX7_load_47 ⟨Nat.le_of_ble_eq_true rfl, Nat.le_of_ble_eq_true rfl⟩).run) (fun r hw => ?_)
          subst hw
          refine lv_if_ne (tgt := 60) hx hb dX7_load_50 (by decide) (fun c_9 => ?_) (fun c_9 => ?_)
          · replace c_9 := bI_ne c_9
            have hw0 := wl_ok (σ := σ) c_1 c_3 c_9
            have hq := ld_ok hw0
            have R1 := rg_ok hV hq.1
            refine lv_aload hx hb dX7_load_60 (lv_at hl 1 rfl) ?_
            refine lv_iload_n hx hb dX7_load_62 rfl (lv_at hl 4 rfl) ?_
            refine lv_lload hx hb dX7_load_63 (lv_at hl 0 rfl) ?_
            refine lv_aload hx hb dX7_load_65 (lv_at hl 1 rfl) ?_
            refine vg_get (D := Dg) (ci := 1) (v := .int (σ.1 4 (ix p1))) (C := RX3) (T := TX3) (N := 2) hx hb hts in_X3_X7_load hown hK hP o_2.1 f_2 rfl 0 (by decide) (hts (.fieldLink RX7 139 "OrreryWorks$Register" "kind" "I") (by decide +kernel)) (fun _ h9 => h9) rfl dX7_load_67 ?_
            refine vp_callSl ((va_runS (As := [.int p2, .long (told p2 p3), .int (σ.1 4 (ix p1))]) (rest := [.ref (ad 1 (ix p1))]) ⟨hx, hb, hml, hown, hts⟩ (met_X0_cast l p2 (told p2 p3) (σ.1 4 (ix p1)) (okB_c hq.2.1 hq.2.2)) (va_cwS 3 hts gX7_load_X0_cast rfl rfl rfl (by decide +kernel) ⟨Nat.le_of_ble_eq_true rfl, Nat.le_of_ble_eq_true rfl⟩) ⟨fun _ _ _ _ q => q, fun U hU hW => ⟨rfl, trivial⟩⟩ rfl rfl hl.1 rfl (lv_room (Nat.le_of_ble_eq_true rfl)) dX7_load_70 ⟨Nat.le_of_ble_eq_true rfl, Nat.le_of_ble_eq_true rfl⟩).run) (fun r_2 h_2 => ?_)
            subst h_2
            refine vg_put (D := Dg) (ci := 1) (v := .long (cst p2 (told p2 p3) (σ.1 4 (ix p1)))) (ty := .long) (C := RX3) (T := TX3) (N := 2) hx hb hts in_X3_X7_load tyX3 tyX3_ok nmX3 hown hK hP hD hS o_2.1 f_2 rfl 1 (by decide) (hts (.fieldLink RX7 140 "OrreryWorks$Register" "bits" "J") (by decide +kernel)) (fun _ h9 => h9) rfl (by decide +kernel) rfl rfl (Nat.le_of_ble_eq_true rfl) dX7_load_73 (fun H locs hP hD hS => ?_)
            have hP : va_P Dg vwCl (cX x0 b z (σ.1 0 0) (σ.1 2 0) (σ.1 2 1) (σ.1 2 2) (σ.1 2 3) (σ.1 2 4) (σ.1 1) (g 0) (g 1) (g 2) (g 3) (g 4) ++ va_pl L (va_up f (ad 1 (ix p1)) (.inr (1, [.int (σ.1 4 (ix p1)), .long (cst p2 (told p2 p3) (σ.1 4 (ix p1)))])))) H := hP
            have hD : va_D A (cX x0 b z (σ.1 0 0) (σ.1 2 0) (σ.1 2 1) (σ.1 2 2) (σ.1 2 3) (σ.1 2 4) (σ.1 1) (g 0) (g 1) (g 2) (g 3) (g 4) ++ va_pl L (va_up f (ad 1 (ix p1)) (.inr (1, [.int (σ.1 4 (ix p1)), .long (cst p2 (told p2 p3) (σ.1 4 (ix p1)))])))) := hD
            refine lv_aload_n hx hb dX7_load_76 rfl (lv_at hl 2 rfl) ?_
            refine lv_iconst (v := 1) hx hb dX7_load_77 (by decide) ?_
            have hFc := wFree hD hS hA
            refine va_calli (va_runV (As := [.int 1]) (rest := []) ⟨hx, hb, hml, hown, hts⟩ (met_X7_answer l Dg x0 H.size b z (σ.1 0 0) (σ.1 2 0) (σ.1 2 1) (σ.1 2 2) (σ.1 2 3) (σ.1 2 4) (σ.1 1) (g 0) (g 1) (g 2) (g 3) (g 4) L (va_up f (ad 1 (ix p1)) (.inr (1, [.int (σ.1 4 (ix p1)), .long (cst p2 (told p2 p3) (σ.1 4 (ix p1)))]))) 1 ) (cwV 1 hts gX7_load_X7_answer rfl rfl rfl (by decide +kernel) ⟨Nat.le_of_ble_eq_true rfl, Nat.le_of_ble_eq_true rfl⟩) (wPreV hK hP (hD.weaken (fun _ _ _ _ => trivial)) (va_recv hK hP (ci := 5) (q0 := 0) rfl rfl)) rfl rfl hl.1 rfl (lv_room (Nat.le_of_ble_eq_true rfl)) dX7_load_78 ⟨Nat.le_of_ble_eq_true rfl, Nat.le_of_ble_eq_true rfl⟩) hS (fun q _ h => hFc q h) hFc (fun r u t H locs ht hvm hw hB _ _ hS => ?_)
            obtain ⟨hP, -, hD⟩ := hB
            rw [ht] at hP
            replace hD := hD.weaken (fun _ q _ h => hFc q.1 h)
            rw [hw.2] at hP hD
            rw [hw.1]
            clear hw hFc
            have hP : va_P Dg vwCl (cX x0 b z 0 (σ.1 2 0) (σ.1 2 1) (σ.1 2 2) (σ.1 2 3) (σ.1 2 4) (σ.1 1) (g 0) (g 1) (g 2) (g 3) (g 4) ++ va_pl L (va_up f (ad 1 (ix p1)) (.inr (1, [.int (σ.1 4 (ix p1)), .long (cst p2 (told p2 p3) (σ.1 4 (ix p1)))])))) H := hP
            have hD : va_D A (cX x0 b z 0 (σ.1 2 0) (σ.1 2 1) (σ.1 2 2) (σ.1 2 3) (σ.1 2 4) (σ.1 1) (g 0) (g 1) (g 2) (g 3) (g 4) ++ va_pl L (va_up f (ad 1 (ix p1)) (.inr (1, [.int (σ.1 4 (ix p1)), .long (cst p2 (told p2 p3) (σ.1 4 (ix p1)))])))) := hD
            have hw : wh_load σ p1 p2 p3 = 0 := by exact hw0
            exact W.iret (v := 1) hx hb hr (fun t ht hW => ⟨⟨_, (cX x0 b z 0 (σ.1 2 0) (σ.1 2 1) (σ.1 2 2) (σ.1 2 3) (σ.1 2 4) (σ.1 1) (g 0) (g 1) (g 2) (g 3) (g 4) ++ va_pl L (va_up f (ad 1 (ix p1)) (.inr (1, [.int (σ.1 4 (ix p1)), .long (cst p2 (told p2 p3) (σ.1 4 (ix p1)))])))), rfl, ⟨by rw [an_load, if_pos hw]; try rfl, L, va_up f (ad 1 (ix p1)) (.inr (1, [.int (σ.1 4 (ix p1)), .long (cst p2 (told p2 p3) (σ.1 4 (ix p1)))])), ad, g, by rw [nw_load, if_pos hw]; rfl, by rw [nw_load, if_pos hw]; exact CI_store hC (inC_lt hV.1.2.1 c_1)⟩, by rw [ht]; exact hP, va_K.moved hW.alike hK, hD⟩, hS.F ht⟩) hS.2.2 dX7_load_81
          · replace c_9 := bI_eq c_9
            refine lv_aload_n hx hb dX7_load_53 rfl (lv_at hl 2 rfl) ?_
            refine lv_bipush (v := (-2)) hx hb dX7_load_54 (by decide) ?_
            have hFc := wFree hD hS hA
            refine va_calli (va_runV (As := [.int (-2)]) (rest := []) ⟨hx, hb, hml, hown, hts⟩ (met_X7_refuse l Dg x0 s.heap.size b z (σ.1 0 0) (σ.1 2 0) (σ.1 2 1) (σ.1 2 2) (σ.1 2 3) (σ.1 2 4) (σ.1 1) (g 0) (g 1) (g 2) (g 3) (g 4) L f (-2) (by decide) (by unfold vp_in; decide)) (cwV 1 hts gX7_load_X7_refuse rfl rfl rfl (by decide +kernel) ⟨Nat.le_of_ble_eq_true rfl, Nat.le_of_ble_eq_true rfl⟩) (wPreV hK hP (hD.weaken (fun _ _ _ _ => trivial)) (va_recv hK hP (ci := 5) (q0 := 0) rfl rfl)) rfl rfl hl.1 rfl (lv_room (Nat.le_of_ble_eq_true rfl)) dX7_load_56 ⟨Nat.le_of_ble_eq_true rfl, Nat.le_of_ble_eq_true rfl⟩) hS (fun q _ h => hFc q h) hFc (fun r u t H locs ht hvm hw hB _ _ hS => ?_)
            obtain ⟨hP, -, hD⟩ := hB
            rw [ht] at hP
            replace hD := hD.weaken (fun _ q _ h => hFc q.1 h)
            rw [hw.2] at hP hD
            rw [hw.1]
            clear hw hFc
            have hP : va_P Dg vwCl (cX x0 b z (-2) (σ.1 2 0) (σ.1 2 1) (σ.1 2 2) (σ.1 2 3) (σ.1 2 4) (rfO (-2) (σ.1 1)) (g 0) (g 1) (g 2) (g 3) (g 4) ++ va_pl L f) H := hP
            have hD : va_D A (cX x0 b z (-2) (σ.1 2 0) (σ.1 2 1) (σ.1 2 2) (σ.1 2 3) (σ.1 2 4) (rfO (-2) (σ.1 1)) (g 0) (g 1) (g 2) (g 3) (g 4) ++ va_pl L f) := hD
            have hw : wh_load σ p1 p2 p3 = (-2) := by exact wl_no c_1 c_3 c_9
            have hn : ¬ wh_load σ p1 p2 p3 = 0 := by rw [hw]; decide
            exact W.iret (v := (-2)) hx hb hr (fun t ht hW => ⟨⟨_, (cX x0 b z (-2) (σ.1 2 0) (σ.1 2 1) (σ.1 2 2) (σ.1 2 3) (σ.1 2 4) (rfO (-2) (σ.1 1)) (g 0) (g 1) (g 2) (g 3) (g 4) ++ va_pl L f), rfl, ⟨by rw [an_load, if_neg hn, hw]; try rfl, L, f, ad, g, by rw [nw_load, if_neg hn, hw]; rfl, by rw [nw_load, if_neg hn]; exact CI_rf hC _⟩, by rw [ht]; exact hP, va_K.moved hW.alike hK, hD⟩, hS.F ht⟩) hS.2.2 dX7_load_59
        · refine lv_lload_n hx hb dX7_load_35 rfl (lv_at hl 4 rfl) ?_
          refine lv_l2i hx hb dX7_load_36 rfl ?_
          refine lv_i2l hx hb dX7_load_37 rfl ?_
          refine lv_goto (tgt := 42) hx hb dX7_load_38 (by decide) ?_
          refine lv_topl (fun z_10 ez_10 => ?_)
          rw [show z_10 = told p2 p3 from ez_10.trans (told_2 c_7)]
          refine lv_lstore (lv' := [(6, .long (told p2 p3)), (5, .ref (ad 1 (ix p1))), (0, .ref x0), (1, .int p1), (2, .int p2), (3, .long p3)]) hx hb dX7_load_42 hl (by decide) rfl (fun ls hl => ?_)
          refine lv_iload_n hx hb dX7_load_44 rfl (lv_at hl 4 rfl) ?_
          refine lv_lload hx hb dX7_load_45 (lv_at hl 0 rfl) ?_
          refine vp_callSi ((va_runS (As := [.int p2, .long (told p2 p3)]) (rest := []) ⟨hx, hb, hml, hown, hts⟩ (met_X0_isNumber l p2 (told p2 p3)) (va_cwS 2 hts gX7_load_X0_isNumber rfl rfl rfl (by decide +kernel) ⟨Nat.le_of_ble_eq_true rfl, Nat.le_of_ble_eq_true rfl⟩) ⟨fun _ _ _ _ q => q, fun U hU hW => ⟨rfl, trivial⟩⟩ rfl rfl hl.1 rfl (lv_room (Nat.le_of_ble_eq_true rfl)) dX7_load_47 ⟨Nat.le_of_ble_eq_true rfl, Nat.le_of_ble_eq_true rfl⟩).run) (fun r hw => ?_)
          subst hw
          refine lv_if_ne (tgt := 60) hx hb dX7_load_50 (by decide) (fun c_11 => ?_) (fun c_11 => ?_)
          · replace c_11 := bI_ne c_11
            have hw0 := wl_ok (σ := σ) c_1 c_3 c_11
            have hq := ld_ok hw0
            have R1 := rg_ok hV hq.1
            refine lv_aload hx hb dX7_load_60 (lv_at hl 1 rfl) ?_
            refine lv_iload_n hx hb dX7_load_62 rfl (lv_at hl 4 rfl) ?_
            refine lv_lload hx hb dX7_load_63 (lv_at hl 0 rfl) ?_
            refine lv_aload hx hb dX7_load_65 (lv_at hl 1 rfl) ?_
            refine vg_get (D := Dg) (ci := 1) (v := .int (σ.1 4 (ix p1))) (C := RX3) (T := TX3) (N := 2) hx hb hts in_X3_X7_load hown hK hP o_2.1 f_2 rfl 0 (by decide) (hts (.fieldLink RX7 139 "OrreryWorks$Register" "kind" "I") (by decide +kernel)) (fun _ h9 => h9) rfl dX7_load_67 ?_
            refine vp_callSl ((va_runS (As := [.int p2, .long (told p2 p3), .int (σ.1 4 (ix p1))]) (rest := [.ref (ad 1 (ix p1))]) ⟨hx, hb, hml, hown, hts⟩ (met_X0_cast l p2 (told p2 p3) (σ.1 4 (ix p1)) (okB_c hq.2.1 hq.2.2)) (va_cwS 3 hts gX7_load_X0_cast rfl rfl rfl (by decide +kernel) ⟨Nat.le_of_ble_eq_true rfl, Nat.le_of_ble_eq_true rfl⟩) ⟨fun _ _ _ _ q => q, fun U hU hW => ⟨rfl, trivial⟩⟩ rfl rfl hl.1 rfl (lv_room (Nat.le_of_ble_eq_true rfl)) dX7_load_70 ⟨Nat.le_of_ble_eq_true rfl, Nat.le_of_ble_eq_true rfl⟩).run) (fun r_3 h_3 => ?_)
            subst h_3
            refine vg_put (D := Dg) (ci := 1) (v := .long (cst p2 (told p2 p3) (σ.1 4 (ix p1)))) (ty := .long) (C := RX3) (T := TX3) (N := 2) hx hb hts in_X3_X7_load tyX3 tyX3_ok nmX3 hown hK hP hD hS o_2.1 f_2 rfl 1 (by decide) (hts (.fieldLink RX7 140 "OrreryWorks$Register" "bits" "J") (by decide +kernel)) (fun _ h9 => h9) rfl (by decide +kernel) rfl rfl (Nat.le_of_ble_eq_true rfl) dX7_load_73 (fun H locs hP hD hS => ?_)
            have hP : va_P Dg vwCl (cX x0 b z (σ.1 0 0) (σ.1 2 0) (σ.1 2 1) (σ.1 2 2) (σ.1 2 3) (σ.1 2 4) (σ.1 1) (g 0) (g 1) (g 2) (g 3) (g 4) ++ va_pl L (va_up f (ad 1 (ix p1)) (.inr (1, [.int (σ.1 4 (ix p1)), .long (cst p2 (told p2 p3) (σ.1 4 (ix p1)))])))) H := hP
            have hD : va_D A (cX x0 b z (σ.1 0 0) (σ.1 2 0) (σ.1 2 1) (σ.1 2 2) (σ.1 2 3) (σ.1 2 4) (σ.1 1) (g 0) (g 1) (g 2) (g 3) (g 4) ++ va_pl L (va_up f (ad 1 (ix p1)) (.inr (1, [.int (σ.1 4 (ix p1)), .long (cst p2 (told p2 p3) (σ.1 4 (ix p1)))])))) := hD
            refine lv_aload_n hx hb dX7_load_76 rfl (lv_at hl 2 rfl) ?_
            refine lv_iconst (v := 1) hx hb dX7_load_77 (by decide) ?_
            have hFc := wFree hD hS hA
            refine va_calli (va_runV (As := [.int 1]) (rest := []) ⟨hx, hb, hml, hown, hts⟩ (met_X7_answer l Dg x0 H.size b z (σ.1 0 0) (σ.1 2 0) (σ.1 2 1) (σ.1 2 2) (σ.1 2 3) (σ.1 2 4) (σ.1 1) (g 0) (g 1) (g 2) (g 3) (g 4) L (va_up f (ad 1 (ix p1)) (.inr (1, [.int (σ.1 4 (ix p1)), .long (cst p2 (told p2 p3) (σ.1 4 (ix p1)))]))) 1 ) (cwV 1 hts gX7_load_X7_answer rfl rfl rfl (by decide +kernel) ⟨Nat.le_of_ble_eq_true rfl, Nat.le_of_ble_eq_true rfl⟩) (wPreV hK hP (hD.weaken (fun _ _ _ _ => trivial)) (va_recv hK hP (ci := 5) (q0 := 0) rfl rfl)) rfl rfl hl.1 rfl (lv_room (Nat.le_of_ble_eq_true rfl)) dX7_load_78 ⟨Nat.le_of_ble_eq_true rfl, Nat.le_of_ble_eq_true rfl⟩) hS (fun q _ h => hFc q h) hFc (fun r u t H locs ht hvm hw hB _ _ hS => ?_)
            obtain ⟨hP, -, hD⟩ := hB
            rw [ht] at hP
            replace hD := hD.weaken (fun _ q _ h => hFc q.1 h)
            rw [hw.2] at hP hD
            rw [hw.1]
            clear hw hFc
            have hP : va_P Dg vwCl (cX x0 b z 0 (σ.1 2 0) (σ.1 2 1) (σ.1 2 2) (σ.1 2 3) (σ.1 2 4) (σ.1 1) (g 0) (g 1) (g 2) (g 3) (g 4) ++ va_pl L (va_up f (ad 1 (ix p1)) (.inr (1, [.int (σ.1 4 (ix p1)), .long (cst p2 (told p2 p3) (σ.1 4 (ix p1)))])))) H := hP
            have hD : va_D A (cX x0 b z 0 (σ.1 2 0) (σ.1 2 1) (σ.1 2 2) (σ.1 2 3) (σ.1 2 4) (σ.1 1) (g 0) (g 1) (g 2) (g 3) (g 4) ++ va_pl L (va_up f (ad 1 (ix p1)) (.inr (1, [.int (σ.1 4 (ix p1)), .long (cst p2 (told p2 p3) (σ.1 4 (ix p1)))])))) := hD
            have hw : wh_load σ p1 p2 p3 = 0 := by exact hw0
            exact W.iret (v := 1) hx hb hr (fun t ht hW => ⟨⟨_, (cX x0 b z 0 (σ.1 2 0) (σ.1 2 1) (σ.1 2 2) (σ.1 2 3) (σ.1 2 4) (σ.1 1) (g 0) (g 1) (g 2) (g 3) (g 4) ++ va_pl L (va_up f (ad 1 (ix p1)) (.inr (1, [.int (σ.1 4 (ix p1)), .long (cst p2 (told p2 p3) (σ.1 4 (ix p1)))])))), rfl, ⟨by rw [an_load, if_pos hw]; try rfl, L, va_up f (ad 1 (ix p1)) (.inr (1, [.int (σ.1 4 (ix p1)), .long (cst p2 (told p2 p3) (σ.1 4 (ix p1)))])), ad, g, by rw [nw_load, if_pos hw]; rfl, by rw [nw_load, if_pos hw]; exact CI_store hC (inC_lt hV.1.2.1 c_1)⟩, by rw [ht]; exact hP, va_K.moved hW.alike hK, hD⟩, hS.F ht⟩) hS.2.2 dX7_load_81
          · replace c_11 := bI_eq c_11
            refine lv_aload_n hx hb dX7_load_53 rfl (lv_at hl 2 rfl) ?_
            refine lv_bipush (v := (-2)) hx hb dX7_load_54 (by decide) ?_
            have hFc := wFree hD hS hA
            refine va_calli (va_runV (As := [.int (-2)]) (rest := []) ⟨hx, hb, hml, hown, hts⟩ (met_X7_refuse l Dg x0 s.heap.size b z (σ.1 0 0) (σ.1 2 0) (σ.1 2 1) (σ.1 2 2) (σ.1 2 3) (σ.1 2 4) (σ.1 1) (g 0) (g 1) (g 2) (g 3) (g 4) L f (-2) (by decide) (by unfold vp_in; decide)) (cwV 1 hts gX7_load_X7_refuse rfl rfl rfl (by decide +kernel) ⟨Nat.le_of_ble_eq_true rfl, Nat.le_of_ble_eq_true rfl⟩) (wPreV hK hP (hD.weaken (fun _ _ _ _ => trivial)) (va_recv hK hP (ci := 5) (q0 := 0) rfl rfl)) rfl rfl hl.1 rfl (lv_room (Nat.le_of_ble_eq_true rfl)) dX7_load_56 ⟨Nat.le_of_ble_eq_true rfl, Nat.le_of_ble_eq_true rfl⟩) hS (fun q _ h => hFc q h) hFc (fun r u t H locs ht hvm hw hB _ _ hS => ?_)
            obtain ⟨hP, -, hD⟩ := hB
            rw [ht] at hP
            replace hD := hD.weaken (fun _ q _ h => hFc q.1 h)
            rw [hw.2] at hP hD
            rw [hw.1]
            clear hw hFc
            have hP : va_P Dg vwCl (cX x0 b z (-2) (σ.1 2 0) (σ.1 2 1) (σ.1 2 2) (σ.1 2 3) (σ.1 2 4) (rfO (-2) (σ.1 1)) (g 0) (g 1) (g 2) (g 3) (g 4) ++ va_pl L f) H := hP
            have hD : va_D A (cX x0 b z (-2) (σ.1 2 0) (σ.1 2 1) (σ.1 2 2) (σ.1 2 3) (σ.1 2 4) (rfO (-2) (σ.1 1)) (g 0) (g 1) (g 2) (g 3) (g 4) ++ va_pl L f) := hD
            have hw : wh_load σ p1 p2 p3 = (-2) := by exact wl_no c_1 c_3 c_11
            have hn : ¬ wh_load σ p1 p2 p3 = 0 := by rw [hw]; decide
            exact W.iret (v := (-2)) hx hb hr (fun t ht hW => ⟨⟨_, (cX x0 b z (-2) (σ.1 2 0) (σ.1 2 1) (σ.1 2 2) (σ.1 2 3) (σ.1 2 4) (rfO (-2) (σ.1 1)) (g 0) (g 1) (g 2) (g 3) (g 4) ++ va_pl L f), rfl, ⟨by rw [an_load, if_neg hn, hw]; try rfl, L, f, ad, g, by rw [nw_load, if_neg hn, hw]; rfl, by rw [nw_load, if_neg hn]; exact CI_rf hC _⟩, by rw [ht]; exact hP, va_K.moved hW.alike hK, hD⟩, hS.F ht⟩) hS.2.2 dX7_load_59
    · replace c_3 := bI_eq c_3
      replace c_3 := mt (kind_eq).mpr c_3
      refine lv_aload_n hx hb dX7_load_19 rfl (lv_at hl 1 rfl) ?_
      refine lv_bipush (v := (-2)) hx hb dX7_load_20 (by decide) ?_
      have hFc := wFree hD hS hA
      refine va_calli (va_runV (As := [.int (-2)]) (rest := []) ⟨hx, hb, hml, hown, hts⟩ (met_X7_refuse l Dg x0 s.heap.size b z (σ.1 0 0) (σ.1 2 0) (σ.1 2 1) (σ.1 2 2) (σ.1 2 3) (σ.1 2 4) (σ.1 1) (g 0) (g 1) (g 2) (g 3) (g 4) L f (-2) (by decide) (by unfold vp_in; decide)) (cwV 1 hts gX7_load_X7_refuse rfl rfl rfl (by decide +kernel) ⟨Nat.le_of_ble_eq_true rfl, Nat.le_of_ble_eq_true rfl⟩) (wPreV hK hP (hD.weaken (fun _ _ _ _ => trivial)) (va_recv hK hP (ci := 5) (q0 := 0) rfl rfl)) rfl rfl hl.1 rfl (lv_room (Nat.le_of_ble_eq_true rfl)) dX7_load_22 ⟨Nat.le_of_ble_eq_true rfl, Nat.le_of_ble_eq_true rfl⟩) hS (fun q _ h => hFc q h) hFc (fun r u t H locs ht hvm hw hB _ _ hS => ?_)
      obtain ⟨hP, -, hD⟩ := hB
      rw [ht] at hP
      replace hD := hD.weaken (fun _ q _ h => hFc q.1 h)
      rw [hw.2] at hP hD
      rw [hw.1]
      clear hw hFc
      have hP : va_P Dg vwCl (cX x0 b z (-2) (σ.1 2 0) (σ.1 2 1) (σ.1 2 2) (σ.1 2 3) (σ.1 2 4) (rfO (-2) (σ.1 1)) (g 0) (g 1) (g 2) (g 3) (g 4) ++ va_pl L f) H := hP
      have hD : va_D A (cX x0 b z (-2) (σ.1 2 0) (σ.1 2 1) (σ.1 2 2) (σ.1 2 3) (σ.1 2 4) (rfO (-2) (σ.1 1)) (g 0) (g 1) (g 2) (g 3) (g 4) ++ va_pl L f) := hD
      have hw : wh_load σ p1 p2 p3 = (-2) := by simp only [wh_load, if_pos c_1, if_neg c_3]
      have hn : ¬ wh_load σ p1 p2 p3 = 0 := by rw [hw]; decide
      exact W.iret (v := (-2)) hx hb hr (fun t ht hW => ⟨⟨_, (cX x0 b z (-2) (σ.1 2 0) (σ.1 2 1) (σ.1 2 2) (σ.1 2 3) (σ.1 2 4) (rfO (-2) (σ.1 1)) (g 0) (g 1) (g 2) (g 3) (g 4) ++ va_pl L f), rfl, ⟨by rw [an_load, if_neg hn, hw]; try rfl, L, f, ad, g, by rw [nw_load, if_neg hn, hw]; rfl, by rw [nw_load, if_neg hn]; exact CI_rf hC _⟩, by rw [ht]; exact hP, va_K.moved hW.alike hK, hD⟩, hS.F ht⟩) hS.2.2 dX7_load_25
  · refine va_csq ((va_runV (As := [.int p1]) (rest := []) ⟨hx, hb, hml, hown, hts⟩ (met_X7_registerAt l Dg x0 b z (σ.1 0 0) (σ.1 2 0) (σ.1 2 1) (σ.1 2 2) (σ.1 2 3) (σ.1 2 4) (σ.1 1) (g 0) (g 1) (g 2) (g 3) (g 4) L f p1 hV.1.2.1) (cwV 1 hts gX7_load_X7_registerAt rfl rfl rfl (by decide +kernel) ⟨Nat.le_of_ble_eq_true rfl, Nat.le_of_ble_eq_true rfl⟩) (rPreV hK hP (va_recv hK hP (ci := 5) (q0 := 0) rfl rfl)) rfl rfl hl.1 rfl (lv_room (Nat.le_of_ble_eq_true rfl)) dX7_load_2 ⟨Nat.le_of_ble_eq_true rfl, Nat.le_of_ble_eq_true rfl⟩).run) (fun r hw => ?_)
    obtain rfl : r = none := hw.trans (if_neg c_1)
    refine W.eq (g2 := F0 m 5 ls [.null]) rfl ?_
    refine lv_astoreN (lv' := [(5, .null), (0, .ref x0), (1, .int p1), (2, .int p2), (3, .long p3)]) hx hb dX7_load_5 hl (by decide) rfl (fun ls hl => ?_)
    refine lv_aloadN hx hb dX7_load_7 (lv_at hl 0 rfl) ?_
    refine lv_ifnullN (tgt := 19) hx hb dX7_load_9 (by decide) ?_
    refine lv_aload_n hx hb dX7_load_19 rfl (lv_at hl 1 rfl) ?_
    refine lv_bipush (v := (-2)) hx hb dX7_load_20 (by decide) ?_
    have hFc := wFree hD hS hA
    refine va_calli (va_runV (As := [.int (-2)]) (rest := []) ⟨hx, hb, hml, hown, hts⟩ (met_X7_refuse l Dg x0 s.heap.size b z (σ.1 0 0) (σ.1 2 0) (σ.1 2 1) (σ.1 2 2) (σ.1 2 3) (σ.1 2 4) (σ.1 1) (g 0) (g 1) (g 2) (g 3) (g 4) L f (-2) (by decide) (by unfold vp_in; decide)) (cwV 1 hts gX7_load_X7_refuse rfl rfl rfl (by decide +kernel) ⟨Nat.le_of_ble_eq_true rfl, Nat.le_of_ble_eq_true rfl⟩) (wPreV hK hP (hD.weaken (fun _ _ _ _ => trivial)) (va_recv hK hP (ci := 5) (q0 := 0) rfl rfl)) rfl rfl hl.1 rfl (lv_room (Nat.le_of_ble_eq_true rfl)) dX7_load_22 ⟨Nat.le_of_ble_eq_true rfl, Nat.le_of_ble_eq_true rfl⟩) hS (fun q _ h => hFc q h) hFc (fun r u t H locs ht hvm hw hB _ _ hS => ?_)
    obtain ⟨hP, -, hD⟩ := hB
    rw [ht] at hP
    replace hD := hD.weaken (fun _ q _ h => hFc q.1 h)
    rw [hw.2] at hP hD
    rw [hw.1]
    clear hw hFc
    have hP : va_P Dg vwCl (cX x0 b z (-2) (σ.1 2 0) (σ.1 2 1) (σ.1 2 2) (σ.1 2 3) (σ.1 2 4) (rfO (-2) (σ.1 1)) (g 0) (g 1) (g 2) (g 3) (g 4) ++ va_pl L f) H := hP
    have hD : va_D A (cX x0 b z (-2) (σ.1 2 0) (σ.1 2 1) (σ.1 2 2) (σ.1 2 3) (σ.1 2 4) (rfO (-2) (σ.1 1)) (g 0) (g 1) (g 2) (g 3) (g 4) ++ va_pl L f) := hD
    have hw : wh_load σ p1 p2 p3 = (-2) := by simp only [wh_load, if_neg c_1]
    have hn : ¬ wh_load σ p1 p2 p3 = 0 := by rw [hw]; decide
    exact W.iret (v := (-2)) hx hb hr (fun t ht hW => ⟨⟨_, (cX x0 b z (-2) (σ.1 2 0) (σ.1 2 1) (σ.1 2 2) (σ.1 2 3) (σ.1 2 4) (rfO (-2) (σ.1 1)) (g 0) (g 1) (g 2) (g 3) (g 4) ++ va_pl L f), rfl, ⟨by rw [an_load, if_neg hn, hw]; try rfl, L, f, ad, g, by rw [nw_load, if_neg hn, hw]; rfl, by rw [nw_load, if_neg hn]; exact CI_rf hC _⟩, by rw [ht]; exact hP, va_K.moved hW.alike hK, hD⟩, hS.F ht⟩) hS.2.2 dX7_load_25

theorem in_X3_X7_read : ∀ w ∈ wsX30, w ∈ wsX7_read := fun w h => List.mem_cons_of_mem _ (List.mem_append_left _ (List.mem_append_right _ h))
theorem in_X7_X7_read : ∀ w ∈ wsX70, w ∈ wsX7_read := fun w h => List.mem_cons_of_mem _ (List.mem_append_right _ h)
set_option maxHeartbeats 4000000 in
set_option maxRecDepth 100000 in
theorem met_X7_read (l : Launch) (Dg : va_G) (x0 sz : Nat) (b : Nat → Nat) (z : Nat → ClassId) (σ : St) (L : List Nat) (f : Nat → va_E) (ad : Nat → Nat → Nat) (g : Nat → Nat → Option Nat) (p1 : Int32) (p2 : Int32) (hV : vOK σ) (hC : CI z σ L f ad g)  : Met l yX7_read wsX7_read ({ frames := 6, cells := 0, slots := 0, locals := 141 }) (va_Pc [.ref x0, .int p1, .int p2] (wB Dg (cT z) (cX x0 b z (σ.1 0 0) (σ.1 2 0) (σ.1 2 1) (σ.1 2 2) (σ.1 2 3) (σ.1 2 4) (σ.1 1) (g 0) (g 1) (g 2) (g 3) (g 4) ++ va_pl L f) sz)) (va_Ql (fun (r : Int64) (u : va_W) => r = an_read σ p1 p2 ∧ CX x0 b z (nw_read σ p1 p2) u) (wE Dg (cT z) (va_A (cX x0 b z (σ.1 0 0) (σ.1 2 0) (σ.1 2 1) (σ.1 2 2) (σ.1 2 3) (σ.1 2 4) (σ.1 1) (g 0) (g 1) (g 2) (g 3) (g 4) ++ va_pl L f) sz)) (va_A (cX x0 b z (σ.1 0 0) (σ.1 2 0) (σ.1 2 1) (σ.1 2 2) (σ.1 2 3) (σ.1 2 4) (σ.1 1) (g 0) (g 1) (g 2) (g 3) (g 4) ++ va_pl L f) sz)) 0 0 (va_A (cX x0 b z (σ.1 0 0) (σ.1 2 0) (σ.1 2 1) (σ.1 2 2) (σ.1 2 3) (σ.1 2 4) (σ.1 1) (g 0) (g 1) (g 2) (g 3) (g 4) ++ va_pl L f) sz) := by
  refine Met.ofW (cc := cX7_read) (maxL := 4) (ret := (some .long)) (by decide) rfl ?_
  intro p e s m args below meth c s₁ B hml hv
  obtain ⟨rfl, hsz, hP, hK, hD0⟩ := hv
  have hx := B.exec
  have hb := B.bytes
  have hr := B.returns
  have hts := atoms_spec (ws := wsX7_read) B.pre
  have hown : s.vm.findClass RX7 = some m.cls := findClass_of_methodNamed B.named
  have hlocks := B.notSynchronized
  subst hsz
  have hD := hD0.self (sz := s.heap.size)
  generalize hAe : va_A (cX x0 b z (σ.1 0 0) (σ.1 2 0) (σ.1 2 1) (σ.1 2 2) (σ.1 2 3) (σ.1 2 4) (σ.1 1) (g 0) (g 1) (g 2) (g 3) (g 4) ++ va_pl L f) s.heap.size = A at hD ⊢
  have hA : ∀ q : Nat, s.heap.size ≤ q → A q := fun q h => by rw [← hAe]; exact Or.inr h
  have hS : va_S A s.heap s.heap [] := va_S.rf
  have hP : va_P Dg vwCl (cX x0 b z (σ.1 0 0) (σ.1 2 0) (σ.1 2 1) (σ.1 2 2) (σ.1 2 3) (σ.1 2 4) (σ.1 1) (g 0) (g 1) (g 2) (g 3) (g 4) ++ va_pl L f) s.heap := hP
  have hl := lv_entry ([.ref x0, .int p1, .int p2]) (n := 4) (Nat.le_of_ble_eq_true rfl)
  rw [lg_entry_eq]
  generalize (lg_sl ([.ref x0, .int p1, .int p2]) ++ List.replicate (4 - (lg_sl ([.ref x0, .int p1, .int p2])).length) Slot.unset).toArray = ls at hl ⊢
  have hl : lv_has ls 4 [(0, .ref x0), (1, .int p1), (2, .int p2)] := hl
  refine lv_aload_n hx hb dX7_read_0 rfl (lv_at hl 0 rfl) ?_
  refine lv_iload_n hx hb dX7_read_1 rfl (lv_at hl 1 rfl) ?_
  rcases Decidable.em (fX8_isIn p1 0 ((σ.1 2 1) - 1) = true) with c_1 | c_1
  · refine va_csq ((va_runV (As := [.int p1]) (rest := []) ⟨hx, hb, hml, hown, hts⟩ (met_X7_registerAt l Dg x0 b z (σ.1 0 0) (σ.1 2 0) (σ.1 2 1) (σ.1 2 2) (σ.1 2 3) (σ.1 2 4) (σ.1 1) (g 0) (g 1) (g 2) (g 3) (g 4) L f p1 hV.1.2.1) (cwV 1 hts gX7_read_X7_registerAt rfl rfl rfl (by decide +kernel) ⟨Nat.le_of_ble_eq_true rfl, Nat.le_of_ble_eq_true rfl⟩) (rPreV hK hP (va_recv hK hP (ci := 5) (q0 := 0) rfl rfl)) rfl rfl hl.1 rfl (lv_room (Nat.le_of_ble_eq_true rfl)) dX7_read_2 ⟨Nat.le_of_ble_eq_true rfl, Nat.le_of_ble_eq_true rfl⟩).run) (fun r hw => ?_)
    obtain rfl : r = some (ad 1 (ix p1)) := hw.trans ((if_pos c_1).trans (hC.2.2.1 _ (inC_lt hV.1.2.1 c_1)))
    refine W.eq (g2 := F0 m 5 ls [.ref (ad 1 (ix p1))]) rfl ?_
    have lt_2 := inC_lt hV.1.2.1 c_1
    have o_2 := hC.1.1 1 _ (by decide) lt_2
    have f_2 : f (ad 1 (ix p1)) = .inr (1, [.int (σ.1 4 (ix p1)), .long (σ.2 2 (ix p1))]) := o_2.2
    refine lv_astore_n (lv' := [(3, .ref (ad 1 (ix p1))), (0, .ref x0), (1, .int p1), (2, .int p2)]) hx hb dX7_read_5 rfl hl (by decide) rfl (fun ls hl => ?_)
    refine lv_aload_n hx hb dX7_read_6 rfl (lv_at hl 0 rfl) ?_
    refine lv_ifnull hx hb dX7_read_7 ?_
    refine lv_iload_n hx hb dX7_read_10 rfl (lv_at hl 3 rfl) ?_
    refine vp_callSi ((va_runS (As := [.int p2]) (rest := []) ⟨hx, hb, hml, hown, hts⟩ (met_X0_isKind l p2) (va_cwS 1 hts gX7_read_X0_isKind rfl rfl rfl (by decide +kernel) ⟨Nat.le_of_ble_eq_true rfl, Nat.le_of_ble_eq_true rfl⟩) ⟨fun _ _ _ _ q => q, fun U hU hW => ⟨rfl, trivial⟩⟩ rfl rfl hl.1 rfl (lv_room (Nat.le_of_ble_eq_true rfl)) dX7_read_11 ⟨Nat.le_of_ble_eq_true rfl, Nat.le_of_ble_eq_true rfl⟩).run) (fun r hw => ?_)
    subst hw
    refine lv_if_ne (tgt := 25) hx hb dX7_read_14 (by decide) (fun c_3 => ?_) (fun c_3 => ?_)
    · replace c_3 := bI_ne c_3
      replace c_3 := (kind_eq).mp c_3
      have R1 := rg_ok hV c_1
      refine lv_aload_n hx hb dX7_read_25 rfl (lv_at hl 1 rfl) ?_
      refine lv_aload_n hx hb dX7_read_26 rfl (lv_at hl 0 rfl) ?_
      refine vg_get (D := Dg) (ci := 1) (v := .int (σ.1 4 (ix p1))) (C := RX3) (T := TX3) (N := 2) hx hb hts in_X3_X7_read hown hK hP o_2.1 f_2 rfl 0 (by decide) (hts (.fieldLink RX7 139 "OrreryWorks$Register" "kind" "I") (by decide +kernel)) (fun _ h9 => h9) rfl dX7_read_27 ?_
      refine lv_aload_n hx hb dX7_read_30 rfl (lv_at hl 0 rfl) ?_
      refine vg_get (D := Dg) (ci := 1) (v := .long (σ.2 2 (ix p1))) (C := RX3) (T := TX3) (N := 2) hx hb hts in_X3_X7_read hown hK hP o_2.1 f_2 rfl 1 (by decide) (hts (.fieldLink RX7 140 "OrreryWorks$Register" "bits" "J") (by decide +kernel)) (fun _ h9 => h9) rfl dX7_read_31 ?_
      refine lv_iload_n hx hb dX7_read_34 rfl (lv_at hl 3 rfl) ?_
      refine vp_callSl ((va_runS (As := [.int (σ.1 4 (ix p1)), .long (σ.2 2 (ix p1)), .int p2]) (rest := [.ref x0]) ⟨hx, hb, hml, hown, hts⟩ (met_X0_cast l (σ.1 4 (ix p1)) (σ.2 2 (ix p1)) p2 (okB_c R1.1 R1.2)) (va_cwS 3 hts gX7_read_X0_cast rfl rfl rfl (by decide +kernel) ⟨Nat.le_of_ble_eq_true rfl, Nat.le_of_ble_eq_true rfl⟩) ⟨fun _ _ _ _ q => q, fun U hU hW => ⟨rfl, trivial⟩⟩ rfl rfl hl.1 rfl (lv_room (Nat.le_of_ble_eq_true rfl)) dX7_read_35 ⟨Nat.le_of_ble_eq_true rfl, Nat.le_of_ble_eq_true rfl⟩).run) (fun r_1 h_1 => ?_)
      subst h_1
      have hFc := wFree hD hS hA
      refine va_calll (va_runV (As := [.long (cst (σ.1 4 (ix p1)) (σ.2 2 (ix p1)) p2)]) (rest := []) ⟨hx, hb, hml, hown, hts⟩ (met_X7_answerLong l Dg x0 s.heap.size b z (σ.1 0 0) (σ.1 2 0) (σ.1 2 1) (σ.1 2 2) (σ.1 2 3) (σ.1 2 4) (σ.1 1) (g 0) (g 1) (g 2) (g 3) (g 4) L f (cst (σ.1 4 (ix p1)) (σ.2 2 (ix p1)) p2) ) (cwV 1 hts gX7_read_X7_answerLong rfl rfl rfl (by decide +kernel) ⟨Nat.le_of_ble_eq_true rfl, Nat.le_of_ble_eq_true rfl⟩) (wPreV hK hP (hD.weaken (fun _ _ _ _ => trivial)) (va_recv hK hP (ci := 5) (q0 := 0) rfl rfl)) rfl rfl hl.1 rfl (lv_room (Nat.le_of_ble_eq_true rfl)) dX7_read_38 ⟨Nat.le_of_ble_eq_true rfl, Nat.le_of_ble_eq_true rfl⟩) hS (fun q _ h => hFc q h) hFc (fun r u t H locs ht hvm hw hB _ _ hS => ?_)
      obtain ⟨hP, -, hD⟩ := hB
      rw [ht] at hP
      replace hD := hD.weaken (fun _ q _ h => hFc q.1 h)
      rw [hw.2] at hP hD
      rw [hw.1]
      clear hw hFc
      have hP : va_P Dg vwCl (cX x0 b z 0 (σ.1 2 0) (σ.1 2 1) (σ.1 2 2) (σ.1 2 3) (σ.1 2 4) (σ.1 1) (g 0) (g 1) (g 2) (g 3) (g 4) ++ va_pl L f) H := hP
      have hD : va_D A (cX x0 b z 0 (σ.1 2 0) (σ.1 2 1) (σ.1 2 2) (σ.1 2 3) (σ.1 2 4) (σ.1 1) (g 0) (g 1) (g 2) (g 3) (g 4) ++ va_pl L f) := hD
      have hw : wh_read σ p1 p2 = 0 := by simp only [wh_read, if_pos c_1, if_pos c_3]
      exact W.lret (v := cst (σ.1 4 (ix p1)) (σ.2 2 (ix p1)) p2) hx hb hr (fun t ht hW => ⟨⟨_, (cX x0 b z 0 (σ.1 2 0) (σ.1 2 1) (σ.1 2 2) (σ.1 2 3) (σ.1 2 4) (σ.1 1) (g 0) (g 1) (g 2) (g 3) (g 4) ++ va_pl L f), rfl, ⟨by rw [an_read, if_pos hw]; try rfl, L, f, ad, g, by rw [nw_read, if_pos hw]; rfl, by rw [nw_read, if_pos hw]; exact CI_ok0 hC⟩, by rw [ht]; exact hP, va_K.moved hW.alike hK, hD⟩, hS.F ht⟩) hS.2.2 dX7_read_41
    · replace c_3 := bI_eq c_3
      replace c_3 := mt (kind_eq).mpr c_3
      refine lv_aload_n hx hb dX7_read_17 rfl (lv_at hl 1 rfl) ?_
      refine lv_bipush (v := (-2)) hx hb dX7_read_18 (by decide) ?_
      have hFc := wFree hD hS hA
      refine va_calli (va_runV (As := [.int (-2)]) (rest := []) ⟨hx, hb, hml, hown, hts⟩ (met_X7_refuseAnyNumber l Dg x0 s.heap.size b z (σ.1 0 0) (σ.1 2 0) (σ.1 2 1) (σ.1 2 2) (σ.1 2 3) (σ.1 2 4) (σ.1 1) (g 0) (g 1) (g 2) (g 3) (g 4) L f (-2) (by decide) (by unfold vp_in; decide)) (cwV 1 hts gX7_read_X7_refuseAnyNumber rfl rfl rfl (by decide +kernel) ⟨Nat.le_of_ble_eq_true rfl, Nat.le_of_ble_eq_true rfl⟩) (wPreV hK hP (hD.weaken (fun _ _ _ _ => trivial)) (va_recv hK hP (ci := 5) (q0 := 0) rfl rfl)) rfl rfl hl.1 rfl (lv_room (Nat.le_of_ble_eq_true rfl)) dX7_read_20 ⟨Nat.le_of_ble_eq_true rfl, Nat.le_of_ble_eq_true rfl⟩) hS (fun q _ h => hFc q h) hFc (fun r u t H locs ht hvm hw hB _ _ hS => ?_)
      obtain ⟨hP, -, hD⟩ := hB
      rw [ht] at hP
      replace hD := hD.weaken (fun _ q _ h => hFc q.1 h)
      rw [hw.2] at hP hD
      rw [hw.1]
      clear hw hFc
      have hP : va_P Dg vwCl (cX x0 b z (-2) (σ.1 2 0) (σ.1 2 1) (σ.1 2 2) (σ.1 2 3) (σ.1 2 4) (rfO (-2) (σ.1 1)) (g 0) (g 1) (g 2) (g 3) (g 4) ++ va_pl L f) H := hP
      have hD : va_D A (cX x0 b z (-2) (σ.1 2 0) (σ.1 2 1) (σ.1 2 2) (σ.1 2 3) (σ.1 2 4) (rfO (-2) (σ.1 1)) (g 0) (g 1) (g 2) (g 3) (g 4) ++ va_pl L f) := hD
      refine lv_i2l hx hb dX7_read_23 rfl ?_
      have hw : wh_read σ p1 p2 = (-2) := by simp only [wh_read, if_pos c_1, if_neg c_3]
      have hn : ¬ wh_read σ p1 p2 = 0 := by rw [hw]; decide
      exact W.lret (v := (0 : Int32).toInt64) hx hb hr (fun t ht hW => ⟨⟨_, (cX x0 b z (-2) (σ.1 2 0) (σ.1 2 1) (σ.1 2 2) (σ.1 2 3) (σ.1 2 4) (rfO (-2) (σ.1 1)) (g 0) (g 1) (g 2) (g 3) (g 4) ++ va_pl L f), rfl, ⟨by rw [an_read, if_neg hn]; try rfl, L, f, ad, g, by rw [nw_read, if_neg hn, hw]; rfl, by rw [nw_read, if_neg hn]; exact CI_rf hC _⟩, by rw [ht]; exact hP, va_K.moved hW.alike hK, hD⟩, hS.F ht⟩) hS.2.2 dX7_read_24
  · refine va_csq ((va_runV (As := [.int p1]) (rest := []) ⟨hx, hb, hml, hown, hts⟩ (met_X7_registerAt l Dg x0 b z (σ.1 0 0) (σ.1 2 0) (σ.1 2 1) (σ.1 2 2) (σ.1 2 3) (σ.1 2 4) (σ.1 1) (g 0) (g 1) (g 2) (g 3) (g 4) L f p1 hV.1.2.1) (cwV 1 hts gX7_read_X7_registerAt rfl rfl rfl (by decide +kernel) ⟨Nat.le_of_ble_eq_true rfl, Nat.le_of_ble_eq_true rfl⟩) (rPreV hK hP (va_recv hK hP (ci := 5) (q0 := 0) rfl rfl)) rfl rfl hl.1 rfl (lv_room (Nat.le_of_ble_eq_true rfl)) dX7_read_2 ⟨Nat.le_of_ble_eq_true rfl, Nat.le_of_ble_eq_true rfl⟩).run) (fun r hw => ?_)
    obtain rfl : r = none := hw.trans (if_neg c_1)
    refine W.eq (g2 := F0 m 5 ls [.null]) rfl ?_
    refine lv_astore_nN (lv' := [(3, .null), (0, .ref x0), (1, .int p1), (2, .int p2)]) hx hb dX7_read_5 rfl hl (by decide) rfl (fun ls hl => ?_)
    refine lv_aload_nN hx hb dX7_read_6 rfl (lv_at hl 0 rfl) ?_
    refine lv_ifnullN (tgt := 17) hx hb dX7_read_7 (by decide) ?_
    refine lv_aload_n hx hb dX7_read_17 rfl (lv_at hl 1 rfl) ?_
    refine lv_bipush (v := (-2)) hx hb dX7_read_18 (by decide) ?_
    have hFc := wFree hD hS hA
    refine va_calli (va_runV (As := [.int (-2)]) (rest := []) ⟨hx, hb, hml, hown, hts⟩ (met_X7_refuseAnyNumber l Dg x0 s.heap.size b z (σ.1 0 0) (σ.1 2 0) (σ.1 2 1) (σ.1 2 2) (σ.1 2 3) (σ.1 2 4) (σ.1 1) (g 0) (g 1) (g 2) (g 3) (g 4) L f (-2) (by decide) (by unfold vp_in; decide)) (cwV 1 hts gX7_read_X7_refuseAnyNumber rfl rfl rfl (by decide +kernel) ⟨Nat.le_of_ble_eq_true rfl, Nat.le_of_ble_eq_true rfl⟩) (wPreV hK hP (hD.weaken (fun _ _ _ _ => trivial)) (va_recv hK hP (ci := 5) (q0 := 0) rfl rfl)) rfl rfl hl.1 rfl (lv_room (Nat.le_of_ble_eq_true rfl)) dX7_read_20 ⟨Nat.le_of_ble_eq_true rfl, Nat.le_of_ble_eq_true rfl⟩) hS (fun q _ h => hFc q h) hFc (fun r u t H locs ht hvm hw hB _ _ hS => ?_)
    obtain ⟨hP, -, hD⟩ := hB
    rw [ht] at hP
    replace hD := hD.weaken (fun _ q _ h => hFc q.1 h)
    rw [hw.2] at hP hD
    rw [hw.1]
    clear hw hFc
    have hP : va_P Dg vwCl (cX x0 b z (-2) (σ.1 2 0) (σ.1 2 1) (σ.1 2 2) (σ.1 2 3) (σ.1 2 4) (rfO (-2) (σ.1 1)) (g 0) (g 1) (g 2) (g 3) (g 4) ++ va_pl L f) H := hP
    have hD : va_D A (cX x0 b z (-2) (σ.1 2 0) (σ.1 2 1) (σ.1 2 2) (σ.1 2 3) (σ.1 2 4) (rfO (-2) (σ.1 1)) (g 0) (g 1) (g 2) (g 3) (g 4) ++ va_pl L f) := hD
    refine lv_i2l hx hb dX7_read_23 rfl ?_
    have hw : wh_read σ p1 p2 = (-2) := by simp only [wh_read, if_neg c_1]
    have hn : ¬ wh_read σ p1 p2 = 0 := by rw [hw]; decide
    exact W.lret (v := (0 : Int32).toInt64) hx hb hr (fun t ht hW => ⟨⟨_, (cX x0 b z (-2) (σ.1 2 0) (σ.1 2 1) (σ.1 2 2) (σ.1 2 3) (σ.1 2 4) (rfO (-2) (σ.1 1)) (g 0) (g 1) (g 2) (g 3) (g 4) ++ va_pl L f), rfl, ⟨by rw [an_read, if_neg hn]; try rfl, L, f, ad, g, by rw [nw_read, if_neg hn, hw]; rfl, by rw [nw_read, if_neg hn]; exact CI_rf hC _⟩, by rw [ht]; exact hP, va_K.moved hW.alike hK, hD⟩, hS.F ht⟩) hS.2.2 dX7_read_24

theorem in_X3_X7_move : ∀ w ∈ wsX30, w ∈ wsX7_move := fun w h => List.mem_cons_of_mem _ (List.mem_append_left _ (List.mem_append_right _ h))
theorem in_X7_X7_move : ∀ w ∈ wsX70, w ∈ wsX7_move := fun w h => List.mem_cons_of_mem _ (List.mem_append_right _ h)
set_option maxHeartbeats 4000000 in
set_option maxRecDepth 100000 in
theorem met_X7_move (l : Launch) (Dg : va_G) (x0 sz : Nat) (b : Nat → Nat) (z : Nat → ClassId) (σ : St) (L : List Nat) (f : Nat → va_E) (ad : Nat → Nat → Nat) (g : Nat → Nat → Option Nat) (p1 : Int32) (p2 : Int32) (hV : vOK σ) (hC : CI z σ L f ad g)  : Met l yX7_move wsX7_move ({ frames := 6, cells := 0, slots := 0, locals := 141 }) (va_Pc [.ref x0, .int p1, .int p2] (wB Dg (cT z) (cX x0 b z (σ.1 0 0) (σ.1 2 0) (σ.1 2 1) (σ.1 2 2) (σ.1 2 3) (σ.1 2 4) (σ.1 1) (g 0) (g 1) (g 2) (g 3) (g 4) ++ va_pl L f) sz)) (va_Qi (fun (r : Int32) (u : va_W) => r = an_move σ p1 p2 ∧ CX x0 b z (nw_move σ p1 p2) u) (wE Dg (cT z) (va_A (cX x0 b z (σ.1 0 0) (σ.1 2 0) (σ.1 2 1) (σ.1 2 2) (σ.1 2 3) (σ.1 2 4) (σ.1 1) (g 0) (g 1) (g 2) (g 3) (g 4) ++ va_pl L f) sz)) (va_A (cX x0 b z (σ.1 0 0) (σ.1 2 0) (σ.1 2 1) (σ.1 2 2) (σ.1 2 3) (σ.1 2 4) (σ.1 1) (g 0) (g 1) (g 2) (g 3) (g 4) ++ va_pl L f) sz)) 0 0 (va_A (cX x0 b z (σ.1 0 0) (σ.1 2 0) (σ.1 2 1) (σ.1 2 2) (σ.1 2 3) (σ.1 2 4) (σ.1 1) (g 0) (g 1) (g 2) (g 3) (g 4) ++ va_pl L f) sz) := by
  refine Met.ofW (cc := cX7_move) (maxL := 8) (ret := (some .int)) (by decide) rfl ?_
  intro p e s m args below meth c s₁ B hml hv
  obtain ⟨rfl, hsz, hP, hK, hD0⟩ := hv
  have hx := B.exec
  have hb := B.bytes
  have hr := B.returns
  have hts := atoms_spec (ws := wsX7_move) B.pre
  have hown : s.vm.findClass RX7 = some m.cls := findClass_of_methodNamed B.named
  have hlocks := B.notSynchronized
  subst hsz
  have hD := hD0.self (sz := s.heap.size)
  generalize hAe : va_A (cX x0 b z (σ.1 0 0) (σ.1 2 0) (σ.1 2 1) (σ.1 2 2) (σ.1 2 3) (σ.1 2 4) (σ.1 1) (g 0) (g 1) (g 2) (g 3) (g 4) ++ va_pl L f) s.heap.size = A at hD ⊢
  have hA : ∀ q : Nat, s.heap.size ≤ q → A q := fun q h => by rw [← hAe]; exact Or.inr h
  have hS : va_S A s.heap s.heap [] := va_S.rf
  have hP : va_P Dg vwCl (cX x0 b z (σ.1 0 0) (σ.1 2 0) (σ.1 2 1) (σ.1 2 2) (σ.1 2 3) (σ.1 2 4) (σ.1 1) (g 0) (g 1) (g 2) (g 3) (g 4) ++ va_pl L f) s.heap := hP
  have hl := lv_entry ([.ref x0, .int p1, .int p2]) (n := 8) (Nat.le_of_ble_eq_true rfl)
  rw [lg_entry_eq]
  generalize (lg_sl ([.ref x0, .int p1, .int p2]) ++ List.replicate (8 - (lg_sl ([.ref x0, .int p1, .int p2])).length) Slot.unset).toArray = ls at hl ⊢
  have hl : lv_has ls 8 [(0, .ref x0), (1, .int p1), (2, .int p2)] := hl
  refine lv_aload_n hx hb dX7_move_0 rfl (lv_at hl 0 rfl) ?_
  refine lv_iload_n hx hb dX7_move_1 rfl (lv_at hl 1 rfl) ?_
  rcases Decidable.em (fX8_isIn p1 0 ((σ.1 2 1) - 1) = true) with c_1 | c_1
  · refine va_csq ((va_runV (As := [.int p1]) (rest := []) ⟨hx, hb, hml, hown, hts⟩ (met_X7_registerAt l Dg x0 b z (σ.1 0 0) (σ.1 2 0) (σ.1 2 1) (σ.1 2 2) (σ.1 2 3) (σ.1 2 4) (σ.1 1) (g 0) (g 1) (g 2) (g 3) (g 4) L f p1 hV.1.2.1) (cwV 1 hts gX7_move_X7_registerAt rfl rfl rfl (by decide +kernel) ⟨Nat.le_of_ble_eq_true rfl, Nat.le_of_ble_eq_true rfl⟩) (rPreV hK hP (va_recv hK hP (ci := 5) (q0 := 0) rfl rfl)) rfl rfl hl.1 rfl (lv_room (Nat.le_of_ble_eq_true rfl)) dX7_move_2 ⟨Nat.le_of_ble_eq_true rfl, Nat.le_of_ble_eq_true rfl⟩).run) (fun r hw => ?_)
    obtain rfl : r = some (ad 1 (ix p1)) := hw.trans ((if_pos c_1).trans (hC.2.2.1 _ (inC_lt hV.1.2.1 c_1)))
    refine W.eq (g2 := F0 m 5 ls [.ref (ad 1 (ix p1))]) rfl ?_
    have lt_2 := inC_lt hV.1.2.1 c_1
    have o_2 := hC.1.1 1 _ (by decide) lt_2
    have f_2 : f (ad 1 (ix p1)) = .inr (1, [.int (σ.1 4 (ix p1)), .long (σ.2 2 (ix p1))]) := o_2.2
    refine lv_astore_n (lv' := [(3, .ref (ad 1 (ix p1))), (0, .ref x0), (1, .int p1), (2, .int p2)]) hx hb dX7_move_5 rfl hl (by decide) rfl (fun ls hl => ?_)
    refine lv_aload_n hx hb dX7_move_6 rfl (lv_at hl 1 rfl) ?_
    refine lv_iload_n hx hb dX7_move_7 rfl (lv_at hl 3 rfl) ?_
    rcases Decidable.em (fX8_isIn p2 0 ((σ.1 2 1) - 1) = true) with c_3 | c_3
    · refine va_csq ((va_runV (As := [.int p2]) (rest := []) ⟨hx, hb, hml, hown, hts⟩ (met_X7_registerAt l Dg x0 b z (σ.1 0 0) (σ.1 2 0) (σ.1 2 1) (σ.1 2 2) (σ.1 2 3) (σ.1 2 4) (σ.1 1) (g 0) (g 1) (g 2) (g 3) (g 4) L f p2 hV.1.2.1) (cwV 1 hts gX7_move_X7_registerAt rfl rfl rfl (by decide +kernel) ⟨Nat.le_of_ble_eq_true rfl, Nat.le_of_ble_eq_true rfl⟩) (rPreV hK hP (va_recv hK hP (ci := 5) (q0 := 0) rfl rfl)) rfl rfl hl.1 rfl (lv_room (Nat.le_of_ble_eq_true rfl)) dX7_move_8 ⟨Nat.le_of_ble_eq_true rfl, Nat.le_of_ble_eq_true rfl⟩).run) (fun r hw => ?_)
      obtain rfl : r = some (ad 1 (ix p2)) := hw.trans ((if_pos c_3).trans (hC.2.2.1 _ (inC_lt hV.1.2.1 c_3)))
      refine W.eq (g2 := F0 m 11 ls [.ref (ad 1 (ix p2))]) rfl ?_
      have lt_4 := inC_lt hV.1.2.1 c_3
      have o_4 := hC.1.1 1 _ (by decide) lt_4
      have f_4 : f (ad 1 (ix p2)) = .inr (1, [.int (σ.1 4 (ix p2)), .long (σ.2 2 (ix p2))]) := o_4.2
      refine lv_astore (lv' := [(4, .ref (ad 1 (ix p2))), (3, .ref (ad 1 (ix p1))), (0, .ref x0), (1, .int p1), (2, .int p2)]) hx hb dX7_move_11 hl (by decide) rfl (fun ls hl => ?_)
      refine lv_aload_n hx hb dX7_move_13 rfl (lv_at hl 1 rfl) ?_
      refine lv_ifnull hx hb dX7_move_14 ?_
      refine lv_aload hx hb dX7_move_17 (lv_at hl 0 rfl) ?_
      refine lv_ifnonnull (tgt := 29) hx hb dX7_move_19 (by decide) ?_
      have R1 := rg_ok hV c_1
      have R2 := rg_ok hV c_3
      refine lv_aload_n hx hb dX7_move_29 rfl (lv_at hl 1 rfl) ?_
      refine vg_get (D := Dg) (ci := 1) (v := .int (σ.1 4 (ix p1))) (C := RX3) (T := TX3) (N := 2) hx hb hts in_X3_X7_move hown hK hP o_2.1 f_2 rfl 0 (by decide) (hts (.fieldLink RX7 139 "OrreryWorks$Register" "kind" "I") (by decide +kernel)) (fun _ h9 => h9) rfl dX7_move_30 ?_
      refine lv_aload_n hx hb dX7_move_33 rfl (lv_at hl 1 rfl) ?_
      refine vg_get (D := Dg) (ci := 1) (v := .long (σ.2 2 (ix p1))) (C := RX3) (T := TX3) (N := 2) hx hb hts in_X3_X7_move hown hK hP o_2.1 f_2 rfl 1 (by decide) (hts (.fieldLink RX7 140 "OrreryWorks$Register" "bits" "J") (by decide +kernel)) (fun _ h9 => h9) rfl dX7_move_34 ?_
      refine lv_aload hx hb dX7_move_37 (lv_at hl 0 rfl) ?_
      refine vg_get (D := Dg) (ci := 1) (v := .int (σ.1 4 (ix p2))) (C := RX3) (T := TX3) (N := 2) hx hb hts in_X3_X7_move hown hK hP o_4.1 f_4 rfl 0 (by decide) (hts (.fieldLink RX7 139 "OrreryWorks$Register" "kind" "I") (by decide +kernel)) (fun _ h9 => h9) rfl dX7_move_39 ?_
      refine vp_callSl ((va_runS (As := [.int (σ.1 4 (ix p1)), .long (σ.2 2 (ix p1)), .int (σ.1 4 (ix p2))]) (rest := []) ⟨hx, hb, hml, hown, hts⟩ (met_X0_cast l (σ.1 4 (ix p1)) (σ.2 2 (ix p1)) (σ.1 4 (ix p2)) (okB_c R1.1 R1.2)) (va_cwS 3 hts gX7_move_X0_cast rfl rfl rfl (by decide +kernel) ⟨Nat.le_of_ble_eq_true rfl, Nat.le_of_ble_eq_true rfl⟩) ⟨fun _ _ _ _ q => q, fun U hU hW => ⟨rfl, trivial⟩⟩ rfl rfl hl.1 rfl (lv_room (Nat.le_of_ble_eq_true rfl)) dX7_move_42 ⟨Nat.le_of_ble_eq_true rfl, Nat.le_of_ble_eq_true rfl⟩).run) (fun r_1 h_1 => ?_)
      subst h_1
      refine lv_lstore (lv' := [(5, .long (cst (σ.1 4 (ix p1)) (σ.2 2 (ix p1)) (σ.1 4 (ix p2)))), (4, .ref (ad 1 (ix p2))), (3, .ref (ad 1 (ix p1))), (0, .ref x0), (1, .int p1), (2, .int p2)]) hx hb dX7_move_45 hl (by decide) rfl (fun ls hl => ?_)
      refine lv_aload hx hb dX7_move_47 (lv_at hl 1 rfl) ?_
      refine vg_get (D := Dg) (ci := 1) (v := .int (σ.1 4 (ix p2))) (C := RX3) (T := TX3) (N := 2) hx hb hts in_X3_X7_move hown hK hP o_4.1 f_4 rfl 0 (by decide) (hts (.fieldLink RX7 139 "OrreryWorks$Register" "kind" "I") (by decide +kernel)) (fun _ h9 => h9) rfl dX7_move_49 ?_
      refine lv_lload hx hb dX7_move_52 (lv_at hl 0 rfl) ?_
      refine lv_aload_n hx hb dX7_move_54 rfl (lv_at hl 2 rfl) ?_
      refine vg_get (D := Dg) (ci := 1) (v := .int (σ.1 4 (ix p1))) (C := RX3) (T := TX3) (N := 2) hx hb hts in_X3_X7_move hown hK hP o_2.1 f_2 rfl 0 (by decide) (hts (.fieldLink RX7 139 "OrreryWorks$Register" "kind" "I") (by decide +kernel)) (fun _ h9 => h9) rfl dX7_move_55 ?_
      refine vp_callSl ((va_runS (As := [.int (σ.1 4 (ix p2)), .long (cst (σ.1 4 (ix p1)) (σ.2 2 (ix p1)) (σ.1 4 (ix p2))), .int (σ.1 4 (ix p1))]) (rest := []) ⟨hx, hb, hml, hown, hts⟩ (met_X0_cast l (σ.1 4 (ix p2)) (cst (σ.1 4 (ix p1)) (σ.2 2 (ix p1)) (σ.1 4 (ix p2))) (σ.1 4 (ix p1)) (okB_c R2.1 (cst_okB R1.1 R2.1 R1.2))) (va_cwS 3 hts gX7_move_X0_cast rfl rfl rfl (by decide +kernel) ⟨Nat.le_of_ble_eq_true rfl, Nat.le_of_ble_eq_true rfl⟩) ⟨fun _ _ _ _ q => q, fun U hU hW => ⟨rfl, trivial⟩⟩ rfl rfl hl.1 rfl (lv_room (Nat.le_of_ble_eq_true rfl)) dX7_move_58 ⟨Nat.le_of_ble_eq_true rfl, Nat.le_of_ble_eq_true rfl⟩).run) (fun r_2 h_2 => ?_)
      subst h_2
      refine lv_aload_n hx hb dX7_move_61 rfl (lv_at hl 2 rfl) ?_
      refine vg_get (D := Dg) (ci := 1) (v := .long (σ.2 2 (ix p1))) (C := RX3) (T := TX3) (N := 2) hx hb hts in_X3_X7_move hown hK hP o_2.1 f_2 rfl 1 (by decide) (hts (.fieldLink RX7 140 "OrreryWorks$Register" "bits" "J") (by decide +kernel)) (fun _ h9 => h9) rfl dX7_move_62 ?_
      refine W.lcmp hx hb dX7_move_65 ?_
      refine lv_if_ne (tgt := 73) hx hb dX7_move_66 (by decide) (fun c_5 => ?_) (fun c_5 => ?_)
      · refine lv_iconst (v := 0) hx hb dX7_move_73 (by decide) ?_
        refine lv_istore (lv' := [(7, .int 0), (5, .long (cst (σ.1 4 (ix p1)) (σ.2 2 (ix p1)) (σ.1 4 (ix p2)))), (4, .ref (ad 1 (ix p2))), (3, .ref (ad 1 (ix p1))), (0, .ref x0), (1, .int p1), (2, .int p2)]) hx hb dX7_move_74 hl (by decide) rfl (fun ls hl => ?_)
        refine lv_aload hx hb dX7_move_76 (lv_at hl 2 rfl) ?_
        refine lv_lload hx hb dX7_move_78 (lv_at hl 1 rfl) ?_
        refine vg_put (D := Dg) (ci := 1) (v := .long (cst (σ.1 4 (ix p1)) (σ.2 2 (ix p1)) (σ.1 4 (ix p2)))) (ty := .long) (C := RX3) (T := TX3) (N := 2) hx hb hts in_X3_X7_move tyX3 tyX3_ok nmX3 hown hK hP hD hS o_4.1 f_4 rfl 1 (by decide) (hts (.fieldLink RX7 140 "OrreryWorks$Register" "bits" "J") (by decide +kernel)) (fun _ h9 => h9) rfl (by decide +kernel) rfl rfl (Nat.le_of_ble_eq_true rfl) dX7_move_80 (fun H locs hP hD hS => ?_)
        have hP : va_P Dg vwCl (cX x0 b z (σ.1 0 0) (σ.1 2 0) (σ.1 2 1) (σ.1 2 2) (σ.1 2 3) (σ.1 2 4) (σ.1 1) (g 0) (g 1) (g 2) (g 3) (g 4) ++ va_pl L (va_up f (ad 1 (ix p2)) (.inr (1, [.int (σ.1 4 (ix p2)), .long (cst (σ.1 4 (ix p1)) (σ.2 2 (ix p1)) (σ.1 4 (ix p2)))])))) H := hP
        have hD : va_D A (cX x0 b z (σ.1 0 0) (σ.1 2 0) (σ.1 2 1) (σ.1 2 2) (σ.1 2 3) (σ.1 2 4) (σ.1 1) (g 0) (g 1) (g 2) (g 3) (g 4) ++ va_pl L (va_up f (ad 1 (ix p2)) (.inr (1, [.int (σ.1 4 (ix p2)), .long (cst (σ.1 4 (ix p1)) (σ.2 2 (ix p1)) (σ.1 4 (ix p2)))])))) := hD
        refine lv_aload_n hx hb dX7_move_83 rfl (lv_at hl 4 rfl) ?_
        refine lv_iload hx hb dX7_move_84 (lv_at hl 0 rfl) ?_
        refine lv_if_eq (tgt := 93) hx hb dX7_move_86 (by decide) (fun _ => ?_) (fun h0 => absurd (by decide) h0)
        refine lv_iconst (v := 0) hx hb dX7_move_93 (by decide) ?_
        have hFc := wFree hD hS hA
        refine va_calli (va_runV (As := [.int 0]) (rest := []) ⟨hx, hb, hml, hown, hts⟩ (met_X7_answer l Dg x0 H.size b z (σ.1 0 0) (σ.1 2 0) (σ.1 2 1) (σ.1 2 2) (σ.1 2 3) (σ.1 2 4) (σ.1 1) (g 0) (g 1) (g 2) (g 3) (g 4) L (va_up f (ad 1 (ix p2)) (.inr (1, [.int (σ.1 4 (ix p2)), .long (cst (σ.1 4 (ix p1)) (σ.2 2 (ix p1)) (σ.1 4 (ix p2)))]))) 0 ) (cwV 1 hts gX7_move_X7_answer rfl rfl rfl (by decide +kernel) ⟨Nat.le_of_ble_eq_true rfl, Nat.le_of_ble_eq_true rfl⟩) (wPreV hK hP (hD.weaken (fun _ _ _ _ => trivial)) (va_recv hK hP (ci := 5) (q0 := 0) rfl rfl)) rfl rfl hl.1 rfl (lv_room (Nat.le_of_ble_eq_true rfl)) dX7_move_94 ⟨Nat.le_of_ble_eq_true rfl, Nat.le_of_ble_eq_true rfl⟩) hS (fun q _ h => hFc q h) hFc (fun r u t H locs ht hvm hw hB _ _ hS => ?_)
        obtain ⟨hP, -, hD⟩ := hB
        rw [ht] at hP
        replace hD := hD.weaken (fun _ q _ h => hFc q.1 h)
        rw [hw.2] at hP hD
        rw [hw.1]
        clear hw hFc
        have hP : va_P Dg vwCl (cX x0 b z 0 (σ.1 2 0) (σ.1 2 1) (σ.1 2 2) (σ.1 2 3) (σ.1 2 4) (σ.1 1) (g 0) (g 1) (g 2) (g 3) (g 4) ++ va_pl L (va_up f (ad 1 (ix p2)) (.inr (1, [.int (σ.1 4 (ix p2)), .long (cst (σ.1 4 (ix p1)) (σ.2 2 (ix p1)) (σ.1 4 (ix p2)))])))) H := hP
        have hD : va_D A (cX x0 b z 0 (σ.1 2 0) (σ.1 2 1) (σ.1 2 2) (σ.1 2 3) (σ.1 2 4) (σ.1 1) (g 0) (g 1) (g 2) (g 3) (g 4) ++ va_pl L (va_up f (ad 1 (ix p2)) (.inr (1, [.int (σ.1 4 (ix p2)), .long (cst (σ.1 4 (ix p1)) (σ.2 2 (ix p1)) (σ.1 4 (ix p2)))])))) := hD
        have hw : wh_move σ p1 p2 = 0 := by simp only [wh_move, if_pos c_1, if_pos c_3]
        exact W.iret (v := 0) hx hb hr (fun t ht hW => ⟨⟨_, (cX x0 b z 0 (σ.1 2 0) (σ.1 2 1) (σ.1 2 2) (σ.1 2 3) (σ.1 2 4) (σ.1 1) (g 0) (g 1) (g 2) (g 3) (g 4) ++ va_pl L (va_up f (ad 1 (ix p2)) (.inr (1, [.int (σ.1 4 (ix p2)), .long (cst (σ.1 4 (ix p1)) (σ.2 2 (ix p1)) (σ.1 4 (ix p2)))])))), rfl, ⟨by rw [an_move, if_pos hw]; rw [mvB, if_neg (fun g => c_5 (lgc_eqq.mpr g))], L, va_up f (ad 1 (ix p2)) (.inr (1, [.int (σ.1 4 (ix p2)), .long (cst (σ.1 4 (ix p1)) (σ.2 2 (ix p1)) (σ.1 4 (ix p2)))])), ad, g, by rw [nw_move, if_pos hw]; rfl, by rw [nw_move, if_pos hw]; exact CI_store hC (inC_lt hV.1.2.1 c_3)⟩, by rw [ht]; exact hP, va_K.moved hW.alike hK, hD⟩, hS.F ht⟩) hS.2.2 dX7_move_97
      · refine lv_iconst (v := 1) hx hb dX7_move_69 (by decide) ?_
        refine lv_goto (tgt := 74) hx hb dX7_move_70 (by decide) ?_
        refine lv_istore (lv' := [(7, .int 1), (5, .long (cst (σ.1 4 (ix p1)) (σ.2 2 (ix p1)) (σ.1 4 (ix p2)))), (4, .ref (ad 1 (ix p2))), (3, .ref (ad 1 (ix p1))), (0, .ref x0), (1, .int p1), (2, .int p2)]) hx hb dX7_move_74 hl (by decide) rfl (fun ls hl => ?_)
        refine lv_aload hx hb dX7_move_76 (lv_at hl 2 rfl) ?_
        refine lv_lload hx hb dX7_move_78 (lv_at hl 1 rfl) ?_
        refine vg_put (D := Dg) (ci := 1) (v := .long (cst (σ.1 4 (ix p1)) (σ.2 2 (ix p1)) (σ.1 4 (ix p2)))) (ty := .long) (C := RX3) (T := TX3) (N := 2) hx hb hts in_X3_X7_move tyX3 tyX3_ok nmX3 hown hK hP hD hS o_4.1 f_4 rfl 1 (by decide) (hts (.fieldLink RX7 140 "OrreryWorks$Register" "bits" "J") (by decide +kernel)) (fun _ h9 => h9) rfl (by decide +kernel) rfl rfl (Nat.le_of_ble_eq_true rfl) dX7_move_80 (fun H locs hP hD hS => ?_)
        have hP : va_P Dg vwCl (cX x0 b z (σ.1 0 0) (σ.1 2 0) (σ.1 2 1) (σ.1 2 2) (σ.1 2 3) (σ.1 2 4) (σ.1 1) (g 0) (g 1) (g 2) (g 3) (g 4) ++ va_pl L (va_up f (ad 1 (ix p2)) (.inr (1, [.int (σ.1 4 (ix p2)), .long (cst (σ.1 4 (ix p1)) (σ.2 2 (ix p1)) (σ.1 4 (ix p2)))])))) H := hP
        have hD : va_D A (cX x0 b z (σ.1 0 0) (σ.1 2 0) (σ.1 2 1) (σ.1 2 2) (σ.1 2 3) (σ.1 2 4) (σ.1 1) (g 0) (g 1) (g 2) (g 3) (g 4) ++ va_pl L (va_up f (ad 1 (ix p2)) (.inr (1, [.int (σ.1 4 (ix p2)), .long (cst (σ.1 4 (ix p1)) (σ.2 2 (ix p1)) (σ.1 4 (ix p2)))])))) := hD
        refine lv_aload_n hx hb dX7_move_83 rfl (lv_at hl 4 rfl) ?_
        refine lv_iload hx hb dX7_move_84 (lv_at hl 0 rfl) ?_
        refine lv_if_eq (tgt := 93) hx hb dX7_move_86 (by decide) (fun h0 => absurd h0 (by decide)) (fun _ => ?_)
        refine lv_iconst (v := 1) hx hb dX7_move_89 (by decide) ?_
        refine lv_goto (tgt := 94) hx hb dX7_move_90 (by decide) ?_
        have hFc := wFree hD hS hA
        refine va_calli (va_runV (As := [.int 1]) (rest := []) ⟨hx, hb, hml, hown, hts⟩ (met_X7_answer l Dg x0 H.size b z (σ.1 0 0) (σ.1 2 0) (σ.1 2 1) (σ.1 2 2) (σ.1 2 3) (σ.1 2 4) (σ.1 1) (g 0) (g 1) (g 2) (g 3) (g 4) L (va_up f (ad 1 (ix p2)) (.inr (1, [.int (σ.1 4 (ix p2)), .long (cst (σ.1 4 (ix p1)) (σ.2 2 (ix p1)) (σ.1 4 (ix p2)))]))) 1 ) (cwV 1 hts gX7_move_X7_answer rfl rfl rfl (by decide +kernel) ⟨Nat.le_of_ble_eq_true rfl, Nat.le_of_ble_eq_true rfl⟩) (wPreV hK hP (hD.weaken (fun _ _ _ _ => trivial)) (va_recv hK hP (ci := 5) (q0 := 0) rfl rfl)) rfl rfl hl.1 rfl (lv_room (Nat.le_of_ble_eq_true rfl)) dX7_move_94 ⟨Nat.le_of_ble_eq_true rfl, Nat.le_of_ble_eq_true rfl⟩) hS (fun q _ h => hFc q h) hFc (fun r u t H locs ht hvm hw hB _ _ hS => ?_)
        obtain ⟨hP, -, hD⟩ := hB
        rw [ht] at hP
        replace hD := hD.weaken (fun _ q _ h => hFc q.1 h)
        rw [hw.2] at hP hD
        rw [hw.1]
        clear hw hFc
        have hP : va_P Dg vwCl (cX x0 b z 0 (σ.1 2 0) (σ.1 2 1) (σ.1 2 2) (σ.1 2 3) (σ.1 2 4) (σ.1 1) (g 0) (g 1) (g 2) (g 3) (g 4) ++ va_pl L (va_up f (ad 1 (ix p2)) (.inr (1, [.int (σ.1 4 (ix p2)), .long (cst (σ.1 4 (ix p1)) (σ.2 2 (ix p1)) (σ.1 4 (ix p2)))])))) H := hP
        have hD : va_D A (cX x0 b z 0 (σ.1 2 0) (σ.1 2 1) (σ.1 2 2) (σ.1 2 3) (σ.1 2 4) (σ.1 1) (g 0) (g 1) (g 2) (g 3) (g 4) ++ va_pl L (va_up f (ad 1 (ix p2)) (.inr (1, [.int (σ.1 4 (ix p2)), .long (cst (σ.1 4 (ix p1)) (σ.2 2 (ix p1)) (σ.1 4 (ix p2)))])))) := hD
        have hw : wh_move σ p1 p2 = 0 := by simp only [wh_move, if_pos c_1, if_pos c_3]
        exact W.iret (v := 1) hx hb hr (fun t ht hW => ⟨⟨_, (cX x0 b z 0 (σ.1 2 0) (σ.1 2 1) (σ.1 2 2) (σ.1 2 3) (σ.1 2 4) (σ.1 1) (g 0) (g 1) (g 2) (g 3) (g 4) ++ va_pl L (va_up f (ad 1 (ix p2)) (.inr (1, [.int (σ.1 4 (ix p2)), .long (cst (σ.1 4 (ix p1)) (σ.2 2 (ix p1)) (σ.1 4 (ix p2)))])))), rfl, ⟨by rw [an_move, if_pos hw]; rw [mvB, if_pos (lgc_eqq.mp c_5)], L, va_up f (ad 1 (ix p2)) (.inr (1, [.int (σ.1 4 (ix p2)), .long (cst (σ.1 4 (ix p1)) (σ.2 2 (ix p1)) (σ.1 4 (ix p2)))])), ad, g, by rw [nw_move, if_pos hw]; rfl, by rw [nw_move, if_pos hw]; exact CI_store hC (inC_lt hV.1.2.1 c_3)⟩, by rw [ht]; exact hP, va_K.moved hW.alike hK, hD⟩, hS.F ht⟩) hS.2.2 dX7_move_97
    · refine va_csq ((va_runV (As := [.int p2]) (rest := []) ⟨hx, hb, hml, hown, hts⟩ (met_X7_registerAt l Dg x0 b z (σ.1 0 0) (σ.1 2 0) (σ.1 2 1) (σ.1 2 2) (σ.1 2 3) (σ.1 2 4) (σ.1 1) (g 0) (g 1) (g 2) (g 3) (g 4) L f p2 hV.1.2.1) (cwV 1 hts gX7_move_X7_registerAt rfl rfl rfl (by decide +kernel) ⟨Nat.le_of_ble_eq_true rfl, Nat.le_of_ble_eq_true rfl⟩) (rPreV hK hP (va_recv hK hP (ci := 5) (q0 := 0) rfl rfl)) rfl rfl hl.1 rfl (lv_room (Nat.le_of_ble_eq_true rfl)) dX7_move_8 ⟨Nat.le_of_ble_eq_true rfl, Nat.le_of_ble_eq_true rfl⟩).run) (fun r hw => ?_)
      obtain rfl : r = none := hw.trans (if_neg c_3)
      refine W.eq (g2 := F0 m 11 ls [.null]) rfl ?_
      refine lv_astoreN (lv' := [(4, .null), (3, .ref (ad 1 (ix p1))), (0, .ref x0), (1, .int p1), (2, .int p2)]) hx hb dX7_move_11 hl (by decide) rfl (fun ls hl => ?_)
      refine lv_aload_n hx hb dX7_move_13 rfl (lv_at hl 1 rfl) ?_
      refine lv_ifnull hx hb dX7_move_14 ?_
      refine lv_aloadN hx hb dX7_move_17 (lv_at hl 0 rfl) ?_
      refine lv_ifnonnullN hx hb dX7_move_19 ?_
      refine lv_aload_n hx hb dX7_move_22 rfl (lv_at hl 2 rfl) ?_
      refine lv_bipush (v := (-2)) hx hb dX7_move_23 (by decide) ?_
      have hFc := wFree hD hS hA
      refine va_calli (va_runV (As := [.int (-2)]) (rest := []) ⟨hx, hb, hml, hown, hts⟩ (met_X7_refuse l Dg x0 s.heap.size b z (σ.1 0 0) (σ.1 2 0) (σ.1 2 1) (σ.1 2 2) (σ.1 2 3) (σ.1 2 4) (σ.1 1) (g 0) (g 1) (g 2) (g 3) (g 4) L f (-2) (by decide) (by unfold vp_in; decide)) (cwV 1 hts gX7_move_X7_refuse rfl rfl rfl (by decide +kernel) ⟨Nat.le_of_ble_eq_true rfl, Nat.le_of_ble_eq_true rfl⟩) (wPreV hK hP (hD.weaken (fun _ _ _ _ => trivial)) (va_recv hK hP (ci := 5) (q0 := 0) rfl rfl)) rfl rfl hl.1 rfl (lv_room (Nat.le_of_ble_eq_true rfl)) dX7_move_25 ⟨Nat.le_of_ble_eq_true rfl, Nat.le_of_ble_eq_true rfl⟩) hS (fun q _ h => hFc q h) hFc (fun r u t H locs ht hvm hw hB _ _ hS => ?_)
      obtain ⟨hP, -, hD⟩ := hB
      rw [ht] at hP
      replace hD := hD.weaken (fun _ q _ h => hFc q.1 h)
      rw [hw.2] at hP hD
      rw [hw.1]
      clear hw hFc
      have hP : va_P Dg vwCl (cX x0 b z (-2) (σ.1 2 0) (σ.1 2 1) (σ.1 2 2) (σ.1 2 3) (σ.1 2 4) (rfO (-2) (σ.1 1)) (g 0) (g 1) (g 2) (g 3) (g 4) ++ va_pl L f) H := hP
      have hD : va_D A (cX x0 b z (-2) (σ.1 2 0) (σ.1 2 1) (σ.1 2 2) (σ.1 2 3) (σ.1 2 4) (rfO (-2) (σ.1 1)) (g 0) (g 1) (g 2) (g 3) (g 4) ++ va_pl L f) := hD
      have hw : wh_move σ p1 p2 = (-2) := by simp only [wh_move, if_pos c_1, if_neg c_3]
      have hn : ¬ wh_move σ p1 p2 = 0 := by rw [hw]; decide
      exact W.iret (v := (-2)) hx hb hr (fun t ht hW => ⟨⟨_, (cX x0 b z (-2) (σ.1 2 0) (σ.1 2 1) (σ.1 2 2) (σ.1 2 3) (σ.1 2 4) (rfO (-2) (σ.1 1)) (g 0) (g 1) (g 2) (g 3) (g 4) ++ va_pl L f), rfl, ⟨by rw [an_move, if_neg hn, hw]; try rfl, L, f, ad, g, by rw [nw_move, if_neg hn, hw]; rfl, by rw [nw_move, if_neg hn]; exact CI_rf hC _⟩, by rw [ht]; exact hP, va_K.moved hW.alike hK, hD⟩, hS.F ht⟩) hS.2.2 dX7_move_28
  · refine va_csq ((va_runV (As := [.int p1]) (rest := []) ⟨hx, hb, hml, hown, hts⟩ (met_X7_registerAt l Dg x0 b z (σ.1 0 0) (σ.1 2 0) (σ.1 2 1) (σ.1 2 2) (σ.1 2 3) (σ.1 2 4) (σ.1 1) (g 0) (g 1) (g 2) (g 3) (g 4) L f p1 hV.1.2.1) (cwV 1 hts gX7_move_X7_registerAt rfl rfl rfl (by decide +kernel) ⟨Nat.le_of_ble_eq_true rfl, Nat.le_of_ble_eq_true rfl⟩) (rPreV hK hP (va_recv hK hP (ci := 5) (q0 := 0) rfl rfl)) rfl rfl hl.1 rfl (lv_room (Nat.le_of_ble_eq_true rfl)) dX7_move_2 ⟨Nat.le_of_ble_eq_true rfl, Nat.le_of_ble_eq_true rfl⟩).run) (fun r hw => ?_)
    obtain rfl : r = none := hw.trans (if_neg c_1)
    refine W.eq (g2 := F0 m 5 ls [.null]) rfl ?_
    refine lv_astore_nN (lv' := [(3, .null), (0, .ref x0), (1, .int p1), (2, .int p2)]) hx hb dX7_move_5 rfl hl (by decide) rfl (fun ls hl => ?_)
    refine lv_aload_n hx hb dX7_move_6 rfl (lv_at hl 1 rfl) ?_
    refine lv_iload_n hx hb dX7_move_7 rfl (lv_at hl 3 rfl) ?_
    rcases Decidable.em (fX8_isIn p2 0 ((σ.1 2 1) - 1) = true) with c_6 | c_6
    · refine va_csq ((va_runV (As := [.int p2]) (rest := []) ⟨hx, hb, hml, hown, hts⟩ (met_X7_registerAt l Dg x0 b z (σ.1 0 0) (σ.1 2 0) (σ.1 2 1) (σ.1 2 2) (σ.1 2 3) (σ.1 2 4) (σ.1 1) (g 0) (g 1) (g 2) (g 3) (g 4) L f p2 hV.1.2.1) (cwV 1 hts gX7_move_X7_registerAt rfl rfl rfl (by decide +kernel) ⟨Nat.le_of_ble_eq_true rfl, Nat.le_of_ble_eq_true rfl⟩) (rPreV hK hP (va_recv hK hP (ci := 5) (q0 := 0) rfl rfl)) rfl rfl hl.1 rfl (lv_room (Nat.le_of_ble_eq_true rfl)) dX7_move_8 ⟨Nat.le_of_ble_eq_true rfl, Nat.le_of_ble_eq_true rfl⟩).run) (fun r hw => ?_)
      obtain rfl : r = some (ad 1 (ix p2)) := hw.trans ((if_pos c_6).trans (hC.2.2.1 _ (inC_lt hV.1.2.1 c_6)))
      refine W.eq (g2 := F0 m 11 ls [.ref (ad 1 (ix p2))]) rfl ?_
      have lt_7 := inC_lt hV.1.2.1 c_6
      have o_7 := hC.1.1 1 _ (by decide) lt_7
      have f_7 : f (ad 1 (ix p2)) = .inr (1, [.int (σ.1 4 (ix p2)), .long (σ.2 2 (ix p2))]) := o_7.2
      refine lv_astore (lv' := [(4, .ref (ad 1 (ix p2))), (3, .null), (0, .ref x0), (1, .int p1), (2, .int p2)]) hx hb dX7_move_11 hl (by decide) rfl (fun ls hl => ?_)
      refine lv_aload_nN hx hb dX7_move_13 rfl (lv_at hl 1 rfl) ?_
      refine lv_ifnullN (tgt := 22) hx hb dX7_move_14 (by decide) ?_
      refine lv_aload_n hx hb dX7_move_22 rfl (lv_at hl 2 rfl) ?_
      refine lv_bipush (v := (-2)) hx hb dX7_move_23 (by decide) ?_
      have hFc := wFree hD hS hA
      refine va_calli (va_runV (As := [.int (-2)]) (rest := []) ⟨hx, hb, hml, hown, hts⟩ (met_X7_refuse l Dg x0 s.heap.size b z (σ.1 0 0) (σ.1 2 0) (σ.1 2 1) (σ.1 2 2) (σ.1 2 3) (σ.1 2 4) (σ.1 1) (g 0) (g 1) (g 2) (g 3) (g 4) L f (-2) (by decide) (by unfold vp_in; decide)) (cwV 1 hts gX7_move_X7_refuse rfl rfl rfl (by decide +kernel) ⟨Nat.le_of_ble_eq_true rfl, Nat.le_of_ble_eq_true rfl⟩) (wPreV hK hP (hD.weaken (fun _ _ _ _ => trivial)) (va_recv hK hP (ci := 5) (q0 := 0) rfl rfl)) rfl rfl hl.1 rfl (lv_room (Nat.le_of_ble_eq_true rfl)) dX7_move_25 ⟨Nat.le_of_ble_eq_true rfl, Nat.le_of_ble_eq_true rfl⟩) hS (fun q _ h => hFc q h) hFc (fun r u t H locs ht hvm hw hB _ _ hS => ?_)
      obtain ⟨hP, -, hD⟩ := hB
      rw [ht] at hP
      replace hD := hD.weaken (fun _ q _ h => hFc q.1 h)
      rw [hw.2] at hP hD
      rw [hw.1]
      clear hw hFc
      have hP : va_P Dg vwCl (cX x0 b z (-2) (σ.1 2 0) (σ.1 2 1) (σ.1 2 2) (σ.1 2 3) (σ.1 2 4) (rfO (-2) (σ.1 1)) (g 0) (g 1) (g 2) (g 3) (g 4) ++ va_pl L f) H := hP
      have hD : va_D A (cX x0 b z (-2) (σ.1 2 0) (σ.1 2 1) (σ.1 2 2) (σ.1 2 3) (σ.1 2 4) (rfO (-2) (σ.1 1)) (g 0) (g 1) (g 2) (g 3) (g 4) ++ va_pl L f) := hD
      have hw : wh_move σ p1 p2 = (-2) := by simp only [wh_move, if_neg c_1, if_pos c_6]
      have hn : ¬ wh_move σ p1 p2 = 0 := by rw [hw]; decide
      exact W.iret (v := (-2)) hx hb hr (fun t ht hW => ⟨⟨_, (cX x0 b z (-2) (σ.1 2 0) (σ.1 2 1) (σ.1 2 2) (σ.1 2 3) (σ.1 2 4) (rfO (-2) (σ.1 1)) (g 0) (g 1) (g 2) (g 3) (g 4) ++ va_pl L f), rfl, ⟨by rw [an_move, if_neg hn, hw]; try rfl, L, f, ad, g, by rw [nw_move, if_neg hn, hw]; rfl, by rw [nw_move, if_neg hn]; exact CI_rf hC _⟩, by rw [ht]; exact hP, va_K.moved hW.alike hK, hD⟩, hS.F ht⟩) hS.2.2 dX7_move_28
    · refine va_csq ((va_runV (As := [.int p2]) (rest := []) ⟨hx, hb, hml, hown, hts⟩ (met_X7_registerAt l Dg x0 b z (σ.1 0 0) (σ.1 2 0) (σ.1 2 1) (σ.1 2 2) (σ.1 2 3) (σ.1 2 4) (σ.1 1) (g 0) (g 1) (g 2) (g 3) (g 4) L f p2 hV.1.2.1) (cwV 1 hts gX7_move_X7_registerAt rfl rfl rfl (by decide +kernel) ⟨Nat.le_of_ble_eq_true rfl, Nat.le_of_ble_eq_true rfl⟩) (rPreV hK hP (va_recv hK hP (ci := 5) (q0 := 0) rfl rfl)) rfl rfl hl.1 rfl (lv_room (Nat.le_of_ble_eq_true rfl)) dX7_move_8 ⟨Nat.le_of_ble_eq_true rfl, Nat.le_of_ble_eq_true rfl⟩).run) (fun r hw => ?_)
      obtain rfl : r = none := hw.trans (if_neg c_6)
      refine W.eq (g2 := F0 m 11 ls [.null]) rfl ?_
      refine lv_astoreN (lv' := [(4, .null), (3, .null), (0, .ref x0), (1, .int p1), (2, .int p2)]) hx hb dX7_move_11 hl (by decide) rfl (fun ls hl => ?_)
      refine lv_aload_nN hx hb dX7_move_13 rfl (lv_at hl 1 rfl) ?_
      refine lv_ifnullN (tgt := 22) hx hb dX7_move_14 (by decide) ?_
      refine lv_aload_n hx hb dX7_move_22 rfl (lv_at hl 2 rfl) ?_
      refine lv_bipush (v := (-2)) hx hb dX7_move_23 (by decide) ?_
      have hFc := wFree hD hS hA
      refine va_calli (va_runV (As := [.int (-2)]) (rest := []) ⟨hx, hb, hml, hown, hts⟩ (met_X7_refuse l Dg x0 s.heap.size b z (σ.1 0 0) (σ.1 2 0) (σ.1 2 1) (σ.1 2 2) (σ.1 2 3) (σ.1 2 4) (σ.1 1) (g 0) (g 1) (g 2) (g 3) (g 4) L f (-2) (by decide) (by unfold vp_in; decide)) (cwV 1 hts gX7_move_X7_refuse rfl rfl rfl (by decide +kernel) ⟨Nat.le_of_ble_eq_true rfl, Nat.le_of_ble_eq_true rfl⟩) (wPreV hK hP (hD.weaken (fun _ _ _ _ => trivial)) (va_recv hK hP (ci := 5) (q0 := 0) rfl rfl)) rfl rfl hl.1 rfl (lv_room (Nat.le_of_ble_eq_true rfl)) dX7_move_25 ⟨Nat.le_of_ble_eq_true rfl, Nat.le_of_ble_eq_true rfl⟩) hS (fun q _ h => hFc q h) hFc (fun r u t H locs ht hvm hw hB _ _ hS => ?_)
      obtain ⟨hP, -, hD⟩ := hB
      rw [ht] at hP
      replace hD := hD.weaken (fun _ q _ h => hFc q.1 h)
      rw [hw.2] at hP hD
      rw [hw.1]
      clear hw hFc
      have hP : va_P Dg vwCl (cX x0 b z (-2) (σ.1 2 0) (σ.1 2 1) (σ.1 2 2) (σ.1 2 3) (σ.1 2 4) (rfO (-2) (σ.1 1)) (g 0) (g 1) (g 2) (g 3) (g 4) ++ va_pl L f) H := hP
      have hD : va_D A (cX x0 b z (-2) (σ.1 2 0) (σ.1 2 1) (σ.1 2 2) (σ.1 2 3) (σ.1 2 4) (rfO (-2) (σ.1 1)) (g 0) (g 1) (g 2) (g 3) (g 4) ++ va_pl L f) := hD
      have hw : wh_move σ p1 p2 = (-2) := by simp only [wh_move, if_neg c_1, if_neg c_6]
      have hn : ¬ wh_move σ p1 p2 = 0 := by rw [hw]; decide
      exact W.iret (v := (-2)) hx hb hr (fun t ht hW => ⟨⟨_, (cX x0 b z (-2) (σ.1 2 0) (σ.1 2 1) (σ.1 2 2) (σ.1 2 3) (σ.1 2 4) (rfO (-2) (σ.1 1)) (g 0) (g 1) (g 2) (g 3) (g 4) ++ va_pl L f), rfl, ⟨by rw [an_move, if_neg hn, hw]; try rfl, L, f, ad, g, by rw [nw_move, if_neg hn, hw]; rfl, by rw [nw_move, if_neg hn]; exact CI_rf hC _⟩, by rw [ht]; exact hP, va_K.moved hW.alike hK, hD⟩, hS.F ht⟩) hS.2.2 dX7_move_28

theorem in_X6_X7_take : ∀ w ∈ wsX60, w ∈ wsX7_take := fun w h => List.mem_cons_of_mem _ (List.mem_append_left _ (List.mem_append_left _ (List.mem_append_right _ h)))
theorem in_X3_X7_take : ∀ w ∈ wsX30, w ∈ wsX7_take := fun w h => List.mem_cons_of_mem _ (List.mem_append_left _ (List.mem_append_right _ h))
theorem in_X7_X7_take : ∀ w ∈ wsX70, w ∈ wsX7_take := fun w h => List.mem_cons_of_mem _ (List.mem_append_right _ h)
set_option maxHeartbeats 4000000 in
set_option maxRecDepth 100000 in
theorem met_X7_take (l : Launch) (Dg : va_G) (x0 sz : Nat) (b : Nat → Nat) (z : Nat → ClassId) (σ : St) (L : List Nat) (f : Nat → va_E) (ad : Nat → Nat → Nat) (g : Nat → Nat → Option Nat) (p1 : Int32) (p2 : Int32) (hV : vOK σ) (hC : CI z σ L f ad g)  : Met l yX7_take wsX7_take ({ frames := 6, cells := 0, slots := 0, locals := 141 }) (va_Pc [.ref x0, .int p1, .int p2] (wB Dg (cT z) (cX x0 b z (σ.1 0 0) (σ.1 2 0) (σ.1 2 1) (σ.1 2 2) (σ.1 2 3) (σ.1 2 4) (σ.1 1) (g 0) (g 1) (g 2) (g 3) (g 4) ++ va_pl L f) sz)) (va_Qi (fun (r : Int32) (u : va_W) => r = an_take σ p1 p2 ∧ CX x0 b z (nw_take σ p1 p2) u) (wE Dg (cT z) (va_A (cX x0 b z (σ.1 0 0) (σ.1 2 0) (σ.1 2 1) (σ.1 2 2) (σ.1 2 3) (σ.1 2 4) (σ.1 1) (g 0) (g 1) (g 2) (g 3) (g 4) ++ va_pl L f) sz)) (va_A (cX x0 b z (σ.1 0 0) (σ.1 2 0) (σ.1 2 1) (σ.1 2 2) (σ.1 2 3) (σ.1 2 4) (σ.1 1) (g 0) (g 1) (g 2) (g 3) (g 4) ++ va_pl L f) sz)) 0 0 (va_A (cX x0 b z (σ.1 0 0) (σ.1 2 0) (σ.1 2 1) (σ.1 2 2) (σ.1 2 3) (σ.1 2 4) (σ.1 1) (g 0) (g 1) (g 2) (g 3) (g 4) ++ va_pl L f) sz) := by
  refine Met.ofW (cc := cX7_take) (maxL := 5) (ret := (some .int)) (by decide) rfl ?_
  intro p e s m args below meth c s₁ B hml hv
  obtain ⟨rfl, hsz, hP, hK, hD0⟩ := hv
  have hx := B.exec
  have hb := B.bytes
  have hr := B.returns
  have hts := atoms_spec (ws := wsX7_take) B.pre
  have hown : s.vm.findClass RX7 = some m.cls := findClass_of_methodNamed B.named
  have hlocks := B.notSynchronized
  subst hsz
  have hD := hD0.self (sz := s.heap.size)
  generalize hAe : va_A (cX x0 b z (σ.1 0 0) (σ.1 2 0) (σ.1 2 1) (σ.1 2 2) (σ.1 2 3) (σ.1 2 4) (σ.1 1) (g 0) (g 1) (g 2) (g 3) (g 4) ++ va_pl L f) s.heap.size = A at hD ⊢
  have hA : ∀ q : Nat, s.heap.size ≤ q → A q := fun q h => by rw [← hAe]; exact Or.inr h
  have hS : va_S A s.heap s.heap [] := va_S.rf
  have hP : va_P Dg vwCl (cX x0 b z (σ.1 0 0) (σ.1 2 0) (σ.1 2 1) (σ.1 2 2) (σ.1 2 3) (σ.1 2 4) (σ.1 1) (g 0) (g 1) (g 2) (g 3) (g 4) ++ va_pl L f) s.heap := hP
  have hl := lv_entry ([.ref x0, .int p1, .int p2]) (n := 5) (Nat.le_of_ble_eq_true rfl)
  rw [lg_entry_eq]
  generalize (lg_sl ([.ref x0, .int p1, .int p2]) ++ List.replicate (5 - (lg_sl ([.ref x0, .int p1, .int p2])).length) Slot.unset).toArray = ls at hl ⊢
  have hl : lv_has ls 5 [(0, .ref x0), (1, .int p1), (2, .int p2)] := hl
  refine lv_aload_n hx hb dX7_take_0 rfl (lv_at hl 0 rfl) ?_
  refine lv_iload_n hx hb dX7_take_1 rfl (lv_at hl 1 rfl) ?_
  rcases Decidable.em (fX8_isIn p1 0 ((σ.1 2 0) - 1) = true) with c_1 | c_1
  · refine va_csq ((va_runV (As := [.int p1]) (rest := []) ⟨hx, hb, hml, hown, hts⟩ (met_X7_wheelAt l Dg x0 b z (σ.1 0 0) (σ.1 2 0) (σ.1 2 1) (σ.1 2 2) (σ.1 2 3) (σ.1 2 4) (σ.1 1) (g 0) (g 1) (g 2) (g 3) (g 4) L f p1 hV.1.1) (cwV 1 hts gX7_take_X7_wheelAt rfl rfl rfl (by decide +kernel) ⟨Nat.le_of_ble_eq_true rfl, Nat.le_of_ble_eq_true rfl⟩) (rPreV hK hP (va_recv hK hP (ci := 5) (q0 := 0) rfl rfl)) rfl rfl hl.1 rfl (lv_room (Nat.le_of_ble_eq_true rfl)) dX7_take_2 ⟨Nat.le_of_ble_eq_true rfl, Nat.le_of_ble_eq_true rfl⟩).run) (fun r hw => ?_)
    obtain rfl : r = some (ad 0 (ix p1)) := hw.trans ((if_pos c_1).trans (hC.2.1 _ (inC_lt hV.1.1 c_1)))
    refine W.eq (g2 := F0 m 5 ls [.ref (ad 0 (ix p1))]) rfl ?_
    have lt_2 := inC_lt hV.1.1 c_1
    have o_2 := hC.1.1 0 _ (by decide) lt_2
    have f_2 : f (ad 0 (ix p1)) = .inr (4, [.int (σ.1 3 (ix p1)), .long (σ.2 0 (ix p1)), .long (σ.2 1 (ix p1))]) := o_2.2
    refine lv_astore_n (lv' := [(3, .ref (ad 0 (ix p1))), (0, .ref x0), (1, .int p1), (2, .int p2)]) hx hb dX7_take_5 rfl hl (by decide) rfl (fun ls hl => ?_)
    refine lv_aload_n hx hb dX7_take_6 rfl (lv_at hl 1 rfl) ?_
    refine lv_iload_n hx hb dX7_take_7 rfl (lv_at hl 3 rfl) ?_
    rcases Decidable.em (fX8_isIn p2 0 ((σ.1 2 1) - 1) = true) with c_3 | c_3
    · refine va_csq ((va_runV (As := [.int p2]) (rest := []) ⟨hx, hb, hml, hown, hts⟩ (met_X7_registerAt l Dg x0 b z (σ.1 0 0) (σ.1 2 0) (σ.1 2 1) (σ.1 2 2) (σ.1 2 3) (σ.1 2 4) (σ.1 1) (g 0) (g 1) (g 2) (g 3) (g 4) L f p2 hV.1.2.1) (cwV 1 hts gX7_take_X7_registerAt rfl rfl rfl (by decide +kernel) ⟨Nat.le_of_ble_eq_true rfl, Nat.le_of_ble_eq_true rfl⟩) (rPreV hK hP (va_recv hK hP (ci := 5) (q0 := 0) rfl rfl)) rfl rfl hl.1 rfl (lv_room (Nat.le_of_ble_eq_true rfl)) dX7_take_8 ⟨Nat.le_of_ble_eq_true rfl, Nat.le_of_ble_eq_true rfl⟩).run) (fun r hw => ?_)
      obtain rfl : r = some (ad 1 (ix p2)) := hw.trans ((if_pos c_3).trans (hC.2.2.1 _ (inC_lt hV.1.2.1 c_3)))
      refine W.eq (g2 := F0 m 11 ls [.ref (ad 1 (ix p2))]) rfl ?_
      have lt_4 := inC_lt hV.1.2.1 c_3
      have o_4 := hC.1.1 1 _ (by decide) lt_4
      have f_4 : f (ad 1 (ix p2)) = .inr (1, [.int (σ.1 4 (ix p2)), .long (σ.2 2 (ix p2))]) := o_4.2
      refine lv_astore (lv' := [(4, .ref (ad 1 (ix p2))), (3, .ref (ad 0 (ix p1))), (0, .ref x0), (1, .int p1), (2, .int p2)]) hx hb dX7_take_11 hl (by decide) rfl (fun ls hl => ?_)
      refine lv_aload_n hx hb dX7_take_13 rfl (lv_at hl 1 rfl) ?_
      refine lv_ifnull hx hb dX7_take_14 ?_
      refine lv_aload hx hb dX7_take_17 (lv_at hl 0 rfl) ?_
      refine lv_ifnonnull (tgt := 29) hx hb dX7_take_19 (by decide) ?_
      have w1 := hV.2.1 _ (inC_lt hV.1.1 c_1)
      have R2 := rg_ok hV c_3
      refine lv_aload hx hb dX7_take_29 (lv_at hl 0 rfl) ?_
      refine lv_aload_n hx hb dX7_take_31 rfl (lv_at hl 1 rfl) ?_
      refine vg_get (D := Dg) (ci := 4) (v := .int (σ.1 3 (ix p1))) (C := RX6) (T := TX6) (N := 3) hx hb hts in_X6_X7_take hown hK hP o_2.1 f_2 rfl 0 (by decide) (hts (.fieldLink RX7 94 "OrreryWorks$Wheel" "kind" "I") (by decide +kernel)) (fun _ h9 => h9) rfl dX7_take_32 ?_
      refine lv_aload_n hx hb dX7_take_35 rfl (lv_at hl 1 rfl) ?_
      refine vg_get (D := Dg) (ci := 4) (v := .long (σ.2 1 (ix p1))) (C := RX6) (T := TX6) (N := 3) hx hb hts in_X6_X7_take hown hK hP o_2.1 f_2 rfl 2 (by decide) (hts (.fieldLink RX7 101 "OrreryWorks$Wheel" "position" "J") (by decide +kernel)) (fun _ h9 => h9) rfl dX7_take_36 ?_
      refine lv_aload hx hb dX7_take_39 (lv_at hl 0 rfl) ?_
      refine vg_get (D := Dg) (ci := 1) (v := .int (σ.1 4 (ix p2))) (C := RX3) (T := TX3) (N := 2) hx hb hts in_X3_X7_take hown hK hP o_4.1 f_4 rfl 0 (by decide) (hts (.fieldLink RX7 139 "OrreryWorks$Register" "kind" "I") (by decide +kernel)) (fun _ h9 => h9) rfl dX7_take_41 ?_
      refine vp_callSl ((va_runS (As := [.int (σ.1 3 (ix p1)), .long (σ.2 1 (ix p1)), .int (σ.1 4 (ix p2))]) (rest := [.ref (ad 1 (ix p2))]) ⟨hx, hb, hml, hown, hts⟩ (met_X0_cast l (σ.1 3 (ix p1)) (σ.2 1 (ix p1)) (σ.1 4 (ix p2)) (Or.inr w1.2.2.2.1)) (va_cwS 3 hts gX7_take_X0_cast rfl rfl rfl (by decide +kernel) ⟨Nat.le_of_ble_eq_true rfl, Nat.le_of_ble_eq_true rfl⟩) ⟨fun _ _ _ _ q => q, fun U hU hW => ⟨rfl, trivial⟩⟩ rfl rfl hl.1 rfl (lv_room (Nat.le_of_ble_eq_true rfl)) dX7_take_44 ⟨Nat.le_of_ble_eq_true rfl, Nat.le_of_ble_eq_true rfl⟩).run) (fun r_1 h_1 => ?_)
      subst h_1
      refine vg_put (D := Dg) (ci := 1) (v := .long (cst (σ.1 3 (ix p1)) (σ.2 1 (ix p1)) (σ.1 4 (ix p2)))) (ty := .long) (C := RX3) (T := TX3) (N := 2) hx hb hts in_X3_X7_take tyX3 tyX3_ok nmX3 hown hK hP hD hS o_4.1 f_4 rfl 1 (by decide) (hts (.fieldLink RX7 140 "OrreryWorks$Register" "bits" "J") (by decide +kernel)) (fun _ h9 => h9) rfl (by decide +kernel) rfl rfl (Nat.le_of_ble_eq_true rfl) dX7_take_47 (fun H locs hP hD hS => ?_)
      have hP : va_P Dg vwCl (cX x0 b z (σ.1 0 0) (σ.1 2 0) (σ.1 2 1) (σ.1 2 2) (σ.1 2 3) (σ.1 2 4) (σ.1 1) (g 0) (g 1) (g 2) (g 3) (g 4) ++ va_pl L (va_up f (ad 1 (ix p2)) (.inr (1, [.int (σ.1 4 (ix p2)), .long (cst (σ.1 3 (ix p1)) (σ.2 1 (ix p1)) (σ.1 4 (ix p2)))])))) H := hP
      have hD : va_D A (cX x0 b z (σ.1 0 0) (σ.1 2 0) (σ.1 2 1) (σ.1 2 2) (σ.1 2 3) (σ.1 2 4) (σ.1 1) (g 0) (g 1) (g 2) (g 3) (g 4) ++ va_pl L (va_up f (ad 1 (ix p2)) (.inr (1, [.int (σ.1 4 (ix p2)), .long (cst (σ.1 3 (ix p1)) (σ.2 1 (ix p1)) (σ.1 4 (ix p2)))])))) := hD
      refine lv_aload_n hx hb dX7_take_50 rfl (lv_at hl 2 rfl) ?_
      refine lv_iconst (v := 1) hx hb dX7_take_51 (by decide) ?_
      have hFc := wFree hD hS hA
      refine va_calli (va_runV (As := [.int 1]) (rest := []) ⟨hx, hb, hml, hown, hts⟩ (met_X7_answer l Dg x0 H.size b z (σ.1 0 0) (σ.1 2 0) (σ.1 2 1) (σ.1 2 2) (σ.1 2 3) (σ.1 2 4) (σ.1 1) (g 0) (g 1) (g 2) (g 3) (g 4) L (va_up f (ad 1 (ix p2)) (.inr (1, [.int (σ.1 4 (ix p2)), .long (cst (σ.1 3 (ix p1)) (σ.2 1 (ix p1)) (σ.1 4 (ix p2)))]))) 1 ) (cwV 1 hts gX7_take_X7_answer rfl rfl rfl (by decide +kernel) ⟨Nat.le_of_ble_eq_true rfl, Nat.le_of_ble_eq_true rfl⟩) (wPreV hK hP (hD.weaken (fun _ _ _ _ => trivial)) (va_recv hK hP (ci := 5) (q0 := 0) rfl rfl)) rfl rfl hl.1 rfl (lv_room (Nat.le_of_ble_eq_true rfl)) dX7_take_52 ⟨Nat.le_of_ble_eq_true rfl, Nat.le_of_ble_eq_true rfl⟩) hS (fun q _ h => hFc q h) hFc (fun r u t H locs ht hvm hw hB _ _ hS => ?_)
      obtain ⟨hP, -, hD⟩ := hB
      rw [ht] at hP
      replace hD := hD.weaken (fun _ q _ h => hFc q.1 h)
      rw [hw.2] at hP hD
      rw [hw.1]
      clear hw hFc
      have hP : va_P Dg vwCl (cX x0 b z 0 (σ.1 2 0) (σ.1 2 1) (σ.1 2 2) (σ.1 2 3) (σ.1 2 4) (σ.1 1) (g 0) (g 1) (g 2) (g 3) (g 4) ++ va_pl L (va_up f (ad 1 (ix p2)) (.inr (1, [.int (σ.1 4 (ix p2)), .long (cst (σ.1 3 (ix p1)) (σ.2 1 (ix p1)) (σ.1 4 (ix p2)))])))) H := hP
      have hD : va_D A (cX x0 b z 0 (σ.1 2 0) (σ.1 2 1) (σ.1 2 2) (σ.1 2 3) (σ.1 2 4) (σ.1 1) (g 0) (g 1) (g 2) (g 3) (g 4) ++ va_pl L (va_up f (ad 1 (ix p2)) (.inr (1, [.int (σ.1 4 (ix p2)), .long (cst (σ.1 3 (ix p1)) (σ.2 1 (ix p1)) (σ.1 4 (ix p2)))])))) := hD
      have hw : wh_take σ p1 p2 = 0 := by simp only [wh_take, if_pos c_1, if_pos c_3]
      exact W.iret (v := 1) hx hb hr (fun t ht hW => ⟨⟨_, (cX x0 b z 0 (σ.1 2 0) (σ.1 2 1) (σ.1 2 2) (σ.1 2 3) (σ.1 2 4) (σ.1 1) (g 0) (g 1) (g 2) (g 3) (g 4) ++ va_pl L (va_up f (ad 1 (ix p2)) (.inr (1, [.int (σ.1 4 (ix p2)), .long (cst (σ.1 3 (ix p1)) (σ.2 1 (ix p1)) (σ.1 4 (ix p2)))])))), rfl, ⟨by rw [an_take, if_pos hw]; try rfl, L, va_up f (ad 1 (ix p2)) (.inr (1, [.int (σ.1 4 (ix p2)), .long (cst (σ.1 3 (ix p1)) (σ.2 1 (ix p1)) (σ.1 4 (ix p2)))])), ad, g, by rw [nw_take, if_pos hw]; rfl, by rw [nw_take, if_pos hw]; exact CI_store hC (inC_lt hV.1.2.1 c_3)⟩, by rw [ht]; exact hP, va_K.moved hW.alike hK, hD⟩, hS.F ht⟩) hS.2.2 dX7_take_55
    · refine va_csq ((va_runV (As := [.int p2]) (rest := []) ⟨hx, hb, hml, hown, hts⟩ (met_X7_registerAt l Dg x0 b z (σ.1 0 0) (σ.1 2 0) (σ.1 2 1) (σ.1 2 2) (σ.1 2 3) (σ.1 2 4) (σ.1 1) (g 0) (g 1) (g 2) (g 3) (g 4) L f p2 hV.1.2.1) (cwV 1 hts gX7_take_X7_registerAt rfl rfl rfl (by decide +kernel) ⟨Nat.le_of_ble_eq_true rfl, Nat.le_of_ble_eq_true rfl⟩) (rPreV hK hP (va_recv hK hP (ci := 5) (q0 := 0) rfl rfl)) rfl rfl hl.1 rfl (lv_room (Nat.le_of_ble_eq_true rfl)) dX7_take_8 ⟨Nat.le_of_ble_eq_true rfl, Nat.le_of_ble_eq_true rfl⟩).run) (fun r hw => ?_)
      obtain rfl : r = none := hw.trans (if_neg c_3)
      refine W.eq (g2 := F0 m 11 ls [.null]) rfl ?_
      refine lv_astoreN (lv' := [(4, .null), (3, .ref (ad 0 (ix p1))), (0, .ref x0), (1, .int p1), (2, .int p2)]) hx hb dX7_take_11 hl (by decide) rfl (fun ls hl => ?_)
      refine lv_aload_n hx hb dX7_take_13 rfl (lv_at hl 1 rfl) ?_
      refine lv_ifnull hx hb dX7_take_14 ?_
      refine lv_aloadN hx hb dX7_take_17 (lv_at hl 0 rfl) ?_
      refine lv_ifnonnullN hx hb dX7_take_19 ?_
      refine lv_aload_n hx hb dX7_take_22 rfl (lv_at hl 2 rfl) ?_
      refine lv_bipush (v := (-2)) hx hb dX7_take_23 (by decide) ?_
      have hFc := wFree hD hS hA
      refine va_calli (va_runV (As := [.int (-2)]) (rest := []) ⟨hx, hb, hml, hown, hts⟩ (met_X7_refuse l Dg x0 s.heap.size b z (σ.1 0 0) (σ.1 2 0) (σ.1 2 1) (σ.1 2 2) (σ.1 2 3) (σ.1 2 4) (σ.1 1) (g 0) (g 1) (g 2) (g 3) (g 4) L f (-2) (by decide) (by unfold vp_in; decide)) (cwV 1 hts gX7_take_X7_refuse rfl rfl rfl (by decide +kernel) ⟨Nat.le_of_ble_eq_true rfl, Nat.le_of_ble_eq_true rfl⟩) (wPreV hK hP (hD.weaken (fun _ _ _ _ => trivial)) (va_recv hK hP (ci := 5) (q0 := 0) rfl rfl)) rfl rfl hl.1 rfl (lv_room (Nat.le_of_ble_eq_true rfl)) dX7_take_25 ⟨Nat.le_of_ble_eq_true rfl, Nat.le_of_ble_eq_true rfl⟩) hS (fun q _ h => hFc q h) hFc (fun r u t H locs ht hvm hw hB _ _ hS => ?_)
      obtain ⟨hP, -, hD⟩ := hB
      rw [ht] at hP
      replace hD := hD.weaken (fun _ q _ h => hFc q.1 h)
      rw [hw.2] at hP hD
      rw [hw.1]
      clear hw hFc
      have hP : va_P Dg vwCl (cX x0 b z (-2) (σ.1 2 0) (σ.1 2 1) (σ.1 2 2) (σ.1 2 3) (σ.1 2 4) (rfO (-2) (σ.1 1)) (g 0) (g 1) (g 2) (g 3) (g 4) ++ va_pl L f) H := hP
      have hD : va_D A (cX x0 b z (-2) (σ.1 2 0) (σ.1 2 1) (σ.1 2 2) (σ.1 2 3) (σ.1 2 4) (rfO (-2) (σ.1 1)) (g 0) (g 1) (g 2) (g 3) (g 4) ++ va_pl L f) := hD
      have hw : wh_take σ p1 p2 = (-2) := by simp only [wh_take, if_pos c_1, if_neg c_3]
      have hn : ¬ wh_take σ p1 p2 = 0 := by rw [hw]; decide
      exact W.iret (v := (-2)) hx hb hr (fun t ht hW => ⟨⟨_, (cX x0 b z (-2) (σ.1 2 0) (σ.1 2 1) (σ.1 2 2) (σ.1 2 3) (σ.1 2 4) (rfO (-2) (σ.1 1)) (g 0) (g 1) (g 2) (g 3) (g 4) ++ va_pl L f), rfl, ⟨by rw [an_take, if_neg hn, hw]; try rfl, L, f, ad, g, by rw [nw_take, if_neg hn, hw]; rfl, by rw [nw_take, if_neg hn]; exact CI_rf hC _⟩, by rw [ht]; exact hP, va_K.moved hW.alike hK, hD⟩, hS.F ht⟩) hS.2.2 dX7_take_28
  · refine va_csq ((va_runV (As := [.int p1]) (rest := []) ⟨hx, hb, hml, hown, hts⟩ (met_X7_wheelAt l Dg x0 b z (σ.1 0 0) (σ.1 2 0) (σ.1 2 1) (σ.1 2 2) (σ.1 2 3) (σ.1 2 4) (σ.1 1) (g 0) (g 1) (g 2) (g 3) (g 4) L f p1 hV.1.1) (cwV 1 hts gX7_take_X7_wheelAt rfl rfl rfl (by decide +kernel) ⟨Nat.le_of_ble_eq_true rfl, Nat.le_of_ble_eq_true rfl⟩) (rPreV hK hP (va_recv hK hP (ci := 5) (q0 := 0) rfl rfl)) rfl rfl hl.1 rfl (lv_room (Nat.le_of_ble_eq_true rfl)) dX7_take_2 ⟨Nat.le_of_ble_eq_true rfl, Nat.le_of_ble_eq_true rfl⟩).run) (fun r hw => ?_)
    obtain rfl : r = none := hw.trans (if_neg c_1)
    refine W.eq (g2 := F0 m 5 ls [.null]) rfl ?_
    refine lv_astore_nN (lv' := [(3, .null), (0, .ref x0), (1, .int p1), (2, .int p2)]) hx hb dX7_take_5 rfl hl (by decide) rfl (fun ls hl => ?_)
    refine lv_aload_n hx hb dX7_take_6 rfl (lv_at hl 1 rfl) ?_
    refine lv_iload_n hx hb dX7_take_7 rfl (lv_at hl 3 rfl) ?_
    rcases Decidable.em (fX8_isIn p2 0 ((σ.1 2 1) - 1) = true) with c_5 | c_5
    · refine va_csq ((va_runV (As := [.int p2]) (rest := []) ⟨hx, hb, hml, hown, hts⟩ (met_X7_registerAt l Dg x0 b z (σ.1 0 0) (σ.1 2 0) (σ.1 2 1) (σ.1 2 2) (σ.1 2 3) (σ.1 2 4) (σ.1 1) (g 0) (g 1) (g 2) (g 3) (g 4) L f p2 hV.1.2.1) (cwV 1 hts gX7_take_X7_registerAt rfl rfl rfl (by decide +kernel) ⟨Nat.le_of_ble_eq_true rfl, Nat.le_of_ble_eq_true rfl⟩) (rPreV hK hP (va_recv hK hP (ci := 5) (q0 := 0) rfl rfl)) rfl rfl hl.1 rfl (lv_room (Nat.le_of_ble_eq_true rfl)) dX7_take_8 ⟨Nat.le_of_ble_eq_true rfl, Nat.le_of_ble_eq_true rfl⟩).run) (fun r hw => ?_)
      obtain rfl : r = some (ad 1 (ix p2)) := hw.trans ((if_pos c_5).trans (hC.2.2.1 _ (inC_lt hV.1.2.1 c_5)))
      refine W.eq (g2 := F0 m 11 ls [.ref (ad 1 (ix p2))]) rfl ?_
      have lt_6 := inC_lt hV.1.2.1 c_5
      have o_6 := hC.1.1 1 _ (by decide) lt_6
      have f_6 : f (ad 1 (ix p2)) = .inr (1, [.int (σ.1 4 (ix p2)), .long (σ.2 2 (ix p2))]) := o_6.2
      refine lv_astore (lv' := [(4, .ref (ad 1 (ix p2))), (3, .null), (0, .ref x0), (1, .int p1), (2, .int p2)]) hx hb dX7_take_11 hl (by decide) rfl (fun ls hl => ?_)
      refine lv_aload_nN hx hb dX7_take_13 rfl (lv_at hl 1 rfl) ?_
      refine lv_ifnullN (tgt := 22) hx hb dX7_take_14 (by decide) ?_
      refine lv_aload_n hx hb dX7_take_22 rfl (lv_at hl 2 rfl) ?_
      refine lv_bipush (v := (-2)) hx hb dX7_take_23 (by decide) ?_
      have hFc := wFree hD hS hA
      refine va_calli (va_runV (As := [.int (-2)]) (rest := []) ⟨hx, hb, hml, hown, hts⟩ (met_X7_refuse l Dg x0 s.heap.size b z (σ.1 0 0) (σ.1 2 0) (σ.1 2 1) (σ.1 2 2) (σ.1 2 3) (σ.1 2 4) (σ.1 1) (g 0) (g 1) (g 2) (g 3) (g 4) L f (-2) (by decide) (by unfold vp_in; decide)) (cwV 1 hts gX7_take_X7_refuse rfl rfl rfl (by decide +kernel) ⟨Nat.le_of_ble_eq_true rfl, Nat.le_of_ble_eq_true rfl⟩) (wPreV hK hP (hD.weaken (fun _ _ _ _ => trivial)) (va_recv hK hP (ci := 5) (q0 := 0) rfl rfl)) rfl rfl hl.1 rfl (lv_room (Nat.le_of_ble_eq_true rfl)) dX7_take_25 ⟨Nat.le_of_ble_eq_true rfl, Nat.le_of_ble_eq_true rfl⟩) hS (fun q _ h => hFc q h) hFc (fun r u t H locs ht hvm hw hB _ _ hS => ?_)
      obtain ⟨hP, -, hD⟩ := hB
      rw [ht] at hP
      replace hD := hD.weaken (fun _ q _ h => hFc q.1 h)
      rw [hw.2] at hP hD
      rw [hw.1]
      clear hw hFc
      have hP : va_P Dg vwCl (cX x0 b z (-2) (σ.1 2 0) (σ.1 2 1) (σ.1 2 2) (σ.1 2 3) (σ.1 2 4) (rfO (-2) (σ.1 1)) (g 0) (g 1) (g 2) (g 3) (g 4) ++ va_pl L f) H := hP
      have hD : va_D A (cX x0 b z (-2) (σ.1 2 0) (σ.1 2 1) (σ.1 2 2) (σ.1 2 3) (σ.1 2 4) (rfO (-2) (σ.1 1)) (g 0) (g 1) (g 2) (g 3) (g 4) ++ va_pl L f) := hD
      have hw : wh_take σ p1 p2 = (-2) := by simp only [wh_take, if_neg c_1, if_pos c_5]
      have hn : ¬ wh_take σ p1 p2 = 0 := by rw [hw]; decide
      exact W.iret (v := (-2)) hx hb hr (fun t ht hW => ⟨⟨_, (cX x0 b z (-2) (σ.1 2 0) (σ.1 2 1) (σ.1 2 2) (σ.1 2 3) (σ.1 2 4) (rfO (-2) (σ.1 1)) (g 0) (g 1) (g 2) (g 3) (g 4) ++ va_pl L f), rfl, ⟨by rw [an_take, if_neg hn, hw]; try rfl, L, f, ad, g, by rw [nw_take, if_neg hn, hw]; rfl, by rw [nw_take, if_neg hn]; exact CI_rf hC _⟩, by rw [ht]; exact hP, va_K.moved hW.alike hK, hD⟩, hS.F ht⟩) hS.2.2 dX7_take_28
    · refine va_csq ((va_runV (As := [.int p2]) (rest := []) ⟨hx, hb, hml, hown, hts⟩ (met_X7_registerAt l Dg x0 b z (σ.1 0 0) (σ.1 2 0) (σ.1 2 1) (σ.1 2 2) (σ.1 2 3) (σ.1 2 4) (σ.1 1) (g 0) (g 1) (g 2) (g 3) (g 4) L f p2 hV.1.2.1) (cwV 1 hts gX7_take_X7_registerAt rfl rfl rfl (by decide +kernel) ⟨Nat.le_of_ble_eq_true rfl, Nat.le_of_ble_eq_true rfl⟩) (rPreV hK hP (va_recv hK hP (ci := 5) (q0 := 0) rfl rfl)) rfl rfl hl.1 rfl (lv_room (Nat.le_of_ble_eq_true rfl)) dX7_take_8 ⟨Nat.le_of_ble_eq_true rfl, Nat.le_of_ble_eq_true rfl⟩).run) (fun r hw => ?_)
      obtain rfl : r = none := hw.trans (if_neg c_5)
      refine W.eq (g2 := F0 m 11 ls [.null]) rfl ?_
      refine lv_astoreN (lv' := [(4, .null), (3, .null), (0, .ref x0), (1, .int p1), (2, .int p2)]) hx hb dX7_take_11 hl (by decide) rfl (fun ls hl => ?_)
      refine lv_aload_nN hx hb dX7_take_13 rfl (lv_at hl 1 rfl) ?_
      refine lv_ifnullN (tgt := 22) hx hb dX7_take_14 (by decide) ?_
      refine lv_aload_n hx hb dX7_take_22 rfl (lv_at hl 2 rfl) ?_
      refine lv_bipush (v := (-2)) hx hb dX7_take_23 (by decide) ?_
      have hFc := wFree hD hS hA
      refine va_calli (va_runV (As := [.int (-2)]) (rest := []) ⟨hx, hb, hml, hown, hts⟩ (met_X7_refuse l Dg x0 s.heap.size b z (σ.1 0 0) (σ.1 2 0) (σ.1 2 1) (σ.1 2 2) (σ.1 2 3) (σ.1 2 4) (σ.1 1) (g 0) (g 1) (g 2) (g 3) (g 4) L f (-2) (by decide) (by unfold vp_in; decide)) (cwV 1 hts gX7_take_X7_refuse rfl rfl rfl (by decide +kernel) ⟨Nat.le_of_ble_eq_true rfl, Nat.le_of_ble_eq_true rfl⟩) (wPreV hK hP (hD.weaken (fun _ _ _ _ => trivial)) (va_recv hK hP (ci := 5) (q0 := 0) rfl rfl)) rfl rfl hl.1 rfl (lv_room (Nat.le_of_ble_eq_true rfl)) dX7_take_25 ⟨Nat.le_of_ble_eq_true rfl, Nat.le_of_ble_eq_true rfl⟩) hS (fun q _ h => hFc q h) hFc (fun r u t H locs ht hvm hw hB _ _ hS => ?_)
      obtain ⟨hP, -, hD⟩ := hB
      rw [ht] at hP
      replace hD := hD.weaken (fun _ q _ h => hFc q.1 h)
      rw [hw.2] at hP hD
      rw [hw.1]
      clear hw hFc
      have hP : va_P Dg vwCl (cX x0 b z (-2) (σ.1 2 0) (σ.1 2 1) (σ.1 2 2) (σ.1 2 3) (σ.1 2 4) (rfO (-2) (σ.1 1)) (g 0) (g 1) (g 2) (g 3) (g 4) ++ va_pl L f) H := hP
      have hD : va_D A (cX x0 b z (-2) (σ.1 2 0) (σ.1 2 1) (σ.1 2 2) (σ.1 2 3) (σ.1 2 4) (rfO (-2) (σ.1 1)) (g 0) (g 1) (g 2) (g 3) (g 4) ++ va_pl L f) := hD
      have hw : wh_take σ p1 p2 = (-2) := by simp only [wh_take, if_neg c_1, if_neg c_5]
      have hn : ¬ wh_take σ p1 p2 = 0 := by rw [hw]; decide
      exact W.iret (v := (-2)) hx hb hr (fun t ht hW => ⟨⟨_, (cX x0 b z (-2) (σ.1 2 0) (σ.1 2 1) (σ.1 2 2) (σ.1 2 3) (σ.1 2 4) (rfO (-2) (σ.1 1)) (g 0) (g 1) (g 2) (g 3) (g 4) ++ va_pl L f), rfl, ⟨by rw [an_take, if_neg hn, hw]; try rfl, L, f, ad, g, by rw [nw_take, if_neg hn, hw]; rfl, by rw [nw_take, if_neg hn]; exact CI_rf hC _⟩, by rw [ht]; exact hP, va_K.moved hW.alike hK, hD⟩, hS.F ht⟩) hS.2.2 dX7_take_28

theorem in_X3_X7_work : ∀ w ∈ wsX30, w ∈ wsX7_work := fun w h => List.mem_cons_of_mem _ (List.mem_append_left _ (List.mem_append_right _ h))
theorem in_X7_X7_work : ∀ w ∈ wsX70, w ∈ wsX7_work := fun w h => List.mem_cons_of_mem _ (List.mem_append_right _ h)
set_option maxHeartbeats 4000000 in
set_option maxRecDepth 100000 in
theorem met_X7_work (l : Launch) (Dg : va_G) (x0 sz : Nat) (b : Nat → Nat) (z : Nat → ClassId) (σ : St) (L : List Nat) (f : Nat → va_E) (ad : Nat → Nat → Nat) (g : Nat → Nat → Option Nat) (p1 : Int32) (p2 : Int32) (p3 : Int32) (p4 : Int32) (hV : vOK σ) (hC : CI z σ L f ad g)  : Met l yX7_work wsX7_work ({ frames := 6, cells := 0, slots := 0, locals := 146 }) (va_Pc [.ref x0, .int p1, .int p2, .int p3, .int p4] (wB Dg (cT z) (cX x0 b z (σ.1 0 0) (σ.1 2 0) (σ.1 2 1) (σ.1 2 2) (σ.1 2 3) (σ.1 2 4) (σ.1 1) (g 0) (g 1) (g 2) (g 3) (g 4) ++ va_pl L f) sz)) (va_Qi (fun (r : Int32) (u : va_W) => r = an_work σ p1 p2 p3 p4 ∧ CX x0 b z (nw_work σ p1 p2 p3 p4) u) (wE Dg (cT z) (va_A (cX x0 b z (σ.1 0 0) (σ.1 2 0) (σ.1 2 1) (σ.1 2 2) (σ.1 2 3) (σ.1 2 4) (σ.1 1) (g 0) (g 1) (g 2) (g 3) (g 4) ++ va_pl L f) sz)) (va_A (cX x0 b z (σ.1 0 0) (σ.1 2 0) (σ.1 2 1) (σ.1 2 2) (σ.1 2 3) (σ.1 2 4) (σ.1 1) (g 0) (g 1) (g 2) (g 3) (g 4) ++ va_pl L f) sz)) 0 0 (va_A (cX x0 b z (σ.1 0 0) (σ.1 2 0) (σ.1 2 1) (σ.1 2 2) (σ.1 2 3) (σ.1 2 4) (σ.1 1) (g 0) (g 1) (g 2) (g 3) (g 4) ++ va_pl L f) sz) := by
  refine Met.ofW (cc := cX7_work) (maxL := 13) (ret := (some .int)) (by decide) rfl ?_
  intro p e s m args below meth c s₁ B hml hv
  obtain ⟨rfl, hsz, hP, hK, hD0⟩ := hv
  have hx := B.exec
  have hb := B.bytes
  have hr := B.returns
  have hts := atoms_spec (ws := wsX7_work) B.pre
  have hown : s.vm.findClass RX7 = some m.cls := findClass_of_methodNamed B.named
  have hlocks := B.notSynchronized
  subst hsz
  have hD := hD0.self (sz := s.heap.size)
  generalize hAe : va_A (cX x0 b z (σ.1 0 0) (σ.1 2 0) (σ.1 2 1) (σ.1 2 2) (σ.1 2 3) (σ.1 2 4) (σ.1 1) (g 0) (g 1) (g 2) (g 3) (g 4) ++ va_pl L f) s.heap.size = A at hD ⊢
  have hA : ∀ q : Nat, s.heap.size ≤ q → A q := fun q h => by rw [← hAe]; exact Or.inr h
  have hS : va_S A s.heap s.heap [] := va_S.rf
  have hP : va_P Dg vwCl (cX x0 b z (σ.1 0 0) (σ.1 2 0) (σ.1 2 1) (σ.1 2 2) (σ.1 2 3) (σ.1 2 4) (σ.1 1) (g 0) (g 1) (g 2) (g 3) (g 4) ++ va_pl L f) s.heap := hP
  have hl := lv_entry ([.ref x0, .int p1, .int p2, .int p3, .int p4]) (n := 13) (Nat.le_of_ble_eq_true rfl)
  rw [lg_entry_eq]
  generalize (lg_sl ([.ref x0, .int p1, .int p2, .int p3, .int p4]) ++ List.replicate (13 - (lg_sl ([.ref x0, .int p1, .int p2, .int p3, .int p4])).length) Slot.unset).toArray = ls at hl ⊢
  have hl : lv_has ls 13 [(0, .ref x0), (1, .int p1), (2, .int p2), (3, .int p3), (4, .int p4)] := hl
  refine lv_aload_n hx hb dX7_work_0 rfl (lv_at hl 0 rfl) ?_
  refine lv_iload_n hx hb dX7_work_1 rfl (lv_at hl 2 rfl) ?_
  rcases Decidable.em (fX8_isIn p2 0 ((σ.1 2 1) - 1) = true) with c_1 | c_1
  · refine va_csq ((va_runV (As := [.int p2]) (rest := []) ⟨hx, hb, hml, hown, hts⟩ (met_X7_registerAt l Dg x0 b z (σ.1 0 0) (σ.1 2 0) (σ.1 2 1) (σ.1 2 2) (σ.1 2 3) (σ.1 2 4) (σ.1 1) (g 0) (g 1) (g 2) (g 3) (g 4) L f p2 hV.1.2.1) (cwV 1 hts gX7_work_X7_registerAt rfl rfl rfl (by decide +kernel) ⟨Nat.le_of_ble_eq_true rfl, Nat.le_of_ble_eq_true rfl⟩) (rPreV hK hP (va_recv hK hP (ci := 5) (q0 := 0) rfl rfl)) rfl rfl hl.1 rfl (lv_room (Nat.le_of_ble_eq_true rfl)) dX7_work_2 ⟨Nat.le_of_ble_eq_true rfl, Nat.le_of_ble_eq_true rfl⟩).run) (fun r hw => ?_)
    obtain rfl : r = some (ad 1 (ix p2)) := hw.trans ((if_pos c_1).trans (hC.2.2.1 _ (inC_lt hV.1.2.1 c_1)))
    refine W.eq (g2 := F0 m 5 ls [.ref (ad 1 (ix p2))]) rfl ?_
    have lt_2 := inC_lt hV.1.2.1 c_1
    have o_2 := hC.1.1 1 _ (by decide) lt_2
    have f_2 : f (ad 1 (ix p2)) = .inr (1, [.int (σ.1 4 (ix p2)), .long (σ.2 2 (ix p2))]) := o_2.2
    refine lv_astore (lv' := [(5, .ref (ad 1 (ix p2))), (0, .ref x0), (1, .int p1), (2, .int p2), (3, .int p3), (4, .int p4)]) hx hb dX7_work_5 hl (by decide) rfl (fun ls hl => ?_)
    refine lv_aload_n hx hb dX7_work_7 rfl (lv_at hl 1 rfl) ?_
    refine lv_iload_n hx hb dX7_work_8 rfl (lv_at hl 4 rfl) ?_
    rcases Decidable.em (fX8_isIn p3 0 ((σ.1 2 1) - 1) = true) with c_3 | c_3
    · refine va_csq ((va_runV (As := [.int p3]) (rest := []) ⟨hx, hb, hml, hown, hts⟩ (met_X7_registerAt l Dg x0 b z (σ.1 0 0) (σ.1 2 0) (σ.1 2 1) (σ.1 2 2) (σ.1 2 3) (σ.1 2 4) (σ.1 1) (g 0) (g 1) (g 2) (g 3) (g 4) L f p3 hV.1.2.1) (cwV 1 hts gX7_work_X7_registerAt rfl rfl rfl (by decide +kernel) ⟨Nat.le_of_ble_eq_true rfl, Nat.le_of_ble_eq_true rfl⟩) (rPreV hK hP (va_recv hK hP (ci := 5) (q0 := 0) rfl rfl)) rfl rfl hl.1 rfl (lv_room (Nat.le_of_ble_eq_true rfl)) dX7_work_9 ⟨Nat.le_of_ble_eq_true rfl, Nat.le_of_ble_eq_true rfl⟩).run) (fun r hw => ?_)
      obtain rfl : r = some (ad 1 (ix p3)) := hw.trans ((if_pos c_3).trans (hC.2.2.1 _ (inC_lt hV.1.2.1 c_3)))
      refine W.eq (g2 := F0 m 12 ls [.ref (ad 1 (ix p3))]) rfl ?_
      have lt_4 := inC_lt hV.1.2.1 c_3
      have o_4 := hC.1.1 1 _ (by decide) lt_4
      have f_4 : f (ad 1 (ix p3)) = .inr (1, [.int (σ.1 4 (ix p3)), .long (σ.2 2 (ix p3))]) := o_4.2
      refine lv_astore (lv' := [(6, .ref (ad 1 (ix p3))), (5, .ref (ad 1 (ix p2))), (0, .ref x0), (1, .int p1), (2, .int p2), (3, .int p3), (4, .int p4)]) hx hb dX7_work_12 hl (by decide) rfl (fun ls hl => ?_)
      refine lv_aload_n hx hb dX7_work_14 rfl (lv_at hl 2 rfl) ?_
      refine lv_iload hx hb dX7_work_15 (lv_at hl 6 rfl) ?_
      rcases Decidable.em (fX8_isIn p4 0 ((σ.1 2 1) - 1) = true) with c_5 | c_5
      · refine va_csq ((va_runV (As := [.int p4]) (rest := []) ⟨hx, hb, hml, hown, hts⟩ (met_X7_registerAt l Dg x0 b z (σ.1 0 0) (σ.1 2 0) (σ.1 2 1) (σ.1 2 2) (σ.1 2 3) (σ.1 2 4) (σ.1 1) (g 0) (g 1) (g 2) (g 3) (g 4) L f p4 hV.1.2.1) (cwV 1 hts gX7_work_X7_registerAt rfl rfl rfl (by decide +kernel) ⟨Nat.le_of_ble_eq_true rfl, Nat.le_of_ble_eq_true rfl⟩) (rPreV hK hP (va_recv hK hP (ci := 5) (q0 := 0) rfl rfl)) rfl rfl hl.1 rfl (lv_room (Nat.le_of_ble_eq_true rfl)) dX7_work_17 ⟨Nat.le_of_ble_eq_true rfl, Nat.le_of_ble_eq_true rfl⟩).run) (fun r hw => ?_)
        obtain rfl : r = some (ad 1 (ix p4)) := hw.trans ((if_pos c_5).trans (hC.2.2.1 _ (inC_lt hV.1.2.1 c_5)))
        refine W.eq (g2 := F0 m 20 ls [.ref (ad 1 (ix p4))]) rfl ?_
        have lt_6 := inC_lt hV.1.2.1 c_5
        have o_6 := hC.1.1 1 _ (by decide) lt_6
        have f_6 : f (ad 1 (ix p4)) = .inr (1, [.int (σ.1 4 (ix p4)), .long (σ.2 2 (ix p4))]) := o_6.2
        refine lv_astore (lv' := [(7, .ref (ad 1 (ix p4))), (6, .ref (ad 1 (ix p3))), (5, .ref (ad 1 (ix p2))), (0, .ref x0), (1, .int p1), (2, .int p2), (3, .int p3), (4, .int p4)]) hx hb dX7_work_20 hl (by decide) rfl (fun ls hl => ?_)
        refine lv_iload_n hx hb dX7_work_22 rfl (lv_at hl 4 rfl) ?_
        refine lv_if_lt (tgt := 46) hx hb dX7_work_23 (by decide) (fun c_7 => ?_) (fun c_7 => ?_)
        · refine lv_aload_n hx hb dX7_work_46 rfl (lv_at hl 3 rfl) ?_
          refine lv_bipush (v := (-2)) hx hb dX7_work_47 (by decide) ?_
          have hFc := wFree hD hS hA
          refine va_calli (va_runV (As := [.int (-2)]) (rest := []) ⟨hx, hb, hml, hown, hts⟩ (met_X7_refuse l Dg x0 s.heap.size b z (σ.1 0 0) (σ.1 2 0) (σ.1 2 1) (σ.1 2 2) (σ.1 2 3) (σ.1 2 4) (σ.1 1) (g 0) (g 1) (g 2) (g 3) (g 4) L f (-2) (by decide) (by unfold vp_in; decide)) (cwV 1 hts gX7_work_X7_refuse rfl rfl rfl (by decide +kernel) ⟨Nat.le_of_ble_eq_true rfl, Nat.le_of_ble_eq_true rfl⟩) (wPreV hK hP (hD.weaken (fun _ _ _ _ => trivial)) (va_recv hK hP (ci := 5) (q0 := 0) rfl rfl)) rfl rfl hl.1 rfl (lv_room (Nat.le_of_ble_eq_true rfl)) dX7_work_49 ⟨Nat.le_of_ble_eq_true rfl, Nat.le_of_ble_eq_true rfl⟩) hS (fun q _ h => hFc q h) hFc (fun r u t H locs ht hvm hw hB _ _ hS => ?_)
          obtain ⟨hP, -, hD⟩ := hB
          rw [ht] at hP
          replace hD := hD.weaken (fun _ q _ h => hFc q.1 h)
          rw [hw.2] at hP hD
          rw [hw.1]
          clear hw hFc
          have hP : va_P Dg vwCl (cX x0 b z (-2) (σ.1 2 0) (σ.1 2 1) (σ.1 2 2) (σ.1 2 3) (σ.1 2 4) (rfO (-2) (σ.1 1)) (g 0) (g 1) (g 2) (g 3) (g 4) ++ va_pl L f) H := hP
          have hD : va_D A (cX x0 b z (-2) (σ.1 2 0) (σ.1 2 1) (σ.1 2 2) (σ.1 2 3) (σ.1 2 4) (rfO (-2) (σ.1 1)) (g 0) (g 1) (g 2) (g 3) (g 4) ++ va_pl L f) := hD
          have hw : wh_work σ p1 p2 p3 p4 = (-2) := by simp only [wh_work, if_neg (nIn_l (b := 4) c_7), if_pos c_1, if_pos c_3, if_pos c_5]
          have hn : ¬ wh_work σ p1 p2 p3 p4 = 0 := by rw [hw]; decide
          exact W.iret (v := (-2)) hx hb hr (fun t ht hW => ⟨⟨_, (cX x0 b z (-2) (σ.1 2 0) (σ.1 2 1) (σ.1 2 2) (σ.1 2 3) (σ.1 2 4) (rfO (-2) (σ.1 1)) (g 0) (g 1) (g 2) (g 3) (g 4) ++ va_pl L f), rfl, ⟨by rw [an_work, if_neg hn, hw]; try rfl, L, f, ad, g, by rw [nw_work, if_neg hn, hw]; rfl, by rw [nw_work, if_neg hn]; exact CI_rf hC _⟩, by rw [ht]; exact hP, va_K.moved hW.alike hK, hD⟩, hS.F ht⟩) hS.2.2 dX7_work_52
        · refine lv_iload_n hx hb dX7_work_26 rfl (lv_at hl 4 rfl) ?_
          refine lv_iconst (v := 4) hx hb dX7_work_27 (by decide) ?_
          refine lv_icmp_gt (tgt := 46) hx hb dX7_work_28 (by decide) (fun c_8 => ?_) (fun c_8 => ?_)
          · refine lv_aload_n hx hb dX7_work_46 rfl (lv_at hl 3 rfl) ?_
            refine lv_bipush (v := (-2)) hx hb dX7_work_47 (by decide) ?_
            have hFc := wFree hD hS hA
            refine va_calli (va_runV (As := [.int (-2)]) (rest := []) ⟨hx, hb, hml, hown, hts⟩ (met_X7_refuse l Dg x0 s.heap.size b z (σ.1 0 0) (σ.1 2 0) (σ.1 2 1) (σ.1 2 2) (σ.1 2 3) (σ.1 2 4) (σ.1 1) (g 0) (g 1) (g 2) (g 3) (g 4) L f (-2) (by decide) (by unfold vp_in; decide)) (cwV 1 hts gX7_work_X7_refuse rfl rfl rfl (by decide +kernel) ⟨Nat.le_of_ble_eq_true rfl, Nat.le_of_ble_eq_true rfl⟩) (wPreV hK hP (hD.weaken (fun _ _ _ _ => trivial)) (va_recv hK hP (ci := 5) (q0 := 0) rfl rfl)) rfl rfl hl.1 rfl (lv_room (Nat.le_of_ble_eq_true rfl)) dX7_work_49 ⟨Nat.le_of_ble_eq_true rfl, Nat.le_of_ble_eq_true rfl⟩) hS (fun q _ h => hFc q h) hFc (fun r u t H locs ht hvm hw hB _ _ hS => ?_)
            obtain ⟨hP, -, hD⟩ := hB
            rw [ht] at hP
            replace hD := hD.weaken (fun _ q _ h => hFc q.1 h)
            rw [hw.2] at hP hD
            rw [hw.1]
            clear hw hFc
            have hP : va_P Dg vwCl (cX x0 b z (-2) (σ.1 2 0) (σ.1 2 1) (σ.1 2 2) (σ.1 2 3) (σ.1 2 4) (rfO (-2) (σ.1 1)) (g 0) (g 1) (g 2) (g 3) (g 4) ++ va_pl L f) H := hP
            have hD : va_D A (cX x0 b z (-2) (σ.1 2 0) (σ.1 2 1) (σ.1 2 2) (σ.1 2 3) (σ.1 2 4) (rfO (-2) (σ.1 1)) (g 0) (g 1) (g 2) (g 3) (g 4) ++ va_pl L f) := hD
            have hw : wh_work σ p1 p2 p3 p4 = (-2) := by simp only [wh_work, if_neg (nIn_h (a := 0) c_8), if_pos c_1, if_pos c_3, if_pos c_5]
            have hn : ¬ wh_work σ p1 p2 p3 p4 = 0 := by rw [hw]; decide
            exact W.iret (v := (-2)) hx hb hr (fun t ht hW => ⟨⟨_, (cX x0 b z (-2) (σ.1 2 0) (σ.1 2 1) (σ.1 2 2) (σ.1 2 3) (σ.1 2 4) (rfO (-2) (σ.1 1)) (g 0) (g 1) (g 2) (g 3) (g 4) ++ va_pl L f), rfl, ⟨by rw [an_work, if_neg hn, hw]; try rfl, L, f, ad, g, by rw [nw_work, if_neg hn, hw]; rfl, by rw [nw_work, if_neg hn]; exact CI_rf hC _⟩, by rw [ht]; exact hP, va_K.moved hW.alike hK, hD⟩, hS.F ht⟩) hS.2.2 dX7_work_52
          · refine lv_aload hx hb dX7_work_31 (lv_at hl 2 rfl) ?_
            refine lv_ifnull hx hb dX7_work_33 ?_
            refine lv_aload hx hb dX7_work_36 (lv_at hl 1 rfl) ?_
            refine lv_ifnull hx hb dX7_work_38 ?_
            refine lv_aload hx hb dX7_work_41 (lv_at hl 0 rfl) ?_
            refine lv_ifnonnull (tgt := 53) hx hb dX7_work_43 (by decide) ?_
            have R2 := rg_ok hV c_1
            have R3 := rg_ok hV c_3
            have R4 := rg_ok hV c_5
            have qK : isK (wkK σ p2 p3) := isK_wk R2.1 R3.1
            refine lv_aload hx hb dX7_work_53 (lv_at hl 2 rfl) ?_
            refine vg_get (D := Dg) (ci := 1) (v := .int (σ.1 4 (ix p2))) (C := RX3) (T := TX3) (N := 2) hx hb hts in_X3_X7_work hown hK hP o_2.1 f_2 rfl 0 (by decide) (hts (.fieldLink RX7 139 "OrreryWorks$Register" "kind" "I") (by decide +kernel)) (fun _ h9 => h9) rfl dX7_work_55 ?_
            refine lv_aload hx hb dX7_work_58 (lv_at hl 1 rfl) ?_
            refine vg_get (D := Dg) (ci := 1) (v := .int (σ.1 4 (ix p3))) (C := RX3) (T := TX3) (N := 2) hx hb hts in_X3_X7_work hown hK hP o_4.1 f_4 rfl 0 (by decide) (hts (.fieldLink RX7 139 "OrreryWorks$Register" "kind" "I") (by decide +kernel)) (fun _ h9 => h9) rfl dX7_work_60 ?_
            refine va_mmax hx hb (hml.trans hl.1.symm) hown (hts (.methodLink RX7 143 Lib.Math.max.name) (by decide +kernel)) (hts (.static Lib.Math.max.name) (by decide +kernel)) (hts (.initialized "java/lang/Math") (by decide +kernel)) (hts (.code Lib.Math.max.name Lib.Math.max.code 2 (some .int)) (by decide +kernel)) (Nat.le_of_ble_eq_true rfl) (Nat.le_of_ble_eq_true rfl) (Nat.le_of_ble_eq_true rfl) (Nat.le_of_ble_eq_true rfl) dX7_work_63 ?_
            refine lv_topi (fun z_9 ez_9 => ?_)
            rw [show z_9 = wkK σ p2 p3 from ez_9.trans max_wk]
            refine lv_istore (lv' := [(8, .int (wkK σ p2 p3)), (7, .ref (ad 1 (ix p4))), (6, .ref (ad 1 (ix p3))), (5, .ref (ad 1 (ix p2))), (0, .ref x0), (1, .int p1), (2, .int p2), (3, .int p3), (4, .int p4)]) hx hb dX7_work_66 hl (by decide) rfl (fun ls hl => ?_)
            refine lv_aload hx hb dX7_work_68 (lv_at hl 3 rfl) ?_
            refine vg_get (D := Dg) (ci := 1) (v := .int (σ.1 4 (ix p2))) (C := RX3) (T := TX3) (N := 2) hx hb hts in_X3_X7_work hown hK hP o_2.1 f_2 rfl 0 (by decide) (hts (.fieldLink RX7 139 "OrreryWorks$Register" "kind" "I") (by decide +kernel)) (fun _ h9 => h9) rfl dX7_work_70 ?_
            refine lv_aload hx hb dX7_work_73 (lv_at hl 3 rfl) ?_
            refine vg_get (D := Dg) (ci := 1) (v := .long (σ.2 2 (ix p2))) (C := RX3) (T := TX3) (N := 2) hx hb hts in_X3_X7_work hown hK hP o_2.1 f_2 rfl 1 (by decide) (hts (.fieldLink RX7 140 "OrreryWorks$Register" "bits" "J") (by decide +kernel)) (fun _ h9 => h9) rfl dX7_work_75 ?_
            refine lv_iload hx hb dX7_work_78 (lv_at hl 0 rfl) ?_
            refine vp_callSl ((va_runS (As := [.int (σ.1 4 (ix p2)), .long (σ.2 2 (ix p2)), .int (wkK σ p2 p3)]) (rest := []) ⟨hx, hb, hml, hown, hts⟩ (met_X0_cast l (σ.1 4 (ix p2)) (σ.2 2 (ix p2)) (wkK σ p2 p3) (okB_c R2.1 R2.2)) (va_cwS 3 hts gX7_work_X0_cast rfl rfl rfl (by decide +kernel) ⟨Nat.le_of_ble_eq_true rfl, Nat.le_of_ble_eq_true rfl⟩) ⟨fun _ _ _ _ q => q, fun U hU hW => ⟨rfl, trivial⟩⟩ rfl rfl hl.1 rfl (lv_room (Nat.le_of_ble_eq_true rfl)) dX7_work_80 ⟨Nat.le_of_ble_eq_true rfl, Nat.le_of_ble_eq_true rfl⟩).run) (fun r_1 h_1 => ?_)
            subst h_1
            refine lv_topl (fun z_10 ez_10 => ?_)
            rw [show z_10 = wkX σ p2 (wkK σ p2 p3) from ez_10.trans rfl]
            refine lv_lstore (lv' := [(9, .long (wkX σ p2 (wkK σ p2 p3))), (8, .int (wkK σ p2 p3)), (7, .ref (ad 1 (ix p4))), (6, .ref (ad 1 (ix p3))), (5, .ref (ad 1 (ix p2))), (0, .ref x0), (1, .int p1), (2, .int p2), (3, .int p3), (4, .int p4)]) hx hb dX7_work_83 hl (by decide) rfl (fun ls hl => ?_)
            refine lv_aload hx hb dX7_work_85 (lv_at hl 3 rfl) ?_
            refine vg_get (D := Dg) (ci := 1) (v := .int (σ.1 4 (ix p3))) (C := RX3) (T := TX3) (N := 2) hx hb hts in_X3_X7_work hown hK hP o_4.1 f_4 rfl 0 (by decide) (hts (.fieldLink RX7 139 "OrreryWorks$Register" "kind" "I") (by decide +kernel)) (fun _ h9 => h9) rfl dX7_work_87 ?_
            refine lv_aload hx hb dX7_work_90 (lv_at hl 3 rfl) ?_
            refine vg_get (D := Dg) (ci := 1) (v := .long (σ.2 2 (ix p3))) (C := RX3) (T := TX3) (N := 2) hx hb hts in_X3_X7_work hown hK hP o_4.1 f_4 rfl 1 (by decide) (hts (.fieldLink RX7 140 "OrreryWorks$Register" "bits" "J") (by decide +kernel)) (fun _ h9 => h9) rfl dX7_work_92 ?_
            refine lv_iload hx hb dX7_work_95 (lv_at hl 1 rfl) ?_
            refine vp_callSl ((va_runS (As := [.int (σ.1 4 (ix p3)), .long (σ.2 2 (ix p3)), .int (wkK σ p2 p3)]) (rest := []) ⟨hx, hb, hml, hown, hts⟩ (met_X0_cast l (σ.1 4 (ix p3)) (σ.2 2 (ix p3)) (wkK σ p2 p3) (okB_c R3.1 R3.2)) (va_cwS 3 hts gX7_work_X0_cast rfl rfl rfl (by decide +kernel) ⟨Nat.le_of_ble_eq_true rfl, Nat.le_of_ble_eq_true rfl⟩) ⟨fun _ _ _ _ q => q, fun U hU hW => ⟨rfl, trivial⟩⟩ rfl rfl hl.1 rfl (lv_room (Nat.le_of_ble_eq_true rfl)) dX7_work_97 ⟨Nat.le_of_ble_eq_true rfl, Nat.le_of_ble_eq_true rfl⟩).run) (fun r_2 h_2 => ?_)
            subst h_2
            refine lv_topl (fun z_11 ez_11 => ?_)
            rw [show z_11 = wkX σ p3 (wkK σ p2 p3) from ez_11.trans rfl]
            refine lv_lstore (lv' := [(11, .long (wkX σ p3 (wkK σ p2 p3))), (9, .long (wkX σ p2 (wkK σ p2 p3))), (8, .int (wkK σ p2 p3)), (7, .ref (ad 1 (ix p4))), (6, .ref (ad 1 (ix p3))), (5, .ref (ad 1 (ix p2))), (0, .ref x0), (1, .int p1), (2, .int p2), (3, .int p3), (4, .int p4)]) hx hb dX7_work_100 hl (by decide) rfl (fun ls hl => ?_)
            refine lv_iload hx hb dX7_work_102 (lv_at hl 2 rfl) ?_
            refine lv_iconst (v := 1) hx hb dX7_work_104 (by decide) ?_
            refine lv_icmp_gt (tgt := 127) hx hb dX7_work_105 (by decide) (fun c_12 => ?_) (fun c_12 => ?_)
            · refine lv_iload hx hb dX7_work_127 (lv_at hl 2 rfl) ?_
              refine lv_iload_n hx hb dX7_work_129 rfl (lv_at hl 7 rfl) ?_
              refine lv_lload hx hb dX7_work_130 (lv_at hl 1 rfl) ?_
              refine lv_lload hx hb dX7_work_132 (lv_at hl 0 rfl) ?_
              refine vp_callSi ((va_runS (As := [.int (wkK σ p2 p3), .int p1, .long (wkX σ p2 (wkK σ p2 p3)), .long (wkX σ p3 (wkK σ p2 p3))]) (rest := []) ⟨hx, hb, hml, hown, hts⟩ (met_X2_isVoid l (wkK σ p2 p3) p1 (wkX σ p2 (wkK σ p2 p3)) (wkX σ p3 (wkK σ p2 p3))) (va_cwS 4 hts gX7_work_X2_isVoid rfl rfl rfl (by decide +kernel) ⟨Nat.le_of_ble_eq_true rfl, Nat.le_of_ble_eq_true rfl⟩) ⟨fun _ _ _ _ q => q, fun U hU hW => ⟨rfl, trivial⟩⟩ rfl rfl hl.1 rfl (lv_room (Nat.le_of_ble_eq_true rfl)) dX7_work_134 ⟨Nat.le_of_ble_eq_true rfl, Nat.le_of_ble_eq_true rfl⟩).run) (fun r hw => ?_)
              subst hw
              refine lv_if_eq (tgt := 147) hx hb dX7_work_137 (by decide) (fun c_13 => ?_) (fun c_13 => ?_)
              · replace c_13 := bI_eq c_13
                have hw0 : wh_work σ p1 p2 p3 p4 = 0 := by simp only [wh_work, if_pos (yIn_h c_7 c_8), if_pos c_1, if_pos c_3, if_pos c_5, if_pos (g1_ge c_12), if_neg c_13]
                have gW := wo_ok hV hw0
                have hvW := wo_hv hV hw0 (yIn_h c_7 c_8) c_1 c_3 c_5
                refine lv_aload hx hb dX7_work_147 (lv_at hl 3 rfl) ?_
                refine lv_iload hx hb dX7_work_149 (lv_at hl 2 rfl) ?_
                refine lv_iload hx hb dX7_work_151 (lv_at hl 2 rfl) ?_
                refine lv_iload_n hx hb dX7_work_153 rfl (lv_at hl 7 rfl) ?_
                refine lv_lload hx hb dX7_work_154 (lv_at hl 1 rfl) ?_
                refine lv_lload hx hb dX7_work_156 (lv_at hl 0 rfl) ?_
                refine vp_callSl ((va_runS (As := [.int (wkK σ p2 p3), .int p1, .long (wkX σ p2 (wkK σ p2 p3)), .long (wkX σ p3 (wkK σ p2 p3))]) (rest := [.int (wkK σ p2 p3), .ref (ad 1 (ix p4))]) ⟨hx, hb, hml, hown, hts⟩ (met_X0_worked l (wkK σ p2 p3) p1 (wkX σ p2 (wkK σ p2 p3)) (wkX σ p3 (wkK σ p2 p3)) hvW) (va_cwS 4 hts gX7_work_X0_worked rfl rfl rfl (by decide +kernel) ⟨Nat.le_of_ble_eq_true rfl, Nat.le_of_ble_eq_true rfl⟩) ⟨fun _ _ _ _ q => q, fun U hU hW => ⟨rfl, trivial⟩⟩ rfl rfl hl.1 rfl (lv_room (Nat.le_of_ble_eq_true rfl)) dX7_work_158 ⟨Nat.le_of_ble_eq_true rfl, Nat.le_of_ble_eq_true rfl⟩).run) (fun r_3 h_3 => ?_)
                subst h_3
                refine lv_aload hx hb dX7_work_161 (lv_at hl 3 rfl) ?_
                refine vg_get (D := Dg) (ci := 1) (v := .int (σ.1 4 (ix p4))) (C := RX3) (T := TX3) (N := 2) hx hb hts in_X3_X7_work hown hK hP o_6.1 f_6 rfl 0 (by decide) (hts (.fieldLink RX7 139 "OrreryWorks$Register" "kind" "I") (by decide +kernel)) (fun _ h9 => h9) rfl dX7_work_163 ?_
                refine vp_callSl ((va_runS (As := [.int (wkK σ p2 p3), .long (wk (wkK σ p2 p3) p1 (wkX σ p2 (wkK σ p2 p3)) (wkX σ p3 (wkK σ p2 p3))), .int (σ.1 4 (ix p4))]) (rest := [.ref (ad 1 (ix p4))]) ⟨hx, hb, hml, hown, hts⟩ (met_X0_cast l (wkK σ p2 p3) (wk (wkK σ p2 p3) p1 (wkX σ p2 (wkK σ p2 p3)) (wkX σ p3 (wkK σ p2 p3))) (σ.1 4 (ix p4)) (okB_c gW.2.1 gW.2.2)) (va_cwS 3 hts gX7_work_X0_cast rfl rfl rfl (by decide +kernel) ⟨Nat.le_of_ble_eq_true rfl, Nat.le_of_ble_eq_true rfl⟩) ⟨fun _ _ _ _ q => q, fun U hU hW => ⟨rfl, trivial⟩⟩ rfl rfl hl.1 rfl (lv_room (Nat.le_of_ble_eq_true rfl)) dX7_work_166 ⟨Nat.le_of_ble_eq_true rfl, Nat.le_of_ble_eq_true rfl⟩).run) (fun r_4 h_4 => ?_)
                subst h_4
                refine vg_put (D := Dg) (ci := 1) (v := .long (cst (wkK σ p2 p3) (wk (wkK σ p2 p3) p1 (wkX σ p2 (wkK σ p2 p3)) (wkX σ p3 (wkK σ p2 p3))) (σ.1 4 (ix p4)))) (ty := .long) (C := RX3) (T := TX3) (N := 2) hx hb hts in_X3_X7_work tyX3 tyX3_ok nmX3 hown hK hP hD hS o_6.1 f_6 rfl 1 (by decide) (hts (.fieldLink RX7 140 "OrreryWorks$Register" "bits" "J") (by decide +kernel)) (fun _ h9 => h9) rfl (by decide +kernel) rfl rfl (Nat.le_of_ble_eq_true rfl) dX7_work_169 (fun H locs hP hD hS => ?_)
                have hP : va_P Dg vwCl (cX x0 b z (σ.1 0 0) (σ.1 2 0) (σ.1 2 1) (σ.1 2 2) (σ.1 2 3) (σ.1 2 4) (σ.1 1) (g 0) (g 1) (g 2) (g 3) (g 4) ++ va_pl L (va_up f (ad 1 (ix p4)) (.inr (1, [.int (σ.1 4 (ix p4)), .long (cst (wkK σ p2 p3) (wk (wkK σ p2 p3) p1 (wkX σ p2 (wkK σ p2 p3)) (wkX σ p3 (wkK σ p2 p3))) (σ.1 4 (ix p4)))])))) H := hP
                have hD : va_D A (cX x0 b z (σ.1 0 0) (σ.1 2 0) (σ.1 2 1) (σ.1 2 2) (σ.1 2 3) (σ.1 2 4) (σ.1 1) (g 0) (g 1) (g 2) (g 3) (g 4) ++ va_pl L (va_up f (ad 1 (ix p4)) (.inr (1, [.int (σ.1 4 (ix p4)), .long (cst (wkK σ p2 p3) (wk (wkK σ p2 p3) p1 (wkX σ p2 (wkK σ p2 p3)) (wkX σ p3 (wkK σ p2 p3))) (σ.1 4 (ix p4)))])))) := hD
                refine lv_aload_n hx hb dX7_work_172 rfl (lv_at hl 6 rfl) ?_
                refine lv_iconst (v := 1) hx hb dX7_work_173 (by decide) ?_
                have hFc := wFree hD hS hA
                refine va_calli (va_runV (As := [.int 1]) (rest := []) ⟨hx, hb, hml, hown, hts⟩ (met_X7_answer l Dg x0 H.size b z (σ.1 0 0) (σ.1 2 0) (σ.1 2 1) (σ.1 2 2) (σ.1 2 3) (σ.1 2 4) (σ.1 1) (g 0) (g 1) (g 2) (g 3) (g 4) L (va_up f (ad 1 (ix p4)) (.inr (1, [.int (σ.1 4 (ix p4)), .long (cst (wkK σ p2 p3) (wk (wkK σ p2 p3) p1 (wkX σ p2 (wkK σ p2 p3)) (wkX σ p3 (wkK σ p2 p3))) (σ.1 4 (ix p4)))]))) 1 ) (cwV 1 hts gX7_work_X7_answer rfl rfl rfl (by decide +kernel) ⟨Nat.le_of_ble_eq_true rfl, Nat.le_of_ble_eq_true rfl⟩) (wPreV hK hP (hD.weaken (fun _ _ _ _ => trivial)) (va_recv hK hP (ci := 5) (q0 := 0) rfl rfl)) rfl rfl hl.1 rfl (lv_room (Nat.le_of_ble_eq_true rfl)) dX7_work_174 ⟨Nat.le_of_ble_eq_true rfl, Nat.le_of_ble_eq_true rfl⟩) hS (fun q _ h => hFc q h) hFc (fun r u t H locs ht hvm hw hB _ _ hS => ?_)
                obtain ⟨hP, -, hD⟩ := hB
                rw [ht] at hP
                replace hD := hD.weaken (fun _ q _ h => hFc q.1 h)
                rw [hw.2] at hP hD
                rw [hw.1]
                clear hw hFc
                have hP : va_P Dg vwCl (cX x0 b z 0 (σ.1 2 0) (σ.1 2 1) (σ.1 2 2) (σ.1 2 3) (σ.1 2 4) (σ.1 1) (g 0) (g 1) (g 2) (g 3) (g 4) ++ va_pl L (va_up f (ad 1 (ix p4)) (.inr (1, [.int (σ.1 4 (ix p4)), .long (cst (wkK σ p2 p3) (wk (wkK σ p2 p3) p1 (wkX σ p2 (wkK σ p2 p3)) (wkX σ p3 (wkK σ p2 p3))) (σ.1 4 (ix p4)))])))) H := hP
                have hD : va_D A (cX x0 b z 0 (σ.1 2 0) (σ.1 2 1) (σ.1 2 2) (σ.1 2 3) (σ.1 2 4) (σ.1 1) (g 0) (g 1) (g 2) (g 3) (g 4) ++ va_pl L (va_up f (ad 1 (ix p4)) (.inr (1, [.int (σ.1 4 (ix p4)), .long (cst (wkK σ p2 p3) (wk (wkK σ p2 p3) p1 (wkX σ p2 (wkK σ p2 p3)) (wkX σ p3 (wkK σ p2 p3))) (σ.1 4 (ix p4)))])))) := hD
                have hw : wh_work σ p1 p2 p3 p4 = 0 := by exact hw0
                exact W.iret (v := 1) hx hb hr (fun t ht hW => ⟨⟨_, (cX x0 b z 0 (σ.1 2 0) (σ.1 2 1) (σ.1 2 2) (σ.1 2 3) (σ.1 2 4) (σ.1 1) (g 0) (g 1) (g 2) (g 3) (g 4) ++ va_pl L (va_up f (ad 1 (ix p4)) (.inr (1, [.int (σ.1 4 (ix p4)), .long (cst (wkK σ p2 p3) (wk (wkK σ p2 p3) p1 (wkX σ p2 (wkK σ p2 p3)) (wkX σ p3 (wkK σ p2 p3))) (σ.1 4 (ix p4)))])))), rfl, ⟨by rw [an_work, if_pos hw]; try rfl, L, va_up f (ad 1 (ix p4)) (.inr (1, [.int (σ.1 4 (ix p4)), .long (cst (wkK σ p2 p3) (wk (wkK σ p2 p3) p1 (wkX σ p2 (wkK σ p2 p3)) (wkX σ p3 (wkK σ p2 p3))) (σ.1 4 (ix p4)))])), ad, g, by rw [nw_work, if_pos hw]; rfl, by rw [nw_work, if_pos hw]; exact CI_store hC (inC_lt hV.1.2.1 c_5)⟩, by rw [ht]; exact hP, va_K.moved hW.alike hK, hD⟩, hS.F ht⟩) hS.2.2 dX7_work_177
              · replace c_13 := bI_ne c_13
                refine lv_aload_n hx hb dX7_work_140 rfl (lv_at hl 6 rfl) ?_
                refine lv_bipush (v := (-5)) hx hb dX7_work_141 (by decide) ?_
                have hFc := wFree hD hS hA
                refine va_calli (va_runV (As := [.int (-5)]) (rest := []) ⟨hx, hb, hml, hown, hts⟩ (met_X7_refuse l Dg x0 s.heap.size b z (σ.1 0 0) (σ.1 2 0) (σ.1 2 1) (σ.1 2 2) (σ.1 2 3) (σ.1 2 4) (σ.1 1) (g 0) (g 1) (g 2) (g 3) (g 4) L f (-5) (by decide) (by unfold vp_in; decide)) (cwV 1 hts gX7_work_X7_refuse rfl rfl rfl (by decide +kernel) ⟨Nat.le_of_ble_eq_true rfl, Nat.le_of_ble_eq_true rfl⟩) (wPreV hK hP (hD.weaken (fun _ _ _ _ => trivial)) (va_recv hK hP (ci := 5) (q0 := 0) rfl rfl)) rfl rfl hl.1 rfl (lv_room (Nat.le_of_ble_eq_true rfl)) dX7_work_143 ⟨Nat.le_of_ble_eq_true rfl, Nat.le_of_ble_eq_true rfl⟩) hS (fun q _ h => hFc q h) hFc (fun r u t H locs ht hvm hw hB _ _ hS => ?_)
                obtain ⟨hP, -, hD⟩ := hB
                rw [ht] at hP
                replace hD := hD.weaken (fun _ q _ h => hFc q.1 h)
                rw [hw.2] at hP hD
                rw [hw.1]
                clear hw hFc
                have hP : va_P Dg vwCl (cX x0 b z (-5) (σ.1 2 0) (σ.1 2 1) (σ.1 2 2) (σ.1 2 3) (σ.1 2 4) (rfO (-5) (σ.1 1)) (g 0) (g 1) (g 2) (g 3) (g 4) ++ va_pl L f) H := hP
                have hD : va_D A (cX x0 b z (-5) (σ.1 2 0) (σ.1 2 1) (σ.1 2 2) (σ.1 2 3) (σ.1 2 4) (rfO (-5) (σ.1 1)) (g 0) (g 1) (g 2) (g 3) (g 4) ++ va_pl L f) := hD
                have hw : wh_work σ p1 p2 p3 p4 = (-5) := by simp only [wh_work, if_pos (yIn_h c_7 c_8), if_pos c_1, if_pos c_3, if_pos c_5, if_pos (g1_ge c_12), if_pos c_13]
                have hn : ¬ wh_work σ p1 p2 p3 p4 = 0 := by rw [hw]; decide
                exact W.iret (v := (-5)) hx hb hr (fun t ht hW => ⟨⟨_, (cX x0 b z (-5) (σ.1 2 0) (σ.1 2 1) (σ.1 2 2) (σ.1 2 3) (σ.1 2 4) (rfO (-5) (σ.1 1)) (g 0) (g 1) (g 2) (g 3) (g 4) ++ va_pl L f), rfl, ⟨by rw [an_work, if_neg hn, hw]; try rfl, L, f, ad, g, by rw [nw_work, if_neg hn, hw]; rfl, by rw [nw_work, if_neg hn]; exact CI_rf hC _⟩, by rw [ht]; exact hP, va_K.moved hW.alike hK, hD⟩, hS.F ht⟩) hS.2.2 dX7_work_146
            · refine lv_iload_n hx hb dX7_work_108 rfl (lv_at hl 7 rfl) ?_
              refine lv_iconst (v := 3) hx hb dX7_work_109 (by decide) ?_
              refine lv_icmp_lt (tgt := 147) hx hb dX7_work_110 (by decide) (fun c_14 => ?_) (fun c_14 => ?_)
              · have hw0 : wh_work σ p1 p2 p3 p4 = 0 := by simp only [wh_work, if_pos (yIn_h c_7 c_8), if_pos c_1, if_pos c_3, if_pos c_5, if_neg (ng1_ge c_12), if_pos (l3_le c_14)]
                have gW := wo_ok hV hw0
                have hvW := wo_hv hV hw0 (yIn_h c_7 c_8) c_1 c_3 c_5
                refine lv_aload hx hb dX7_work_147 (lv_at hl 3 rfl) ?_
                refine lv_iload hx hb dX7_work_149 (lv_at hl 2 rfl) ?_
                refine lv_iload hx hb dX7_work_151 (lv_at hl 2 rfl) ?_
                refine lv_iload_n hx hb dX7_work_153 rfl (lv_at hl 7 rfl) ?_
                refine lv_lload hx hb dX7_work_154 (lv_at hl 1 rfl) ?_
                refine lv_lload hx hb dX7_work_156 (lv_at hl 0 rfl) ?_
                refine vp_callSl ((va_runS (As := [.int (wkK σ p2 p3), .int p1, .long (wkX σ p2 (wkK σ p2 p3)), .long (wkX σ p3 (wkK σ p2 p3))]) (rest := [.int (wkK σ p2 p3), .ref (ad 1 (ix p4))]) ⟨hx, hb, hml, hown, hts⟩ (met_X0_worked l (wkK σ p2 p3) p1 (wkX σ p2 (wkK σ p2 p3)) (wkX σ p3 (wkK σ p2 p3)) hvW) (va_cwS 4 hts gX7_work_X0_worked rfl rfl rfl (by decide +kernel) ⟨Nat.le_of_ble_eq_true rfl, Nat.le_of_ble_eq_true rfl⟩) ⟨fun _ _ _ _ q => q, fun U hU hW => ⟨rfl, trivial⟩⟩ rfl rfl hl.1 rfl (lv_room (Nat.le_of_ble_eq_true rfl)) dX7_work_158 ⟨Nat.le_of_ble_eq_true rfl, Nat.le_of_ble_eq_true rfl⟩).run) (fun r_5 h_5 => ?_)
                subst h_5
                refine lv_aload hx hb dX7_work_161 (lv_at hl 3 rfl) ?_
                refine vg_get (D := Dg) (ci := 1) (v := .int (σ.1 4 (ix p4))) (C := RX3) (T := TX3) (N := 2) hx hb hts in_X3_X7_work hown hK hP o_6.1 f_6 rfl 0 (by decide) (hts (.fieldLink RX7 139 "OrreryWorks$Register" "kind" "I") (by decide +kernel)) (fun _ h9 => h9) rfl dX7_work_163 ?_
                refine vp_callSl ((va_runS (As := [.int (wkK σ p2 p3), .long (wk (wkK σ p2 p3) p1 (wkX σ p2 (wkK σ p2 p3)) (wkX σ p3 (wkK σ p2 p3))), .int (σ.1 4 (ix p4))]) (rest := [.ref (ad 1 (ix p4))]) ⟨hx, hb, hml, hown, hts⟩ (met_X0_cast l (wkK σ p2 p3) (wk (wkK σ p2 p3) p1 (wkX σ p2 (wkK σ p2 p3)) (wkX σ p3 (wkK σ p2 p3))) (σ.1 4 (ix p4)) (okB_c gW.2.1 gW.2.2)) (va_cwS 3 hts gX7_work_X0_cast rfl rfl rfl (by decide +kernel) ⟨Nat.le_of_ble_eq_true rfl, Nat.le_of_ble_eq_true rfl⟩) ⟨fun _ _ _ _ q => q, fun U hU hW => ⟨rfl, trivial⟩⟩ rfl rfl hl.1 rfl (lv_room (Nat.le_of_ble_eq_true rfl)) dX7_work_166 ⟨Nat.le_of_ble_eq_true rfl, Nat.le_of_ble_eq_true rfl⟩).run) (fun r_6 h_6 => ?_)
                subst h_6
                refine vg_put (D := Dg) (ci := 1) (v := .long (cst (wkK σ p2 p3) (wk (wkK σ p2 p3) p1 (wkX σ p2 (wkK σ p2 p3)) (wkX σ p3 (wkK σ p2 p3))) (σ.1 4 (ix p4)))) (ty := .long) (C := RX3) (T := TX3) (N := 2) hx hb hts in_X3_X7_work tyX3 tyX3_ok nmX3 hown hK hP hD hS o_6.1 f_6 rfl 1 (by decide) (hts (.fieldLink RX7 140 "OrreryWorks$Register" "bits" "J") (by decide +kernel)) (fun _ h9 => h9) rfl (by decide +kernel) rfl rfl (Nat.le_of_ble_eq_true rfl) dX7_work_169 (fun H locs hP hD hS => ?_)
                have hP : va_P Dg vwCl (cX x0 b z (σ.1 0 0) (σ.1 2 0) (σ.1 2 1) (σ.1 2 2) (σ.1 2 3) (σ.1 2 4) (σ.1 1) (g 0) (g 1) (g 2) (g 3) (g 4) ++ va_pl L (va_up f (ad 1 (ix p4)) (.inr (1, [.int (σ.1 4 (ix p4)), .long (cst (wkK σ p2 p3) (wk (wkK σ p2 p3) p1 (wkX σ p2 (wkK σ p2 p3)) (wkX σ p3 (wkK σ p2 p3))) (σ.1 4 (ix p4)))])))) H := hP
                have hD : va_D A (cX x0 b z (σ.1 0 0) (σ.1 2 0) (σ.1 2 1) (σ.1 2 2) (σ.1 2 3) (σ.1 2 4) (σ.1 1) (g 0) (g 1) (g 2) (g 3) (g 4) ++ va_pl L (va_up f (ad 1 (ix p4)) (.inr (1, [.int (σ.1 4 (ix p4)), .long (cst (wkK σ p2 p3) (wk (wkK σ p2 p3) p1 (wkX σ p2 (wkK σ p2 p3)) (wkX σ p3 (wkK σ p2 p3))) (σ.1 4 (ix p4)))])))) := hD
                refine lv_aload_n hx hb dX7_work_172 rfl (lv_at hl 6 rfl) ?_
                refine lv_iconst (v := 1) hx hb dX7_work_173 (by decide) ?_
                have hFc := wFree hD hS hA
                refine va_calli (va_runV (As := [.int 1]) (rest := []) ⟨hx, hb, hml, hown, hts⟩ (met_X7_answer l Dg x0 H.size b z (σ.1 0 0) (σ.1 2 0) (σ.1 2 1) (σ.1 2 2) (σ.1 2 3) (σ.1 2 4) (σ.1 1) (g 0) (g 1) (g 2) (g 3) (g 4) L (va_up f (ad 1 (ix p4)) (.inr (1, [.int (σ.1 4 (ix p4)), .long (cst (wkK σ p2 p3) (wk (wkK σ p2 p3) p1 (wkX σ p2 (wkK σ p2 p3)) (wkX σ p3 (wkK σ p2 p3))) (σ.1 4 (ix p4)))]))) 1 ) (cwV 1 hts gX7_work_X7_answer rfl rfl rfl (by decide +kernel) ⟨Nat.le_of_ble_eq_true rfl, Nat.le_of_ble_eq_true rfl⟩) (wPreV hK hP (hD.weaken (fun _ _ _ _ => trivial)) (va_recv hK hP (ci := 5) (q0 := 0) rfl rfl)) rfl rfl hl.1 rfl (lv_room (Nat.le_of_ble_eq_true rfl)) dX7_work_174 ⟨Nat.le_of_ble_eq_true rfl, Nat.le_of_ble_eq_true rfl⟩) hS (fun q _ h => hFc q h) hFc (fun r u t H locs ht hvm hw hB _ _ hS => ?_)
                obtain ⟨hP, -, hD⟩ := hB
                rw [ht] at hP
                replace hD := hD.weaken (fun _ q _ h => hFc q.1 h)
                rw [hw.2] at hP hD
                rw [hw.1]
                clear hw hFc
                have hP : va_P Dg vwCl (cX x0 b z 0 (σ.1 2 0) (σ.1 2 1) (σ.1 2 2) (σ.1 2 3) (σ.1 2 4) (σ.1 1) (g 0) (g 1) (g 2) (g 3) (g 4) ++ va_pl L (va_up f (ad 1 (ix p4)) (.inr (1, [.int (σ.1 4 (ix p4)), .long (cst (wkK σ p2 p3) (wk (wkK σ p2 p3) p1 (wkX σ p2 (wkK σ p2 p3)) (wkX σ p3 (wkK σ p2 p3))) (σ.1 4 (ix p4)))])))) H := hP
                have hD : va_D A (cX x0 b z 0 (σ.1 2 0) (σ.1 2 1) (σ.1 2 2) (σ.1 2 3) (σ.1 2 4) (σ.1 1) (g 0) (g 1) (g 2) (g 3) (g 4) ++ va_pl L (va_up f (ad 1 (ix p4)) (.inr (1, [.int (σ.1 4 (ix p4)), .long (cst (wkK σ p2 p3) (wk (wkK σ p2 p3) p1 (wkX σ p2 (wkK σ p2 p3)) (wkX σ p3 (wkK σ p2 p3))) (σ.1 4 (ix p4)))])))) := hD
                have hw : wh_work σ p1 p2 p3 p4 = 0 := by exact hw0
                exact W.iret (v := 1) hx hb hr (fun t ht hW => ⟨⟨_, (cX x0 b z 0 (σ.1 2 0) (σ.1 2 1) (σ.1 2 2) (σ.1 2 3) (σ.1 2 4) (σ.1 1) (g 0) (g 1) (g 2) (g 3) (g 4) ++ va_pl L (va_up f (ad 1 (ix p4)) (.inr (1, [.int (σ.1 4 (ix p4)), .long (cst (wkK σ p2 p3) (wk (wkK σ p2 p3) p1 (wkX σ p2 (wkK σ p2 p3)) (wkX σ p3 (wkK σ p2 p3))) (σ.1 4 (ix p4)))])))), rfl, ⟨by rw [an_work, if_pos hw]; try rfl, L, va_up f (ad 1 (ix p4)) (.inr (1, [.int (σ.1 4 (ix p4)), .long (cst (wkK σ p2 p3) (wk (wkK σ p2 p3) p1 (wkX σ p2 (wkK σ p2 p3)) (wkX σ p3 (wkK σ p2 p3))) (σ.1 4 (ix p4)))])), ad, g, by rw [nw_work, if_pos hw]; rfl, by rw [nw_work, if_pos hw]; exact CI_store hC (inC_lt hV.1.2.1 c_5)⟩, by rw [ht]; exact hP, va_K.moved hW.alike hK, hD⟩, hS.F ht⟩) hS.2.2 dX7_work_177
              · refine lv_lload hx hb dX7_work_113 (lv_at hl 0 rfl) ?_
                refine lv_lconst (v := 0) hx hb dX7_work_115 (by decide) ?_
                refine W.lcmp hx hb dX7_work_116 ?_
                refine lv_if_ne (tgt := 147) hx hb dX7_work_117 (by decide) (fun c_15 => ?_) (fun c_15 => ?_)
                · have hw0 : wh_work σ p1 p2 p3 p4 = 0 := by simp only [wh_work, if_pos (yIn_h c_7 c_8), if_pos c_1, if_pos c_3, if_pos c_5, if_neg (ng1_ge c_12), if_neg (nl3_le c_14), if_neg (fun g => c_15 (lgc_eqq.mpr g))]
                  have gW := wo_ok hV hw0
                  have hvW := wo_hv hV hw0 (yIn_h c_7 c_8) c_1 c_3 c_5
                  refine lv_aload hx hb dX7_work_147 (lv_at hl 3 rfl) ?_
                  refine lv_iload hx hb dX7_work_149 (lv_at hl 2 rfl) ?_
                  refine lv_iload hx hb dX7_work_151 (lv_at hl 2 rfl) ?_
                  refine lv_iload_n hx hb dX7_work_153 rfl (lv_at hl 7 rfl) ?_
                  refine lv_lload hx hb dX7_work_154 (lv_at hl 1 rfl) ?_
                  refine lv_lload hx hb dX7_work_156 (lv_at hl 0 rfl) ?_
                  refine vp_callSl ((va_runS (As := [.int (wkK σ p2 p3), .int p1, .long (wkX σ p2 (wkK σ p2 p3)), .long (wkX σ p3 (wkK σ p2 p3))]) (rest := [.int (wkK σ p2 p3), .ref (ad 1 (ix p4))]) ⟨hx, hb, hml, hown, hts⟩ (met_X0_worked l (wkK σ p2 p3) p1 (wkX σ p2 (wkK σ p2 p3)) (wkX σ p3 (wkK σ p2 p3)) hvW) (va_cwS 4 hts gX7_work_X0_worked rfl rfl rfl (by decide +kernel) ⟨Nat.le_of_ble_eq_true rfl, Nat.le_of_ble_eq_true rfl⟩) ⟨fun _ _ _ _ q => q, fun U hU hW => ⟨rfl, trivial⟩⟩ rfl rfl hl.1 rfl (lv_room (Nat.le_of_ble_eq_true rfl)) dX7_work_158 ⟨Nat.le_of_ble_eq_true rfl, Nat.le_of_ble_eq_true rfl⟩).run) (fun r_7 h_7 => ?_)
                  subst h_7
                  refine lv_aload hx hb dX7_work_161 (lv_at hl 3 rfl) ?_
                  refine vg_get (D := Dg) (ci := 1) (v := .int (σ.1 4 (ix p4))) (C := RX3) (T := TX3) (N := 2) hx hb hts in_X3_X7_work hown hK hP o_6.1 f_6 rfl 0 (by decide) (hts (.fieldLink RX7 139 "OrreryWorks$Register" "kind" "I") (by decide +kernel)) (fun _ h9 => h9) rfl dX7_work_163 ?_
                  refine vp_callSl ((va_runS (As := [.int (wkK σ p2 p3), .long (wk (wkK σ p2 p3) p1 (wkX σ p2 (wkK σ p2 p3)) (wkX σ p3 (wkK σ p2 p3))), .int (σ.1 4 (ix p4))]) (rest := [.ref (ad 1 (ix p4))]) ⟨hx, hb, hml, hown, hts⟩ (met_X0_cast l (wkK σ p2 p3) (wk (wkK σ p2 p3) p1 (wkX σ p2 (wkK σ p2 p3)) (wkX σ p3 (wkK σ p2 p3))) (σ.1 4 (ix p4)) (okB_c gW.2.1 gW.2.2)) (va_cwS 3 hts gX7_work_X0_cast rfl rfl rfl (by decide +kernel) ⟨Nat.le_of_ble_eq_true rfl, Nat.le_of_ble_eq_true rfl⟩) ⟨fun _ _ _ _ q => q, fun U hU hW => ⟨rfl, trivial⟩⟩ rfl rfl hl.1 rfl (lv_room (Nat.le_of_ble_eq_true rfl)) dX7_work_166 ⟨Nat.le_of_ble_eq_true rfl, Nat.le_of_ble_eq_true rfl⟩).run) (fun r_8 h_8 => ?_)
                  subst h_8
                  refine vg_put (D := Dg) (ci := 1) (v := .long (cst (wkK σ p2 p3) (wk (wkK σ p2 p3) p1 (wkX σ p2 (wkK σ p2 p3)) (wkX σ p3 (wkK σ p2 p3))) (σ.1 4 (ix p4)))) (ty := .long) (C := RX3) (T := TX3) (N := 2) hx hb hts in_X3_X7_work tyX3 tyX3_ok nmX3 hown hK hP hD hS o_6.1 f_6 rfl 1 (by decide) (hts (.fieldLink RX7 140 "OrreryWorks$Register" "bits" "J") (by decide +kernel)) (fun _ h9 => h9) rfl (by decide +kernel) rfl rfl (Nat.le_of_ble_eq_true rfl) dX7_work_169 (fun H locs hP hD hS => ?_)
                  have hP : va_P Dg vwCl (cX x0 b z (σ.1 0 0) (σ.1 2 0) (σ.1 2 1) (σ.1 2 2) (σ.1 2 3) (σ.1 2 4) (σ.1 1) (g 0) (g 1) (g 2) (g 3) (g 4) ++ va_pl L (va_up f (ad 1 (ix p4)) (.inr (1, [.int (σ.1 4 (ix p4)), .long (cst (wkK σ p2 p3) (wk (wkK σ p2 p3) p1 (wkX σ p2 (wkK σ p2 p3)) (wkX σ p3 (wkK σ p2 p3))) (σ.1 4 (ix p4)))])))) H := hP
                  have hD : va_D A (cX x0 b z (σ.1 0 0) (σ.1 2 0) (σ.1 2 1) (σ.1 2 2) (σ.1 2 3) (σ.1 2 4) (σ.1 1) (g 0) (g 1) (g 2) (g 3) (g 4) ++ va_pl L (va_up f (ad 1 (ix p4)) (.inr (1, [.int (σ.1 4 (ix p4)), .long (cst (wkK σ p2 p3) (wk (wkK σ p2 p3) p1 (wkX σ p2 (wkK σ p2 p3)) (wkX σ p3 (wkK σ p2 p3))) (σ.1 4 (ix p4)))])))) := hD
                  refine lv_aload_n hx hb dX7_work_172 rfl (lv_at hl 6 rfl) ?_
                  refine lv_iconst (v := 1) hx hb dX7_work_173 (by decide) ?_
                  have hFc := wFree hD hS hA
                  refine va_calli (va_runV (As := [.int 1]) (rest := []) ⟨hx, hb, hml, hown, hts⟩ (met_X7_answer l Dg x0 H.size b z (σ.1 0 0) (σ.1 2 0) (σ.1 2 1) (σ.1 2 2) (σ.1 2 3) (σ.1 2 4) (σ.1 1) (g 0) (g 1) (g 2) (g 3) (g 4) L (va_up f (ad 1 (ix p4)) (.inr (1, [.int (σ.1 4 (ix p4)), .long (cst (wkK σ p2 p3) (wk (wkK σ p2 p3) p1 (wkX σ p2 (wkK σ p2 p3)) (wkX σ p3 (wkK σ p2 p3))) (σ.1 4 (ix p4)))]))) 1 ) (cwV 1 hts gX7_work_X7_answer rfl rfl rfl (by decide +kernel) ⟨Nat.le_of_ble_eq_true rfl, Nat.le_of_ble_eq_true rfl⟩) (wPreV hK hP (hD.weaken (fun _ _ _ _ => trivial)) (va_recv hK hP (ci := 5) (q0 := 0) rfl rfl)) rfl rfl hl.1 rfl (lv_room (Nat.le_of_ble_eq_true rfl)) dX7_work_174 ⟨Nat.le_of_ble_eq_true rfl, Nat.le_of_ble_eq_true rfl⟩) hS (fun q _ h => hFc q h) hFc (fun r u t H locs ht hvm hw hB _ _ hS => ?_)
                  obtain ⟨hP, -, hD⟩ := hB
                  rw [ht] at hP
                  replace hD := hD.weaken (fun _ q _ h => hFc q.1 h)
                  rw [hw.2] at hP hD
                  rw [hw.1]
                  clear hw hFc
                  have hP : va_P Dg vwCl (cX x0 b z 0 (σ.1 2 0) (σ.1 2 1) (σ.1 2 2) (σ.1 2 3) (σ.1 2 4) (σ.1 1) (g 0) (g 1) (g 2) (g 3) (g 4) ++ va_pl L (va_up f (ad 1 (ix p4)) (.inr (1, [.int (σ.1 4 (ix p4)), .long (cst (wkK σ p2 p3) (wk (wkK σ p2 p3) p1 (wkX σ p2 (wkK σ p2 p3)) (wkX σ p3 (wkK σ p2 p3))) (σ.1 4 (ix p4)))])))) H := hP
                  have hD : va_D A (cX x0 b z 0 (σ.1 2 0) (σ.1 2 1) (σ.1 2 2) (σ.1 2 3) (σ.1 2 4) (σ.1 1) (g 0) (g 1) (g 2) (g 3) (g 4) ++ va_pl L (va_up f (ad 1 (ix p4)) (.inr (1, [.int (σ.1 4 (ix p4)), .long (cst (wkK σ p2 p3) (wk (wkK σ p2 p3) p1 (wkX σ p2 (wkK σ p2 p3)) (wkX σ p3 (wkK σ p2 p3))) (σ.1 4 (ix p4)))])))) := hD
                  have hw : wh_work σ p1 p2 p3 p4 = 0 := by exact hw0
                  exact W.iret (v := 1) hx hb hr (fun t ht hW => ⟨⟨_, (cX x0 b z 0 (σ.1 2 0) (σ.1 2 1) (σ.1 2 2) (σ.1 2 3) (σ.1 2 4) (σ.1 1) (g 0) (g 1) (g 2) (g 3) (g 4) ++ va_pl L (va_up f (ad 1 (ix p4)) (.inr (1, [.int (σ.1 4 (ix p4)), .long (cst (wkK σ p2 p3) (wk (wkK σ p2 p3) p1 (wkX σ p2 (wkK σ p2 p3)) (wkX σ p3 (wkK σ p2 p3))) (σ.1 4 (ix p4)))])))), rfl, ⟨by rw [an_work, if_pos hw]; try rfl, L, va_up f (ad 1 (ix p4)) (.inr (1, [.int (σ.1 4 (ix p4)), .long (cst (wkK σ p2 p3) (wk (wkK σ p2 p3) p1 (wkX σ p2 (wkK σ p2 p3)) (wkX σ p3 (wkK σ p2 p3))) (σ.1 4 (ix p4)))])), ad, g, by rw [nw_work, if_pos hw]; rfl, by rw [nw_work, if_pos hw]; exact CI_store hC (inC_lt hV.1.2.1 c_5)⟩, by rw [ht]; exact hP, va_K.moved hW.alike hK, hD⟩, hS.F ht⟩) hS.2.2 dX7_work_177
                · refine lv_aload_n hx hb dX7_work_120 rfl (lv_at hl 6 rfl) ?_
                  refine lv_bipush (v := (-6)) hx hb dX7_work_121 (by decide) ?_
                  have hFc := wFree hD hS hA
                  refine va_calli (va_runV (As := [.int (-6)]) (rest := []) ⟨hx, hb, hml, hown, hts⟩ (met_X7_refuse l Dg x0 s.heap.size b z (σ.1 0 0) (σ.1 2 0) (σ.1 2 1) (σ.1 2 2) (σ.1 2 3) (σ.1 2 4) (σ.1 1) (g 0) (g 1) (g 2) (g 3) (g 4) L f (-6) (by decide) (by unfold vp_in; decide)) (cwV 1 hts gX7_work_X7_refuse rfl rfl rfl (by decide +kernel) ⟨Nat.le_of_ble_eq_true rfl, Nat.le_of_ble_eq_true rfl⟩) (wPreV hK hP (hD.weaken (fun _ _ _ _ => trivial)) (va_recv hK hP (ci := 5) (q0 := 0) rfl rfl)) rfl rfl hl.1 rfl (lv_room (Nat.le_of_ble_eq_true rfl)) dX7_work_123 ⟨Nat.le_of_ble_eq_true rfl, Nat.le_of_ble_eq_true rfl⟩) hS (fun q _ h => hFc q h) hFc (fun r u t H locs ht hvm hw hB _ _ hS => ?_)
                  obtain ⟨hP, -, hD⟩ := hB
                  rw [ht] at hP
                  replace hD := hD.weaken (fun _ q _ h => hFc q.1 h)
                  rw [hw.2] at hP hD
                  rw [hw.1]
                  clear hw hFc
                  have hP : va_P Dg vwCl (cX x0 b z (-6) (σ.1 2 0) (σ.1 2 1) (σ.1 2 2) (σ.1 2 3) (σ.1 2 4) (rfO (-6) (σ.1 1)) (g 0) (g 1) (g 2) (g 3) (g 4) ++ va_pl L f) H := hP
                  have hD : va_D A (cX x0 b z (-6) (σ.1 2 0) (σ.1 2 1) (σ.1 2 2) (σ.1 2 3) (σ.1 2 4) (rfO (-6) (σ.1 1)) (g 0) (g 1) (g 2) (g 3) (g 4) ++ va_pl L f) := hD
                  have hw : wh_work σ p1 p2 p3 p4 = (-6) := by simp only [wh_work, if_pos (yIn_h c_7 c_8), if_pos c_1, if_pos c_3, if_pos c_5, if_neg (ng1_ge c_12), if_neg (nl3_le c_14), if_pos (lgc_eqq.mp c_15)]
                  have hn : ¬ wh_work σ p1 p2 p3 p4 = 0 := by rw [hw]; decide
                  exact W.iret (v := (-6)) hx hb hr (fun t ht hW => ⟨⟨_, (cX x0 b z (-6) (σ.1 2 0) (σ.1 2 1) (σ.1 2 2) (σ.1 2 3) (σ.1 2 4) (rfO (-6) (σ.1 1)) (g 0) (g 1) (g 2) (g 3) (g 4) ++ va_pl L f), rfl, ⟨by rw [an_work, if_neg hn, hw]; try rfl, L, f, ad, g, by rw [nw_work, if_neg hn, hw]; rfl, by rw [nw_work, if_neg hn]; exact CI_rf hC _⟩, by rw [ht]; exact hP, va_K.moved hW.alike hK, hD⟩, hS.F ht⟩) hS.2.2 dX7_work_126
      · refine va_csq ((va_runV (As := [.int p4]) (rest := []) ⟨hx, hb, hml, hown, hts⟩ (met_X7_registerAt l Dg x0 b z (σ.1 0 0) (σ.1 2 0) (σ.1 2 1) (σ.1 2 2) (σ.1 2 3) (σ.1 2 4) (σ.1 1) (g 0) (g 1) (g 2) (g 3) (g 4) L f p4 hV.1.2.1) (cwV 1 hts gX7_work_X7_registerAt rfl rfl rfl (by decide +kernel) ⟨Nat.le_of_ble_eq_true rfl, Nat.le_of_ble_eq_true rfl⟩) (rPreV hK hP (va_recv hK hP (ci := 5) (q0 := 0) rfl rfl)) rfl rfl hl.1 rfl (lv_room (Nat.le_of_ble_eq_true rfl)) dX7_work_17 ⟨Nat.le_of_ble_eq_true rfl, Nat.le_of_ble_eq_true rfl⟩).run) (fun r hw => ?_)
        obtain rfl : r = none := hw.trans (if_neg c_5)
        refine W.eq (g2 := F0 m 20 ls [.null]) rfl ?_
        refine lv_astoreN (lv' := [(7, .null), (6, .ref (ad 1 (ix p3))), (5, .ref (ad 1 (ix p2))), (0, .ref x0), (1, .int p1), (2, .int p2), (3, .int p3), (4, .int p4)]) hx hb dX7_work_20 hl (by decide) rfl (fun ls hl => ?_)
        refine lv_iload_n hx hb dX7_work_22 rfl (lv_at hl 4 rfl) ?_
        refine lv_if_lt (tgt := 46) hx hb dX7_work_23 (by decide) (fun c_16 => ?_) (fun c_16 => ?_)
        · refine lv_aload_n hx hb dX7_work_46 rfl (lv_at hl 3 rfl) ?_
          refine lv_bipush (v := (-2)) hx hb dX7_work_47 (by decide) ?_
          have hFc := wFree hD hS hA
          refine va_calli (va_runV (As := [.int (-2)]) (rest := []) ⟨hx, hb, hml, hown, hts⟩ (met_X7_refuse l Dg x0 s.heap.size b z (σ.1 0 0) (σ.1 2 0) (σ.1 2 1) (σ.1 2 2) (σ.1 2 3) (σ.1 2 4) (σ.1 1) (g 0) (g 1) (g 2) (g 3) (g 4) L f (-2) (by decide) (by unfold vp_in; decide)) (cwV 1 hts gX7_work_X7_refuse rfl rfl rfl (by decide +kernel) ⟨Nat.le_of_ble_eq_true rfl, Nat.le_of_ble_eq_true rfl⟩) (wPreV hK hP (hD.weaken (fun _ _ _ _ => trivial)) (va_recv hK hP (ci := 5) (q0 := 0) rfl rfl)) rfl rfl hl.1 rfl (lv_room (Nat.le_of_ble_eq_true rfl)) dX7_work_49 ⟨Nat.le_of_ble_eq_true rfl, Nat.le_of_ble_eq_true rfl⟩) hS (fun q _ h => hFc q h) hFc (fun r u t H locs ht hvm hw hB _ _ hS => ?_)
          obtain ⟨hP, -, hD⟩ := hB
          rw [ht] at hP
          replace hD := hD.weaken (fun _ q _ h => hFc q.1 h)
          rw [hw.2] at hP hD
          rw [hw.1]
          clear hw hFc
          have hP : va_P Dg vwCl (cX x0 b z (-2) (σ.1 2 0) (σ.1 2 1) (σ.1 2 2) (σ.1 2 3) (σ.1 2 4) (rfO (-2) (σ.1 1)) (g 0) (g 1) (g 2) (g 3) (g 4) ++ va_pl L f) H := hP
          have hD : va_D A (cX x0 b z (-2) (σ.1 2 0) (σ.1 2 1) (σ.1 2 2) (σ.1 2 3) (σ.1 2 4) (rfO (-2) (σ.1 1)) (g 0) (g 1) (g 2) (g 3) (g 4) ++ va_pl L f) := hD
          have hw : wh_work σ p1 p2 p3 p4 = (-2) := by simp only [wh_work, if_neg (nIn_l (b := 4) c_16), if_pos c_1, if_pos c_3, if_neg c_5]
          have hn : ¬ wh_work σ p1 p2 p3 p4 = 0 := by rw [hw]; decide
          exact W.iret (v := (-2)) hx hb hr (fun t ht hW => ⟨⟨_, (cX x0 b z (-2) (σ.1 2 0) (σ.1 2 1) (σ.1 2 2) (σ.1 2 3) (σ.1 2 4) (rfO (-2) (σ.1 1)) (g 0) (g 1) (g 2) (g 3) (g 4) ++ va_pl L f), rfl, ⟨by rw [an_work, if_neg hn, hw]; try rfl, L, f, ad, g, by rw [nw_work, if_neg hn, hw]; rfl, by rw [nw_work, if_neg hn]; exact CI_rf hC _⟩, by rw [ht]; exact hP, va_K.moved hW.alike hK, hD⟩, hS.F ht⟩) hS.2.2 dX7_work_52
        · refine lv_iload_n hx hb dX7_work_26 rfl (lv_at hl 4 rfl) ?_
          refine lv_iconst (v := 4) hx hb dX7_work_27 (by decide) ?_
          refine lv_icmp_gt (tgt := 46) hx hb dX7_work_28 (by decide) (fun c_17 => ?_) (fun c_17 => ?_)
          · refine lv_aload_n hx hb dX7_work_46 rfl (lv_at hl 3 rfl) ?_
            refine lv_bipush (v := (-2)) hx hb dX7_work_47 (by decide) ?_
            have hFc := wFree hD hS hA
            refine va_calli (va_runV (As := [.int (-2)]) (rest := []) ⟨hx, hb, hml, hown, hts⟩ (met_X7_refuse l Dg x0 s.heap.size b z (σ.1 0 0) (σ.1 2 0) (σ.1 2 1) (σ.1 2 2) (σ.1 2 3) (σ.1 2 4) (σ.1 1) (g 0) (g 1) (g 2) (g 3) (g 4) L f (-2) (by decide) (by unfold vp_in; decide)) (cwV 1 hts gX7_work_X7_refuse rfl rfl rfl (by decide +kernel) ⟨Nat.le_of_ble_eq_true rfl, Nat.le_of_ble_eq_true rfl⟩) (wPreV hK hP (hD.weaken (fun _ _ _ _ => trivial)) (va_recv hK hP (ci := 5) (q0 := 0) rfl rfl)) rfl rfl hl.1 rfl (lv_room (Nat.le_of_ble_eq_true rfl)) dX7_work_49 ⟨Nat.le_of_ble_eq_true rfl, Nat.le_of_ble_eq_true rfl⟩) hS (fun q _ h => hFc q h) hFc (fun r u t H locs ht hvm hw hB _ _ hS => ?_)
            obtain ⟨hP, -, hD⟩ := hB
            rw [ht] at hP
            replace hD := hD.weaken (fun _ q _ h => hFc q.1 h)
            rw [hw.2] at hP hD
            rw [hw.1]
            clear hw hFc
            have hP : va_P Dg vwCl (cX x0 b z (-2) (σ.1 2 0) (σ.1 2 1) (σ.1 2 2) (σ.1 2 3) (σ.1 2 4) (rfO (-2) (σ.1 1)) (g 0) (g 1) (g 2) (g 3) (g 4) ++ va_pl L f) H := hP
            have hD : va_D A (cX x0 b z (-2) (σ.1 2 0) (σ.1 2 1) (σ.1 2 2) (σ.1 2 3) (σ.1 2 4) (rfO (-2) (σ.1 1)) (g 0) (g 1) (g 2) (g 3) (g 4) ++ va_pl L f) := hD
            have hw : wh_work σ p1 p2 p3 p4 = (-2) := by simp only [wh_work, if_neg (nIn_h (a := 0) c_17), if_pos c_1, if_pos c_3, if_neg c_5]
            have hn : ¬ wh_work σ p1 p2 p3 p4 = 0 := by rw [hw]; decide
            exact W.iret (v := (-2)) hx hb hr (fun t ht hW => ⟨⟨_, (cX x0 b z (-2) (σ.1 2 0) (σ.1 2 1) (σ.1 2 2) (σ.1 2 3) (σ.1 2 4) (rfO (-2) (σ.1 1)) (g 0) (g 1) (g 2) (g 3) (g 4) ++ va_pl L f), rfl, ⟨by rw [an_work, if_neg hn, hw]; try rfl, L, f, ad, g, by rw [nw_work, if_neg hn, hw]; rfl, by rw [nw_work, if_neg hn]; exact CI_rf hC _⟩, by rw [ht]; exact hP, va_K.moved hW.alike hK, hD⟩, hS.F ht⟩) hS.2.2 dX7_work_52
          · refine lv_aload hx hb dX7_work_31 (lv_at hl 2 rfl) ?_
            refine lv_ifnull hx hb dX7_work_33 ?_
            refine lv_aload hx hb dX7_work_36 (lv_at hl 1 rfl) ?_
            refine lv_ifnull hx hb dX7_work_38 ?_
            refine lv_aloadN hx hb dX7_work_41 (lv_at hl 0 rfl) ?_
            refine lv_ifnonnullN hx hb dX7_work_43 ?_
            refine lv_aload_n hx hb dX7_work_46 rfl (lv_at hl 3 rfl) ?_
            refine lv_bipush (v := (-2)) hx hb dX7_work_47 (by decide) ?_
            have hFc := wFree hD hS hA
            refine va_calli (va_runV (As := [.int (-2)]) (rest := []) ⟨hx, hb, hml, hown, hts⟩ (met_X7_refuse l Dg x0 s.heap.size b z (σ.1 0 0) (σ.1 2 0) (σ.1 2 1) (σ.1 2 2) (σ.1 2 3) (σ.1 2 4) (σ.1 1) (g 0) (g 1) (g 2) (g 3) (g 4) L f (-2) (by decide) (by unfold vp_in; decide)) (cwV 1 hts gX7_work_X7_refuse rfl rfl rfl (by decide +kernel) ⟨Nat.le_of_ble_eq_true rfl, Nat.le_of_ble_eq_true rfl⟩) (wPreV hK hP (hD.weaken (fun _ _ _ _ => trivial)) (va_recv hK hP (ci := 5) (q0 := 0) rfl rfl)) rfl rfl hl.1 rfl (lv_room (Nat.le_of_ble_eq_true rfl)) dX7_work_49 ⟨Nat.le_of_ble_eq_true rfl, Nat.le_of_ble_eq_true rfl⟩) hS (fun q _ h => hFc q h) hFc (fun r u t H locs ht hvm hw hB _ _ hS => ?_)
            obtain ⟨hP, -, hD⟩ := hB
            rw [ht] at hP
            replace hD := hD.weaken (fun _ q _ h => hFc q.1 h)
            rw [hw.2] at hP hD
            rw [hw.1]
            clear hw hFc
            have hP : va_P Dg vwCl (cX x0 b z (-2) (σ.1 2 0) (σ.1 2 1) (σ.1 2 2) (σ.1 2 3) (σ.1 2 4) (rfO (-2) (σ.1 1)) (g 0) (g 1) (g 2) (g 3) (g 4) ++ va_pl L f) H := hP
            have hD : va_D A (cX x0 b z (-2) (σ.1 2 0) (σ.1 2 1) (σ.1 2 2) (σ.1 2 3) (σ.1 2 4) (rfO (-2) (σ.1 1)) (g 0) (g 1) (g 2) (g 3) (g 4) ++ va_pl L f) := hD
            have hw : wh_work σ p1 p2 p3 p4 = (-2) := by simp only [wh_work, if_pos (yIn_h c_16 c_17), if_pos c_1, if_pos c_3, if_neg c_5]
            have hn : ¬ wh_work σ p1 p2 p3 p4 = 0 := by rw [hw]; decide
            exact W.iret (v := (-2)) hx hb hr (fun t ht hW => ⟨⟨_, (cX x0 b z (-2) (σ.1 2 0) (σ.1 2 1) (σ.1 2 2) (σ.1 2 3) (σ.1 2 4) (rfO (-2) (σ.1 1)) (g 0) (g 1) (g 2) (g 3) (g 4) ++ va_pl L f), rfl, ⟨by rw [an_work, if_neg hn, hw]; try rfl, L, f, ad, g, by rw [nw_work, if_neg hn, hw]; rfl, by rw [nw_work, if_neg hn]; exact CI_rf hC _⟩, by rw [ht]; exact hP, va_K.moved hW.alike hK, hD⟩, hS.F ht⟩) hS.2.2 dX7_work_52
    · refine va_csq ((va_runV (As := [.int p3]) (rest := []) ⟨hx, hb, hml, hown, hts⟩ (met_X7_registerAt l Dg x0 b z (σ.1 0 0) (σ.1 2 0) (σ.1 2 1) (σ.1 2 2) (σ.1 2 3) (σ.1 2 4) (σ.1 1) (g 0) (g 1) (g 2) (g 3) (g 4) L f p3 hV.1.2.1) (cwV 1 hts gX7_work_X7_registerAt rfl rfl rfl (by decide +kernel) ⟨Nat.le_of_ble_eq_true rfl, Nat.le_of_ble_eq_true rfl⟩) (rPreV hK hP (va_recv hK hP (ci := 5) (q0 := 0) rfl rfl)) rfl rfl hl.1 rfl (lv_room (Nat.le_of_ble_eq_true rfl)) dX7_work_9 ⟨Nat.le_of_ble_eq_true rfl, Nat.le_of_ble_eq_true rfl⟩).run) (fun r hw => ?_)
      obtain rfl : r = none := hw.trans (if_neg c_3)
      refine W.eq (g2 := F0 m 12 ls [.null]) rfl ?_
      refine lv_astoreN (lv' := [(6, .null), (5, .ref (ad 1 (ix p2))), (0, .ref x0), (1, .int p1), (2, .int p2), (3, .int p3), (4, .int p4)]) hx hb dX7_work_12 hl (by decide) rfl (fun ls hl => ?_)
      refine lv_aload_n hx hb dX7_work_14 rfl (lv_at hl 2 rfl) ?_
      refine lv_iload hx hb dX7_work_15 (lv_at hl 6 rfl) ?_
      rcases Decidable.em (fX8_isIn p4 0 ((σ.1 2 1) - 1) = true) with c_18 | c_18
      · refine va_csq ((va_runV (As := [.int p4]) (rest := []) ⟨hx, hb, hml, hown, hts⟩ (met_X7_registerAt l Dg x0 b z (σ.1 0 0) (σ.1 2 0) (σ.1 2 1) (σ.1 2 2) (σ.1 2 3) (σ.1 2 4) (σ.1 1) (g 0) (g 1) (g 2) (g 3) (g 4) L f p4 hV.1.2.1) (cwV 1 hts gX7_work_X7_registerAt rfl rfl rfl (by decide +kernel) ⟨Nat.le_of_ble_eq_true rfl, Nat.le_of_ble_eq_true rfl⟩) (rPreV hK hP (va_recv hK hP (ci := 5) (q0 := 0) rfl rfl)) rfl rfl hl.1 rfl (lv_room (Nat.le_of_ble_eq_true rfl)) dX7_work_17 ⟨Nat.le_of_ble_eq_true rfl, Nat.le_of_ble_eq_true rfl⟩).run) (fun r hw => ?_)
        obtain rfl : r = some (ad 1 (ix p4)) := hw.trans ((if_pos c_18).trans (hC.2.2.1 _ (inC_lt hV.1.2.1 c_18)))
        refine W.eq (g2 := F0 m 20 ls [.ref (ad 1 (ix p4))]) rfl ?_
        have lt_19 := inC_lt hV.1.2.1 c_18
        have o_19 := hC.1.1 1 _ (by decide) lt_19
        have f_19 : f (ad 1 (ix p4)) = .inr (1, [.int (σ.1 4 (ix p4)), .long (σ.2 2 (ix p4))]) := o_19.2
        refine lv_astore (lv' := [(7, .ref (ad 1 (ix p4))), (6, .null), (5, .ref (ad 1 (ix p2))), (0, .ref x0), (1, .int p1), (2, .int p2), (3, .int p3), (4, .int p4)]) hx hb dX7_work_20 hl (by decide) rfl (fun ls hl => ?_)
        refine lv_iload_n hx hb dX7_work_22 rfl (lv_at hl 4 rfl) ?_
        refine lv_if_lt (tgt := 46) hx hb dX7_work_23 (by decide) (fun c_20 => ?_) (fun c_20 => ?_)
        · refine lv_aload_n hx hb dX7_work_46 rfl (lv_at hl 3 rfl) ?_
          refine lv_bipush (v := (-2)) hx hb dX7_work_47 (by decide) ?_
          have hFc := wFree hD hS hA
          refine va_calli (va_runV (As := [.int (-2)]) (rest := []) ⟨hx, hb, hml, hown, hts⟩ (met_X7_refuse l Dg x0 s.heap.size b z (σ.1 0 0) (σ.1 2 0) (σ.1 2 1) (σ.1 2 2) (σ.1 2 3) (σ.1 2 4) (σ.1 1) (g 0) (g 1) (g 2) (g 3) (g 4) L f (-2) (by decide) (by unfold vp_in; decide)) (cwV 1 hts gX7_work_X7_refuse rfl rfl rfl (by decide +kernel) ⟨Nat.le_of_ble_eq_true rfl, Nat.le_of_ble_eq_true rfl⟩) (wPreV hK hP (hD.weaken (fun _ _ _ _ => trivial)) (va_recv hK hP (ci := 5) (q0 := 0) rfl rfl)) rfl rfl hl.1 rfl (lv_room (Nat.le_of_ble_eq_true rfl)) dX7_work_49 ⟨Nat.le_of_ble_eq_true rfl, Nat.le_of_ble_eq_true rfl⟩) hS (fun q _ h => hFc q h) hFc (fun r u t H locs ht hvm hw hB _ _ hS => ?_)
          obtain ⟨hP, -, hD⟩ := hB
          rw [ht] at hP
          replace hD := hD.weaken (fun _ q _ h => hFc q.1 h)
          rw [hw.2] at hP hD
          rw [hw.1]
          clear hw hFc
          have hP : va_P Dg vwCl (cX x0 b z (-2) (σ.1 2 0) (σ.1 2 1) (σ.1 2 2) (σ.1 2 3) (σ.1 2 4) (rfO (-2) (σ.1 1)) (g 0) (g 1) (g 2) (g 3) (g 4) ++ va_pl L f) H := hP
          have hD : va_D A (cX x0 b z (-2) (σ.1 2 0) (σ.1 2 1) (σ.1 2 2) (σ.1 2 3) (σ.1 2 4) (rfO (-2) (σ.1 1)) (g 0) (g 1) (g 2) (g 3) (g 4) ++ va_pl L f) := hD
          have hw : wh_work σ p1 p2 p3 p4 = (-2) := by simp only [wh_work, if_neg (nIn_l (b := 4) c_20), if_pos c_1, if_neg c_3, if_pos c_18]
          have hn : ¬ wh_work σ p1 p2 p3 p4 = 0 := by rw [hw]; decide
          exact W.iret (v := (-2)) hx hb hr (fun t ht hW => ⟨⟨_, (cX x0 b z (-2) (σ.1 2 0) (σ.1 2 1) (σ.1 2 2) (σ.1 2 3) (σ.1 2 4) (rfO (-2) (σ.1 1)) (g 0) (g 1) (g 2) (g 3) (g 4) ++ va_pl L f), rfl, ⟨by rw [an_work, if_neg hn, hw]; try rfl, L, f, ad, g, by rw [nw_work, if_neg hn, hw]; rfl, by rw [nw_work, if_neg hn]; exact CI_rf hC _⟩, by rw [ht]; exact hP, va_K.moved hW.alike hK, hD⟩, hS.F ht⟩) hS.2.2 dX7_work_52
        · refine lv_iload_n hx hb dX7_work_26 rfl (lv_at hl 4 rfl) ?_
          refine lv_iconst (v := 4) hx hb dX7_work_27 (by decide) ?_
          refine lv_icmp_gt (tgt := 46) hx hb dX7_work_28 (by decide) (fun c_21 => ?_) (fun c_21 => ?_)
          · refine lv_aload_n hx hb dX7_work_46 rfl (lv_at hl 3 rfl) ?_
            refine lv_bipush (v := (-2)) hx hb dX7_work_47 (by decide) ?_
            have hFc := wFree hD hS hA
            refine va_calli (va_runV (As := [.int (-2)]) (rest := []) ⟨hx, hb, hml, hown, hts⟩ (met_X7_refuse l Dg x0 s.heap.size b z (σ.1 0 0) (σ.1 2 0) (σ.1 2 1) (σ.1 2 2) (σ.1 2 3) (σ.1 2 4) (σ.1 1) (g 0) (g 1) (g 2) (g 3) (g 4) L f (-2) (by decide) (by unfold vp_in; decide)) (cwV 1 hts gX7_work_X7_refuse rfl rfl rfl (by decide +kernel) ⟨Nat.le_of_ble_eq_true rfl, Nat.le_of_ble_eq_true rfl⟩) (wPreV hK hP (hD.weaken (fun _ _ _ _ => trivial)) (va_recv hK hP (ci := 5) (q0 := 0) rfl rfl)) rfl rfl hl.1 rfl (lv_room (Nat.le_of_ble_eq_true rfl)) dX7_work_49 ⟨Nat.le_of_ble_eq_true rfl, Nat.le_of_ble_eq_true rfl⟩) hS (fun q _ h => hFc q h) hFc (fun r u t H locs ht hvm hw hB _ _ hS => ?_)
            obtain ⟨hP, -, hD⟩ := hB
            rw [ht] at hP
            replace hD := hD.weaken (fun _ q _ h => hFc q.1 h)
            rw [hw.2] at hP hD
            rw [hw.1]
            clear hw hFc
            have hP : va_P Dg vwCl (cX x0 b z (-2) (σ.1 2 0) (σ.1 2 1) (σ.1 2 2) (σ.1 2 3) (σ.1 2 4) (rfO (-2) (σ.1 1)) (g 0) (g 1) (g 2) (g 3) (g 4) ++ va_pl L f) H := hP
            have hD : va_D A (cX x0 b z (-2) (σ.1 2 0) (σ.1 2 1) (σ.1 2 2) (σ.1 2 3) (σ.1 2 4) (rfO (-2) (σ.1 1)) (g 0) (g 1) (g 2) (g 3) (g 4) ++ va_pl L f) := hD
            have hw : wh_work σ p1 p2 p3 p4 = (-2) := by simp only [wh_work, if_neg (nIn_h (a := 0) c_21), if_pos c_1, if_neg c_3, if_pos c_18]
            have hn : ¬ wh_work σ p1 p2 p3 p4 = 0 := by rw [hw]; decide
            exact W.iret (v := (-2)) hx hb hr (fun t ht hW => ⟨⟨_, (cX x0 b z (-2) (σ.1 2 0) (σ.1 2 1) (σ.1 2 2) (σ.1 2 3) (σ.1 2 4) (rfO (-2) (σ.1 1)) (g 0) (g 1) (g 2) (g 3) (g 4) ++ va_pl L f), rfl, ⟨by rw [an_work, if_neg hn, hw]; try rfl, L, f, ad, g, by rw [nw_work, if_neg hn, hw]; rfl, by rw [nw_work, if_neg hn]; exact CI_rf hC _⟩, by rw [ht]; exact hP, va_K.moved hW.alike hK, hD⟩, hS.F ht⟩) hS.2.2 dX7_work_52
          · refine lv_aload hx hb dX7_work_31 (lv_at hl 2 rfl) ?_
            refine lv_ifnull hx hb dX7_work_33 ?_
            refine lv_aloadN hx hb dX7_work_36 (lv_at hl 1 rfl) ?_
            refine lv_ifnullN (tgt := 46) hx hb dX7_work_38 (by decide) ?_
            refine lv_aload_n hx hb dX7_work_46 rfl (lv_at hl 3 rfl) ?_
            refine lv_bipush (v := (-2)) hx hb dX7_work_47 (by decide) ?_
            have hFc := wFree hD hS hA
            refine va_calli (va_runV (As := [.int (-2)]) (rest := []) ⟨hx, hb, hml, hown, hts⟩ (met_X7_refuse l Dg x0 s.heap.size b z (σ.1 0 0) (σ.1 2 0) (σ.1 2 1) (σ.1 2 2) (σ.1 2 3) (σ.1 2 4) (σ.1 1) (g 0) (g 1) (g 2) (g 3) (g 4) L f (-2) (by decide) (by unfold vp_in; decide)) (cwV 1 hts gX7_work_X7_refuse rfl rfl rfl (by decide +kernel) ⟨Nat.le_of_ble_eq_true rfl, Nat.le_of_ble_eq_true rfl⟩) (wPreV hK hP (hD.weaken (fun _ _ _ _ => trivial)) (va_recv hK hP (ci := 5) (q0 := 0) rfl rfl)) rfl rfl hl.1 rfl (lv_room (Nat.le_of_ble_eq_true rfl)) dX7_work_49 ⟨Nat.le_of_ble_eq_true rfl, Nat.le_of_ble_eq_true rfl⟩) hS (fun q _ h => hFc q h) hFc (fun r u t H locs ht hvm hw hB _ _ hS => ?_)
            obtain ⟨hP, -, hD⟩ := hB
            rw [ht] at hP
            replace hD := hD.weaken (fun _ q _ h => hFc q.1 h)
            rw [hw.2] at hP hD
            rw [hw.1]
            clear hw hFc
            have hP : va_P Dg vwCl (cX x0 b z (-2) (σ.1 2 0) (σ.1 2 1) (σ.1 2 2) (σ.1 2 3) (σ.1 2 4) (rfO (-2) (σ.1 1)) (g 0) (g 1) (g 2) (g 3) (g 4) ++ va_pl L f) H := hP
            have hD : va_D A (cX x0 b z (-2) (σ.1 2 0) (σ.1 2 1) (σ.1 2 2) (σ.1 2 3) (σ.1 2 4) (rfO (-2) (σ.1 1)) (g 0) (g 1) (g 2) (g 3) (g 4) ++ va_pl L f) := hD
            have hw : wh_work σ p1 p2 p3 p4 = (-2) := by simp only [wh_work, if_pos (yIn_h c_20 c_21), if_pos c_1, if_neg c_3, if_pos c_18]
            have hn : ¬ wh_work σ p1 p2 p3 p4 = 0 := by rw [hw]; decide
            exact W.iret (v := (-2)) hx hb hr (fun t ht hW => ⟨⟨_, (cX x0 b z (-2) (σ.1 2 0) (σ.1 2 1) (σ.1 2 2) (σ.1 2 3) (σ.1 2 4) (rfO (-2) (σ.1 1)) (g 0) (g 1) (g 2) (g 3) (g 4) ++ va_pl L f), rfl, ⟨by rw [an_work, if_neg hn, hw]; try rfl, L, f, ad, g, by rw [nw_work, if_neg hn, hw]; rfl, by rw [nw_work, if_neg hn]; exact CI_rf hC _⟩, by rw [ht]; exact hP, va_K.moved hW.alike hK, hD⟩, hS.F ht⟩) hS.2.2 dX7_work_52
      · refine va_csq ((va_runV (As := [.int p4]) (rest := []) ⟨hx, hb, hml, hown, hts⟩ (met_X7_registerAt l Dg x0 b z (σ.1 0 0) (σ.1 2 0) (σ.1 2 1) (σ.1 2 2) (σ.1 2 3) (σ.1 2 4) (σ.1 1) (g 0) (g 1) (g 2) (g 3) (g 4) L f p4 hV.1.2.1) (cwV 1 hts gX7_work_X7_registerAt rfl rfl rfl (by decide +kernel) ⟨Nat.le_of_ble_eq_true rfl, Nat.le_of_ble_eq_true rfl⟩) (rPreV hK hP (va_recv hK hP (ci := 5) (q0 := 0) rfl rfl)) rfl rfl hl.1 rfl (lv_room (Nat.le_of_ble_eq_true rfl)) dX7_work_17 ⟨Nat.le_of_ble_eq_true rfl, Nat.le_of_ble_eq_true rfl⟩).run) (fun r hw => ?_)
        obtain rfl : r = none := hw.trans (if_neg c_18)
        refine W.eq (g2 := F0 m 20 ls [.null]) rfl ?_
        refine lv_astoreN (lv' := [(7, .null), (6, .null), (5, .ref (ad 1 (ix p2))), (0, .ref x0), (1, .int p1), (2, .int p2), (3, .int p3), (4, .int p4)]) hx hb dX7_work_20 hl (by decide) rfl (fun ls hl => ?_)
        refine lv_iload_n hx hb dX7_work_22 rfl (lv_at hl 4 rfl) ?_
        refine lv_if_lt (tgt := 46) hx hb dX7_work_23 (by decide) (fun c_22 => ?_) (fun c_22 => ?_)
        · refine lv_aload_n hx hb dX7_work_46 rfl (lv_at hl 3 rfl) ?_
          refine lv_bipush (v := (-2)) hx hb dX7_work_47 (by decide) ?_
          have hFc := wFree hD hS hA
          refine va_calli (va_runV (As := [.int (-2)]) (rest := []) ⟨hx, hb, hml, hown, hts⟩ (met_X7_refuse l Dg x0 s.heap.size b z (σ.1 0 0) (σ.1 2 0) (σ.1 2 1) (σ.1 2 2) (σ.1 2 3) (σ.1 2 4) (σ.1 1) (g 0) (g 1) (g 2) (g 3) (g 4) L f (-2) (by decide) (by unfold vp_in; decide)) (cwV 1 hts gX7_work_X7_refuse rfl rfl rfl (by decide +kernel) ⟨Nat.le_of_ble_eq_true rfl, Nat.le_of_ble_eq_true rfl⟩) (wPreV hK hP (hD.weaken (fun _ _ _ _ => trivial)) (va_recv hK hP (ci := 5) (q0 := 0) rfl rfl)) rfl rfl hl.1 rfl (lv_room (Nat.le_of_ble_eq_true rfl)) dX7_work_49 ⟨Nat.le_of_ble_eq_true rfl, Nat.le_of_ble_eq_true rfl⟩) hS (fun q _ h => hFc q h) hFc (fun r u t H locs ht hvm hw hB _ _ hS => ?_)
          obtain ⟨hP, -, hD⟩ := hB
          rw [ht] at hP
          replace hD := hD.weaken (fun _ q _ h => hFc q.1 h)
          rw [hw.2] at hP hD
          rw [hw.1]
          clear hw hFc
          have hP : va_P Dg vwCl (cX x0 b z (-2) (σ.1 2 0) (σ.1 2 1) (σ.1 2 2) (σ.1 2 3) (σ.1 2 4) (rfO (-2) (σ.1 1)) (g 0) (g 1) (g 2) (g 3) (g 4) ++ va_pl L f) H := hP
          have hD : va_D A (cX x0 b z (-2) (σ.1 2 0) (σ.1 2 1) (σ.1 2 2) (σ.1 2 3) (σ.1 2 4) (rfO (-2) (σ.1 1)) (g 0) (g 1) (g 2) (g 3) (g 4) ++ va_pl L f) := hD
          have hw : wh_work σ p1 p2 p3 p4 = (-2) := by simp only [wh_work, if_neg (nIn_l (b := 4) c_22), if_pos c_1, if_neg c_3, if_neg c_18]
          have hn : ¬ wh_work σ p1 p2 p3 p4 = 0 := by rw [hw]; decide
          exact W.iret (v := (-2)) hx hb hr (fun t ht hW => ⟨⟨_, (cX x0 b z (-2) (σ.1 2 0) (σ.1 2 1) (σ.1 2 2) (σ.1 2 3) (σ.1 2 4) (rfO (-2) (σ.1 1)) (g 0) (g 1) (g 2) (g 3) (g 4) ++ va_pl L f), rfl, ⟨by rw [an_work, if_neg hn, hw]; try rfl, L, f, ad, g, by rw [nw_work, if_neg hn, hw]; rfl, by rw [nw_work, if_neg hn]; exact CI_rf hC _⟩, by rw [ht]; exact hP, va_K.moved hW.alike hK, hD⟩, hS.F ht⟩) hS.2.2 dX7_work_52
        · refine lv_iload_n hx hb dX7_work_26 rfl (lv_at hl 4 rfl) ?_
          refine lv_iconst (v := 4) hx hb dX7_work_27 (by decide) ?_
          refine lv_icmp_gt (tgt := 46) hx hb dX7_work_28 (by decide) (fun c_23 => ?_) (fun c_23 => ?_)
          · refine lv_aload_n hx hb dX7_work_46 rfl (lv_at hl 3 rfl) ?_
            refine lv_bipush (v := (-2)) hx hb dX7_work_47 (by decide) ?_
            have hFc := wFree hD hS hA
            refine va_calli (va_runV (As := [.int (-2)]) (rest := []) ⟨hx, hb, hml, hown, hts⟩ (met_X7_refuse l Dg x0 s.heap.size b z (σ.1 0 0) (σ.1 2 0) (σ.1 2 1) (σ.1 2 2) (σ.1 2 3) (σ.1 2 4) (σ.1 1) (g 0) (g 1) (g 2) (g 3) (g 4) L f (-2) (by decide) (by unfold vp_in; decide)) (cwV 1 hts gX7_work_X7_refuse rfl rfl rfl (by decide +kernel) ⟨Nat.le_of_ble_eq_true rfl, Nat.le_of_ble_eq_true rfl⟩) (wPreV hK hP (hD.weaken (fun _ _ _ _ => trivial)) (va_recv hK hP (ci := 5) (q0 := 0) rfl rfl)) rfl rfl hl.1 rfl (lv_room (Nat.le_of_ble_eq_true rfl)) dX7_work_49 ⟨Nat.le_of_ble_eq_true rfl, Nat.le_of_ble_eq_true rfl⟩) hS (fun q _ h => hFc q h) hFc (fun r u t H locs ht hvm hw hB _ _ hS => ?_)
            obtain ⟨hP, -, hD⟩ := hB
            rw [ht] at hP
            replace hD := hD.weaken (fun _ q _ h => hFc q.1 h)
            rw [hw.2] at hP hD
            rw [hw.1]
            clear hw hFc
            have hP : va_P Dg vwCl (cX x0 b z (-2) (σ.1 2 0) (σ.1 2 1) (σ.1 2 2) (σ.1 2 3) (σ.1 2 4) (rfO (-2) (σ.1 1)) (g 0) (g 1) (g 2) (g 3) (g 4) ++ va_pl L f) H := hP
            have hD : va_D A (cX x0 b z (-2) (σ.1 2 0) (σ.1 2 1) (σ.1 2 2) (σ.1 2 3) (σ.1 2 4) (rfO (-2) (σ.1 1)) (g 0) (g 1) (g 2) (g 3) (g 4) ++ va_pl L f) := hD
            have hw : wh_work σ p1 p2 p3 p4 = (-2) := by simp only [wh_work, if_neg (nIn_h (a := 0) c_23), if_pos c_1, if_neg c_3, if_neg c_18]
            have hn : ¬ wh_work σ p1 p2 p3 p4 = 0 := by rw [hw]; decide
            exact W.iret (v := (-2)) hx hb hr (fun t ht hW => ⟨⟨_, (cX x0 b z (-2) (σ.1 2 0) (σ.1 2 1) (σ.1 2 2) (σ.1 2 3) (σ.1 2 4) (rfO (-2) (σ.1 1)) (g 0) (g 1) (g 2) (g 3) (g 4) ++ va_pl L f), rfl, ⟨by rw [an_work, if_neg hn, hw]; try rfl, L, f, ad, g, by rw [nw_work, if_neg hn, hw]; rfl, by rw [nw_work, if_neg hn]; exact CI_rf hC _⟩, by rw [ht]; exact hP, va_K.moved hW.alike hK, hD⟩, hS.F ht⟩) hS.2.2 dX7_work_52
          · refine lv_aload hx hb dX7_work_31 (lv_at hl 2 rfl) ?_
            refine lv_ifnull hx hb dX7_work_33 ?_
            refine lv_aloadN hx hb dX7_work_36 (lv_at hl 1 rfl) ?_
            refine lv_ifnullN (tgt := 46) hx hb dX7_work_38 (by decide) ?_
            refine lv_aload_n hx hb dX7_work_46 rfl (lv_at hl 3 rfl) ?_
            refine lv_bipush (v := (-2)) hx hb dX7_work_47 (by decide) ?_
            have hFc := wFree hD hS hA
            refine va_calli (va_runV (As := [.int (-2)]) (rest := []) ⟨hx, hb, hml, hown, hts⟩ (met_X7_refuse l Dg x0 s.heap.size b z (σ.1 0 0) (σ.1 2 0) (σ.1 2 1) (σ.1 2 2) (σ.1 2 3) (σ.1 2 4) (σ.1 1) (g 0) (g 1) (g 2) (g 3) (g 4) L f (-2) (by decide) (by unfold vp_in; decide)) (cwV 1 hts gX7_work_X7_refuse rfl rfl rfl (by decide +kernel) ⟨Nat.le_of_ble_eq_true rfl, Nat.le_of_ble_eq_true rfl⟩) (wPreV hK hP (hD.weaken (fun _ _ _ _ => trivial)) (va_recv hK hP (ci := 5) (q0 := 0) rfl rfl)) rfl rfl hl.1 rfl (lv_room (Nat.le_of_ble_eq_true rfl)) dX7_work_49 ⟨Nat.le_of_ble_eq_true rfl, Nat.le_of_ble_eq_true rfl⟩) hS (fun q _ h => hFc q h) hFc (fun r u t H locs ht hvm hw hB _ _ hS => ?_)
            obtain ⟨hP, -, hD⟩ := hB
            rw [ht] at hP
            replace hD := hD.weaken (fun _ q _ h => hFc q.1 h)
            rw [hw.2] at hP hD
            rw [hw.1]
            clear hw hFc
            have hP : va_P Dg vwCl (cX x0 b z (-2) (σ.1 2 0) (σ.1 2 1) (σ.1 2 2) (σ.1 2 3) (σ.1 2 4) (rfO (-2) (σ.1 1)) (g 0) (g 1) (g 2) (g 3) (g 4) ++ va_pl L f) H := hP
            have hD : va_D A (cX x0 b z (-2) (σ.1 2 0) (σ.1 2 1) (σ.1 2 2) (σ.1 2 3) (σ.1 2 4) (rfO (-2) (σ.1 1)) (g 0) (g 1) (g 2) (g 3) (g 4) ++ va_pl L f) := hD
            have hw : wh_work σ p1 p2 p3 p4 = (-2) := by simp only [wh_work, if_pos (yIn_h c_22 c_23), if_pos c_1, if_neg c_3, if_neg c_18]
            have hn : ¬ wh_work σ p1 p2 p3 p4 = 0 := by rw [hw]; decide
            exact W.iret (v := (-2)) hx hb hr (fun t ht hW => ⟨⟨_, (cX x0 b z (-2) (σ.1 2 0) (σ.1 2 1) (σ.1 2 2) (σ.1 2 3) (σ.1 2 4) (rfO (-2) (σ.1 1)) (g 0) (g 1) (g 2) (g 3) (g 4) ++ va_pl L f), rfl, ⟨by rw [an_work, if_neg hn, hw]; try rfl, L, f, ad, g, by rw [nw_work, if_neg hn, hw]; rfl, by rw [nw_work, if_neg hn]; exact CI_rf hC _⟩, by rw [ht]; exact hP, va_K.moved hW.alike hK, hD⟩, hS.F ht⟩) hS.2.2 dX7_work_52
  · refine va_csq ((va_runV (As := [.int p2]) (rest := []) ⟨hx, hb, hml, hown, hts⟩ (met_X7_registerAt l Dg x0 b z (σ.1 0 0) (σ.1 2 0) (σ.1 2 1) (σ.1 2 2) (σ.1 2 3) (σ.1 2 4) (σ.1 1) (g 0) (g 1) (g 2) (g 3) (g 4) L f p2 hV.1.2.1) (cwV 1 hts gX7_work_X7_registerAt rfl rfl rfl (by decide +kernel) ⟨Nat.le_of_ble_eq_true rfl, Nat.le_of_ble_eq_true rfl⟩) (rPreV hK hP (va_recv hK hP (ci := 5) (q0 := 0) rfl rfl)) rfl rfl hl.1 rfl (lv_room (Nat.le_of_ble_eq_true rfl)) dX7_work_2 ⟨Nat.le_of_ble_eq_true rfl, Nat.le_of_ble_eq_true rfl⟩).run) (fun r hw => ?_)
    obtain rfl : r = none := hw.trans (if_neg c_1)
    refine W.eq (g2 := F0 m 5 ls [.null]) rfl ?_
    refine lv_astoreN (lv' := [(5, .null), (0, .ref x0), (1, .int p1), (2, .int p2), (3, .int p3), (4, .int p4)]) hx hb dX7_work_5 hl (by decide) rfl (fun ls hl => ?_)
    refine lv_aload_n hx hb dX7_work_7 rfl (lv_at hl 1 rfl) ?_
    refine lv_iload_n hx hb dX7_work_8 rfl (lv_at hl 4 rfl) ?_
    rcases Decidable.em (fX8_isIn p3 0 ((σ.1 2 1) - 1) = true) with c_24 | c_24
    · refine va_csq ((va_runV (As := [.int p3]) (rest := []) ⟨hx, hb, hml, hown, hts⟩ (met_X7_registerAt l Dg x0 b z (σ.1 0 0) (σ.1 2 0) (σ.1 2 1) (σ.1 2 2) (σ.1 2 3) (σ.1 2 4) (σ.1 1) (g 0) (g 1) (g 2) (g 3) (g 4) L f p3 hV.1.2.1) (cwV 1 hts gX7_work_X7_registerAt rfl rfl rfl (by decide +kernel) ⟨Nat.le_of_ble_eq_true rfl, Nat.le_of_ble_eq_true rfl⟩) (rPreV hK hP (va_recv hK hP (ci := 5) (q0 := 0) rfl rfl)) rfl rfl hl.1 rfl (lv_room (Nat.le_of_ble_eq_true rfl)) dX7_work_9 ⟨Nat.le_of_ble_eq_true rfl, Nat.le_of_ble_eq_true rfl⟩).run) (fun r hw => ?_)
      obtain rfl : r = some (ad 1 (ix p3)) := hw.trans ((if_pos c_24).trans (hC.2.2.1 _ (inC_lt hV.1.2.1 c_24)))
      refine W.eq (g2 := F0 m 12 ls [.ref (ad 1 (ix p3))]) rfl ?_
      have lt_25 := inC_lt hV.1.2.1 c_24
      have o_25 := hC.1.1 1 _ (by decide) lt_25
      have f_25 : f (ad 1 (ix p3)) = .inr (1, [.int (σ.1 4 (ix p3)), .long (σ.2 2 (ix p3))]) := o_25.2
      refine lv_astore (lv' := [(6, .ref (ad 1 (ix p3))), (5, .null), (0, .ref x0), (1, .int p1), (2, .int p2), (3, .int p3), (4, .int p4)]) hx hb dX7_work_12 hl (by decide) rfl (fun ls hl => ?_)
      refine lv_aload_n hx hb dX7_work_14 rfl (lv_at hl 2 rfl) ?_
      refine lv_iload hx hb dX7_work_15 (lv_at hl 6 rfl) ?_
      rcases Decidable.em (fX8_isIn p4 0 ((σ.1 2 1) - 1) = true) with c_26 | c_26
      · refine va_csq ((va_runV (As := [.int p4]) (rest := []) ⟨hx, hb, hml, hown, hts⟩ (met_X7_registerAt l Dg x0 b z (σ.1 0 0) (σ.1 2 0) (σ.1 2 1) (σ.1 2 2) (σ.1 2 3) (σ.1 2 4) (σ.1 1) (g 0) (g 1) (g 2) (g 3) (g 4) L f p4 hV.1.2.1) (cwV 1 hts gX7_work_X7_registerAt rfl rfl rfl (by decide +kernel) ⟨Nat.le_of_ble_eq_true rfl, Nat.le_of_ble_eq_true rfl⟩) (rPreV hK hP (va_recv hK hP (ci := 5) (q0 := 0) rfl rfl)) rfl rfl hl.1 rfl (lv_room (Nat.le_of_ble_eq_true rfl)) dX7_work_17 ⟨Nat.le_of_ble_eq_true rfl, Nat.le_of_ble_eq_true rfl⟩).run) (fun r hw => ?_)
        obtain rfl : r = some (ad 1 (ix p4)) := hw.trans ((if_pos c_26).trans (hC.2.2.1 _ (inC_lt hV.1.2.1 c_26)))
        refine W.eq (g2 := F0 m 20 ls [.ref (ad 1 (ix p4))]) rfl ?_
        have lt_27 := inC_lt hV.1.2.1 c_26
        have o_27 := hC.1.1 1 _ (by decide) lt_27
        have f_27 : f (ad 1 (ix p4)) = .inr (1, [.int (σ.1 4 (ix p4)), .long (σ.2 2 (ix p4))]) := o_27.2
        refine lv_astore (lv' := [(7, .ref (ad 1 (ix p4))), (6, .ref (ad 1 (ix p3))), (5, .null), (0, .ref x0), (1, .int p1), (2, .int p2), (3, .int p3), (4, .int p4)]) hx hb dX7_work_20 hl (by decide) rfl (fun ls hl => ?_)
        refine lv_iload_n hx hb dX7_work_22 rfl (lv_at hl 4 rfl) ?_
        refine lv_if_lt (tgt := 46) hx hb dX7_work_23 (by decide) (fun c_28 => ?_) (fun c_28 => ?_)
        · refine lv_aload_n hx hb dX7_work_46 rfl (lv_at hl 3 rfl) ?_
          refine lv_bipush (v := (-2)) hx hb dX7_work_47 (by decide) ?_
          have hFc := wFree hD hS hA
          refine va_calli (va_runV (As := [.int (-2)]) (rest := []) ⟨hx, hb, hml, hown, hts⟩ (met_X7_refuse l Dg x0 s.heap.size b z (σ.1 0 0) (σ.1 2 0) (σ.1 2 1) (σ.1 2 2) (σ.1 2 3) (σ.1 2 4) (σ.1 1) (g 0) (g 1) (g 2) (g 3) (g 4) L f (-2) (by decide) (by unfold vp_in; decide)) (cwV 1 hts gX7_work_X7_refuse rfl rfl rfl (by decide +kernel) ⟨Nat.le_of_ble_eq_true rfl, Nat.le_of_ble_eq_true rfl⟩) (wPreV hK hP (hD.weaken (fun _ _ _ _ => trivial)) (va_recv hK hP (ci := 5) (q0 := 0) rfl rfl)) rfl rfl hl.1 rfl (lv_room (Nat.le_of_ble_eq_true rfl)) dX7_work_49 ⟨Nat.le_of_ble_eq_true rfl, Nat.le_of_ble_eq_true rfl⟩) hS (fun q _ h => hFc q h) hFc (fun r u t H locs ht hvm hw hB _ _ hS => ?_)
          obtain ⟨hP, -, hD⟩ := hB
          rw [ht] at hP
          replace hD := hD.weaken (fun _ q _ h => hFc q.1 h)
          rw [hw.2] at hP hD
          rw [hw.1]
          clear hw hFc
          have hP : va_P Dg vwCl (cX x0 b z (-2) (σ.1 2 0) (σ.1 2 1) (σ.1 2 2) (σ.1 2 3) (σ.1 2 4) (rfO (-2) (σ.1 1)) (g 0) (g 1) (g 2) (g 3) (g 4) ++ va_pl L f) H := hP
          have hD : va_D A (cX x0 b z (-2) (σ.1 2 0) (σ.1 2 1) (σ.1 2 2) (σ.1 2 3) (σ.1 2 4) (rfO (-2) (σ.1 1)) (g 0) (g 1) (g 2) (g 3) (g 4) ++ va_pl L f) := hD
          have hw : wh_work σ p1 p2 p3 p4 = (-2) := by simp only [wh_work, if_neg (nIn_l (b := 4) c_28), if_neg c_1, if_pos c_24, if_pos c_26]
          have hn : ¬ wh_work σ p1 p2 p3 p4 = 0 := by rw [hw]; decide
          exact W.iret (v := (-2)) hx hb hr (fun t ht hW => ⟨⟨_, (cX x0 b z (-2) (σ.1 2 0) (σ.1 2 1) (σ.1 2 2) (σ.1 2 3) (σ.1 2 4) (rfO (-2) (σ.1 1)) (g 0) (g 1) (g 2) (g 3) (g 4) ++ va_pl L f), rfl, ⟨by rw [an_work, if_neg hn, hw]; try rfl, L, f, ad, g, by rw [nw_work, if_neg hn, hw]; rfl, by rw [nw_work, if_neg hn]; exact CI_rf hC _⟩, by rw [ht]; exact hP, va_K.moved hW.alike hK, hD⟩, hS.F ht⟩) hS.2.2 dX7_work_52
        · refine lv_iload_n hx hb dX7_work_26 rfl (lv_at hl 4 rfl) ?_
          refine lv_iconst (v := 4) hx hb dX7_work_27 (by decide) ?_
          refine lv_icmp_gt (tgt := 46) hx hb dX7_work_28 (by decide) (fun c_29 => ?_) (fun c_29 => ?_)
          · refine lv_aload_n hx hb dX7_work_46 rfl (lv_at hl 3 rfl) ?_
            refine lv_bipush (v := (-2)) hx hb dX7_work_47 (by decide) ?_
            have hFc := wFree hD hS hA
            refine va_calli (va_runV (As := [.int (-2)]) (rest := []) ⟨hx, hb, hml, hown, hts⟩ (met_X7_refuse l Dg x0 s.heap.size b z (σ.1 0 0) (σ.1 2 0) (σ.1 2 1) (σ.1 2 2) (σ.1 2 3) (σ.1 2 4) (σ.1 1) (g 0) (g 1) (g 2) (g 3) (g 4) L f (-2) (by decide) (by unfold vp_in; decide)) (cwV 1 hts gX7_work_X7_refuse rfl rfl rfl (by decide +kernel) ⟨Nat.le_of_ble_eq_true rfl, Nat.le_of_ble_eq_true rfl⟩) (wPreV hK hP (hD.weaken (fun _ _ _ _ => trivial)) (va_recv hK hP (ci := 5) (q0 := 0) rfl rfl)) rfl rfl hl.1 rfl (lv_room (Nat.le_of_ble_eq_true rfl)) dX7_work_49 ⟨Nat.le_of_ble_eq_true rfl, Nat.le_of_ble_eq_true rfl⟩) hS (fun q _ h => hFc q h) hFc (fun r u t H locs ht hvm hw hB _ _ hS => ?_)
            obtain ⟨hP, -, hD⟩ := hB
            rw [ht] at hP
            replace hD := hD.weaken (fun _ q _ h => hFc q.1 h)
            rw [hw.2] at hP hD
            rw [hw.1]
            clear hw hFc
            have hP : va_P Dg vwCl (cX x0 b z (-2) (σ.1 2 0) (σ.1 2 1) (σ.1 2 2) (σ.1 2 3) (σ.1 2 4) (rfO (-2) (σ.1 1)) (g 0) (g 1) (g 2) (g 3) (g 4) ++ va_pl L f) H := hP
            have hD : va_D A (cX x0 b z (-2) (σ.1 2 0) (σ.1 2 1) (σ.1 2 2) (σ.1 2 3) (σ.1 2 4) (rfO (-2) (σ.1 1)) (g 0) (g 1) (g 2) (g 3) (g 4) ++ va_pl L f) := hD
            have hw : wh_work σ p1 p2 p3 p4 = (-2) := by simp only [wh_work, if_neg (nIn_h (a := 0) c_29), if_neg c_1, if_pos c_24, if_pos c_26]
            have hn : ¬ wh_work σ p1 p2 p3 p4 = 0 := by rw [hw]; decide
            exact W.iret (v := (-2)) hx hb hr (fun t ht hW => ⟨⟨_, (cX x0 b z (-2) (σ.1 2 0) (σ.1 2 1) (σ.1 2 2) (σ.1 2 3) (σ.1 2 4) (rfO (-2) (σ.1 1)) (g 0) (g 1) (g 2) (g 3) (g 4) ++ va_pl L f), rfl, ⟨by rw [an_work, if_neg hn, hw]; try rfl, L, f, ad, g, by rw [nw_work, if_neg hn, hw]; rfl, by rw [nw_work, if_neg hn]; exact CI_rf hC _⟩, by rw [ht]; exact hP, va_K.moved hW.alike hK, hD⟩, hS.F ht⟩) hS.2.2 dX7_work_52
          · refine lv_aloadN hx hb dX7_work_31 (lv_at hl 2 rfl) ?_
            refine lv_ifnullN (tgt := 46) hx hb dX7_work_33 (by decide) ?_
            refine lv_aload_n hx hb dX7_work_46 rfl (lv_at hl 3 rfl) ?_
            refine lv_bipush (v := (-2)) hx hb dX7_work_47 (by decide) ?_
            have hFc := wFree hD hS hA
            refine va_calli (va_runV (As := [.int (-2)]) (rest := []) ⟨hx, hb, hml, hown, hts⟩ (met_X7_refuse l Dg x0 s.heap.size b z (σ.1 0 0) (σ.1 2 0) (σ.1 2 1) (σ.1 2 2) (σ.1 2 3) (σ.1 2 4) (σ.1 1) (g 0) (g 1) (g 2) (g 3) (g 4) L f (-2) (by decide) (by unfold vp_in; decide)) (cwV 1 hts gX7_work_X7_refuse rfl rfl rfl (by decide +kernel) ⟨Nat.le_of_ble_eq_true rfl, Nat.le_of_ble_eq_true rfl⟩) (wPreV hK hP (hD.weaken (fun _ _ _ _ => trivial)) (va_recv hK hP (ci := 5) (q0 := 0) rfl rfl)) rfl rfl hl.1 rfl (lv_room (Nat.le_of_ble_eq_true rfl)) dX7_work_49 ⟨Nat.le_of_ble_eq_true rfl, Nat.le_of_ble_eq_true rfl⟩) hS (fun q _ h => hFc q h) hFc (fun r u t H locs ht hvm hw hB _ _ hS => ?_)
            obtain ⟨hP, -, hD⟩ := hB
            rw [ht] at hP
            replace hD := hD.weaken (fun _ q _ h => hFc q.1 h)
            rw [hw.2] at hP hD
            rw [hw.1]
            clear hw hFc
            have hP : va_P Dg vwCl (cX x0 b z (-2) (σ.1 2 0) (σ.1 2 1) (σ.1 2 2) (σ.1 2 3) (σ.1 2 4) (rfO (-2) (σ.1 1)) (g 0) (g 1) (g 2) (g 3) (g 4) ++ va_pl L f) H := hP
            have hD : va_D A (cX x0 b z (-2) (σ.1 2 0) (σ.1 2 1) (σ.1 2 2) (σ.1 2 3) (σ.1 2 4) (rfO (-2) (σ.1 1)) (g 0) (g 1) (g 2) (g 3) (g 4) ++ va_pl L f) := hD
            have hw : wh_work σ p1 p2 p3 p4 = (-2) := by simp only [wh_work, if_pos (yIn_h c_28 c_29), if_neg c_1, if_pos c_24, if_pos c_26]
            have hn : ¬ wh_work σ p1 p2 p3 p4 = 0 := by rw [hw]; decide
            exact W.iret (v := (-2)) hx hb hr (fun t ht hW => ⟨⟨_, (cX x0 b z (-2) (σ.1 2 0) (σ.1 2 1) (σ.1 2 2) (σ.1 2 3) (σ.1 2 4) (rfO (-2) (σ.1 1)) (g 0) (g 1) (g 2) (g 3) (g 4) ++ va_pl L f), rfl, ⟨by rw [an_work, if_neg hn, hw]; try rfl, L, f, ad, g, by rw [nw_work, if_neg hn, hw]; rfl, by rw [nw_work, if_neg hn]; exact CI_rf hC _⟩, by rw [ht]; exact hP, va_K.moved hW.alike hK, hD⟩, hS.F ht⟩) hS.2.2 dX7_work_52
      · refine va_csq ((va_runV (As := [.int p4]) (rest := []) ⟨hx, hb, hml, hown, hts⟩ (met_X7_registerAt l Dg x0 b z (σ.1 0 0) (σ.1 2 0) (σ.1 2 1) (σ.1 2 2) (σ.1 2 3) (σ.1 2 4) (σ.1 1) (g 0) (g 1) (g 2) (g 3) (g 4) L f p4 hV.1.2.1) (cwV 1 hts gX7_work_X7_registerAt rfl rfl rfl (by decide +kernel) ⟨Nat.le_of_ble_eq_true rfl, Nat.le_of_ble_eq_true rfl⟩) (rPreV hK hP (va_recv hK hP (ci := 5) (q0 := 0) rfl rfl)) rfl rfl hl.1 rfl (lv_room (Nat.le_of_ble_eq_true rfl)) dX7_work_17 ⟨Nat.le_of_ble_eq_true rfl, Nat.le_of_ble_eq_true rfl⟩).run) (fun r hw => ?_)
        obtain rfl : r = none := hw.trans (if_neg c_26)
        refine W.eq (g2 := F0 m 20 ls [.null]) rfl ?_
        refine lv_astoreN (lv' := [(7, .null), (6, .ref (ad 1 (ix p3))), (5, .null), (0, .ref x0), (1, .int p1), (2, .int p2), (3, .int p3), (4, .int p4)]) hx hb dX7_work_20 hl (by decide) rfl (fun ls hl => ?_)
        refine lv_iload_n hx hb dX7_work_22 rfl (lv_at hl 4 rfl) ?_
        refine lv_if_lt (tgt := 46) hx hb dX7_work_23 (by decide) (fun c_30 => ?_) (fun c_30 => ?_)
        · refine lv_aload_n hx hb dX7_work_46 rfl (lv_at hl 3 rfl) ?_
          refine lv_bipush (v := (-2)) hx hb dX7_work_47 (by decide) ?_
          have hFc := wFree hD hS hA
          refine va_calli (va_runV (As := [.int (-2)]) (rest := []) ⟨hx, hb, hml, hown, hts⟩ (met_X7_refuse l Dg x0 s.heap.size b z (σ.1 0 0) (σ.1 2 0) (σ.1 2 1) (σ.1 2 2) (σ.1 2 3) (σ.1 2 4) (σ.1 1) (g 0) (g 1) (g 2) (g 3) (g 4) L f (-2) (by decide) (by unfold vp_in; decide)) (cwV 1 hts gX7_work_X7_refuse rfl rfl rfl (by decide +kernel) ⟨Nat.le_of_ble_eq_true rfl, Nat.le_of_ble_eq_true rfl⟩) (wPreV hK hP (hD.weaken (fun _ _ _ _ => trivial)) (va_recv hK hP (ci := 5) (q0 := 0) rfl rfl)) rfl rfl hl.1 rfl (lv_room (Nat.le_of_ble_eq_true rfl)) dX7_work_49 ⟨Nat.le_of_ble_eq_true rfl, Nat.le_of_ble_eq_true rfl⟩) hS (fun q _ h => hFc q h) hFc (fun r u t H locs ht hvm hw hB _ _ hS => ?_)
          obtain ⟨hP, -, hD⟩ := hB
          rw [ht] at hP
          replace hD := hD.weaken (fun _ q _ h => hFc q.1 h)
          rw [hw.2] at hP hD
          rw [hw.1]
          clear hw hFc
          have hP : va_P Dg vwCl (cX x0 b z (-2) (σ.1 2 0) (σ.1 2 1) (σ.1 2 2) (σ.1 2 3) (σ.1 2 4) (rfO (-2) (σ.1 1)) (g 0) (g 1) (g 2) (g 3) (g 4) ++ va_pl L f) H := hP
          have hD : va_D A (cX x0 b z (-2) (σ.1 2 0) (σ.1 2 1) (σ.1 2 2) (σ.1 2 3) (σ.1 2 4) (rfO (-2) (σ.1 1)) (g 0) (g 1) (g 2) (g 3) (g 4) ++ va_pl L f) := hD
          have hw : wh_work σ p1 p2 p3 p4 = (-2) := by simp only [wh_work, if_neg (nIn_l (b := 4) c_30), if_neg c_1, if_pos c_24, if_neg c_26]
          have hn : ¬ wh_work σ p1 p2 p3 p4 = 0 := by rw [hw]; decide
          exact W.iret (v := (-2)) hx hb hr (fun t ht hW => ⟨⟨_, (cX x0 b z (-2) (σ.1 2 0) (σ.1 2 1) (σ.1 2 2) (σ.1 2 3) (σ.1 2 4) (rfO (-2) (σ.1 1)) (g 0) (g 1) (g 2) (g 3) (g 4) ++ va_pl L f), rfl, ⟨by rw [an_work, if_neg hn, hw]; try rfl, L, f, ad, g, by rw [nw_work, if_neg hn, hw]; rfl, by rw [nw_work, if_neg hn]; exact CI_rf hC _⟩, by rw [ht]; exact hP, va_K.moved hW.alike hK, hD⟩, hS.F ht⟩) hS.2.2 dX7_work_52
        · refine lv_iload_n hx hb dX7_work_26 rfl (lv_at hl 4 rfl) ?_
          refine lv_iconst (v := 4) hx hb dX7_work_27 (by decide) ?_
          refine lv_icmp_gt (tgt := 46) hx hb dX7_work_28 (by decide) (fun c_31 => ?_) (fun c_31 => ?_)
          · refine lv_aload_n hx hb dX7_work_46 rfl (lv_at hl 3 rfl) ?_
            refine lv_bipush (v := (-2)) hx hb dX7_work_47 (by decide) ?_
            have hFc := wFree hD hS hA
            refine va_calli (va_runV (As := [.int (-2)]) (rest := []) ⟨hx, hb, hml, hown, hts⟩ (met_X7_refuse l Dg x0 s.heap.size b z (σ.1 0 0) (σ.1 2 0) (σ.1 2 1) (σ.1 2 2) (σ.1 2 3) (σ.1 2 4) (σ.1 1) (g 0) (g 1) (g 2) (g 3) (g 4) L f (-2) (by decide) (by unfold vp_in; decide)) (cwV 1 hts gX7_work_X7_refuse rfl rfl rfl (by decide +kernel) ⟨Nat.le_of_ble_eq_true rfl, Nat.le_of_ble_eq_true rfl⟩) (wPreV hK hP (hD.weaken (fun _ _ _ _ => trivial)) (va_recv hK hP (ci := 5) (q0 := 0) rfl rfl)) rfl rfl hl.1 rfl (lv_room (Nat.le_of_ble_eq_true rfl)) dX7_work_49 ⟨Nat.le_of_ble_eq_true rfl, Nat.le_of_ble_eq_true rfl⟩) hS (fun q _ h => hFc q h) hFc (fun r u t H locs ht hvm hw hB _ _ hS => ?_)
            obtain ⟨hP, -, hD⟩ := hB
            rw [ht] at hP
            replace hD := hD.weaken (fun _ q _ h => hFc q.1 h)
            rw [hw.2] at hP hD
            rw [hw.1]
            clear hw hFc
            have hP : va_P Dg vwCl (cX x0 b z (-2) (σ.1 2 0) (σ.1 2 1) (σ.1 2 2) (σ.1 2 3) (σ.1 2 4) (rfO (-2) (σ.1 1)) (g 0) (g 1) (g 2) (g 3) (g 4) ++ va_pl L f) H := hP
            have hD : va_D A (cX x0 b z (-2) (σ.1 2 0) (σ.1 2 1) (σ.1 2 2) (σ.1 2 3) (σ.1 2 4) (rfO (-2) (σ.1 1)) (g 0) (g 1) (g 2) (g 3) (g 4) ++ va_pl L f) := hD
            have hw : wh_work σ p1 p2 p3 p4 = (-2) := by simp only [wh_work, if_neg (nIn_h (a := 0) c_31), if_neg c_1, if_pos c_24, if_neg c_26]
            have hn : ¬ wh_work σ p1 p2 p3 p4 = 0 := by rw [hw]; decide
            exact W.iret (v := (-2)) hx hb hr (fun t ht hW => ⟨⟨_, (cX x0 b z (-2) (σ.1 2 0) (σ.1 2 1) (σ.1 2 2) (σ.1 2 3) (σ.1 2 4) (rfO (-2) (σ.1 1)) (g 0) (g 1) (g 2) (g 3) (g 4) ++ va_pl L f), rfl, ⟨by rw [an_work, if_neg hn, hw]; try rfl, L, f, ad, g, by rw [nw_work, if_neg hn, hw]; rfl, by rw [nw_work, if_neg hn]; exact CI_rf hC _⟩, by rw [ht]; exact hP, va_K.moved hW.alike hK, hD⟩, hS.F ht⟩) hS.2.2 dX7_work_52
          · refine lv_aloadN hx hb dX7_work_31 (lv_at hl 2 rfl) ?_
            refine lv_ifnullN (tgt := 46) hx hb dX7_work_33 (by decide) ?_
            refine lv_aload_n hx hb dX7_work_46 rfl (lv_at hl 3 rfl) ?_
            refine lv_bipush (v := (-2)) hx hb dX7_work_47 (by decide) ?_
            have hFc := wFree hD hS hA
            refine va_calli (va_runV (As := [.int (-2)]) (rest := []) ⟨hx, hb, hml, hown, hts⟩ (met_X7_refuse l Dg x0 s.heap.size b z (σ.1 0 0) (σ.1 2 0) (σ.1 2 1) (σ.1 2 2) (σ.1 2 3) (σ.1 2 4) (σ.1 1) (g 0) (g 1) (g 2) (g 3) (g 4) L f (-2) (by decide) (by unfold vp_in; decide)) (cwV 1 hts gX7_work_X7_refuse rfl rfl rfl (by decide +kernel) ⟨Nat.le_of_ble_eq_true rfl, Nat.le_of_ble_eq_true rfl⟩) (wPreV hK hP (hD.weaken (fun _ _ _ _ => trivial)) (va_recv hK hP (ci := 5) (q0 := 0) rfl rfl)) rfl rfl hl.1 rfl (lv_room (Nat.le_of_ble_eq_true rfl)) dX7_work_49 ⟨Nat.le_of_ble_eq_true rfl, Nat.le_of_ble_eq_true rfl⟩) hS (fun q _ h => hFc q h) hFc (fun r u t H locs ht hvm hw hB _ _ hS => ?_)
            obtain ⟨hP, -, hD⟩ := hB
            rw [ht] at hP
            replace hD := hD.weaken (fun _ q _ h => hFc q.1 h)
            rw [hw.2] at hP hD
            rw [hw.1]
            clear hw hFc
            have hP : va_P Dg vwCl (cX x0 b z (-2) (σ.1 2 0) (σ.1 2 1) (σ.1 2 2) (σ.1 2 3) (σ.1 2 4) (rfO (-2) (σ.1 1)) (g 0) (g 1) (g 2) (g 3) (g 4) ++ va_pl L f) H := hP
            have hD : va_D A (cX x0 b z (-2) (σ.1 2 0) (σ.1 2 1) (σ.1 2 2) (σ.1 2 3) (σ.1 2 4) (rfO (-2) (σ.1 1)) (g 0) (g 1) (g 2) (g 3) (g 4) ++ va_pl L f) := hD
            have hw : wh_work σ p1 p2 p3 p4 = (-2) := by simp only [wh_work, if_pos (yIn_h c_30 c_31), if_neg c_1, if_pos c_24, if_neg c_26]
            have hn : ¬ wh_work σ p1 p2 p3 p4 = 0 := by rw [hw]; decide
            exact W.iret (v := (-2)) hx hb hr (fun t ht hW => ⟨⟨_, (cX x0 b z (-2) (σ.1 2 0) (σ.1 2 1) (σ.1 2 2) (σ.1 2 3) (σ.1 2 4) (rfO (-2) (σ.1 1)) (g 0) (g 1) (g 2) (g 3) (g 4) ++ va_pl L f), rfl, ⟨by rw [an_work, if_neg hn, hw]; try rfl, L, f, ad, g, by rw [nw_work, if_neg hn, hw]; rfl, by rw [nw_work, if_neg hn]; exact CI_rf hC _⟩, by rw [ht]; exact hP, va_K.moved hW.alike hK, hD⟩, hS.F ht⟩) hS.2.2 dX7_work_52
    · refine va_csq ((va_runV (As := [.int p3]) (rest := []) ⟨hx, hb, hml, hown, hts⟩ (met_X7_registerAt l Dg x0 b z (σ.1 0 0) (σ.1 2 0) (σ.1 2 1) (σ.1 2 2) (σ.1 2 3) (σ.1 2 4) (σ.1 1) (g 0) (g 1) (g 2) (g 3) (g 4) L f p3 hV.1.2.1) (cwV 1 hts gX7_work_X7_registerAt rfl rfl rfl (by decide +kernel) ⟨Nat.le_of_ble_eq_true rfl, Nat.le_of_ble_eq_true rfl⟩) (rPreV hK hP (va_recv hK hP (ci := 5) (q0 := 0) rfl rfl)) rfl rfl hl.1 rfl (lv_room (Nat.le_of_ble_eq_true rfl)) dX7_work_9 ⟨Nat.le_of_ble_eq_true rfl, Nat.le_of_ble_eq_true rfl⟩).run) (fun r hw => ?_)
      obtain rfl : r = none := hw.trans (if_neg c_24)
      refine W.eq (g2 := F0 m 12 ls [.null]) rfl ?_
      refine lv_astoreN (lv' := [(6, .null), (5, .null), (0, .ref x0), (1, .int p1), (2, .int p2), (3, .int p3), (4, .int p4)]) hx hb dX7_work_12 hl (by decide) rfl (fun ls hl => ?_)
      refine lv_aload_n hx hb dX7_work_14 rfl (lv_at hl 2 rfl) ?_
      refine lv_iload hx hb dX7_work_15 (lv_at hl 6 rfl) ?_
      rcases Decidable.em (fX8_isIn p4 0 ((σ.1 2 1) - 1) = true) with c_32 | c_32
      · refine va_csq ((va_runV (As := [.int p4]) (rest := []) ⟨hx, hb, hml, hown, hts⟩ (met_X7_registerAt l Dg x0 b z (σ.1 0 0) (σ.1 2 0) (σ.1 2 1) (σ.1 2 2) (σ.1 2 3) (σ.1 2 4) (σ.1 1) (g 0) (g 1) (g 2) (g 3) (g 4) L f p4 hV.1.2.1) (cwV 1 hts gX7_work_X7_registerAt rfl rfl rfl (by decide +kernel) ⟨Nat.le_of_ble_eq_true rfl, Nat.le_of_ble_eq_true rfl⟩) (rPreV hK hP (va_recv hK hP (ci := 5) (q0 := 0) rfl rfl)) rfl rfl hl.1 rfl (lv_room (Nat.le_of_ble_eq_true rfl)) dX7_work_17 ⟨Nat.le_of_ble_eq_true rfl, Nat.le_of_ble_eq_true rfl⟩).run) (fun r hw => ?_)
        obtain rfl : r = some (ad 1 (ix p4)) := hw.trans ((if_pos c_32).trans (hC.2.2.1 _ (inC_lt hV.1.2.1 c_32)))
        refine W.eq (g2 := F0 m 20 ls [.ref (ad 1 (ix p4))]) rfl ?_
        have lt_33 := inC_lt hV.1.2.1 c_32
        have o_33 := hC.1.1 1 _ (by decide) lt_33
        have f_33 : f (ad 1 (ix p4)) = .inr (1, [.int (σ.1 4 (ix p4)), .long (σ.2 2 (ix p4))]) := o_33.2
        refine lv_astore (lv' := [(7, .ref (ad 1 (ix p4))), (6, .null), (5, .null), (0, .ref x0), (1, .int p1), (2, .int p2), (3, .int p3), (4, .int p4)]) hx hb dX7_work_20 hl (by decide) rfl (fun ls hl => ?_)
        refine lv_iload_n hx hb dX7_work_22 rfl (lv_at hl 4 rfl) ?_
        refine lv_if_lt (tgt := 46) hx hb dX7_work_23 (by decide) (fun c_34 => ?_) (fun c_34 => ?_)
        · refine lv_aload_n hx hb dX7_work_46 rfl (lv_at hl 3 rfl) ?_
          refine lv_bipush (v := (-2)) hx hb dX7_work_47 (by decide) ?_
          have hFc := wFree hD hS hA
          refine va_calli (va_runV (As := [.int (-2)]) (rest := []) ⟨hx, hb, hml, hown, hts⟩ (met_X7_refuse l Dg x0 s.heap.size b z (σ.1 0 0) (σ.1 2 0) (σ.1 2 1) (σ.1 2 2) (σ.1 2 3) (σ.1 2 4) (σ.1 1) (g 0) (g 1) (g 2) (g 3) (g 4) L f (-2) (by decide) (by unfold vp_in; decide)) (cwV 1 hts gX7_work_X7_refuse rfl rfl rfl (by decide +kernel) ⟨Nat.le_of_ble_eq_true rfl, Nat.le_of_ble_eq_true rfl⟩) (wPreV hK hP (hD.weaken (fun _ _ _ _ => trivial)) (va_recv hK hP (ci := 5) (q0 := 0) rfl rfl)) rfl rfl hl.1 rfl (lv_room (Nat.le_of_ble_eq_true rfl)) dX7_work_49 ⟨Nat.le_of_ble_eq_true rfl, Nat.le_of_ble_eq_true rfl⟩) hS (fun q _ h => hFc q h) hFc (fun r u t H locs ht hvm hw hB _ _ hS => ?_)
          obtain ⟨hP, -, hD⟩ := hB
          rw [ht] at hP
          replace hD := hD.weaken (fun _ q _ h => hFc q.1 h)
          rw [hw.2] at hP hD
          rw [hw.1]
          clear hw hFc
          have hP : va_P Dg vwCl (cX x0 b z (-2) (σ.1 2 0) (σ.1 2 1) (σ.1 2 2) (σ.1 2 3) (σ.1 2 4) (rfO (-2) (σ.1 1)) (g 0) (g 1) (g 2) (g 3) (g 4) ++ va_pl L f) H := hP
          have hD : va_D A (cX x0 b z (-2) (σ.1 2 0) (σ.1 2 1) (σ.1 2 2) (σ.1 2 3) (σ.1 2 4) (rfO (-2) (σ.1 1)) (g 0) (g 1) (g 2) (g 3) (g 4) ++ va_pl L f) := hD
          have hw : wh_work σ p1 p2 p3 p4 = (-2) := by simp only [wh_work, if_neg (nIn_l (b := 4) c_34), if_neg c_1, if_neg c_24, if_pos c_32]
          have hn : ¬ wh_work σ p1 p2 p3 p4 = 0 := by rw [hw]; decide
          exact W.iret (v := (-2)) hx hb hr (fun t ht hW => ⟨⟨_, (cX x0 b z (-2) (σ.1 2 0) (σ.1 2 1) (σ.1 2 2) (σ.1 2 3) (σ.1 2 4) (rfO (-2) (σ.1 1)) (g 0) (g 1) (g 2) (g 3) (g 4) ++ va_pl L f), rfl, ⟨by rw [an_work, if_neg hn, hw]; try rfl, L, f, ad, g, by rw [nw_work, if_neg hn, hw]; rfl, by rw [nw_work, if_neg hn]; exact CI_rf hC _⟩, by rw [ht]; exact hP, va_K.moved hW.alike hK, hD⟩, hS.F ht⟩) hS.2.2 dX7_work_52
        · refine lv_iload_n hx hb dX7_work_26 rfl (lv_at hl 4 rfl) ?_
          refine lv_iconst (v := 4) hx hb dX7_work_27 (by decide) ?_
          refine lv_icmp_gt (tgt := 46) hx hb dX7_work_28 (by decide) (fun c_35 => ?_) (fun c_35 => ?_)
          · refine lv_aload_n hx hb dX7_work_46 rfl (lv_at hl 3 rfl) ?_
            refine lv_bipush (v := (-2)) hx hb dX7_work_47 (by decide) ?_
            have hFc := wFree hD hS hA
            refine va_calli (va_runV (As := [.int (-2)]) (rest := []) ⟨hx, hb, hml, hown, hts⟩ (met_X7_refuse l Dg x0 s.heap.size b z (σ.1 0 0) (σ.1 2 0) (σ.1 2 1) (σ.1 2 2) (σ.1 2 3) (σ.1 2 4) (σ.1 1) (g 0) (g 1) (g 2) (g 3) (g 4) L f (-2) (by decide) (by unfold vp_in; decide)) (cwV 1 hts gX7_work_X7_refuse rfl rfl rfl (by decide +kernel) ⟨Nat.le_of_ble_eq_true rfl, Nat.le_of_ble_eq_true rfl⟩) (wPreV hK hP (hD.weaken (fun _ _ _ _ => trivial)) (va_recv hK hP (ci := 5) (q0 := 0) rfl rfl)) rfl rfl hl.1 rfl (lv_room (Nat.le_of_ble_eq_true rfl)) dX7_work_49 ⟨Nat.le_of_ble_eq_true rfl, Nat.le_of_ble_eq_true rfl⟩) hS (fun q _ h => hFc q h) hFc (fun r u t H locs ht hvm hw hB _ _ hS => ?_)
            obtain ⟨hP, -, hD⟩ := hB
            rw [ht] at hP
            replace hD := hD.weaken (fun _ q _ h => hFc q.1 h)
            rw [hw.2] at hP hD
            rw [hw.1]
            clear hw hFc
            have hP : va_P Dg vwCl (cX x0 b z (-2) (σ.1 2 0) (σ.1 2 1) (σ.1 2 2) (σ.1 2 3) (σ.1 2 4) (rfO (-2) (σ.1 1)) (g 0) (g 1) (g 2) (g 3) (g 4) ++ va_pl L f) H := hP
            have hD : va_D A (cX x0 b z (-2) (σ.1 2 0) (σ.1 2 1) (σ.1 2 2) (σ.1 2 3) (σ.1 2 4) (rfO (-2) (σ.1 1)) (g 0) (g 1) (g 2) (g 3) (g 4) ++ va_pl L f) := hD
            have hw : wh_work σ p1 p2 p3 p4 = (-2) := by simp only [wh_work, if_neg (nIn_h (a := 0) c_35), if_neg c_1, if_neg c_24, if_pos c_32]
            have hn : ¬ wh_work σ p1 p2 p3 p4 = 0 := by rw [hw]; decide
            exact W.iret (v := (-2)) hx hb hr (fun t ht hW => ⟨⟨_, (cX x0 b z (-2) (σ.1 2 0) (σ.1 2 1) (σ.1 2 2) (σ.1 2 3) (σ.1 2 4) (rfO (-2) (σ.1 1)) (g 0) (g 1) (g 2) (g 3) (g 4) ++ va_pl L f), rfl, ⟨by rw [an_work, if_neg hn, hw]; try rfl, L, f, ad, g, by rw [nw_work, if_neg hn, hw]; rfl, by rw [nw_work, if_neg hn]; exact CI_rf hC _⟩, by rw [ht]; exact hP, va_K.moved hW.alike hK, hD⟩, hS.F ht⟩) hS.2.2 dX7_work_52
          · refine lv_aloadN hx hb dX7_work_31 (lv_at hl 2 rfl) ?_
            refine lv_ifnullN (tgt := 46) hx hb dX7_work_33 (by decide) ?_
            refine lv_aload_n hx hb dX7_work_46 rfl (lv_at hl 3 rfl) ?_
            refine lv_bipush (v := (-2)) hx hb dX7_work_47 (by decide) ?_
            have hFc := wFree hD hS hA
            refine va_calli (va_runV (As := [.int (-2)]) (rest := []) ⟨hx, hb, hml, hown, hts⟩ (met_X7_refuse l Dg x0 s.heap.size b z (σ.1 0 0) (σ.1 2 0) (σ.1 2 1) (σ.1 2 2) (σ.1 2 3) (σ.1 2 4) (σ.1 1) (g 0) (g 1) (g 2) (g 3) (g 4) L f (-2) (by decide) (by unfold vp_in; decide)) (cwV 1 hts gX7_work_X7_refuse rfl rfl rfl (by decide +kernel) ⟨Nat.le_of_ble_eq_true rfl, Nat.le_of_ble_eq_true rfl⟩) (wPreV hK hP (hD.weaken (fun _ _ _ _ => trivial)) (va_recv hK hP (ci := 5) (q0 := 0) rfl rfl)) rfl rfl hl.1 rfl (lv_room (Nat.le_of_ble_eq_true rfl)) dX7_work_49 ⟨Nat.le_of_ble_eq_true rfl, Nat.le_of_ble_eq_true rfl⟩) hS (fun q _ h => hFc q h) hFc (fun r u t H locs ht hvm hw hB _ _ hS => ?_)
            obtain ⟨hP, -, hD⟩ := hB
            rw [ht] at hP
            replace hD := hD.weaken (fun _ q _ h => hFc q.1 h)
            rw [hw.2] at hP hD
            rw [hw.1]
            clear hw hFc
            have hP : va_P Dg vwCl (cX x0 b z (-2) (σ.1 2 0) (σ.1 2 1) (σ.1 2 2) (σ.1 2 3) (σ.1 2 4) (rfO (-2) (σ.1 1)) (g 0) (g 1) (g 2) (g 3) (g 4) ++ va_pl L f) H := hP
            have hD : va_D A (cX x0 b z (-2) (σ.1 2 0) (σ.1 2 1) (σ.1 2 2) (σ.1 2 3) (σ.1 2 4) (rfO (-2) (σ.1 1)) (g 0) (g 1) (g 2) (g 3) (g 4) ++ va_pl L f) := hD
            have hw : wh_work σ p1 p2 p3 p4 = (-2) := by simp only [wh_work, if_pos (yIn_h c_34 c_35), if_neg c_1, if_neg c_24, if_pos c_32]
            have hn : ¬ wh_work σ p1 p2 p3 p4 = 0 := by rw [hw]; decide
            exact W.iret (v := (-2)) hx hb hr (fun t ht hW => ⟨⟨_, (cX x0 b z (-2) (σ.1 2 0) (σ.1 2 1) (σ.1 2 2) (σ.1 2 3) (σ.1 2 4) (rfO (-2) (σ.1 1)) (g 0) (g 1) (g 2) (g 3) (g 4) ++ va_pl L f), rfl, ⟨by rw [an_work, if_neg hn, hw]; try rfl, L, f, ad, g, by rw [nw_work, if_neg hn, hw]; rfl, by rw [nw_work, if_neg hn]; exact CI_rf hC _⟩, by rw [ht]; exact hP, va_K.moved hW.alike hK, hD⟩, hS.F ht⟩) hS.2.2 dX7_work_52
      · refine va_csq ((va_runV (As := [.int p4]) (rest := []) ⟨hx, hb, hml, hown, hts⟩ (met_X7_registerAt l Dg x0 b z (σ.1 0 0) (σ.1 2 0) (σ.1 2 1) (σ.1 2 2) (σ.1 2 3) (σ.1 2 4) (σ.1 1) (g 0) (g 1) (g 2) (g 3) (g 4) L f p4 hV.1.2.1) (cwV 1 hts gX7_work_X7_registerAt rfl rfl rfl (by decide +kernel) ⟨Nat.le_of_ble_eq_true rfl, Nat.le_of_ble_eq_true rfl⟩) (rPreV hK hP (va_recv hK hP (ci := 5) (q0 := 0) rfl rfl)) rfl rfl hl.1 rfl (lv_room (Nat.le_of_ble_eq_true rfl)) dX7_work_17 ⟨Nat.le_of_ble_eq_true rfl, Nat.le_of_ble_eq_true rfl⟩).run) (fun r hw => ?_)
        obtain rfl : r = none := hw.trans (if_neg c_32)
        refine W.eq (g2 := F0 m 20 ls [.null]) rfl ?_
        refine lv_astoreN (lv' := [(7, .null), (6, .null), (5, .null), (0, .ref x0), (1, .int p1), (2, .int p2), (3, .int p3), (4, .int p4)]) hx hb dX7_work_20 hl (by decide) rfl (fun ls hl => ?_)
        refine lv_iload_n hx hb dX7_work_22 rfl (lv_at hl 4 rfl) ?_
        refine lv_if_lt (tgt := 46) hx hb dX7_work_23 (by decide) (fun c_36 => ?_) (fun c_36 => ?_)
        · refine lv_aload_n hx hb dX7_work_46 rfl (lv_at hl 3 rfl) ?_
          refine lv_bipush (v := (-2)) hx hb dX7_work_47 (by decide) ?_
          have hFc := wFree hD hS hA
          refine va_calli (va_runV (As := [.int (-2)]) (rest := []) ⟨hx, hb, hml, hown, hts⟩ (met_X7_refuse l Dg x0 s.heap.size b z (σ.1 0 0) (σ.1 2 0) (σ.1 2 1) (σ.1 2 2) (σ.1 2 3) (σ.1 2 4) (σ.1 1) (g 0) (g 1) (g 2) (g 3) (g 4) L f (-2) (by decide) (by unfold vp_in; decide)) (cwV 1 hts gX7_work_X7_refuse rfl rfl rfl (by decide +kernel) ⟨Nat.le_of_ble_eq_true rfl, Nat.le_of_ble_eq_true rfl⟩) (wPreV hK hP (hD.weaken (fun _ _ _ _ => trivial)) (va_recv hK hP (ci := 5) (q0 := 0) rfl rfl)) rfl rfl hl.1 rfl (lv_room (Nat.le_of_ble_eq_true rfl)) dX7_work_49 ⟨Nat.le_of_ble_eq_true rfl, Nat.le_of_ble_eq_true rfl⟩) hS (fun q _ h => hFc q h) hFc (fun r u t H locs ht hvm hw hB _ _ hS => ?_)
          obtain ⟨hP, -, hD⟩ := hB
          rw [ht] at hP
          replace hD := hD.weaken (fun _ q _ h => hFc q.1 h)
          rw [hw.2] at hP hD
          rw [hw.1]
          clear hw hFc
          have hP : va_P Dg vwCl (cX x0 b z (-2) (σ.1 2 0) (σ.1 2 1) (σ.1 2 2) (σ.1 2 3) (σ.1 2 4) (rfO (-2) (σ.1 1)) (g 0) (g 1) (g 2) (g 3) (g 4) ++ va_pl L f) H := hP
          have hD : va_D A (cX x0 b z (-2) (σ.1 2 0) (σ.1 2 1) (σ.1 2 2) (σ.1 2 3) (σ.1 2 4) (rfO (-2) (σ.1 1)) (g 0) (g 1) (g 2) (g 3) (g 4) ++ va_pl L f) := hD
          have hw : wh_work σ p1 p2 p3 p4 = (-2) := by simp only [wh_work, if_neg (nIn_l (b := 4) c_36), if_neg c_1, if_neg c_24, if_neg c_32]
          have hn : ¬ wh_work σ p1 p2 p3 p4 = 0 := by rw [hw]; decide
          exact W.iret (v := (-2)) hx hb hr (fun t ht hW => ⟨⟨_, (cX x0 b z (-2) (σ.1 2 0) (σ.1 2 1) (σ.1 2 2) (σ.1 2 3) (σ.1 2 4) (rfO (-2) (σ.1 1)) (g 0) (g 1) (g 2) (g 3) (g 4) ++ va_pl L f), rfl, ⟨by rw [an_work, if_neg hn, hw]; try rfl, L, f, ad, g, by rw [nw_work, if_neg hn, hw]; rfl, by rw [nw_work, if_neg hn]; exact CI_rf hC _⟩, by rw [ht]; exact hP, va_K.moved hW.alike hK, hD⟩, hS.F ht⟩) hS.2.2 dX7_work_52
        · refine lv_iload_n hx hb dX7_work_26 rfl (lv_at hl 4 rfl) ?_
          refine lv_iconst (v := 4) hx hb dX7_work_27 (by decide) ?_
          refine lv_icmp_gt (tgt := 46) hx hb dX7_work_28 (by decide) (fun c_37 => ?_) (fun c_37 => ?_)
          · refine lv_aload_n hx hb dX7_work_46 rfl (lv_at hl 3 rfl) ?_
            refine lv_bipush (v := (-2)) hx hb dX7_work_47 (by decide) ?_
            have hFc := wFree hD hS hA
            refine va_calli (va_runV (As := [.int (-2)]) (rest := []) ⟨hx, hb, hml, hown, hts⟩ (met_X7_refuse l Dg x0 s.heap.size b z (σ.1 0 0) (σ.1 2 0) (σ.1 2 1) (σ.1 2 2) (σ.1 2 3) (σ.1 2 4) (σ.1 1) (g 0) (g 1) (g 2) (g 3) (g 4) L f (-2) (by decide) (by unfold vp_in; decide)) (cwV 1 hts gX7_work_X7_refuse rfl rfl rfl (by decide +kernel) ⟨Nat.le_of_ble_eq_true rfl, Nat.le_of_ble_eq_true rfl⟩) (wPreV hK hP (hD.weaken (fun _ _ _ _ => trivial)) (va_recv hK hP (ci := 5) (q0 := 0) rfl rfl)) rfl rfl hl.1 rfl (lv_room (Nat.le_of_ble_eq_true rfl)) dX7_work_49 ⟨Nat.le_of_ble_eq_true rfl, Nat.le_of_ble_eq_true rfl⟩) hS (fun q _ h => hFc q h) hFc (fun r u t H locs ht hvm hw hB _ _ hS => ?_)
            obtain ⟨hP, -, hD⟩ := hB
            rw [ht] at hP
            replace hD := hD.weaken (fun _ q _ h => hFc q.1 h)
            rw [hw.2] at hP hD
            rw [hw.1]
            clear hw hFc
            have hP : va_P Dg vwCl (cX x0 b z (-2) (σ.1 2 0) (σ.1 2 1) (σ.1 2 2) (σ.1 2 3) (σ.1 2 4) (rfO (-2) (σ.1 1)) (g 0) (g 1) (g 2) (g 3) (g 4) ++ va_pl L f) H := hP
            have hD : va_D A (cX x0 b z (-2) (σ.1 2 0) (σ.1 2 1) (σ.1 2 2) (σ.1 2 3) (σ.1 2 4) (rfO (-2) (σ.1 1)) (g 0) (g 1) (g 2) (g 3) (g 4) ++ va_pl L f) := hD
            have hw : wh_work σ p1 p2 p3 p4 = (-2) := by simp only [wh_work, if_neg (nIn_h (a := 0) c_37), if_neg c_1, if_neg c_24, if_neg c_32]
            have hn : ¬ wh_work σ p1 p2 p3 p4 = 0 := by rw [hw]; decide
            exact W.iret (v := (-2)) hx hb hr (fun t ht hW => ⟨⟨_, (cX x0 b z (-2) (σ.1 2 0) (σ.1 2 1) (σ.1 2 2) (σ.1 2 3) (σ.1 2 4) (rfO (-2) (σ.1 1)) (g 0) (g 1) (g 2) (g 3) (g 4) ++ va_pl L f), rfl, ⟨by rw [an_work, if_neg hn, hw]; try rfl, L, f, ad, g, by rw [nw_work, if_neg hn, hw]; rfl, by rw [nw_work, if_neg hn]; exact CI_rf hC _⟩, by rw [ht]; exact hP, va_K.moved hW.alike hK, hD⟩, hS.F ht⟩) hS.2.2 dX7_work_52
          · refine lv_aloadN hx hb dX7_work_31 (lv_at hl 2 rfl) ?_
            refine lv_ifnullN (tgt := 46) hx hb dX7_work_33 (by decide) ?_
            refine lv_aload_n hx hb dX7_work_46 rfl (lv_at hl 3 rfl) ?_
            refine lv_bipush (v := (-2)) hx hb dX7_work_47 (by decide) ?_
            have hFc := wFree hD hS hA
            refine va_calli (va_runV (As := [.int (-2)]) (rest := []) ⟨hx, hb, hml, hown, hts⟩ (met_X7_refuse l Dg x0 s.heap.size b z (σ.1 0 0) (σ.1 2 0) (σ.1 2 1) (σ.1 2 2) (σ.1 2 3) (σ.1 2 4) (σ.1 1) (g 0) (g 1) (g 2) (g 3) (g 4) L f (-2) (by decide) (by unfold vp_in; decide)) (cwV 1 hts gX7_work_X7_refuse rfl rfl rfl (by decide +kernel) ⟨Nat.le_of_ble_eq_true rfl, Nat.le_of_ble_eq_true rfl⟩) (wPreV hK hP (hD.weaken (fun _ _ _ _ => trivial)) (va_recv hK hP (ci := 5) (q0 := 0) rfl rfl)) rfl rfl hl.1 rfl (lv_room (Nat.le_of_ble_eq_true rfl)) dX7_work_49 ⟨Nat.le_of_ble_eq_true rfl, Nat.le_of_ble_eq_true rfl⟩) hS (fun q _ h => hFc q h) hFc (fun r u t H locs ht hvm hw hB _ _ hS => ?_)
            obtain ⟨hP, -, hD⟩ := hB
            rw [ht] at hP
            replace hD := hD.weaken (fun _ q _ h => hFc q.1 h)
            rw [hw.2] at hP hD
            rw [hw.1]
            clear hw hFc
            have hP : va_P Dg vwCl (cX x0 b z (-2) (σ.1 2 0) (σ.1 2 1) (σ.1 2 2) (σ.1 2 3) (σ.1 2 4) (rfO (-2) (σ.1 1)) (g 0) (g 1) (g 2) (g 3) (g 4) ++ va_pl L f) H := hP
            have hD : va_D A (cX x0 b z (-2) (σ.1 2 0) (σ.1 2 1) (σ.1 2 2) (σ.1 2 3) (σ.1 2 4) (rfO (-2) (σ.1 1)) (g 0) (g 1) (g 2) (g 3) (g 4) ++ va_pl L f) := hD
            have hw : wh_work σ p1 p2 p3 p4 = (-2) := by simp only [wh_work, if_pos (yIn_h c_36 c_37), if_neg c_1, if_neg c_24, if_neg c_32]
            have hn : ¬ wh_work σ p1 p2 p3 p4 = 0 := by rw [hw]; decide
            exact W.iret (v := (-2)) hx hb hr (fun t ht hW => ⟨⟨_, (cX x0 b z (-2) (σ.1 2 0) (σ.1 2 1) (σ.1 2 2) (σ.1 2 3) (σ.1 2 4) (rfO (-2) (σ.1 1)) (g 0) (g 1) (g 2) (g 3) (g 4) ++ va_pl L f), rfl, ⟨by rw [an_work, if_neg hn, hw]; try rfl, L, f, ad, g, by rw [nw_work, if_neg hn, hw]; rfl, by rw [nw_work, if_neg hn]; exact CI_rf hC _⟩, by rw [ht]; exact hP, va_K.moved hW.alike hK, hD⟩, hS.F ht⟩) hS.2.2 dX7_work_52

theorem in_X5_X7_tear : ∀ w ∈ wsX50, w ∈ wsX7_tear := fun w h => List.mem_cons_of_mem _ (List.mem_append_left _ (List.mem_append_right _ h))
theorem in_X7_X7_tear : ∀ w ∈ wsX70, w ∈ wsX7_tear := fun w h => List.mem_cons_of_mem _ (List.mem_append_right _ h)
set_option maxHeartbeats 4000000 in
set_option maxRecDepth 100000 in
theorem met_X7_tear (l : Launch) (Dg : va_G) (x0 sz : Nat) (b : Nat → Nat) (z : Nat → ClassId) (σ : St) (L : List Nat) (f : Nat → va_E) (ad : Nat → Nat → Nat) (g : Nat → Nat → Option Nat) (p1 : Int32) (hV : vOK σ) (hC : CI z σ L f ad g)  : Met l yX7_tear wsX7_tear ({ frames := 1, cells := 0, slots := 0, locals := 21 }) (va_Pc [.ref x0, .int p1] (wB Dg (cT z) (cX x0 b z (σ.1 0 0) (σ.1 2 0) (σ.1 2 1) (σ.1 2 2) (σ.1 2 3) (σ.1 2 4) (σ.1 1) (g 0) (g 1) (g 2) (g 3) (g 4) ++ va_pl L f) sz)) (va_Qi (fun (r : Int32) (u : va_W) => r = an_tear σ p1 ∧ CX x0 b z (nw_tear σ p1) u) (wE Dg (cT z) (va_A (cX x0 b z (σ.1 0 0) (σ.1 2 0) (σ.1 2 1) (σ.1 2 2) (σ.1 2 3) (σ.1 2 4) (σ.1 1) (g 0) (g 1) (g 2) (g 3) (g 4) ++ va_pl L f) sz)) (va_A (cX x0 b z (σ.1 0 0) (σ.1 2 0) (σ.1 2 1) (σ.1 2 2) (σ.1 2 3) (σ.1 2 4) (σ.1 1) (g 0) (g 1) (g 2) (g 3) (g 4) ++ va_pl L f) sz)) 0 0 (va_A (cX x0 b z (σ.1 0 0) (σ.1 2 0) (σ.1 2 1) (σ.1 2 2) (σ.1 2 3) (σ.1 2 4) (σ.1 1) (g 0) (g 1) (g 2) (g 3) (g 4) ++ va_pl L f) sz) := by
  refine Met.ofW (cc := cX7_tear) (maxL := 4) (ret := (some .int)) (by decide) rfl ?_
  intro p e s m args below meth c s₁ B hml hv
  obtain ⟨rfl, hsz, hP, hK, hD0⟩ := hv
  have hx := B.exec
  have hb := B.bytes
  have hr := B.returns
  have hts := atoms_spec (ws := wsX7_tear) B.pre
  have hown : s.vm.findClass RX7 = some m.cls := findClass_of_methodNamed B.named
  have hlocks := B.notSynchronized
  subst hsz
  have hD := hD0.self (sz := s.heap.size)
  generalize hAe : va_A (cX x0 b z (σ.1 0 0) (σ.1 2 0) (σ.1 2 1) (σ.1 2 2) (σ.1 2 3) (σ.1 2 4) (σ.1 1) (g 0) (g 1) (g 2) (g 3) (g 4) ++ va_pl L f) s.heap.size = A at hD ⊢
  have hA : ∀ q : Nat, s.heap.size ≤ q → A q := fun q h => by rw [← hAe]; exact Or.inr h
  have hS : va_S A s.heap s.heap [] := va_S.rf
  have hP : va_P Dg vwCl (cX x0 b z (σ.1 0 0) (σ.1 2 0) (σ.1 2 1) (σ.1 2 2) (σ.1 2 3) (σ.1 2 4) (σ.1 1) (g 0) (g 1) (g 2) (g 3) (g 4) ++ va_pl L f) s.heap := hP
  have hl := lv_entry ([.ref x0, .int p1]) (n := 4) (Nat.le_of_ble_eq_true rfl)
  rw [lg_entry_eq]
  generalize (lg_sl ([.ref x0, .int p1]) ++ List.replicate (4 - (lg_sl ([.ref x0, .int p1])).length) Slot.unset).toArray = ls at hl ⊢
  have hl : lv_has ls 4 [(0, .ref x0), (1, .int p1)] := hl
  refine lv_aload_n hx hb dX7_tear_0 rfl (lv_at hl 0 rfl) ?_
  refine lv_iload_n hx hb dX7_tear_1 rfl (lv_at hl 1 rfl) ?_
  rcases Decidable.em (fX8_isIn p1 0 ((σ.1 2 2) - 1) = true) with c_1 | c_1
  · refine va_csq ((va_runV (As := [.int p1]) (rest := []) ⟨hx, hb, hml, hown, hts⟩ (met_X7_stripAt l Dg x0 b z (σ.1 0 0) (σ.1 2 0) (σ.1 2 1) (σ.1 2 2) (σ.1 2 3) (σ.1 2 4) (σ.1 1) (g 0) (g 1) (g 2) (g 3) (g 4) L f p1 hV.1.2.2.1) (cwV 1 hts gX7_tear_X7_stripAt rfl rfl rfl (by decide +kernel) ⟨Nat.le_of_ble_eq_true rfl, Nat.le_of_ble_eq_true rfl⟩) (rPreV hK hP (va_recv hK hP (ci := 5) (q0 := 0) rfl rfl)) rfl rfl hl.1 rfl (lv_room (Nat.le_of_ble_eq_true rfl)) dX7_tear_2 ⟨Nat.le_of_ble_eq_true rfl, Nat.le_of_ble_eq_true rfl⟩).run) (fun r hw => ?_)
    obtain rfl : r = some (ad 2 (ix p1)) := hw.trans ((if_pos c_1).trans (hC.2.2.2.1 _ (inC_lt hV.1.2.2.1 c_1)))
    refine W.eq (g2 := F0 m 5 ls [.ref (ad 2 (ix p1))]) rfl ?_
    have lt_2 := inC_lt hV.1.2.2.1 c_1
    have o_2 := hC.1.1 2 _ (by decide) lt_2
    have f_2 : f (ad 2 (ix p1)) = .inr (3, [.int (σ.1 5 (ix p1)), (sR (ad 3 (ix p1)) (σ.1 7 (ix p1)))]) := o_2.2
    refine lv_astore_n (lv' := [(2, .ref (ad 2 (ix p1))), (0, .ref x0), (1, .int p1)]) hx hb dX7_tear_5 rfl hl (by decide) rfl (fun ls hl => ?_)
    refine lv_aload_n hx hb dX7_tear_6 rfl (lv_at hl 0 rfl) ?_
    refine lv_ifnonnull (tgt := 17) hx hb dX7_tear_7 (by decide) ?_
    refine lv_aload_n hx hb dX7_tear_17 rfl (lv_at hl 0 rfl) ?_
    refine vg_get (D := Dg) (ci := 3) (v := (sR (ad 3 (ix p1)) (σ.1 7 (ix p1)))) (C := RX5) (T := TX5) (N := 2) hx hb hts in_X5_X7_tear hown hK hP o_2.1 f_2 rfl 1 (by decide) (hts (.fieldLink RX7 163 "OrreryWorks$Strip" "places" "[J") (by decide +kernel)) (fun _ h9 => h9) rfl dX7_tear_18 ?_
    rcases Decidable.em ((σ.1 7 (ix p1)) = 0) with c_3 | c_3
    · refine W.eq (g2 := F0 m 21 ls [.ref (ad 3 (ix p1))]) (by rw [sR_0 c_3]) ?_
      have o_4 := hC.1.1 3 _ (by decide) lt_2
      obtain ⟨gg, ge, gv⟩ := o_4.2
      have T1 := hV.2.2.2.1 _ lt_2
      refine lv_ifnonnull (tgt := 28) hx hb dX7_tear_21 (by decide) ?_
      refine lv_iconst (v := 0) hx hb dX7_tear_28 (by decide) ?_
      refine lv_istore_n (lv' := [(3, .int 0), (2, .ref (ad 2 (ix p1))), (0, .ref x0), (1, .int p1)]) hx hb dX7_tear_29 rfl hl (by decide) rfl (fun ls hl => ?_)
      refine lv_aload_n hx hb dX7_tear_30 rfl (lv_at hl 1 rfl) ?_
      refine lv_null hx hb dX7_tear_31 ?_
      refine vg_put (D := Dg) (ci := 3) (v := .null) (ty := .array .long) (C := RX5) (T := TX5) (N := 2) hx hb hts in_X5_X7_tear tyX5 tyX5_ok nmX5 hown hK hP hD hS o_2.1 f_2 rfl 1 (by decide) (hts (.fieldLink RX7 163 "OrreryWorks$Strip" "places" "[J") (by decide +kernel)) (fun _ h9 => h9) rfl (by decide +kernel) rfl rfl (Nat.le_of_ble_eq_true rfl) dX7_tear_32 (fun H locs hP hD hS => ?_)
      have hP : va_P Dg vwCl (cX x0 b z (σ.1 0 0) (σ.1 2 0) (σ.1 2 1) (σ.1 2 2) (σ.1 2 3) (σ.1 2 4) (σ.1 1) (g 0) (g 1) (g 2) (g 3) (g 4) ++ va_pl L (va_up f (ad 2 (ix p1)) (.inr (3, [.int (σ.1 5 (ix p1)), .null])))) H := hP
      have hD : va_D A (cX x0 b z (σ.1 0 0) (σ.1 2 0) (σ.1 2 1) (σ.1 2 2) (σ.1 2 3) (σ.1 2 4) (σ.1 1) (g 0) (g 1) (g 2) (g 3) (g 4) ++ va_pl L (va_up f (ad 2 (ix p1)) (.inr (3, [.int (σ.1 5 (ix p1)), .null])))) := hD
      refine lv_aload_n hx hb dX7_tear_35 rfl (lv_at hl 2 rfl) ?_
      refine lv_iload_n hx hb dX7_tear_36 rfl (lv_at hl 0 rfl) ?_
      refine lv_if_eq (tgt := 44) hx hb dX7_tear_37 (by decide) (fun _ => ?_) (fun h0 => absurd (by decide) h0)
      refine lv_iconst (v := 1) hx hb dX7_tear_44 (by decide) ?_
      have hFc := wFree hD hS hA
      refine va_calli (va_runV (As := [.int 1]) (rest := []) ⟨hx, hb, hml, hown, hts⟩ (met_X7_answer l Dg x0 H.size b z (σ.1 0 0) (σ.1 2 0) (σ.1 2 1) (σ.1 2 2) (σ.1 2 3) (σ.1 2 4) (σ.1 1) (g 0) (g 1) (g 2) (g 3) (g 4) L (va_up f (ad 2 (ix p1)) (.inr (3, [.int (σ.1 5 (ix p1)), .null]))) 1 ) (cwV 1 hts gX7_tear_X7_answer rfl rfl rfl (by decide +kernel) ⟨Nat.le_of_ble_eq_true rfl, Nat.le_of_ble_eq_true rfl⟩) (wPreV hK hP (hD.weaken (fun _ _ _ _ => trivial)) (va_recv hK hP (ci := 5) (q0 := 0) rfl rfl)) rfl rfl hl.1 rfl (lv_room (Nat.le_of_ble_eq_true rfl)) dX7_tear_45 ⟨Nat.le_of_ble_eq_true rfl, Nat.le_of_ble_eq_true rfl⟩) hS (fun q _ h => hFc q h) hFc (fun r u t H locs ht hvm hw hB _ _ hS => ?_)
      obtain ⟨hP, -, hD⟩ := hB
      rw [ht] at hP
      replace hD := hD.weaken (fun _ q _ h => hFc q.1 h)
      rw [hw.2] at hP hD
      rw [hw.1]
      clear hw hFc
      have hP : va_P Dg vwCl (cX x0 b z 0 (σ.1 2 0) (σ.1 2 1) (σ.1 2 2) (σ.1 2 3) (σ.1 2 4) (σ.1 1) (g 0) (g 1) (g 2) (g 3) (g 4) ++ va_pl L (va_up f (ad 2 (ix p1)) (.inr (3, [.int (σ.1 5 (ix p1)), .null])))) H := hP
      have hD : va_D A (cX x0 b z 0 (σ.1 2 0) (σ.1 2 1) (σ.1 2 2) (σ.1 2 3) (σ.1 2 4) (σ.1 1) (g 0) (g 1) (g 2) (g 3) (g 4) ++ va_pl L (va_up f (ad 2 (ix p1)) (.inr (3, [.int (σ.1 5 (ix p1)), .null])))) := hD
      have hw : wh_tear σ p1 = 0 := by simp only [wh_tear, if_pos c_1]
      exact W.iret (v := 1) hx hb hr (fun t ht hW => ⟨⟨_, (cX x0 b z 0 (σ.1 2 0) (σ.1 2 1) (σ.1 2 2) (σ.1 2 3) (σ.1 2 4) (σ.1 1) (g 0) (g 1) (g 2) (g 3) (g 4) ++ va_pl L (va_up f (ad 2 (ix p1)) (.inr (3, [.int (σ.1 5 (ix p1)), .null])))), rfl, ⟨by rw [an_tear, if_pos hw]; rw [if_pos c_3], L, va_up f (ad 2 (ix p1)) (.inr (3, [.int (σ.1 5 (ix p1)), .null])), ad, g, by rw [nw_tear, if_pos hw]; rfl, by rw [nw_tear, if_pos hw]; exact CI_tear hC (inC_lt hV.1.2.2.1 c_1)⟩, by rw [ht]; exact hP, va_K.moved hW.alike hK, hD⟩, hS.F ht⟩) hS.2.2 dX7_tear_48
    · refine W.eq (g2 := F0 m 21 ls [.null]) (by rw [sR_1 c_3]) ?_
      refine lv_ifnonnullN hx hb dX7_tear_21 ?_
      refine lv_iconst (v := 1) hx hb dX7_tear_24 (by decide) ?_
      refine lv_goto (tgt := 29) hx hb dX7_tear_25 (by decide) ?_
      refine lv_istore_n (lv' := [(3, .int 1), (2, .ref (ad 2 (ix p1))), (0, .ref x0), (1, .int p1)]) hx hb dX7_tear_29 rfl hl (by decide) rfl (fun ls hl => ?_)
      refine lv_aload_n hx hb dX7_tear_30 rfl (lv_at hl 1 rfl) ?_
      refine lv_null hx hb dX7_tear_31 ?_
      refine vg_put (D := Dg) (ci := 3) (v := .null) (ty := .array .long) (C := RX5) (T := TX5) (N := 2) hx hb hts in_X5_X7_tear tyX5 tyX5_ok nmX5 hown hK hP hD hS o_2.1 f_2 rfl 1 (by decide) (hts (.fieldLink RX7 163 "OrreryWorks$Strip" "places" "[J") (by decide +kernel)) (fun _ h9 => h9) rfl (by decide +kernel) rfl rfl (Nat.le_of_ble_eq_true rfl) dX7_tear_32 (fun H locs hP hD hS => ?_)
      have hP : va_P Dg vwCl (cX x0 b z (σ.1 0 0) (σ.1 2 0) (σ.1 2 1) (σ.1 2 2) (σ.1 2 3) (σ.1 2 4) (σ.1 1) (g 0) (g 1) (g 2) (g 3) (g 4) ++ va_pl L (va_up f (ad 2 (ix p1)) (.inr (3, [.int (σ.1 5 (ix p1)), .null])))) H := hP
      have hD : va_D A (cX x0 b z (σ.1 0 0) (σ.1 2 0) (σ.1 2 1) (σ.1 2 2) (σ.1 2 3) (σ.1 2 4) (σ.1 1) (g 0) (g 1) (g 2) (g 3) (g 4) ++ va_pl L (va_up f (ad 2 (ix p1)) (.inr (3, [.int (σ.1 5 (ix p1)), .null])))) := hD
      refine lv_aload_n hx hb dX7_tear_35 rfl (lv_at hl 2 rfl) ?_
      refine lv_iload_n hx hb dX7_tear_36 rfl (lv_at hl 0 rfl) ?_
      refine lv_if_eq (tgt := 44) hx hb dX7_tear_37 (by decide) (fun h0 => absurd h0 (by decide)) (fun _ => ?_)
      refine lv_iconst (v := 0) hx hb dX7_tear_40 (by decide) ?_
      refine lv_goto (tgt := 45) hx hb dX7_tear_41 (by decide) ?_
      have hFc := wFree hD hS hA
      refine va_calli (va_runV (As := [.int 0]) (rest := []) ⟨hx, hb, hml, hown, hts⟩ (met_X7_answer l Dg x0 H.size b z (σ.1 0 0) (σ.1 2 0) (σ.1 2 1) (σ.1 2 2) (σ.1 2 3) (σ.1 2 4) (σ.1 1) (g 0) (g 1) (g 2) (g 3) (g 4) L (va_up f (ad 2 (ix p1)) (.inr (3, [.int (σ.1 5 (ix p1)), .null]))) 0 ) (cwV 1 hts gX7_tear_X7_answer rfl rfl rfl (by decide +kernel) ⟨Nat.le_of_ble_eq_true rfl, Nat.le_of_ble_eq_true rfl⟩) (wPreV hK hP (hD.weaken (fun _ _ _ _ => trivial)) (va_recv hK hP (ci := 5) (q0 := 0) rfl rfl)) rfl rfl hl.1 rfl (lv_room (Nat.le_of_ble_eq_true rfl)) dX7_tear_45 ⟨Nat.le_of_ble_eq_true rfl, Nat.le_of_ble_eq_true rfl⟩) hS (fun q _ h => hFc q h) hFc (fun r u t H locs ht hvm hw hB _ _ hS => ?_)
      obtain ⟨hP, -, hD⟩ := hB
      rw [ht] at hP
      replace hD := hD.weaken (fun _ q _ h => hFc q.1 h)
      rw [hw.2] at hP hD
      rw [hw.1]
      clear hw hFc
      have hP : va_P Dg vwCl (cX x0 b z 0 (σ.1 2 0) (σ.1 2 1) (σ.1 2 2) (σ.1 2 3) (σ.1 2 4) (σ.1 1) (g 0) (g 1) (g 2) (g 3) (g 4) ++ va_pl L (va_up f (ad 2 (ix p1)) (.inr (3, [.int (σ.1 5 (ix p1)), .null])))) H := hP
      have hD : va_D A (cX x0 b z 0 (σ.1 2 0) (σ.1 2 1) (σ.1 2 2) (σ.1 2 3) (σ.1 2 4) (σ.1 1) (g 0) (g 1) (g 2) (g 3) (g 4) ++ va_pl L (va_up f (ad 2 (ix p1)) (.inr (3, [.int (σ.1 5 (ix p1)), .null])))) := hD
      have hw : wh_tear σ p1 = 0 := by simp only [wh_tear, if_pos c_1]
      exact W.iret (v := 0) hx hb hr (fun t ht hW => ⟨⟨_, (cX x0 b z 0 (σ.1 2 0) (σ.1 2 1) (σ.1 2 2) (σ.1 2 3) (σ.1 2 4) (σ.1 1) (g 0) (g 1) (g 2) (g 3) (g 4) ++ va_pl L (va_up f (ad 2 (ix p1)) (.inr (3, [.int (σ.1 5 (ix p1)), .null])))), rfl, ⟨by rw [an_tear, if_pos hw]; rw [if_neg c_3], L, va_up f (ad 2 (ix p1)) (.inr (3, [.int (σ.1 5 (ix p1)), .null])), ad, g, by rw [nw_tear, if_pos hw]; rfl, by rw [nw_tear, if_pos hw]; exact CI_tear hC (inC_lt hV.1.2.2.1 c_1)⟩, by rw [ht]; exact hP, va_K.moved hW.alike hK, hD⟩, hS.F ht⟩) hS.2.2 dX7_tear_48
  · refine va_csq ((va_runV (As := [.int p1]) (rest := []) ⟨hx, hb, hml, hown, hts⟩ (met_X7_stripAt l Dg x0 b z (σ.1 0 0) (σ.1 2 0) (σ.1 2 1) (σ.1 2 2) (σ.1 2 3) (σ.1 2 4) (σ.1 1) (g 0) (g 1) (g 2) (g 3) (g 4) L f p1 hV.1.2.2.1) (cwV 1 hts gX7_tear_X7_stripAt rfl rfl rfl (by decide +kernel) ⟨Nat.le_of_ble_eq_true rfl, Nat.le_of_ble_eq_true rfl⟩) (rPreV hK hP (va_recv hK hP (ci := 5) (q0 := 0) rfl rfl)) rfl rfl hl.1 rfl (lv_room (Nat.le_of_ble_eq_true rfl)) dX7_tear_2 ⟨Nat.le_of_ble_eq_true rfl, Nat.le_of_ble_eq_true rfl⟩).run) (fun r hw => ?_)
    obtain rfl : r = none := hw.trans (if_neg c_1)
    refine W.eq (g2 := F0 m 5 ls [.null]) rfl ?_
    refine lv_astore_nN (lv' := [(2, .null), (0, .ref x0), (1, .int p1)]) hx hb dX7_tear_5 rfl hl (by decide) rfl (fun ls hl => ?_)
    refine lv_aload_nN hx hb dX7_tear_6 rfl (lv_at hl 0 rfl) ?_
    refine lv_ifnonnullN hx hb dX7_tear_7 ?_
    refine lv_aload_n hx hb dX7_tear_10 rfl (lv_at hl 1 rfl) ?_
    refine lv_bipush (v := (-2)) hx hb dX7_tear_11 (by decide) ?_
    have hFc := wFree hD hS hA
    refine va_calli (va_runV (As := [.int (-2)]) (rest := []) ⟨hx, hb, hml, hown, hts⟩ (met_X7_refuse l Dg x0 s.heap.size b z (σ.1 0 0) (σ.1 2 0) (σ.1 2 1) (σ.1 2 2) (σ.1 2 3) (σ.1 2 4) (σ.1 1) (g 0) (g 1) (g 2) (g 3) (g 4) L f (-2) (by decide) (by unfold vp_in; decide)) (cwV 1 hts gX7_tear_X7_refuse rfl rfl rfl (by decide +kernel) ⟨Nat.le_of_ble_eq_true rfl, Nat.le_of_ble_eq_true rfl⟩) (wPreV hK hP (hD.weaken (fun _ _ _ _ => trivial)) (va_recv hK hP (ci := 5) (q0 := 0) rfl rfl)) rfl rfl hl.1 rfl (lv_room (Nat.le_of_ble_eq_true rfl)) dX7_tear_13 ⟨Nat.le_of_ble_eq_true rfl, Nat.le_of_ble_eq_true rfl⟩) hS (fun q _ h => hFc q h) hFc (fun r u t H locs ht hvm hw hB _ _ hS => ?_)
    obtain ⟨hP, -, hD⟩ := hB
    rw [ht] at hP
    replace hD := hD.weaken (fun _ q _ h => hFc q.1 h)
    rw [hw.2] at hP hD
    rw [hw.1]
    clear hw hFc
    have hP : va_P Dg vwCl (cX x0 b z (-2) (σ.1 2 0) (σ.1 2 1) (σ.1 2 2) (σ.1 2 3) (σ.1 2 4) (rfO (-2) (σ.1 1)) (g 0) (g 1) (g 2) (g 3) (g 4) ++ va_pl L f) H := hP
    have hD : va_D A (cX x0 b z (-2) (σ.1 2 0) (σ.1 2 1) (σ.1 2 2) (σ.1 2 3) (σ.1 2 4) (rfO (-2) (σ.1 1)) (g 0) (g 1) (g 2) (g 3) (g 4) ++ va_pl L f) := hD
    have hw : wh_tear σ p1 = (-2) := by simp only [wh_tear, if_neg c_1]
    have hn : ¬ wh_tear σ p1 = 0 := by rw [hw]; decide
    exact W.iret (v := (-2)) hx hb hr (fun t ht hW => ⟨⟨_, (cX x0 b z (-2) (σ.1 2 0) (σ.1 2 1) (σ.1 2 2) (σ.1 2 3) (σ.1 2 4) (rfO (-2) (σ.1 1)) (g 0) (g 1) (g 2) (g 3) (g 4) ++ va_pl L f), rfl, ⟨by rw [an_tear, if_neg hn, hw]; try rfl, L, f, ad, g, by rw [nw_tear, if_neg hn, hw]; rfl, by rw [nw_tear, if_neg hn]; exact CI_rf hC _⟩, by rw [ht]; exact hP, va_K.moved hW.alike hK, hD⟩, hS.F ht⟩) hS.2.2 dX7_tear_16

theorem in_X5_X7_keep : ∀ w ∈ wsX50, w ∈ wsX7_keep := fun w h => List.mem_cons_of_mem _ (List.mem_append_left _ (List.mem_append_left _ (List.mem_append_right _ h)))
theorem in_X3_X7_keep : ∀ w ∈ wsX30, w ∈ wsX7_keep := fun w h => List.mem_cons_of_mem _ (List.mem_append_left _ (List.mem_append_right _ h))
theorem in_X7_X7_keep : ∀ w ∈ wsX70, w ∈ wsX7_keep := fun w h => List.mem_cons_of_mem _ (List.mem_append_right _ h)
set_option maxHeartbeats 4000000 in
set_option maxRecDepth 100000 in
theorem met_X7_keep (l : Launch) (Dg : va_G) (x0 sz : Nat) (b : Nat → Nat) (z : Nat → ClassId) (σ : St) (L : List Nat) (f : Nat → va_E) (ad : Nat → Nat → Nat) (g : Nat → Nat → Option Nat) (p1 : Int32) (p2 : Int32) (p3 : Int32) (p4 : Int32) (hV : vOK σ) (hC : CI z σ L f ad g)  : Met l yX7_keep wsX7_keep ({ frames := 6, cells := 0, slots := 0, locals := 141 }) (va_Pc [.ref x0, .int p1, .int p2, .int p3, .int p4] (wB Dg (cT z) (cX x0 b z (σ.1 0 0) (σ.1 2 0) (σ.1 2 1) (σ.1 2 2) (σ.1 2 3) (σ.1 2 4) (σ.1 1) (g 0) (g 1) (g 2) (g 3) (g 4) ++ va_pl L f) sz)) (va_Qi (fun (r : Int32) (u : va_W) => r = an_keep σ p1 p2 p3 p4 ∧ CX x0 b z (nw_keep σ p1 p2 p3 p4) u) (wE Dg (cT z) (va_A (cX x0 b z (σ.1 0 0) (σ.1 2 0) (σ.1 2 1) (σ.1 2 2) (σ.1 2 3) (σ.1 2 4) (σ.1 1) (g 0) (g 1) (g 2) (g 3) (g 4) ++ va_pl L f) sz)) (va_A (cX x0 b z (σ.1 0 0) (σ.1 2 0) (σ.1 2 1) (σ.1 2 2) (σ.1 2 3) (σ.1 2 4) (σ.1 1) (g 0) (g 1) (g 2) (g 3) (g 4) ++ va_pl L f) sz)) 0 0 (va_A (cX x0 b z (σ.1 0 0) (σ.1 2 0) (σ.1 2 1) (σ.1 2 2) (σ.1 2 3) (σ.1 2 4) (σ.1 1) (g 0) (g 1) (g 2) (g 3) (g 4) ++ va_pl L f) sz) := by
  refine Met.ofW (cc := cX7_keep) (maxL := 8) (ret := (some .int)) (by decide) rfl ?_
  intro p e s m args below meth c s₁ B hml hv
  obtain ⟨rfl, hsz, hP, hK, hD0⟩ := hv
  have hx := B.exec
  have hb := B.bytes
  have hr := B.returns
  have hts := atoms_spec (ws := wsX7_keep) B.pre
  have hown : s.vm.findClass RX7 = some m.cls := findClass_of_methodNamed B.named
  have hlocks := B.notSynchronized
  subst hsz
  have hD := hD0.self (sz := s.heap.size)
  generalize hAe : va_A (cX x0 b z (σ.1 0 0) (σ.1 2 0) (σ.1 2 1) (σ.1 2 2) (σ.1 2 3) (σ.1 2 4) (σ.1 1) (g 0) (g 1) (g 2) (g 3) (g 4) ++ va_pl L f) s.heap.size = A at hD ⊢
  have hA : ∀ q : Nat, s.heap.size ≤ q → A q := fun q h => by rw [← hAe]; exact Or.inr h
  have hS : va_S A s.heap s.heap [] := va_S.rf
  have hP : va_P Dg vwCl (cX x0 b z (σ.1 0 0) (σ.1 2 0) (σ.1 2 1) (σ.1 2 2) (σ.1 2 3) (σ.1 2 4) (σ.1 1) (g 0) (g 1) (g 2) (g 3) (g 4) ++ va_pl L f) s.heap := hP
  have hl := lv_entry ([.ref x0, .int p1, .int p2, .int p3, .int p4]) (n := 8) (Nat.le_of_ble_eq_true rfl)
  rw [lg_entry_eq]
  generalize (lg_sl ([.ref x0, .int p1, .int p2, .int p3, .int p4]) ++ List.replicate (8 - (lg_sl ([.ref x0, .int p1, .int p2, .int p3, .int p4])).length) Slot.unset).toArray = ls at hl ⊢
  have hl : lv_has ls 8 [(0, .ref x0), (1, .int p1), (2, .int p2), (3, .int p3), (4, .int p4)] := hl
  refine lv_aload_n hx hb dX7_keep_0 rfl (lv_at hl 0 rfl) ?_
  refine lv_iload_n hx hb dX7_keep_1 rfl (lv_at hl 1 rfl) ?_
  rcases Decidable.em (fX8_isIn p1 0 ((σ.1 2 2) - 1) = true) with c_1 | c_1
  · refine va_csq ((va_runV (As := [.int p1]) (rest := []) ⟨hx, hb, hml, hown, hts⟩ (met_X7_stripAt l Dg x0 b z (σ.1 0 0) (σ.1 2 0) (σ.1 2 1) (σ.1 2 2) (σ.1 2 3) (σ.1 2 4) (σ.1 1) (g 0) (g 1) (g 2) (g 3) (g 4) L f p1 hV.1.2.2.1) (cwV 1 hts gX7_keep_X7_stripAt rfl rfl rfl (by decide +kernel) ⟨Nat.le_of_ble_eq_true rfl, Nat.le_of_ble_eq_true rfl⟩) (rPreV hK hP (va_recv hK hP (ci := 5) (q0 := 0) rfl rfl)) rfl rfl hl.1 rfl (lv_room (Nat.le_of_ble_eq_true rfl)) dX7_keep_2 ⟨Nat.le_of_ble_eq_true rfl, Nat.le_of_ble_eq_true rfl⟩).run) (fun r hw => ?_)
    obtain rfl : r = some (ad 2 (ix p1)) := hw.trans ((if_pos c_1).trans (hC.2.2.2.1 _ (inC_lt hV.1.2.2.1 c_1)))
    refine W.eq (g2 := F0 m 5 ls [.ref (ad 2 (ix p1))]) rfl ?_
    have lt_2 := inC_lt hV.1.2.2.1 c_1
    have o_2 := hC.1.1 2 _ (by decide) lt_2
    have f_2 : f (ad 2 (ix p1)) = .inr (3, [.int (σ.1 5 (ix p1)), (sR (ad 3 (ix p1)) (σ.1 7 (ix p1)))]) := o_2.2
    refine lv_astore (lv' := [(5, .ref (ad 2 (ix p1))), (0, .ref x0), (1, .int p1), (2, .int p2), (3, .int p3), (4, .int p4)]) hx hb dX7_keep_5 hl (by decide) rfl (fun ls hl => ?_)
    refine lv_aload_n hx hb dX7_keep_7 rfl (lv_at hl 1 rfl) ?_
    refine lv_iload hx hb dX7_keep_8 (lv_at hl 5 rfl) ?_
    rcases Decidable.em (fX8_isIn p4 0 ((σ.1 2 1) - 1) = true) with c_3 | c_3
    · refine va_csq ((va_runV (As := [.int p4]) (rest := []) ⟨hx, hb, hml, hown, hts⟩ (met_X7_registerAt l Dg x0 b z (σ.1 0 0) (σ.1 2 0) (σ.1 2 1) (σ.1 2 2) (σ.1 2 3) (σ.1 2 4) (σ.1 1) (g 0) (g 1) (g 2) (g 3) (g 4) L f p4 hV.1.2.1) (cwV 1 hts gX7_keep_X7_registerAt rfl rfl rfl (by decide +kernel) ⟨Nat.le_of_ble_eq_true rfl, Nat.le_of_ble_eq_true rfl⟩) (rPreV hK hP (va_recv hK hP (ci := 5) (q0 := 0) rfl rfl)) rfl rfl hl.1 rfl (lv_room (Nat.le_of_ble_eq_true rfl)) dX7_keep_10 ⟨Nat.le_of_ble_eq_true rfl, Nat.le_of_ble_eq_true rfl⟩).run) (fun r hw => ?_)
      obtain rfl : r = some (ad 1 (ix p4)) := hw.trans ((if_pos c_3).trans (hC.2.2.1 _ (inC_lt hV.1.2.1 c_3)))
      refine W.eq (g2 := F0 m 13 ls [.ref (ad 1 (ix p4))]) rfl ?_
      have lt_4 := inC_lt hV.1.2.1 c_3
      have o_4 := hC.1.1 1 _ (by decide) lt_4
      have f_4 : f (ad 1 (ix p4)) = .inr (1, [.int (σ.1 4 (ix p4)), .long (σ.2 2 (ix p4))]) := o_4.2
      refine lv_astore (lv' := [(6, .ref (ad 1 (ix p4))), (5, .ref (ad 2 (ix p1))), (0, .ref x0), (1, .int p1), (2, .int p2), (3, .int p3), (4, .int p4)]) hx hb dX7_keep_13 hl (by decide) rfl (fun ls hl => ?_)
      refine lv_aload hx hb dX7_keep_15 (lv_at hl 1 rfl) ?_
      refine lv_ifnull hx hb dX7_keep_17 ?_
      refine lv_iload_n hx hb dX7_keep_20 rfl (lv_at hl 4 rfl) ?_
      refine vp_callSi ((va_runS (As := [.int p2]) (rest := []) ⟨hx, hb, hml, hown, hts⟩ (met_X0_isKind l p2) (va_cwS 1 hts gX7_keep_X0_isKind rfl rfl rfl (by decide +kernel) ⟨Nat.le_of_ble_eq_true rfl, Nat.le_of_ble_eq_true rfl⟩) ⟨fun _ _ _ _ q => q, fun U hU hW => ⟨rfl, trivial⟩⟩ rfl rfl hl.1 rfl (lv_room (Nat.le_of_ble_eq_true rfl)) dX7_keep_21 ⟨Nat.le_of_ble_eq_true rfl, Nat.le_of_ble_eq_true rfl⟩).run) (fun r hw => ?_)
      subst hw
      refine lv_if_eq (tgt := 32) hx hb dX7_keep_24 (by decide) (fun c_5 => ?_) (fun c_5 => ?_)
      · replace c_5 := bI_eq c_5
        replace c_5 := mt (kind_eq).mpr c_5
        refine lv_aload_n hx hb dX7_keep_32 rfl (lv_at hl 2 rfl) ?_
        refine lv_bipush (v := (-2)) hx hb dX7_keep_33 (by decide) ?_
        have hFc := wFree hD hS hA
        refine va_calli (va_runV (As := [.int (-2)]) (rest := []) ⟨hx, hb, hml, hown, hts⟩ (met_X7_refuse l Dg x0 s.heap.size b z (σ.1 0 0) (σ.1 2 0) (σ.1 2 1) (σ.1 2 2) (σ.1 2 3) (σ.1 2 4) (σ.1 1) (g 0) (g 1) (g 2) (g 3) (g 4) L f (-2) (by decide) (by unfold vp_in; decide)) (cwV 1 hts gX7_keep_X7_refuse rfl rfl rfl (by decide +kernel) ⟨Nat.le_of_ble_eq_true rfl, Nat.le_of_ble_eq_true rfl⟩) (wPreV hK hP (hD.weaken (fun _ _ _ _ => trivial)) (va_recv hK hP (ci := 5) (q0 := 0) rfl rfl)) rfl rfl hl.1 rfl (lv_room (Nat.le_of_ble_eq_true rfl)) dX7_keep_35 ⟨Nat.le_of_ble_eq_true rfl, Nat.le_of_ble_eq_true rfl⟩) hS (fun q _ h => hFc q h) hFc (fun r u t H locs ht hvm hw hB _ _ hS => ?_)
        obtain ⟨hP, -, hD⟩ := hB
        rw [ht] at hP
        replace hD := hD.weaken (fun _ q _ h => hFc q.1 h)
        rw [hw.2] at hP hD
        rw [hw.1]
        clear hw hFc
        have hP : va_P Dg vwCl (cX x0 b z (-2) (σ.1 2 0) (σ.1 2 1) (σ.1 2 2) (σ.1 2 3) (σ.1 2 4) (rfO (-2) (σ.1 1)) (g 0) (g 1) (g 2) (g 3) (g 4) ++ va_pl L f) H := hP
        have hD : va_D A (cX x0 b z (-2) (σ.1 2 0) (σ.1 2 1) (σ.1 2 2) (σ.1 2 3) (σ.1 2 4) (rfO (-2) (σ.1 1)) (g 0) (g 1) (g 2) (g 3) (g 4) ++ va_pl L f) := hD
        have hw : wh_keep σ p1 p2 p3 p4 = (-2) := by simp only [wh_keep, if_pos c_1, if_pos c_3, if_neg c_5]
        have hn : ¬ wh_keep σ p1 p2 p3 p4 = 0 := by rw [hw]; decide
        exact W.iret (v := (-2)) hx hb hr (fun t ht hW => ⟨⟨_, (cX x0 b z (-2) (σ.1 2 0) (σ.1 2 1) (σ.1 2 2) (σ.1 2 3) (σ.1 2 4) (rfO (-2) (σ.1 1)) (g 0) (g 1) (g 2) (g 3) (g 4) ++ va_pl L f), rfl, ⟨by rw [an_keep, if_neg hn, hw]; try rfl, L, f, ad, g, by rw [nw_keep, if_neg hn, hw]; rfl, by rw [nw_keep, if_neg hn]; exact CI_rf hC _⟩, by rw [ht]; exact hP, va_K.moved hW.alike hK, hD⟩, hS.F ht⟩) hS.2.2 dX7_keep_38
      · replace c_5 := bI_ne c_5
        replace c_5 := (kind_eq).mp c_5
        refine lv_aload hx hb dX7_keep_27 (lv_at hl 0 rfl) ?_
        refine lv_ifnonnull (tgt := 39) hx hb dX7_keep_29 (by decide) ?_
        refine lv_aload hx hb dX7_keep_39 (lv_at hl 1 rfl) ?_
        refine vg_get (D := Dg) (ci := 3) (v := (sR (ad 3 (ix p1)) (σ.1 7 (ix p1)))) (C := RX5) (T := TX5) (N := 2) hx hb hts in_X5_X7_keep hown hK hP o_2.1 f_2 rfl 1 (by decide) (hts (.fieldLink RX7 163 "OrreryWorks$Strip" "places" "[J") (by decide +kernel)) (fun _ h9 => h9) rfl dX7_keep_41 ?_
        rcases Decidable.em ((σ.1 7 (ix p1)) = 0) with c_6 | c_6
        · refine W.eq (g2 := F0 m 44 ls [.ref (ad 3 (ix p1))]) (by rw [sR_0 c_6]) ?_
          have o_7 := hC.1.1 3 _ (by decide) lt_2
          obtain ⟨gg, ge, gv⟩ := o_7.2
          have T1 := hV.2.2.2.1 _ lt_2
          refine lv_astore (lv' := [(7, .ref (ad 3 (ix p1))), (6, .ref (ad 1 (ix p4))), (5, .ref (ad 2 (ix p1))), (0, .ref x0), (1, .int p1), (2, .int p2), (3, .int p3), (4, .int p4)]) hx hb dX7_keep_44 hl (by decide) rfl (fun ls hl => ?_)
          refine lv_aload hx hb dX7_keep_46 (lv_at hl 0 rfl) ?_
          refine lv_ifnonnull (tgt := 58) hx hb dX7_keep_48 (by decide) ?_
          refine lv_aload hx hb dX7_keep_58 (lv_at hl 2 rfl) ?_
          refine vg_get (D := Dg) (ci := 3) (v := .int (σ.1 5 (ix p1))) (C := RX5) (T := TX5) (N := 2) hx hb hts in_X5_X7_keep hown hK hP o_2.1 f_2 rfl 0 (by decide) (hts (.fieldLink RX7 167 "OrreryWorks$Strip" "lane" "I") (by decide +kernel)) (fun _ h9 => h9) rfl dX7_keep_60 ?_
          refine lv_iload_n hx hb dX7_keep_63 rfl (lv_at hl 5 rfl) ?_
          refine lv_icmp_eq (tgt := 74) hx hb dX7_keep_64 (by decide) (fun c_8 => ?_) (fun c_8 => ?_)
          · refine lv_iload_n hx hb dX7_keep_74 rfl (lv_at hl 6 rfl) ?_
            refine lv_if_lt (tgt := 85) hx hb dX7_keep_75 (by decide) (fun c_9 => ?_) (fun c_9 => ?_)
            · refine lv_aload_n hx hb dX7_keep_85 rfl (lv_at hl 3 rfl) ?_
              refine lv_bipush (v := (-8)) hx hb dX7_keep_86 (by decide) ?_
              have hFc := wFree hD hS hA
              refine va_calli (va_runV (As := [.int (-8)]) (rest := []) ⟨hx, hb, hml, hown, hts⟩ (met_X7_refuse l Dg x0 s.heap.size b z (σ.1 0 0) (σ.1 2 0) (σ.1 2 1) (σ.1 2 2) (σ.1 2 3) (σ.1 2 4) (σ.1 1) (g 0) (g 1) (g 2) (g 3) (g 4) L f (-8) (by decide) (by unfold vp_in; decide)) (cwV 1 hts gX7_keep_X7_refuse rfl rfl rfl (by decide +kernel) ⟨Nat.le_of_ble_eq_true rfl, Nat.le_of_ble_eq_true rfl⟩) (wPreV hK hP (hD.weaken (fun _ _ _ _ => trivial)) (va_recv hK hP (ci := 5) (q0 := 0) rfl rfl)) rfl rfl hl.1 rfl (lv_room (Nat.le_of_ble_eq_true rfl)) dX7_keep_88 ⟨Nat.le_of_ble_eq_true rfl, Nat.le_of_ble_eq_true rfl⟩) hS (fun q _ h => hFc q h) hFc (fun r u t H locs ht hvm hw hB _ _ hS => ?_)
              obtain ⟨hP, -, hD⟩ := hB
              rw [ht] at hP
              replace hD := hD.weaken (fun _ q _ h => hFc q.1 h)
              rw [hw.2] at hP hD
              rw [hw.1]
              clear hw hFc
              have hP : va_P Dg vwCl (cX x0 b z (-8) (σ.1 2 0) (σ.1 2 1) (σ.1 2 2) (σ.1 2 3) (σ.1 2 4) (rfO (-8) (σ.1 1)) (g 0) (g 1) (g 2) (g 3) (g 4) ++ va_pl L f) H := hP
              have hD : va_D A (cX x0 b z (-8) (σ.1 2 0) (σ.1 2 1) (σ.1 2 2) (σ.1 2 3) (σ.1 2 4) (rfO (-8) (σ.1 1)) (g 0) (g 1) (g 2) (g 3) (g 4) ++ va_pl L f) := hD
              have hw : wh_keep σ p1 p2 p3 p4 = (-8) := by simp only [wh_keep, if_pos c_1, if_pos c_3, if_pos c_5]; exact ag_8 c_6 c_8 (nin_l0 T1.2.1 c_9)
              have hn : ¬ wh_keep σ p1 p2 p3 p4 = 0 := by rw [hw]; decide
              exact W.iret (v := (-8)) hx hb hr (fun t ht hW => ⟨⟨_, (cX x0 b z (-8) (σ.1 2 0) (σ.1 2 1) (σ.1 2 2) (σ.1 2 3) (σ.1 2 4) (rfO (-8) (σ.1 1)) (g 0) (g 1) (g 2) (g 3) (g 4) ++ va_pl L f), rfl, ⟨by rw [an_keep, if_neg hn, hw]; try rfl, L, f, ad, g, by rw [nw_keep, if_neg hn, hw]; rfl, by rw [nw_keep, if_neg hn]; exact CI_rf hC _⟩, by rw [ht]; exact hP, va_K.moved hW.alike hK, hD⟩, hS.F ht⟩) hS.2.2 dX7_keep_91
            · refine lv_iload_n hx hb dX7_keep_78 rfl (lv_at hl 6 rfl) ?_
              refine lv_aload hx hb dX7_keep_79 (lv_at hl 0 rfl) ?_
              refine vg_alen hx hb hK hP 6 o_7.1 ge rfl (v := (σ.1 6 (ix p1))) (len16 T1.2.1) dX7_keep_81 ?_
              refine lv_icmp_lt (tgt := 92) hx hb dX7_keep_82 (by decide) (fun c_10 => ?_) (fun c_10 => ?_)
              · have hI := in_len (N := 16) T1.2.1 c_9 c_10
                have hj := ix_lt (n := 16) (i_rng hV c_1 hI.2)
                have R4 := rg_ok hV c_3
                refine lv_aload hx hb dX7_keep_92 (lv_at hl 0 rfl) ?_
                refine lv_iload_n hx hb dX7_keep_94 rfl (lv_at hl 6 rfl) ?_
                refine lv_aload hx hb dX7_keep_95 (lv_at hl 1 rfl) ?_
                refine vg_get (D := Dg) (ci := 1) (v := .int (σ.1 4 (ix p4))) (C := RX3) (T := TX3) (N := 2) hx hb hts in_X3_X7_keep hown hK hP o_4.1 f_4 rfl 0 (by decide) (hts (.fieldLink RX7 139 "OrreryWorks$Register" "kind" "I") (by decide +kernel)) (fun _ h9 => h9) rfl dX7_keep_97 ?_
                refine lv_aload hx hb dX7_keep_100 (lv_at hl 1 rfl) ?_
                refine vg_get (D := Dg) (ci := 1) (v := .long (σ.2 2 (ix p4))) (C := RX3) (T := TX3) (N := 2) hx hb hts in_X3_X7_keep hown hK hP o_4.1 f_4 rfl 1 (by decide) (hts (.fieldLink RX7 140 "OrreryWorks$Register" "bits" "J") (by decide +kernel)) (fun _ h9 => h9) rfl dX7_keep_102 ?_
                refine lv_iload_n hx hb dX7_keep_105 rfl (lv_at hl 5 rfl) ?_
                refine vp_callSl ((va_runS (As := [.int (σ.1 4 (ix p4)), .long (σ.2 2 (ix p4)), .int p2]) (rest := [.int p3, .ref (ad 3 (ix p1))]) ⟨hx, hb, hml, hown, hts⟩ (met_X0_cast l (σ.1 4 (ix p4)) (σ.2 2 (ix p4)) p2 (okB_c R4.1 R4.2)) (va_cwS 3 hts gX7_keep_X0_cast rfl rfl rfl (by decide +kernel) ⟨Nat.le_of_ble_eq_true rfl, Nat.le_of_ble_eq_true rfl⟩) ⟨fun _ _ _ _ q => q, fun U hU hW => ⟨rfl, trivial⟩⟩ rfl rfl hl.1 rfl (lv_room (Nat.le_of_ble_eq_true rfl)) dX7_keep_106 ⟨Nat.le_of_ble_eq_true rfl, Nat.le_of_ble_eq_true rfl⟩).run) (fun r_1 h_1 => ?_)
                subst h_1
                refine vg_last hx hb hK hP hD hS 6 o_7.1 ge rfl hI.1 dX7_keep_109 (fun H locs hP hD hS => ?_)
                have hP : va_P Dg vwCl (cX x0 b z (σ.1 0 0) (σ.1 2 0) (σ.1 2 1) (σ.1 2 2) (σ.1 2 3) (σ.1 2 4) (σ.1 1) (g 0) (g 1) (g 2) (g 3) (g 4) ++ va_pl L (va_up f (ad 3 (ix p1)) (.inl (z 6, ix (σ.1 6 (ix p1)), .inr (.inl (vp_updL gg p3.toNatClampNeg (cst (σ.1 4 (ix p4)) (σ.2 2 (ix p4)) p2))))))) H := hP
                have hD : va_D A (cX x0 b z (σ.1 0 0) (σ.1 2 0) (σ.1 2 1) (σ.1 2 2) (σ.1 2 3) (σ.1 2 4) (σ.1 1) (g 0) (g 1) (g 2) (g 3) (g 4) ++ va_pl L (va_up f (ad 3 (ix p1)) (.inl (z 6, ix (σ.1 6 (ix p1)), .inr (.inl (vp_updL gg p3.toNatClampNeg (cst (σ.1 4 (ix p4)) (σ.2 2 (ix p4)) p2))))))) := hD
                refine lv_aload_n hx hb dX7_keep_110 rfl (lv_at hl 3 rfl) ?_
                refine lv_iconst (v := 1) hx hb dX7_keep_111 (by decide) ?_
                have hFc := wFree hD hS hA
                refine va_calli (va_runV (As := [.int 1]) (rest := []) ⟨hx, hb, hml, hown, hts⟩ (met_X7_answer l Dg x0 H.size b z (σ.1 0 0) (σ.1 2 0) (σ.1 2 1) (σ.1 2 2) (σ.1 2 3) (σ.1 2 4) (σ.1 1) (g 0) (g 1) (g 2) (g 3) (g 4) L (va_up f (ad 3 (ix p1)) (.inl (z 6, ix (σ.1 6 (ix p1)), .inr (.inl (vp_updL gg p3.toNatClampNeg (cst (σ.1 4 (ix p4)) (σ.2 2 (ix p4)) p2)))))) 1 ) (cwV 1 hts gX7_keep_X7_answer rfl rfl rfl (by decide +kernel) ⟨Nat.le_of_ble_eq_true rfl, Nat.le_of_ble_eq_true rfl⟩) (wPreV hK hP (hD.weaken (fun _ _ _ _ => trivial)) (va_recv hK hP (ci := 5) (q0 := 0) rfl rfl)) rfl rfl hl.1 rfl (lv_room (Nat.le_of_ble_eq_true rfl)) dX7_keep_112 ⟨Nat.le_of_ble_eq_true rfl, Nat.le_of_ble_eq_true rfl⟩) hS (fun q _ h => hFc q h) hFc (fun r u t H locs ht hvm hw hB _ _ hS => ?_)
                obtain ⟨hP, -, hD⟩ := hB
                rw [ht] at hP
                replace hD := hD.weaken (fun _ q _ h => hFc q.1 h)
                rw [hw.2] at hP hD
                rw [hw.1]
                clear hw hFc
                have hP : va_P Dg vwCl (cX x0 b z 0 (σ.1 2 0) (σ.1 2 1) (σ.1 2 2) (σ.1 2 3) (σ.1 2 4) (σ.1 1) (g 0) (g 1) (g 2) (g 3) (g 4) ++ va_pl L (va_up f (ad 3 (ix p1)) (.inl (z 6, ix (σ.1 6 (ix p1)), .inr (.inl (vp_updL gg p3.toNatClampNeg (cst (σ.1 4 (ix p4)) (σ.2 2 (ix p4)) p2))))))) H := hP
                have hD : va_D A (cX x0 b z 0 (σ.1 2 0) (σ.1 2 1) (σ.1 2 2) (σ.1 2 3) (σ.1 2 4) (σ.1 1) (g 0) (g 1) (g 2) (g 3) (g 4) ++ va_pl L (va_up f (ad 3 (ix p1)) (.inl (z 6, ix (σ.1 6 (ix p1)), .inr (.inl (vp_updL gg p3.toNatClampNeg (cst (σ.1 4 (ix p4)) (σ.2 2 (ix p4)) p2))))))) := hD
                have hw : wh_keep σ p1 p2 p3 p4 = 0 := by simp only [wh_keep, if_pos c_1, if_pos c_3, if_pos c_5]; exact ag_ok c_6 c_8 (in_len (N := 16) T1.2.1 c_9 c_10).2
                exact W.iret (v := 1) hx hb hr (fun t ht hW => ⟨⟨_, (cX x0 b z 0 (σ.1 2 0) (σ.1 2 1) (σ.1 2 2) (σ.1 2 3) (σ.1 2 4) (σ.1 1) (g 0) (g 1) (g 2) (g 3) (g 4) ++ va_pl L (va_up f (ad 3 (ix p1)) (.inl (z 6, ix (σ.1 6 (ix p1)), .inr (.inl (vp_updL gg p3.toNatClampNeg (cst (σ.1 4 (ix p4)) (σ.2 2 (ix p4)) p2))))))), rfl, ⟨by rw [an_keep, if_pos hw]; try rfl, L, va_up f (ad 3 (ix p1)) (.inl (z 6, ix (σ.1 6 (ix p1)), .inr (.inl (vp_updL gg p3.toNatClampNeg (cst (σ.1 4 (ix p4)) (σ.2 2 (ix p4)) p2))))), ad, g, by rw [nw_keep, if_pos hw]; rfl, by rw [nw_keep, if_pos hw]; exact CI_keep hC (inC_lt hV.1.2.2.1 c_1) hj gv⟩, by rw [ht]; exact hP, va_K.moved hW.alike hK, hD⟩, hS.F ht⟩) hS.2.2 dX7_keep_115
              · refine lv_aload_n hx hb dX7_keep_85 rfl (lv_at hl 3 rfl) ?_
                refine lv_bipush (v := (-8)) hx hb dX7_keep_86 (by decide) ?_
                have hFc := wFree hD hS hA
                refine va_calli (va_runV (As := [.int (-8)]) (rest := []) ⟨hx, hb, hml, hown, hts⟩ (met_X7_refuse l Dg x0 s.heap.size b z (σ.1 0 0) (σ.1 2 0) (σ.1 2 1) (σ.1 2 2) (σ.1 2 3) (σ.1 2 4) (σ.1 1) (g 0) (g 1) (g 2) (g 3) (g 4) L f (-8) (by decide) (by unfold vp_in; decide)) (cwV 1 hts gX7_keep_X7_refuse rfl rfl rfl (by decide +kernel) ⟨Nat.le_of_ble_eq_true rfl, Nat.le_of_ble_eq_true rfl⟩) (wPreV hK hP (hD.weaken (fun _ _ _ _ => trivial)) (va_recv hK hP (ci := 5) (q0 := 0) rfl rfl)) rfl rfl hl.1 rfl (lv_room (Nat.le_of_ble_eq_true rfl)) dX7_keep_88 ⟨Nat.le_of_ble_eq_true rfl, Nat.le_of_ble_eq_true rfl⟩) hS (fun q _ h => hFc q h) hFc (fun r u t H locs ht hvm hw hB _ _ hS => ?_)
                obtain ⟨hP, -, hD⟩ := hB
                rw [ht] at hP
                replace hD := hD.weaken (fun _ q _ h => hFc q.1 h)
                rw [hw.2] at hP hD
                rw [hw.1]
                clear hw hFc
                have hP : va_P Dg vwCl (cX x0 b z (-8) (σ.1 2 0) (σ.1 2 1) (σ.1 2 2) (σ.1 2 3) (σ.1 2 4) (rfO (-8) (σ.1 1)) (g 0) (g 1) (g 2) (g 3) (g 4) ++ va_pl L f) H := hP
                have hD : va_D A (cX x0 b z (-8) (σ.1 2 0) (σ.1 2 1) (σ.1 2 2) (σ.1 2 3) (σ.1 2 4) (rfO (-8) (σ.1 1)) (g 0) (g 1) (g 2) (g 3) (g 4) ++ va_pl L f) := hD
                have hw : wh_keep σ p1 p2 p3 p4 = (-8) := by simp only [wh_keep, if_pos c_1, if_pos c_3, if_pos c_5]; exact ag_8 c_6 c_8 (nin_len T1.2.1 c_10)
                have hn : ¬ wh_keep σ p1 p2 p3 p4 = 0 := by rw [hw]; decide
                exact W.iret (v := (-8)) hx hb hr (fun t ht hW => ⟨⟨_, (cX x0 b z (-8) (σ.1 2 0) (σ.1 2 1) (σ.1 2 2) (σ.1 2 3) (σ.1 2 4) (rfO (-8) (σ.1 1)) (g 0) (g 1) (g 2) (g 3) (g 4) ++ va_pl L f), rfl, ⟨by rw [an_keep, if_neg hn, hw]; try rfl, L, f, ad, g, by rw [nw_keep, if_neg hn, hw]; rfl, by rw [nw_keep, if_neg hn]; exact CI_rf hC _⟩, by rw [ht]; exact hP, va_K.moved hW.alike hK, hD⟩, hS.F ht⟩) hS.2.2 dX7_keep_91
          · refine lv_aload_n hx hb dX7_keep_67 rfl (lv_at hl 3 rfl) ?_
            refine lv_bipush (v := (-7)) hx hb dX7_keep_68 (by decide) ?_
            have hFc := wFree hD hS hA
            refine va_calli (va_runV (As := [.int (-7)]) (rest := []) ⟨hx, hb, hml, hown, hts⟩ (met_X7_refuse l Dg x0 s.heap.size b z (σ.1 0 0) (σ.1 2 0) (σ.1 2 1) (σ.1 2 2) (σ.1 2 3) (σ.1 2 4) (σ.1 1) (g 0) (g 1) (g 2) (g 3) (g 4) L f (-7) (by decide) (by unfold vp_in; decide)) (cwV 1 hts gX7_keep_X7_refuse rfl rfl rfl (by decide +kernel) ⟨Nat.le_of_ble_eq_true rfl, Nat.le_of_ble_eq_true rfl⟩) (wPreV hK hP (hD.weaken (fun _ _ _ _ => trivial)) (va_recv hK hP (ci := 5) (q0 := 0) rfl rfl)) rfl rfl hl.1 rfl (lv_room (Nat.le_of_ble_eq_true rfl)) dX7_keep_70 ⟨Nat.le_of_ble_eq_true rfl, Nat.le_of_ble_eq_true rfl⟩) hS (fun q _ h => hFc q h) hFc (fun r u t H locs ht hvm hw hB _ _ hS => ?_)
            obtain ⟨hP, -, hD⟩ := hB
            rw [ht] at hP
            replace hD := hD.weaken (fun _ q _ h => hFc q.1 h)
            rw [hw.2] at hP hD
            rw [hw.1]
            clear hw hFc
            have hP : va_P Dg vwCl (cX x0 b z (-7) (σ.1 2 0) (σ.1 2 1) (σ.1 2 2) (σ.1 2 3) (σ.1 2 4) (rfO (-7) (σ.1 1)) (g 0) (g 1) (g 2) (g 3) (g 4) ++ va_pl L f) H := hP
            have hD : va_D A (cX x0 b z (-7) (σ.1 2 0) (σ.1 2 1) (σ.1 2 2) (σ.1 2 3) (σ.1 2 4) (rfO (-7) (σ.1 1)) (g 0) (g 1) (g 2) (g 3) (g 4) ++ va_pl L f) := hD
            have hw : wh_keep σ p1 p2 p3 p4 = (-7) := by simp only [wh_keep, if_pos c_1, if_pos c_3, if_pos c_5]; exact ag_7 c_6 c_8
            have hn : ¬ wh_keep σ p1 p2 p3 p4 = 0 := by rw [hw]; decide
            exact W.iret (v := (-7)) hx hb hr (fun t ht hW => ⟨⟨_, (cX x0 b z (-7) (σ.1 2 0) (σ.1 2 1) (σ.1 2 2) (σ.1 2 3) (σ.1 2 4) (rfO (-7) (σ.1 1)) (g 0) (g 1) (g 2) (g 3) (g 4) ++ va_pl L f), rfl, ⟨by rw [an_keep, if_neg hn, hw]; try rfl, L, f, ad, g, by rw [nw_keep, if_neg hn, hw]; rfl, by rw [nw_keep, if_neg hn]; exact CI_rf hC _⟩, by rw [ht]; exact hP, va_K.moved hW.alike hK, hD⟩, hS.F ht⟩) hS.2.2 dX7_keep_73
        · refine W.eq (g2 := F0 m 44 ls [.null]) (by rw [sR_1 c_6]) ?_
          refine lv_astoreN (lv' := [(7, .null), (6, .ref (ad 1 (ix p4))), (5, .ref (ad 2 (ix p1))), (0, .ref x0), (1, .int p1), (2, .int p2), (3, .int p3), (4, .int p4)]) hx hb dX7_keep_44 hl (by decide) rfl (fun ls hl => ?_)
          refine lv_aloadN hx hb dX7_keep_46 (lv_at hl 0 rfl) ?_
          refine lv_ifnonnullN hx hb dX7_keep_48 ?_
          refine lv_aload_n hx hb dX7_keep_51 rfl (lv_at hl 3 rfl) ?_
          refine lv_bipush (v := (-10)) hx hb dX7_keep_52 (by decide) ?_
          have hFc := wFree hD hS hA
          refine va_calli (va_runV (As := [.int (-10)]) (rest := []) ⟨hx, hb, hml, hown, hts⟩ (met_X7_refuse l Dg x0 s.heap.size b z (σ.1 0 0) (σ.1 2 0) (σ.1 2 1) (σ.1 2 2) (σ.1 2 3) (σ.1 2 4) (σ.1 1) (g 0) (g 1) (g 2) (g 3) (g 4) L f (-10) (by decide) (by unfold vp_in; decide)) (cwV 1 hts gX7_keep_X7_refuse rfl rfl rfl (by decide +kernel) ⟨Nat.le_of_ble_eq_true rfl, Nat.le_of_ble_eq_true rfl⟩) (wPreV hK hP (hD.weaken (fun _ _ _ _ => trivial)) (va_recv hK hP (ci := 5) (q0 := 0) rfl rfl)) rfl rfl hl.1 rfl (lv_room (Nat.le_of_ble_eq_true rfl)) dX7_keep_54 ⟨Nat.le_of_ble_eq_true rfl, Nat.le_of_ble_eq_true rfl⟩) hS (fun q _ h => hFc q h) hFc (fun r u t H locs ht hvm hw hB _ _ hS => ?_)
          obtain ⟨hP, -, hD⟩ := hB
          rw [ht] at hP
          replace hD := hD.weaken (fun _ q _ h => hFc q.1 h)
          rw [hw.2] at hP hD
          rw [hw.1]
          clear hw hFc
          have hP : va_P Dg vwCl (cX x0 b z (-10) (σ.1 2 0) (σ.1 2 1) (σ.1 2 2) (σ.1 2 3) (σ.1 2 4) (rfO (-10) (σ.1 1)) (g 0) (g 1) (g 2) (g 3) (g 4) ++ va_pl L f) H := hP
          have hD : va_D A (cX x0 b z (-10) (σ.1 2 0) (σ.1 2 1) (σ.1 2 2) (σ.1 2 3) (σ.1 2 4) (rfO (-10) (σ.1 1)) (g 0) (g 1) (g 2) (g 3) (g 4) ++ va_pl L f) := hD
          have hw : wh_keep σ p1 p2 p3 p4 = (-10) := by simp only [wh_keep, if_pos c_1, if_pos c_3, if_pos c_5]; exact ag_10 c_6
          have hn : ¬ wh_keep σ p1 p2 p3 p4 = 0 := by rw [hw]; decide
          exact W.iret (v := (-10)) hx hb hr (fun t ht hW => ⟨⟨_, (cX x0 b z (-10) (σ.1 2 0) (σ.1 2 1) (σ.1 2 2) (σ.1 2 3) (σ.1 2 4) (rfO (-10) (σ.1 1)) (g 0) (g 1) (g 2) (g 3) (g 4) ++ va_pl L f), rfl, ⟨by rw [an_keep, if_neg hn, hw]; try rfl, L, f, ad, g, by rw [nw_keep, if_neg hn, hw]; rfl, by rw [nw_keep, if_neg hn]; exact CI_rf hC _⟩, by rw [ht]; exact hP, va_K.moved hW.alike hK, hD⟩, hS.F ht⟩) hS.2.2 dX7_keep_57
    · refine va_csq ((va_runV (As := [.int p4]) (rest := []) ⟨hx, hb, hml, hown, hts⟩ (met_X7_registerAt l Dg x0 b z (σ.1 0 0) (σ.1 2 0) (σ.1 2 1) (σ.1 2 2) (σ.1 2 3) (σ.1 2 4) (σ.1 1) (g 0) (g 1) (g 2) (g 3) (g 4) L f p4 hV.1.2.1) (cwV 1 hts gX7_keep_X7_registerAt rfl rfl rfl (by decide +kernel) ⟨Nat.le_of_ble_eq_true rfl, Nat.le_of_ble_eq_true rfl⟩) (rPreV hK hP (va_recv hK hP (ci := 5) (q0 := 0) rfl rfl)) rfl rfl hl.1 rfl (lv_room (Nat.le_of_ble_eq_true rfl)) dX7_keep_10 ⟨Nat.le_of_ble_eq_true rfl, Nat.le_of_ble_eq_true rfl⟩).run) (fun r hw => ?_)
      obtain rfl : r = none := hw.trans (if_neg c_3)
      refine W.eq (g2 := F0 m 13 ls [.null]) rfl ?_
      refine lv_astoreN (lv' := [(6, .null), (5, .ref (ad 2 (ix p1))), (0, .ref x0), (1, .int p1), (2, .int p2), (3, .int p3), (4, .int p4)]) hx hb dX7_keep_13 hl (by decide) rfl (fun ls hl => ?_)
      refine lv_aload hx hb dX7_keep_15 (lv_at hl 1 rfl) ?_
      refine lv_ifnull hx hb dX7_keep_17 ?_
      refine lv_iload_n hx hb dX7_keep_20 rfl (lv_at hl 4 rfl) ?_
      refine vp_callSi ((va_runS (As := [.int p2]) (rest := []) ⟨hx, hb, hml, hown, hts⟩ (met_X0_isKind l p2) (va_cwS 1 hts gX7_keep_X0_isKind rfl rfl rfl (by decide +kernel) ⟨Nat.le_of_ble_eq_true rfl, Nat.le_of_ble_eq_true rfl⟩) ⟨fun _ _ _ _ q => q, fun U hU hW => ⟨rfl, trivial⟩⟩ rfl rfl hl.1 rfl (lv_room (Nat.le_of_ble_eq_true rfl)) dX7_keep_21 ⟨Nat.le_of_ble_eq_true rfl, Nat.le_of_ble_eq_true rfl⟩).run) (fun r hw => ?_)
      subst hw
      refine lv_if_eq (tgt := 32) hx hb dX7_keep_24 (by decide) (fun c_11 => ?_) (fun c_11 => ?_)
      · replace c_11 := bI_eq c_11
        replace c_11 := mt (kind_eq).mpr c_11
        refine lv_aload_n hx hb dX7_keep_32 rfl (lv_at hl 2 rfl) ?_
        refine lv_bipush (v := (-2)) hx hb dX7_keep_33 (by decide) ?_
        have hFc := wFree hD hS hA
        refine va_calli (va_runV (As := [.int (-2)]) (rest := []) ⟨hx, hb, hml, hown, hts⟩ (met_X7_refuse l Dg x0 s.heap.size b z (σ.1 0 0) (σ.1 2 0) (σ.1 2 1) (σ.1 2 2) (σ.1 2 3) (σ.1 2 4) (σ.1 1) (g 0) (g 1) (g 2) (g 3) (g 4) L f (-2) (by decide) (by unfold vp_in; decide)) (cwV 1 hts gX7_keep_X7_refuse rfl rfl rfl (by decide +kernel) ⟨Nat.le_of_ble_eq_true rfl, Nat.le_of_ble_eq_true rfl⟩) (wPreV hK hP (hD.weaken (fun _ _ _ _ => trivial)) (va_recv hK hP (ci := 5) (q0 := 0) rfl rfl)) rfl rfl hl.1 rfl (lv_room (Nat.le_of_ble_eq_true rfl)) dX7_keep_35 ⟨Nat.le_of_ble_eq_true rfl, Nat.le_of_ble_eq_true rfl⟩) hS (fun q _ h => hFc q h) hFc (fun r u t H locs ht hvm hw hB _ _ hS => ?_)
        obtain ⟨hP, -, hD⟩ := hB
        rw [ht] at hP
        replace hD := hD.weaken (fun _ q _ h => hFc q.1 h)
        rw [hw.2] at hP hD
        rw [hw.1]
        clear hw hFc
        have hP : va_P Dg vwCl (cX x0 b z (-2) (σ.1 2 0) (σ.1 2 1) (σ.1 2 2) (σ.1 2 3) (σ.1 2 4) (rfO (-2) (σ.1 1)) (g 0) (g 1) (g 2) (g 3) (g 4) ++ va_pl L f) H := hP
        have hD : va_D A (cX x0 b z (-2) (σ.1 2 0) (σ.1 2 1) (σ.1 2 2) (σ.1 2 3) (σ.1 2 4) (rfO (-2) (σ.1 1)) (g 0) (g 1) (g 2) (g 3) (g 4) ++ va_pl L f) := hD
        have hw : wh_keep σ p1 p2 p3 p4 = (-2) := by simp only [wh_keep, if_pos c_1, if_neg c_3, if_neg c_11]
        have hn : ¬ wh_keep σ p1 p2 p3 p4 = 0 := by rw [hw]; decide
        exact W.iret (v := (-2)) hx hb hr (fun t ht hW => ⟨⟨_, (cX x0 b z (-2) (σ.1 2 0) (σ.1 2 1) (σ.1 2 2) (σ.1 2 3) (σ.1 2 4) (rfO (-2) (σ.1 1)) (g 0) (g 1) (g 2) (g 3) (g 4) ++ va_pl L f), rfl, ⟨by rw [an_keep, if_neg hn, hw]; try rfl, L, f, ad, g, by rw [nw_keep, if_neg hn, hw]; rfl, by rw [nw_keep, if_neg hn]; exact CI_rf hC _⟩, by rw [ht]; exact hP, va_K.moved hW.alike hK, hD⟩, hS.F ht⟩) hS.2.2 dX7_keep_38
      · replace c_11 := bI_ne c_11
        replace c_11 := (kind_eq).mp c_11
        refine lv_aloadN hx hb dX7_keep_27 (lv_at hl 0 rfl) ?_
        refine lv_ifnonnullN hx hb dX7_keep_29 ?_
        refine lv_aload_n hx hb dX7_keep_32 rfl (lv_at hl 2 rfl) ?_
        refine lv_bipush (v := (-2)) hx hb dX7_keep_33 (by decide) ?_
        have hFc := wFree hD hS hA
        refine va_calli (va_runV (As := [.int (-2)]) (rest := []) ⟨hx, hb, hml, hown, hts⟩ (met_X7_refuse l Dg x0 s.heap.size b z (σ.1 0 0) (σ.1 2 0) (σ.1 2 1) (σ.1 2 2) (σ.1 2 3) (σ.1 2 4) (σ.1 1) (g 0) (g 1) (g 2) (g 3) (g 4) L f (-2) (by decide) (by unfold vp_in; decide)) (cwV 1 hts gX7_keep_X7_refuse rfl rfl rfl (by decide +kernel) ⟨Nat.le_of_ble_eq_true rfl, Nat.le_of_ble_eq_true rfl⟩) (wPreV hK hP (hD.weaken (fun _ _ _ _ => trivial)) (va_recv hK hP (ci := 5) (q0 := 0) rfl rfl)) rfl rfl hl.1 rfl (lv_room (Nat.le_of_ble_eq_true rfl)) dX7_keep_35 ⟨Nat.le_of_ble_eq_true rfl, Nat.le_of_ble_eq_true rfl⟩) hS (fun q _ h => hFc q h) hFc (fun r u t H locs ht hvm hw hB _ _ hS => ?_)
        obtain ⟨hP, -, hD⟩ := hB
        rw [ht] at hP
        replace hD := hD.weaken (fun _ q _ h => hFc q.1 h)
        rw [hw.2] at hP hD
        rw [hw.1]
        clear hw hFc
        have hP : va_P Dg vwCl (cX x0 b z (-2) (σ.1 2 0) (σ.1 2 1) (σ.1 2 2) (σ.1 2 3) (σ.1 2 4) (rfO (-2) (σ.1 1)) (g 0) (g 1) (g 2) (g 3) (g 4) ++ va_pl L f) H := hP
        have hD : va_D A (cX x0 b z (-2) (σ.1 2 0) (σ.1 2 1) (σ.1 2 2) (σ.1 2 3) (σ.1 2 4) (rfO (-2) (σ.1 1)) (g 0) (g 1) (g 2) (g 3) (g 4) ++ va_pl L f) := hD
        have hw : wh_keep σ p1 p2 p3 p4 = (-2) := by simp only [wh_keep, if_pos c_1, if_neg c_3, if_pos c_11]
        have hn : ¬ wh_keep σ p1 p2 p3 p4 = 0 := by rw [hw]; decide
        exact W.iret (v := (-2)) hx hb hr (fun t ht hW => ⟨⟨_, (cX x0 b z (-2) (σ.1 2 0) (σ.1 2 1) (σ.1 2 2) (σ.1 2 3) (σ.1 2 4) (rfO (-2) (σ.1 1)) (g 0) (g 1) (g 2) (g 3) (g 4) ++ va_pl L f), rfl, ⟨by rw [an_keep, if_neg hn, hw]; try rfl, L, f, ad, g, by rw [nw_keep, if_neg hn, hw]; rfl, by rw [nw_keep, if_neg hn]; exact CI_rf hC _⟩, by rw [ht]; exact hP, va_K.moved hW.alike hK, hD⟩, hS.F ht⟩) hS.2.2 dX7_keep_38
  · refine va_csq ((va_runV (As := [.int p1]) (rest := []) ⟨hx, hb, hml, hown, hts⟩ (met_X7_stripAt l Dg x0 b z (σ.1 0 0) (σ.1 2 0) (σ.1 2 1) (σ.1 2 2) (σ.1 2 3) (σ.1 2 4) (σ.1 1) (g 0) (g 1) (g 2) (g 3) (g 4) L f p1 hV.1.2.2.1) (cwV 1 hts gX7_keep_X7_stripAt rfl rfl rfl (by decide +kernel) ⟨Nat.le_of_ble_eq_true rfl, Nat.le_of_ble_eq_true rfl⟩) (rPreV hK hP (va_recv hK hP (ci := 5) (q0 := 0) rfl rfl)) rfl rfl hl.1 rfl (lv_room (Nat.le_of_ble_eq_true rfl)) dX7_keep_2 ⟨Nat.le_of_ble_eq_true rfl, Nat.le_of_ble_eq_true rfl⟩).run) (fun r hw => ?_)
    obtain rfl : r = none := hw.trans (if_neg c_1)
    refine W.eq (g2 := F0 m 5 ls [.null]) rfl ?_
    refine lv_astoreN (lv' := [(5, .null), (0, .ref x0), (1, .int p1), (2, .int p2), (3, .int p3), (4, .int p4)]) hx hb dX7_keep_5 hl (by decide) rfl (fun ls hl => ?_)
    refine lv_aload_n hx hb dX7_keep_7 rfl (lv_at hl 1 rfl) ?_
    refine lv_iload hx hb dX7_keep_8 (lv_at hl 5 rfl) ?_
    rcases Decidable.em (fX8_isIn p4 0 ((σ.1 2 1) - 1) = true) with c_12 | c_12
    · refine va_csq ((va_runV (As := [.int p4]) (rest := []) ⟨hx, hb, hml, hown, hts⟩ (met_X7_registerAt l Dg x0 b z (σ.1 0 0) (σ.1 2 0) (σ.1 2 1) (σ.1 2 2) (σ.1 2 3) (σ.1 2 4) (σ.1 1) (g 0) (g 1) (g 2) (g 3) (g 4) L f p4 hV.1.2.1) (cwV 1 hts gX7_keep_X7_registerAt rfl rfl rfl (by decide +kernel) ⟨Nat.le_of_ble_eq_true rfl, Nat.le_of_ble_eq_true rfl⟩) (rPreV hK hP (va_recv hK hP (ci := 5) (q0 := 0) rfl rfl)) rfl rfl hl.1 rfl (lv_room (Nat.le_of_ble_eq_true rfl)) dX7_keep_10 ⟨Nat.le_of_ble_eq_true rfl, Nat.le_of_ble_eq_true rfl⟩).run) (fun r hw => ?_)
      obtain rfl : r = some (ad 1 (ix p4)) := hw.trans ((if_pos c_12).trans (hC.2.2.1 _ (inC_lt hV.1.2.1 c_12)))
      refine W.eq (g2 := F0 m 13 ls [.ref (ad 1 (ix p4))]) rfl ?_
      have lt_13 := inC_lt hV.1.2.1 c_12
      have o_13 := hC.1.1 1 _ (by decide) lt_13
      have f_13 : f (ad 1 (ix p4)) = .inr (1, [.int (σ.1 4 (ix p4)), .long (σ.2 2 (ix p4))]) := o_13.2
      refine lv_astore (lv' := [(6, .ref (ad 1 (ix p4))), (5, .null), (0, .ref x0), (1, .int p1), (2, .int p2), (3, .int p3), (4, .int p4)]) hx hb dX7_keep_13 hl (by decide) rfl (fun ls hl => ?_)
      refine lv_aloadN hx hb dX7_keep_15 (lv_at hl 1 rfl) ?_
      refine lv_ifnullN (tgt := 32) hx hb dX7_keep_17 (by decide) ?_
      refine lv_aload_n hx hb dX7_keep_32 rfl (lv_at hl 2 rfl) ?_
      refine lv_bipush (v := (-2)) hx hb dX7_keep_33 (by decide) ?_
      have hFc := wFree hD hS hA
      refine va_calli (va_runV (As := [.int (-2)]) (rest := []) ⟨hx, hb, hml, hown, hts⟩ (met_X7_refuse l Dg x0 s.heap.size b z (σ.1 0 0) (σ.1 2 0) (σ.1 2 1) (σ.1 2 2) (σ.1 2 3) (σ.1 2 4) (σ.1 1) (g 0) (g 1) (g 2) (g 3) (g 4) L f (-2) (by decide) (by unfold vp_in; decide)) (cwV 1 hts gX7_keep_X7_refuse rfl rfl rfl (by decide +kernel) ⟨Nat.le_of_ble_eq_true rfl, Nat.le_of_ble_eq_true rfl⟩) (wPreV hK hP (hD.weaken (fun _ _ _ _ => trivial)) (va_recv hK hP (ci := 5) (q0 := 0) rfl rfl)) rfl rfl hl.1 rfl (lv_room (Nat.le_of_ble_eq_true rfl)) dX7_keep_35 ⟨Nat.le_of_ble_eq_true rfl, Nat.le_of_ble_eq_true rfl⟩) hS (fun q _ h => hFc q h) hFc (fun r u t H locs ht hvm hw hB _ _ hS => ?_)
      obtain ⟨hP, -, hD⟩ := hB
      rw [ht] at hP
      replace hD := hD.weaken (fun _ q _ h => hFc q.1 h)
      rw [hw.2] at hP hD
      rw [hw.1]
      clear hw hFc
      have hP : va_P Dg vwCl (cX x0 b z (-2) (σ.1 2 0) (σ.1 2 1) (σ.1 2 2) (σ.1 2 3) (σ.1 2 4) (rfO (-2) (σ.1 1)) (g 0) (g 1) (g 2) (g 3) (g 4) ++ va_pl L f) H := hP
      have hD : va_D A (cX x0 b z (-2) (σ.1 2 0) (σ.1 2 1) (σ.1 2 2) (σ.1 2 3) (σ.1 2 4) (rfO (-2) (σ.1 1)) (g 0) (g 1) (g 2) (g 3) (g 4) ++ va_pl L f) := hD
      have hw : wh_keep σ p1 p2 p3 p4 = (-2) := by simp only [wh_keep, if_neg c_1, if_pos c_12]
      have hn : ¬ wh_keep σ p1 p2 p3 p4 = 0 := by rw [hw]; decide
      exact W.iret (v := (-2)) hx hb hr (fun t ht hW => ⟨⟨_, (cX x0 b z (-2) (σ.1 2 0) (σ.1 2 1) (σ.1 2 2) (σ.1 2 3) (σ.1 2 4) (rfO (-2) (σ.1 1)) (g 0) (g 1) (g 2) (g 3) (g 4) ++ va_pl L f), rfl, ⟨by rw [an_keep, if_neg hn, hw]; try rfl, L, f, ad, g, by rw [nw_keep, if_neg hn, hw]; rfl, by rw [nw_keep, if_neg hn]; exact CI_rf hC _⟩, by rw [ht]; exact hP, va_K.moved hW.alike hK, hD⟩, hS.F ht⟩) hS.2.2 dX7_keep_38
    · refine va_csq ((va_runV (As := [.int p4]) (rest := []) ⟨hx, hb, hml, hown, hts⟩ (met_X7_registerAt l Dg x0 b z (σ.1 0 0) (σ.1 2 0) (σ.1 2 1) (σ.1 2 2) (σ.1 2 3) (σ.1 2 4) (σ.1 1) (g 0) (g 1) (g 2) (g 3) (g 4) L f p4 hV.1.2.1) (cwV 1 hts gX7_keep_X7_registerAt rfl rfl rfl (by decide +kernel) ⟨Nat.le_of_ble_eq_true rfl, Nat.le_of_ble_eq_true rfl⟩) (rPreV hK hP (va_recv hK hP (ci := 5) (q0 := 0) rfl rfl)) rfl rfl hl.1 rfl (lv_room (Nat.le_of_ble_eq_true rfl)) dX7_keep_10 ⟨Nat.le_of_ble_eq_true rfl, Nat.le_of_ble_eq_true rfl⟩).run) (fun r hw => ?_)
      obtain rfl : r = none := hw.trans (if_neg c_12)
      refine W.eq (g2 := F0 m 13 ls [.null]) rfl ?_
      refine lv_astoreN (lv' := [(6, .null), (5, .null), (0, .ref x0), (1, .int p1), (2, .int p2), (3, .int p3), (4, .int p4)]) hx hb dX7_keep_13 hl (by decide) rfl (fun ls hl => ?_)
      refine lv_aloadN hx hb dX7_keep_15 (lv_at hl 1 rfl) ?_
      refine lv_ifnullN (tgt := 32) hx hb dX7_keep_17 (by decide) ?_
      refine lv_aload_n hx hb dX7_keep_32 rfl (lv_at hl 2 rfl) ?_
      refine lv_bipush (v := (-2)) hx hb dX7_keep_33 (by decide) ?_
      have hFc := wFree hD hS hA
      refine va_calli (va_runV (As := [.int (-2)]) (rest := []) ⟨hx, hb, hml, hown, hts⟩ (met_X7_refuse l Dg x0 s.heap.size b z (σ.1 0 0) (σ.1 2 0) (σ.1 2 1) (σ.1 2 2) (σ.1 2 3) (σ.1 2 4) (σ.1 1) (g 0) (g 1) (g 2) (g 3) (g 4) L f (-2) (by decide) (by unfold vp_in; decide)) (cwV 1 hts gX7_keep_X7_refuse rfl rfl rfl (by decide +kernel) ⟨Nat.le_of_ble_eq_true rfl, Nat.le_of_ble_eq_true rfl⟩) (wPreV hK hP (hD.weaken (fun _ _ _ _ => trivial)) (va_recv hK hP (ci := 5) (q0 := 0) rfl rfl)) rfl rfl hl.1 rfl (lv_room (Nat.le_of_ble_eq_true rfl)) dX7_keep_35 ⟨Nat.le_of_ble_eq_true rfl, Nat.le_of_ble_eq_true rfl⟩) hS (fun q _ h => hFc q h) hFc (fun r u t H locs ht hvm hw hB _ _ hS => ?_)
      obtain ⟨hP, -, hD⟩ := hB
      rw [ht] at hP
      replace hD := hD.weaken (fun _ q _ h => hFc q.1 h)
      rw [hw.2] at hP hD
      rw [hw.1]
      clear hw hFc
      have hP : va_P Dg vwCl (cX x0 b z (-2) (σ.1 2 0) (σ.1 2 1) (σ.1 2 2) (σ.1 2 3) (σ.1 2 4) (rfO (-2) (σ.1 1)) (g 0) (g 1) (g 2) (g 3) (g 4) ++ va_pl L f) H := hP
      have hD : va_D A (cX x0 b z (-2) (σ.1 2 0) (σ.1 2 1) (σ.1 2 2) (σ.1 2 3) (σ.1 2 4) (rfO (-2) (σ.1 1)) (g 0) (g 1) (g 2) (g 3) (g 4) ++ va_pl L f) := hD
      have hw : wh_keep σ p1 p2 p3 p4 = (-2) := by simp only [wh_keep, if_neg c_1, if_neg c_12]
      have hn : ¬ wh_keep σ p1 p2 p3 p4 = 0 := by rw [hw]; decide
      exact W.iret (v := (-2)) hx hb hr (fun t ht hW => ⟨⟨_, (cX x0 b z (-2) (σ.1 2 0) (σ.1 2 1) (σ.1 2 2) (σ.1 2 3) (σ.1 2 4) (rfO (-2) (σ.1 1)) (g 0) (g 1) (g 2) (g 3) (g 4) ++ va_pl L f), rfl, ⟨by rw [an_keep, if_neg hn, hw]; try rfl, L, f, ad, g, by rw [nw_keep, if_neg hn, hw]; rfl, by rw [nw_keep, if_neg hn]; exact CI_rf hC _⟩, by rw [ht]; exact hP, va_K.moved hW.alike hK, hD⟩, hS.F ht⟩) hS.2.2 dX7_keep_38

theorem in_X5_X7_kept : ∀ w ∈ wsX50, w ∈ wsX7_kept := fun w h => List.mem_cons_of_mem _ (List.mem_append_left _ (List.mem_append_right _ h))
theorem in_X7_X7_kept : ∀ w ∈ wsX70, w ∈ wsX7_kept := fun w h => List.mem_cons_of_mem _ (List.mem_append_right _ h)
set_option maxHeartbeats 4000000 in
set_option maxRecDepth 100000 in
theorem met_X7_kept (l : Launch) (Dg : va_G) (x0 sz : Nat) (b : Nat → Nat) (z : Nat → ClassId) (σ : St) (L : List Nat) (f : Nat → va_E) (ad : Nat → Nat → Nat) (g : Nat → Nat → Option Nat) (p1 : Int32) (p2 : Int32) (p3 : Int32) (hV : vOK σ) (hC : CI z σ L f ad g)  : Met l yX7_kept wsX7_kept ({ frames := 2, cells := 0, slots := 0, locals := 42 }) (va_Pc [.ref x0, .int p1, .int p2, .int p3] (wB Dg (cT z) (cX x0 b z (σ.1 0 0) (σ.1 2 0) (σ.1 2 1) (σ.1 2 2) (σ.1 2 3) (σ.1 2 4) (σ.1 1) (g 0) (g 1) (g 2) (g 3) (g 4) ++ va_pl L f) sz)) (va_Ql (fun (r : Int64) (u : va_W) => r = an_kept σ p1 p2 p3 ∧ CX x0 b z (nw_kept σ p1 p2 p3) u) (wE Dg (cT z) (va_A (cX x0 b z (σ.1 0 0) (σ.1 2 0) (σ.1 2 1) (σ.1 2 2) (σ.1 2 3) (σ.1 2 4) (σ.1 1) (g 0) (g 1) (g 2) (g 3) (g 4) ++ va_pl L f) sz)) (va_A (cX x0 b z (σ.1 0 0) (σ.1 2 0) (σ.1 2 1) (σ.1 2 2) (σ.1 2 3) (σ.1 2 4) (σ.1 1) (g 0) (g 1) (g 2) (g 3) (g 4) ++ va_pl L f) sz)) 0 0 (va_A (cX x0 b z (σ.1 0 0) (σ.1 2 0) (σ.1 2 1) (σ.1 2 2) (σ.1 2 3) (σ.1 2 4) (σ.1 1) (g 0) (g 1) (g 2) (g 3) (g 4) ++ va_pl L f) sz) := by
  refine Met.ofW (cc := cX7_kept) (maxL := 6) (ret := (some .long)) (by decide) rfl ?_
  intro p e s m args below meth c s₁ B hml hv
  obtain ⟨rfl, hsz, hP, hK, hD0⟩ := hv
  have hx := B.exec
  have hb := B.bytes
  have hr := B.returns
  have hts := atoms_spec (ws := wsX7_kept) B.pre
  have hown : s.vm.findClass RX7 = some m.cls := findClass_of_methodNamed B.named
  have hlocks := B.notSynchronized
  subst hsz
  have hD := hD0.self (sz := s.heap.size)
  generalize hAe : va_A (cX x0 b z (σ.1 0 0) (σ.1 2 0) (σ.1 2 1) (σ.1 2 2) (σ.1 2 3) (σ.1 2 4) (σ.1 1) (g 0) (g 1) (g 2) (g 3) (g 4) ++ va_pl L f) s.heap.size = A at hD ⊢
  have hA : ∀ q : Nat, s.heap.size ≤ q → A q := fun q h => by rw [← hAe]; exact Or.inr h
  have hS : va_S A s.heap s.heap [] := va_S.rf
  have hP : va_P Dg vwCl (cX x0 b z (σ.1 0 0) (σ.1 2 0) (σ.1 2 1) (σ.1 2 2) (σ.1 2 3) (σ.1 2 4) (σ.1 1) (g 0) (g 1) (g 2) (g 3) (g 4) ++ va_pl L f) s.heap := hP
  have hl := lv_entry ([.ref x0, .int p1, .int p2, .int p3]) (n := 6) (Nat.le_of_ble_eq_true rfl)
  rw [lg_entry_eq]
  generalize (lg_sl ([.ref x0, .int p1, .int p2, .int p3]) ++ List.replicate (6 - (lg_sl ([.ref x0, .int p1, .int p2, .int p3])).length) Slot.unset).toArray = ls at hl ⊢
  have hl : lv_has ls 6 [(0, .ref x0), (1, .int p1), (2, .int p2), (3, .int p3)] := hl
  refine lv_aload_n hx hb dX7_kept_0 rfl (lv_at hl 0 rfl) ?_
  refine lv_iload_n hx hb dX7_kept_1 rfl (lv_at hl 1 rfl) ?_
  rcases Decidable.em (fX8_isIn p1 0 ((σ.1 2 2) - 1) = true) with c_1 | c_1
  · refine va_csq ((va_runV (As := [.int p1]) (rest := []) ⟨hx, hb, hml, hown, hts⟩ (met_X7_stripAt l Dg x0 b z (σ.1 0 0) (σ.1 2 0) (σ.1 2 1) (σ.1 2 2) (σ.1 2 3) (σ.1 2 4) (σ.1 1) (g 0) (g 1) (g 2) (g 3) (g 4) L f p1 hV.1.2.2.1) (cwV 1 hts gX7_kept_X7_stripAt rfl rfl rfl (by decide +kernel) ⟨Nat.le_of_ble_eq_true rfl, Nat.le_of_ble_eq_true rfl⟩) (rPreV hK hP (va_recv hK hP (ci := 5) (q0 := 0) rfl rfl)) rfl rfl hl.1 rfl (lv_room (Nat.le_of_ble_eq_true rfl)) dX7_kept_2 ⟨Nat.le_of_ble_eq_true rfl, Nat.le_of_ble_eq_true rfl⟩).run) (fun r hw => ?_)
    obtain rfl : r = some (ad 2 (ix p1)) := hw.trans ((if_pos c_1).trans (hC.2.2.2.1 _ (inC_lt hV.1.2.2.1 c_1)))
    refine W.eq (g2 := F0 m 5 ls [.ref (ad 2 (ix p1))]) rfl ?_
    have lt_2 := inC_lt hV.1.2.2.1 c_1
    have o_2 := hC.1.1 2 _ (by decide) lt_2
    have f_2 : f (ad 2 (ix p1)) = .inr (3, [.int (σ.1 5 (ix p1)), (sR (ad 3 (ix p1)) (σ.1 7 (ix p1)))]) := o_2.2
    refine lv_astore (lv' := [(4, .ref (ad 2 (ix p1))), (0, .ref x0), (1, .int p1), (2, .int p2), (3, .int p3)]) hx hb dX7_kept_5 hl (by decide) rfl (fun ls hl => ?_)
    refine lv_aload hx hb dX7_kept_7 (lv_at hl 0 rfl) ?_
    refine lv_ifnull hx hb dX7_kept_9 ?_
    refine lv_iload_n hx hb dX7_kept_12 rfl (lv_at hl 3 rfl) ?_
    refine vp_callSi ((va_runS (As := [.int p2]) (rest := []) ⟨hx, hb, hml, hown, hts⟩ (met_X0_isKind l p2) (va_cwS 1 hts gX7_kept_X0_isKind rfl rfl rfl (by decide +kernel) ⟨Nat.le_of_ble_eq_true rfl, Nat.le_of_ble_eq_true rfl⟩) ⟨fun _ _ _ _ q => q, fun U hU hW => ⟨rfl, trivial⟩⟩ rfl rfl hl.1 rfl (lv_room (Nat.le_of_ble_eq_true rfl)) dX7_kept_13 ⟨Nat.le_of_ble_eq_true rfl, Nat.le_of_ble_eq_true rfl⟩).run) (fun r hw => ?_)
    subst hw
    refine lv_if_ne (tgt := 27) hx hb dX7_kept_16 (by decide) (fun c_3 => ?_) (fun c_3 => ?_)
    · replace c_3 := bI_ne c_3
      replace c_3 := (kind_eq).mp c_3
      refine lv_aload hx hb dX7_kept_27 (lv_at hl 0 rfl) ?_
      refine vg_get (D := Dg) (ci := 3) (v := (sR (ad 3 (ix p1)) (σ.1 7 (ix p1)))) (C := RX5) (T := TX5) (N := 2) hx hb hts in_X5_X7_kept hown hK hP o_2.1 f_2 rfl 1 (by decide) (hts (.fieldLink RX7 163 "OrreryWorks$Strip" "places" "[J") (by decide +kernel)) (fun _ h9 => h9) rfl dX7_kept_29 ?_
      rcases Decidable.em ((σ.1 7 (ix p1)) = 0) with c_4 | c_4
      · refine W.eq (g2 := F0 m 32 ls [.ref (ad 3 (ix p1))]) (by rw [sR_0 c_4]) ?_
        have o_5 := hC.1.1 3 _ (by decide) lt_2
        obtain ⟨gg, ge, gv⟩ := o_5.2
        have T1 := hV.2.2.2.1 _ lt_2
        refine lv_astore (lv' := [(5, .ref (ad 3 (ix p1))), (4, .ref (ad 2 (ix p1))), (0, .ref x0), (1, .int p1), (2, .int p2), (3, .int p3)]) hx hb dX7_kept_32 hl (by decide) rfl (fun ls hl => ?_)
        refine lv_aload hx hb dX7_kept_34 (lv_at hl 0 rfl) ?_
        refine lv_ifnonnull (tgt := 47) hx hb dX7_kept_36 (by decide) ?_
        refine lv_aload hx hb dX7_kept_47 (lv_at hl 1 rfl) ?_
        refine vg_get (D := Dg) (ci := 3) (v := .int (σ.1 5 (ix p1))) (C := RX5) (T := TX5) (N := 2) hx hb hts in_X5_X7_kept hown hK hP o_2.1 f_2 rfl 0 (by decide) (hts (.fieldLink RX7 167 "OrreryWorks$Strip" "lane" "I") (by decide +kernel)) (fun _ h9 => h9) rfl dX7_kept_49 ?_
        refine lv_iload_n hx hb dX7_kept_52 rfl (lv_at hl 4 rfl) ?_
        refine lv_icmp_eq (tgt := 64) hx hb dX7_kept_53 (by decide) (fun c_6 => ?_) (fun c_6 => ?_)
        · refine lv_iload_n hx hb dX7_kept_64 rfl (lv_at hl 5 rfl) ?_
          refine lv_if_lt (tgt := 75) hx hb dX7_kept_65 (by decide) (fun c_7 => ?_) (fun c_7 => ?_)
          · refine lv_aload_n hx hb dX7_kept_75 rfl (lv_at hl 2 rfl) ?_
            refine lv_bipush (v := (-8)) hx hb dX7_kept_76 (by decide) ?_
            have hFc := wFree hD hS hA
            refine va_calli (va_runV (As := [.int (-8)]) (rest := []) ⟨hx, hb, hml, hown, hts⟩ (met_X7_refuseAnyNumber l Dg x0 s.heap.size b z (σ.1 0 0) (σ.1 2 0) (σ.1 2 1) (σ.1 2 2) (σ.1 2 3) (σ.1 2 4) (σ.1 1) (g 0) (g 1) (g 2) (g 3) (g 4) L f (-8) (by decide) (by unfold vp_in; decide)) (cwV 1 hts gX7_kept_X7_refuseAnyNumber rfl rfl rfl (by decide +kernel) ⟨Nat.le_of_ble_eq_true rfl, Nat.le_of_ble_eq_true rfl⟩) (wPreV hK hP (hD.weaken (fun _ _ _ _ => trivial)) (va_recv hK hP (ci := 5) (q0 := 0) rfl rfl)) rfl rfl hl.1 rfl (lv_room (Nat.le_of_ble_eq_true rfl)) dX7_kept_78 ⟨Nat.le_of_ble_eq_true rfl, Nat.le_of_ble_eq_true rfl⟩) hS (fun q _ h => hFc q h) hFc (fun r u t H locs ht hvm hw hB _ _ hS => ?_)
            obtain ⟨hP, -, hD⟩ := hB
            rw [ht] at hP
            replace hD := hD.weaken (fun _ q _ h => hFc q.1 h)
            rw [hw.2] at hP hD
            rw [hw.1]
            clear hw hFc
            have hP : va_P Dg vwCl (cX x0 b z (-8) (σ.1 2 0) (σ.1 2 1) (σ.1 2 2) (σ.1 2 3) (σ.1 2 4) (rfO (-8) (σ.1 1)) (g 0) (g 1) (g 2) (g 3) (g 4) ++ va_pl L f) H := hP
            have hD : va_D A (cX x0 b z (-8) (σ.1 2 0) (σ.1 2 1) (σ.1 2 2) (σ.1 2 3) (σ.1 2 4) (rfO (-8) (σ.1 1)) (g 0) (g 1) (g 2) (g 3) (g 4) ++ va_pl L f) := hD
            refine lv_i2l hx hb dX7_kept_81 rfl ?_
            have hw : wh_kept σ p1 p2 p3 = (-8) := by simp only [wh_kept, if_pos c_1, if_pos c_3]; exact ag_8 c_4 c_6 (nin_l0 T1.2.1 c_7)
            have hn : ¬ wh_kept σ p1 p2 p3 = 0 := by rw [hw]; decide
            exact W.lret (v := (0 : Int32).toInt64) hx hb hr (fun t ht hW => ⟨⟨_, (cX x0 b z (-8) (σ.1 2 0) (σ.1 2 1) (σ.1 2 2) (σ.1 2 3) (σ.1 2 4) (rfO (-8) (σ.1 1)) (g 0) (g 1) (g 2) (g 3) (g 4) ++ va_pl L f), rfl, ⟨by rw [an_kept, if_neg hn]; try rfl, L, f, ad, g, by rw [nw_kept, if_neg hn, hw]; rfl, by rw [nw_kept, if_neg hn]; exact CI_rf hC _⟩, by rw [ht]; exact hP, va_K.moved hW.alike hK, hD⟩, hS.F ht⟩) hS.2.2 dX7_kept_82
          · refine lv_iload_n hx hb dX7_kept_68 rfl (lv_at hl 5 rfl) ?_
            refine lv_aload hx hb dX7_kept_69 (lv_at hl 0 rfl) ?_
            refine vg_alen hx hb hK hP 6 o_5.1 ge rfl (v := (σ.1 6 (ix p1))) (len16 T1.2.1) dX7_kept_71 ?_
            refine lv_icmp_lt (tgt := 83) hx hb dX7_kept_72 (by decide) (fun c_8 => ?_) (fun c_8 => ?_)
            · have hI := in_len (N := 16) T1.2.1 c_7 c_8
              have hj := ix_lt (n := 16) (i_rng hV c_1 hI.2)
              refine lv_aload_n hx hb dX7_kept_83 rfl (lv_at hl 2 rfl) ?_
              refine lv_aload hx hb dX7_kept_84 (lv_at hl 0 rfl) ?_
              refine lv_iload_n hx hb dX7_kept_86 rfl (lv_at hl 5 rfl) ?_
              refine vg_lald hx hb hK hP 6 o_5.1 ge rfl hI.1 dX7_kept_87 ?_
              have hFc := wFree hD hS hA
              refine va_calll (va_runV (As := [.long (gg p3.toNatClampNeg)]) (rest := []) ⟨hx, hb, hml, hown, hts⟩ (met_X7_answerLong l Dg x0 s.heap.size b z (σ.1 0 0) (σ.1 2 0) (σ.1 2 1) (σ.1 2 2) (σ.1 2 3) (σ.1 2 4) (σ.1 1) (g 0) (g 1) (g 2) (g 3) (g 4) L f (gg p3.toNatClampNeg) ) (cwV 1 hts gX7_kept_X7_answerLong rfl rfl rfl (by decide +kernel) ⟨Nat.le_of_ble_eq_true rfl, Nat.le_of_ble_eq_true rfl⟩) (wPreV hK hP (hD.weaken (fun _ _ _ _ => trivial)) (va_recv hK hP (ci := 5) (q0 := 0) rfl rfl)) rfl rfl hl.1 rfl (lv_room (Nat.le_of_ble_eq_true rfl)) dX7_kept_88 ⟨Nat.le_of_ble_eq_true rfl, Nat.le_of_ble_eq_true rfl⟩) hS (fun q _ h => hFc q h) hFc (fun r u t H locs ht hvm hw hB _ _ hS => ?_)
              obtain ⟨hP, -, hD⟩ := hB
              rw [ht] at hP
              replace hD := hD.weaken (fun _ q _ h => hFc q.1 h)
              rw [hw.2] at hP hD
              rw [hw.1]
              clear hw hFc
              have hP : va_P Dg vwCl (cX x0 b z 0 (σ.1 2 0) (σ.1 2 1) (σ.1 2 2) (σ.1 2 3) (σ.1 2 4) (σ.1 1) (g 0) (g 1) (g 2) (g 3) (g 4) ++ va_pl L f) H := hP
              have hD : va_D A (cX x0 b z 0 (σ.1 2 0) (σ.1 2 1) (σ.1 2 2) (σ.1 2 3) (σ.1 2 4) (σ.1 1) (g 0) (g 1) (g 2) (g 3) (g 4) ++ va_pl L f) := hD
              have hw : wh_kept σ p1 p2 p3 = 0 := by simp only [wh_kept, if_pos c_1, if_pos c_3]; exact ag_ok c_4 c_6 (in_len (N := 16) T1.2.1 c_7 c_8).2
              exact W.lret (v := gg p3.toNatClampNeg) hx hb hr (fun t ht hW => ⟨⟨_, (cX x0 b z 0 (σ.1 2 0) (σ.1 2 1) (σ.1 2 2) (σ.1 2 3) (σ.1 2 4) (σ.1 1) (g 0) (g 1) (g 2) (g 3) (g 4) ++ va_pl L f), rfl, ⟨by rw [an_kept, if_pos hw]; exact gv _ hj, L, f, ad, g, by rw [nw_kept, if_pos hw]; rfl, by rw [nw_kept, if_pos hw]; exact CI_ok0 hC⟩, by rw [ht]; exact hP, va_K.moved hW.alike hK, hD⟩, hS.F ht⟩) hS.2.2 dX7_kept_91
            · refine lv_aload_n hx hb dX7_kept_75 rfl (lv_at hl 2 rfl) ?_
              refine lv_bipush (v := (-8)) hx hb dX7_kept_76 (by decide) ?_
              have hFc := wFree hD hS hA
              refine va_calli (va_runV (As := [.int (-8)]) (rest := []) ⟨hx, hb, hml, hown, hts⟩ (met_X7_refuseAnyNumber l Dg x0 s.heap.size b z (σ.1 0 0) (σ.1 2 0) (σ.1 2 1) (σ.1 2 2) (σ.1 2 3) (σ.1 2 4) (σ.1 1) (g 0) (g 1) (g 2) (g 3) (g 4) L f (-8) (by decide) (by unfold vp_in; decide)) (cwV 1 hts gX7_kept_X7_refuseAnyNumber rfl rfl rfl (by decide +kernel) ⟨Nat.le_of_ble_eq_true rfl, Nat.le_of_ble_eq_true rfl⟩) (wPreV hK hP (hD.weaken (fun _ _ _ _ => trivial)) (va_recv hK hP (ci := 5) (q0 := 0) rfl rfl)) rfl rfl hl.1 rfl (lv_room (Nat.le_of_ble_eq_true rfl)) dX7_kept_78 ⟨Nat.le_of_ble_eq_true rfl, Nat.le_of_ble_eq_true rfl⟩) hS (fun q _ h => hFc q h) hFc (fun r u t H locs ht hvm hw hB _ _ hS => ?_)
              obtain ⟨hP, -, hD⟩ := hB
              rw [ht] at hP
              replace hD := hD.weaken (fun _ q _ h => hFc q.1 h)
              rw [hw.2] at hP hD
              rw [hw.1]
              clear hw hFc
              have hP : va_P Dg vwCl (cX x0 b z (-8) (σ.1 2 0) (σ.1 2 1) (σ.1 2 2) (σ.1 2 3) (σ.1 2 4) (rfO (-8) (σ.1 1)) (g 0) (g 1) (g 2) (g 3) (g 4) ++ va_pl L f) H := hP
              have hD : va_D A (cX x0 b z (-8) (σ.1 2 0) (σ.1 2 1) (σ.1 2 2) (σ.1 2 3) (σ.1 2 4) (rfO (-8) (σ.1 1)) (g 0) (g 1) (g 2) (g 3) (g 4) ++ va_pl L f) := hD
              refine lv_i2l hx hb dX7_kept_81 rfl ?_
              have hw : wh_kept σ p1 p2 p3 = (-8) := by simp only [wh_kept, if_pos c_1, if_pos c_3]; exact ag_8 c_4 c_6 (nin_len T1.2.1 c_8)
              have hn : ¬ wh_kept σ p1 p2 p3 = 0 := by rw [hw]; decide
              exact W.lret (v := (0 : Int32).toInt64) hx hb hr (fun t ht hW => ⟨⟨_, (cX x0 b z (-8) (σ.1 2 0) (σ.1 2 1) (σ.1 2 2) (σ.1 2 3) (σ.1 2 4) (rfO (-8) (σ.1 1)) (g 0) (g 1) (g 2) (g 3) (g 4) ++ va_pl L f), rfl, ⟨by rw [an_kept, if_neg hn]; try rfl, L, f, ad, g, by rw [nw_kept, if_neg hn, hw]; rfl, by rw [nw_kept, if_neg hn]; exact CI_rf hC _⟩, by rw [ht]; exact hP, va_K.moved hW.alike hK, hD⟩, hS.F ht⟩) hS.2.2 dX7_kept_82
        · refine lv_aload_n hx hb dX7_kept_56 rfl (lv_at hl 2 rfl) ?_
          refine lv_bipush (v := (-7)) hx hb dX7_kept_57 (by decide) ?_
          have hFc := wFree hD hS hA
          refine va_calli (va_runV (As := [.int (-7)]) (rest := []) ⟨hx, hb, hml, hown, hts⟩ (met_X7_refuseAnyNumber l Dg x0 s.heap.size b z (σ.1 0 0) (σ.1 2 0) (σ.1 2 1) (σ.1 2 2) (σ.1 2 3) (σ.1 2 4) (σ.1 1) (g 0) (g 1) (g 2) (g 3) (g 4) L f (-7) (by decide) (by unfold vp_in; decide)) (cwV 1 hts gX7_kept_X7_refuseAnyNumber rfl rfl rfl (by decide +kernel) ⟨Nat.le_of_ble_eq_true rfl, Nat.le_of_ble_eq_true rfl⟩) (wPreV hK hP (hD.weaken (fun _ _ _ _ => trivial)) (va_recv hK hP (ci := 5) (q0 := 0) rfl rfl)) rfl rfl hl.1 rfl (lv_room (Nat.le_of_ble_eq_true rfl)) dX7_kept_59 ⟨Nat.le_of_ble_eq_true rfl, Nat.le_of_ble_eq_true rfl⟩) hS (fun q _ h => hFc q h) hFc (fun r u t H locs ht hvm hw hB _ _ hS => ?_)
          obtain ⟨hP, -, hD⟩ := hB
          rw [ht] at hP
          replace hD := hD.weaken (fun _ q _ h => hFc q.1 h)
          rw [hw.2] at hP hD
          rw [hw.1]
          clear hw hFc
          have hP : va_P Dg vwCl (cX x0 b z (-7) (σ.1 2 0) (σ.1 2 1) (σ.1 2 2) (σ.1 2 3) (σ.1 2 4) (rfO (-7) (σ.1 1)) (g 0) (g 1) (g 2) (g 3) (g 4) ++ va_pl L f) H := hP
          have hD : va_D A (cX x0 b z (-7) (σ.1 2 0) (σ.1 2 1) (σ.1 2 2) (σ.1 2 3) (σ.1 2 4) (rfO (-7) (σ.1 1)) (g 0) (g 1) (g 2) (g 3) (g 4) ++ va_pl L f) := hD
          refine lv_i2l hx hb dX7_kept_62 rfl ?_
          have hw : wh_kept σ p1 p2 p3 = (-7) := by simp only [wh_kept, if_pos c_1, if_pos c_3]; exact ag_7 c_4 c_6
          have hn : ¬ wh_kept σ p1 p2 p3 = 0 := by rw [hw]; decide
          exact W.lret (v := (0 : Int32).toInt64) hx hb hr (fun t ht hW => ⟨⟨_, (cX x0 b z (-7) (σ.1 2 0) (σ.1 2 1) (σ.1 2 2) (σ.1 2 3) (σ.1 2 4) (rfO (-7) (σ.1 1)) (g 0) (g 1) (g 2) (g 3) (g 4) ++ va_pl L f), rfl, ⟨by rw [an_kept, if_neg hn]; try rfl, L, f, ad, g, by rw [nw_kept, if_neg hn, hw]; rfl, by rw [nw_kept, if_neg hn]; exact CI_rf hC _⟩, by rw [ht]; exact hP, va_K.moved hW.alike hK, hD⟩, hS.F ht⟩) hS.2.2 dX7_kept_63
      · refine W.eq (g2 := F0 m 32 ls [.null]) (by rw [sR_1 c_4]) ?_
        refine lv_astoreN (lv' := [(5, .null), (4, .ref (ad 2 (ix p1))), (0, .ref x0), (1, .int p1), (2, .int p2), (3, .int p3)]) hx hb dX7_kept_32 hl (by decide) rfl (fun ls hl => ?_)
        refine lv_aloadN hx hb dX7_kept_34 (lv_at hl 0 rfl) ?_
        refine lv_ifnonnullN hx hb dX7_kept_36 ?_
        refine lv_aload_n hx hb dX7_kept_39 rfl (lv_at hl 2 rfl) ?_
        refine lv_bipush (v := (-10)) hx hb dX7_kept_40 (by decide) ?_
        have hFc := wFree hD hS hA
        refine va_calli (va_runV (As := [.int (-10)]) (rest := []) ⟨hx, hb, hml, hown, hts⟩ (met_X7_refuseAnyNumber l Dg x0 s.heap.size b z (σ.1 0 0) (σ.1 2 0) (σ.1 2 1) (σ.1 2 2) (σ.1 2 3) (σ.1 2 4) (σ.1 1) (g 0) (g 1) (g 2) (g 3) (g 4) L f (-10) (by decide) (by unfold vp_in; decide)) (cwV 1 hts gX7_kept_X7_refuseAnyNumber rfl rfl rfl (by decide +kernel) ⟨Nat.le_of_ble_eq_true rfl, Nat.le_of_ble_eq_true rfl⟩) (wPreV hK hP (hD.weaken (fun _ _ _ _ => trivial)) (va_recv hK hP (ci := 5) (q0 := 0) rfl rfl)) rfl rfl hl.1 rfl (lv_room (Nat.le_of_ble_eq_true rfl)) dX7_kept_42 ⟨Nat.le_of_ble_eq_true rfl, Nat.le_of_ble_eq_true rfl⟩) hS (fun q _ h => hFc q h) hFc (fun r u t H locs ht hvm hw hB _ _ hS => ?_)
        obtain ⟨hP, -, hD⟩ := hB
        rw [ht] at hP
        replace hD := hD.weaken (fun _ q _ h => hFc q.1 h)
        rw [hw.2] at hP hD
        rw [hw.1]
        clear hw hFc
        have hP : va_P Dg vwCl (cX x0 b z (-10) (σ.1 2 0) (σ.1 2 1) (σ.1 2 2) (σ.1 2 3) (σ.1 2 4) (rfO (-10) (σ.1 1)) (g 0) (g 1) (g 2) (g 3) (g 4) ++ va_pl L f) H := hP
        have hD : va_D A (cX x0 b z (-10) (σ.1 2 0) (σ.1 2 1) (σ.1 2 2) (σ.1 2 3) (σ.1 2 4) (rfO (-10) (σ.1 1)) (g 0) (g 1) (g 2) (g 3) (g 4) ++ va_pl L f) := hD
        refine lv_i2l hx hb dX7_kept_45 rfl ?_
        have hw : wh_kept σ p1 p2 p3 = (-10) := by simp only [wh_kept, if_pos c_1, if_pos c_3]; exact ag_10 c_4
        have hn : ¬ wh_kept σ p1 p2 p3 = 0 := by rw [hw]; decide
        exact W.lret (v := (0 : Int32).toInt64) hx hb hr (fun t ht hW => ⟨⟨_, (cX x0 b z (-10) (σ.1 2 0) (σ.1 2 1) (σ.1 2 2) (σ.1 2 3) (σ.1 2 4) (rfO (-10) (σ.1 1)) (g 0) (g 1) (g 2) (g 3) (g 4) ++ va_pl L f), rfl, ⟨by rw [an_kept, if_neg hn]; try rfl, L, f, ad, g, by rw [nw_kept, if_neg hn, hw]; rfl, by rw [nw_kept, if_neg hn]; exact CI_rf hC _⟩, by rw [ht]; exact hP, va_K.moved hW.alike hK, hD⟩, hS.F ht⟩) hS.2.2 dX7_kept_46
    · replace c_3 := bI_eq c_3
      replace c_3 := mt (kind_eq).mpr c_3
      refine lv_aload_n hx hb dX7_kept_19 rfl (lv_at hl 1 rfl) ?_
      refine lv_bipush (v := (-2)) hx hb dX7_kept_20 (by decide) ?_
      have hFc := wFree hD hS hA
      refine va_calli (va_runV (As := [.int (-2)]) (rest := []) ⟨hx, hb, hml, hown, hts⟩ (met_X7_refuseAnyNumber l Dg x0 s.heap.size b z (σ.1 0 0) (σ.1 2 0) (σ.1 2 1) (σ.1 2 2) (σ.1 2 3) (σ.1 2 4) (σ.1 1) (g 0) (g 1) (g 2) (g 3) (g 4) L f (-2) (by decide) (by unfold vp_in; decide)) (cwV 1 hts gX7_kept_X7_refuseAnyNumber rfl rfl rfl (by decide +kernel) ⟨Nat.le_of_ble_eq_true rfl, Nat.le_of_ble_eq_true rfl⟩) (wPreV hK hP (hD.weaken (fun _ _ _ _ => trivial)) (va_recv hK hP (ci := 5) (q0 := 0) rfl rfl)) rfl rfl hl.1 rfl (lv_room (Nat.le_of_ble_eq_true rfl)) dX7_kept_22 ⟨Nat.le_of_ble_eq_true rfl, Nat.le_of_ble_eq_true rfl⟩) hS (fun q _ h => hFc q h) hFc (fun r u t H locs ht hvm hw hB _ _ hS => ?_)
      obtain ⟨hP, -, hD⟩ := hB
      rw [ht] at hP
      replace hD := hD.weaken (fun _ q _ h => hFc q.1 h)
      rw [hw.2] at hP hD
      rw [hw.1]
      clear hw hFc
      have hP : va_P Dg vwCl (cX x0 b z (-2) (σ.1 2 0) (σ.1 2 1) (σ.1 2 2) (σ.1 2 3) (σ.1 2 4) (rfO (-2) (σ.1 1)) (g 0) (g 1) (g 2) (g 3) (g 4) ++ va_pl L f) H := hP
      have hD : va_D A (cX x0 b z (-2) (σ.1 2 0) (σ.1 2 1) (σ.1 2 2) (σ.1 2 3) (σ.1 2 4) (rfO (-2) (σ.1 1)) (g 0) (g 1) (g 2) (g 3) (g 4) ++ va_pl L f) := hD
      refine lv_i2l hx hb dX7_kept_25 rfl ?_
      have hw : wh_kept σ p1 p2 p3 = (-2) := by simp only [wh_kept, if_pos c_1, if_neg c_3]
      have hn : ¬ wh_kept σ p1 p2 p3 = 0 := by rw [hw]; decide
      exact W.lret (v := (0 : Int32).toInt64) hx hb hr (fun t ht hW => ⟨⟨_, (cX x0 b z (-2) (σ.1 2 0) (σ.1 2 1) (σ.1 2 2) (σ.1 2 3) (σ.1 2 4) (rfO (-2) (σ.1 1)) (g 0) (g 1) (g 2) (g 3) (g 4) ++ va_pl L f), rfl, ⟨by rw [an_kept, if_neg hn]; try rfl, L, f, ad, g, by rw [nw_kept, if_neg hn, hw]; rfl, by rw [nw_kept, if_neg hn]; exact CI_rf hC _⟩, by rw [ht]; exact hP, va_K.moved hW.alike hK, hD⟩, hS.F ht⟩) hS.2.2 dX7_kept_26
  · refine va_csq ((va_runV (As := [.int p1]) (rest := []) ⟨hx, hb, hml, hown, hts⟩ (met_X7_stripAt l Dg x0 b z (σ.1 0 0) (σ.1 2 0) (σ.1 2 1) (σ.1 2 2) (σ.1 2 3) (σ.1 2 4) (σ.1 1) (g 0) (g 1) (g 2) (g 3) (g 4) L f p1 hV.1.2.2.1) (cwV 1 hts gX7_kept_X7_stripAt rfl rfl rfl (by decide +kernel) ⟨Nat.le_of_ble_eq_true rfl, Nat.le_of_ble_eq_true rfl⟩) (rPreV hK hP (va_recv hK hP (ci := 5) (q0 := 0) rfl rfl)) rfl rfl hl.1 rfl (lv_room (Nat.le_of_ble_eq_true rfl)) dX7_kept_2 ⟨Nat.le_of_ble_eq_true rfl, Nat.le_of_ble_eq_true rfl⟩).run) (fun r hw => ?_)
    obtain rfl : r = none := hw.trans (if_neg c_1)
    refine W.eq (g2 := F0 m 5 ls [.null]) rfl ?_
    refine lv_astoreN (lv' := [(4, .null), (0, .ref x0), (1, .int p1), (2, .int p2), (3, .int p3)]) hx hb dX7_kept_5 hl (by decide) rfl (fun ls hl => ?_)
    refine lv_aloadN hx hb dX7_kept_7 (lv_at hl 0 rfl) ?_
    refine lv_ifnullN (tgt := 19) hx hb dX7_kept_9 (by decide) ?_
    refine lv_aload_n hx hb dX7_kept_19 rfl (lv_at hl 1 rfl) ?_
    refine lv_bipush (v := (-2)) hx hb dX7_kept_20 (by decide) ?_
    have hFc := wFree hD hS hA
    refine va_calli (va_runV (As := [.int (-2)]) (rest := []) ⟨hx, hb, hml, hown, hts⟩ (met_X7_refuseAnyNumber l Dg x0 s.heap.size b z (σ.1 0 0) (σ.1 2 0) (σ.1 2 1) (σ.1 2 2) (σ.1 2 3) (σ.1 2 4) (σ.1 1) (g 0) (g 1) (g 2) (g 3) (g 4) L f (-2) (by decide) (by unfold vp_in; decide)) (cwV 1 hts gX7_kept_X7_refuseAnyNumber rfl rfl rfl (by decide +kernel) ⟨Nat.le_of_ble_eq_true rfl, Nat.le_of_ble_eq_true rfl⟩) (wPreV hK hP (hD.weaken (fun _ _ _ _ => trivial)) (va_recv hK hP (ci := 5) (q0 := 0) rfl rfl)) rfl rfl hl.1 rfl (lv_room (Nat.le_of_ble_eq_true rfl)) dX7_kept_22 ⟨Nat.le_of_ble_eq_true rfl, Nat.le_of_ble_eq_true rfl⟩) hS (fun q _ h => hFc q h) hFc (fun r u t H locs ht hvm hw hB _ _ hS => ?_)
    obtain ⟨hP, -, hD⟩ := hB
    rw [ht] at hP
    replace hD := hD.weaken (fun _ q _ h => hFc q.1 h)
    rw [hw.2] at hP hD
    rw [hw.1]
    clear hw hFc
    have hP : va_P Dg vwCl (cX x0 b z (-2) (σ.1 2 0) (σ.1 2 1) (σ.1 2 2) (σ.1 2 3) (σ.1 2 4) (rfO (-2) (σ.1 1)) (g 0) (g 1) (g 2) (g 3) (g 4) ++ va_pl L f) H := hP
    have hD : va_D A (cX x0 b z (-2) (σ.1 2 0) (σ.1 2 1) (σ.1 2 2) (σ.1 2 3) (σ.1 2 4) (rfO (-2) (σ.1 1)) (g 0) (g 1) (g 2) (g 3) (g 4) ++ va_pl L f) := hD
    refine lv_i2l hx hb dX7_kept_25 rfl ?_
    have hw : wh_kept σ p1 p2 p3 = (-2) := by simp only [wh_kept, if_neg c_1]
    have hn : ¬ wh_kept σ p1 p2 p3 = 0 := by rw [hw]; decide
    exact W.lret (v := (0 : Int32).toInt64) hx hb hr (fun t ht hW => ⟨⟨_, (cX x0 b z (-2) (σ.1 2 0) (σ.1 2 1) (σ.1 2 2) (σ.1 2 3) (σ.1 2 4) (rfO (-2) (σ.1 1)) (g 0) (g 1) (g 2) (g 3) (g 4) ++ va_pl L f), rfl, ⟨by rw [an_kept, if_neg hn]; try rfl, L, f, ad, g, by rw [nw_kept, if_neg hn, hw]; rfl, by rw [nw_kept, if_neg hn]; exact CI_rf hC _⟩, by rw [ht]; exact hP, va_K.moved hW.alike hK, hD⟩, hS.F ht⟩) hS.2.2 dX7_kept_26

theorem in_X7_X7_count : ∀ w ∈ wsX70, w ∈ wsX7_count := fun w h => List.mem_cons_of_mem _ (List.mem_append_right _ h)
set_option maxHeartbeats 4000000 in
set_option maxRecDepth 100000 in
theorem met_X7_count (l : Launch) (Dg : va_G) (x0 sz : Nat) (b : Nat → Nat) (z : Nat → ClassId) (σ : St) (L : List Nat) (f : Nat → va_E) (ad : Nat → Nat → Nat) (g : Nat → Nat → Option Nat) (p1 : Int32) (hV : vOK σ) (hC : CI z σ L f ad g)  : Met l yX7_count wsX7_count ({ frames := 0, cells := 0, slots := 0, locals := 0 }) (va_Pc [.ref x0, .int p1] (wB Dg (cT z) (cX x0 b z (σ.1 0 0) (σ.1 2 0) (σ.1 2 1) (σ.1 2 2) (σ.1 2 3) (σ.1 2 4) (σ.1 1) (g 0) (g 1) (g 2) (g 3) (g 4) ++ va_pl L f) sz)) (va_Qi (fun (r : Int32) (u : va_W) => r = an_count σ p1 ∧ CX x0 b z σ u) (wE Dg (cT z) (va_A (cX x0 b z (σ.1 0 0) (σ.1 2 0) (σ.1 2 1) (σ.1 2 2) (σ.1 2 3) (σ.1 2 4) (σ.1 1) (g 0) (g 1) (g 2) (g 3) (g 4) ++ va_pl L f) sz)) (va_A (cX x0 b z (σ.1 0 0) (σ.1 2 0) (σ.1 2 1) (σ.1 2 2) (σ.1 2 3) (σ.1 2 4) (σ.1 1) (g 0) (g 1) (g 2) (g 3) (g 4) ++ va_pl L f) sz)) 0 0 (va_A (cX x0 b z (σ.1 0 0) (σ.1 2 0) (σ.1 2 1) (σ.1 2 2) (σ.1 2 3) (σ.1 2 4) (σ.1 1) (g 0) (g 1) (g 2) (g 3) (g 4) ++ va_pl L f) sz) := by
  refine Met.ofW (cc := cX7_count) (maxL := 2) (ret := (some .int)) (by decide) rfl ?_
  intro p e s m args below meth c s₁ B hml hv
  obtain ⟨rfl, hsz, hP, hK, hD0⟩ := hv
  have hx := B.exec
  have hb := B.bytes
  have hr := B.returns
  have hts := atoms_spec (ws := wsX7_count) B.pre
  have hown : s.vm.findClass RX7 = some m.cls := findClass_of_methodNamed B.named
  have hlocks := B.notSynchronized
  subst hsz
  have hD := hD0.self (sz := s.heap.size)
  generalize hAe : va_A (cX x0 b z (σ.1 0 0) (σ.1 2 0) (σ.1 2 1) (σ.1 2 2) (σ.1 2 3) (σ.1 2 4) (σ.1 1) (g 0) (g 1) (g 2) (g 3) (g 4) ++ va_pl L f) s.heap.size = A at hD ⊢
  have hA : ∀ q : Nat, s.heap.size ≤ q → A q := fun q h => by rw [← hAe]; exact Or.inr h
  have hS : va_S A s.heap s.heap [] := va_S.rf
  have hP : va_P Dg vwCl (cX x0 b z (σ.1 0 0) (σ.1 2 0) (σ.1 2 1) (σ.1 2 2) (σ.1 2 3) (σ.1 2 4) (σ.1 1) (g 0) (g 1) (g 2) (g 3) (g 4) ++ va_pl L f) s.heap := hP
  have hl := lv_entry ([.ref x0, .int p1]) (n := 2) (Nat.le_of_ble_eq_true rfl)
  rw [lg_entry_eq]
  generalize (lg_sl ([.ref x0, .int p1]) ++ List.replicate (2 - (lg_sl ([.ref x0, .int p1])).length) Slot.unset).toArray = ls at hl ⊢
  have hl : lv_has ls 2 [(0, .ref x0), (1, .int p1)] := hl
  refine lv_iload_n hx hb dX7_count_0 rfl (lv_at hl 1 rfl) ?_
  rcases Decidable.em (p1 = 0) with c_1 | c_1
  · refine lv_tableIn (x := p1) (off := 35) (tgt := 36) hx hb dX7_count_1 (by rw [c_1]; decide) (by rw [c_1]; decide) (by rw [c_1]; rfl) (by decide) ?_
    refine lv_aload_n hx hb dX7_count_36 rfl (lv_at hl 0 rfl) ?_
    refine va_get (D := Dg) (ci := 5) (v := .int (σ.1 2 0)) (C := RX7) (T := TX7) (N := 12) hx hb hts in_X7_X7_count hown hK hP 0 rfl rfl 5 (by decide) (hts (.fieldLink RX7 39 "OrreryWorks" "wheelCount" "I") (by decide +kernel)) (fun _ h9 => h9) rfl dX7_count_37 ?_
    exact W.iret (v := (σ.1 2 0)) hx hb hr (fun t ht hW => ⟨⟨_, (cX x0 b z (σ.1 0 0) (σ.1 2 0) (σ.1 2 1) (σ.1 2 2) (σ.1 2 3) (σ.1 2 4) (σ.1 1) (g 0) (g 1) (g 2) (g 3) (g 4) ++ va_pl L f), rfl, ⟨by simp only [an_count, if_pos c_1], L, f, ad, g, rfl, hC⟩, by rw [ht]; exact hP, va_K.moved hW.alike hK, hD⟩, hS.F ht⟩) hS.2.2 dX7_count_40
  rcases Decidable.em (p1 = 1) with c_2 | c_2
  · refine lv_tableIn (x := p1) (off := 40) (tgt := 41) hx hb dX7_count_1 (by rw [c_2]; decide) (by rw [c_2]; decide) (by rw [c_2]; rfl) (by decide) ?_
    refine lv_aload_n hx hb dX7_count_41 rfl (lv_at hl 0 rfl) ?_
    refine va_get (D := Dg) (ci := 5) (v := .int (σ.1 2 1)) (C := RX7) (T := TX7) (N := 12) hx hb hts in_X7_X7_count hown hK hP 0 rfl rfl 6 (by decide) (hts (.fieldLink RX7 43 "OrreryWorks" "registerCount" "I") (by decide +kernel)) (fun _ h9 => h9) rfl dX7_count_42 ?_
    exact W.iret (v := (σ.1 2 1)) hx hb hr (fun t ht hW => ⟨⟨_, (cX x0 b z (σ.1 0 0) (σ.1 2 0) (σ.1 2 1) (σ.1 2 2) (σ.1 2 3) (σ.1 2 4) (σ.1 1) (g 0) (g 1) (g 2) (g 3) (g 4) ++ va_pl L f), rfl, ⟨by simp only [an_count, if_neg c_1, if_pos c_2], L, f, ad, g, rfl, hC⟩, by rw [ht]; exact hP, va_K.moved hW.alike hK, hD⟩, hS.F ht⟩) hS.2.2 dX7_count_45
  rcases Decidable.em (p1 = 2) with c_3 | c_3
  · refine lv_tableIn (x := p1) (off := 45) (tgt := 46) hx hb dX7_count_1 (by rw [c_3]; decide) (by rw [c_3]; decide) (by rw [c_3]; rfl) (by decide) ?_
    refine lv_aload_n hx hb dX7_count_46 rfl (lv_at hl 0 rfl) ?_
    refine va_get (D := Dg) (ci := 5) (v := .int (σ.1 2 2)) (C := RX7) (T := TX7) (N := 12) hx hb hts in_X7_X7_count hown hK hP 0 rfl rfl 7 (by decide) (hts (.fieldLink RX7 46 "OrreryWorks" "stripCount" "I") (by decide +kernel)) (fun _ h9 => h9) rfl dX7_count_47 ?_
    exact W.iret (v := (σ.1 2 2)) hx hb hr (fun t ht hW => ⟨⟨_, (cX x0 b z (σ.1 0 0) (σ.1 2 0) (σ.1 2 1) (σ.1 2 2) (σ.1 2 3) (σ.1 2 4) (σ.1 1) (g 0) (g 1) (g 2) (g 3) (g 4) ++ va_pl L f), rfl, ⟨by simp only [an_count, if_neg c_1, if_neg c_2, if_pos c_3], L, f, ad, g, rfl, hC⟩, by rw [ht]; exact hP, va_K.moved hW.alike hK, hD⟩, hS.F ht⟩) hS.2.2 dX7_count_50
  rcases Decidable.em (p1 = 3) with c_4 | c_4
  · refine lv_tableIn (x := p1) (off := 50) (tgt := 51) hx hb dX7_count_1 (by rw [c_4]; decide) (by rw [c_4]; decide) (by rw [c_4]; rfl) (by decide) ?_
    refine lv_aload_n hx hb dX7_count_51 rfl (lv_at hl 0 rfl) ?_
    refine va_get (D := Dg) (ci := 5) (v := .int (σ.1 2 3)) (C := RX7) (T := TX7) (N := 12) hx hb hts in_X7_X7_count hown hK hP 0 rfl rfl 8 (by decide) (hts (.fieldLink RX7 49 "OrreryWorks" "pointerCount" "I") (by decide +kernel)) (fun _ h9 => h9) rfl dX7_count_52 ?_
    exact W.iret (v := (σ.1 2 3)) hx hb hr (fun t ht hW => ⟨⟨_, (cX x0 b z (σ.1 0 0) (σ.1 2 0) (σ.1 2 1) (σ.1 2 2) (σ.1 2 3) (σ.1 2 4) (σ.1 1) (g 0) (g 1) (g 2) (g 3) (g 4) ++ va_pl L f), rfl, ⟨by simp only [an_count, if_neg c_1, if_neg c_2, if_neg c_3, if_pos c_4], L, f, ad, g, rfl, hC⟩, by rw [ht]; exact hP, va_K.moved hW.alike hK, hD⟩, hS.F ht⟩) hS.2.2 dX7_count_55
  rcases Decidable.em (p1 = 4) with c_5 | c_5
  · refine lv_tableIn (x := p1) (off := 55) (tgt := 56) hx hb dX7_count_1 (by rw [c_5]; decide) (by rw [c_5]; decide) (by rw [c_5]; rfl) (by decide) ?_
    refine lv_aload_n hx hb dX7_count_56 rfl (lv_at hl 0 rfl) ?_
    refine va_get (D := Dg) (ci := 5) (v := .int (σ.1 2 4)) (C := RX7) (T := TX7) (N := 12) hx hb hts in_X7_X7_count hown hK hP 0 rfl rfl 9 (by decide) (hts (.fieldLink RX7 52 "OrreryWorks" "standCount" "I") (by decide +kernel)) (fun _ h9 => h9) rfl dX7_count_57 ?_
    exact W.iret (v := (σ.1 2 4)) hx hb hr (fun t ht hW => ⟨⟨_, (cX x0 b z (σ.1 0 0) (σ.1 2 0) (σ.1 2 1) (σ.1 2 2) (σ.1 2 3) (σ.1 2 4) (σ.1 1) (g 0) (g 1) (g 2) (g 3) (g 4) ++ va_pl L f), rfl, ⟨by simp only [an_count, if_neg c_1, if_neg c_2, if_neg c_3, if_neg c_4, if_pos c_5], L, f, ad, g, rfl, hC⟩, by rw [ht]; exact hP, va_K.moved hW.alike hK, hD⟩, hS.F ht⟩) hS.2.2 dX7_count_60
  refine lv_tableOut (tgt := 61) hx hb dX7_count_1 (sw_out4 c_1 c_2 c_3 c_4 c_5) (by decide) ?_
  refine lv_bipush (v := (-2)) hx hb dX7_count_61 (by decide) ?_
  exact W.iret (v := (-2)) hx hb hr (fun t ht hW => ⟨⟨_, (cX x0 b z (σ.1 0 0) (σ.1 2 0) (σ.1 2 1) (σ.1 2 2) (σ.1 2 3) (σ.1 2 4) (σ.1 1) (g 0) (g 1) (g 2) (g 3) (g 4) ++ va_pl L f), rfl, ⟨by simp only [an_count, if_neg c_1, if_neg c_2, if_neg c_3, if_neg c_4, if_neg c_5], L, f, ad, g, rfl, hC⟩, by rw [ht]; exact hP, va_K.moved hW.alike hK, hD⟩, hS.F ht⟩) hS.2.2 dX7_count_63

theorem in_X7_X7_often : ∀ w ∈ wsX70, w ∈ wsX7_often := fun w h => List.mem_cons_of_mem _ (List.mem_append_right _ h)
set_option maxHeartbeats 4000000 in
set_option maxRecDepth 100000 in
theorem met_X7_often (l : Launch) (Dg : va_G) (x0 sz : Nat) (b : Nat → Nat) (z : Nat → ClassId) (σ : St) (L : List Nat) (f : Nat → va_E) (ad : Nat → Nat → Nat) (g : Nat → Nat → Option Nat) (p1 : Int32) (hV : vOK σ) (hC : CI z σ L f ad g)  : Met l yX7_often wsX7_often ({ frames := 0, cells := 0, slots := 0, locals := 0 }) (va_Pc [.ref x0, .int p1] (wB Dg (cT z) (cX x0 b z (σ.1 0 0) (σ.1 2 0) (σ.1 2 1) (σ.1 2 2) (σ.1 2 3) (σ.1 2 4) (σ.1 1) (g 0) (g 1) (g 2) (g 3) (g 4) ++ va_pl L f) sz)) (va_Qi (fun (r : Int32) (u : va_W) => r = an_often σ p1 ∧ CX x0 b z σ u) (wE Dg (cT z) (va_A (cX x0 b z (σ.1 0 0) (σ.1 2 0) (σ.1 2 1) (σ.1 2 2) (σ.1 2 3) (σ.1 2 4) (σ.1 1) (g 0) (g 1) (g 2) (g 3) (g 4) ++ va_pl L f) sz)) (va_A (cX x0 b z (σ.1 0 0) (σ.1 2 0) (σ.1 2 1) (σ.1 2 2) (σ.1 2 3) (σ.1 2 4) (σ.1 1) (g 0) (g 1) (g 2) (g 3) (g 4) ++ va_pl L f) sz)) 0 0 (va_A (cX x0 b z (σ.1 0 0) (σ.1 2 0) (σ.1 2 1) (σ.1 2 2) (σ.1 2 3) (σ.1 2 4) (σ.1 1) (g 0) (g 1) (g 2) (g 3) (g 4) ++ va_pl L f) sz) := by
  refine Met.ofW (cc := cX7_often) (maxL := 2) (ret := (some .int)) (by decide) rfl ?_
  intro p e s m args below meth c s₁ B hml hv
  obtain ⟨rfl, hsz, hP, hK, hD0⟩ := hv
  have hx := B.exec
  have hb := B.bytes
  have hr := B.returns
  have hts := atoms_spec (ws := wsX7_often) B.pre
  have hown : s.vm.findClass RX7 = some m.cls := findClass_of_methodNamed B.named
  have hlocks := B.notSynchronized
  subst hsz
  have hD := hD0.self (sz := s.heap.size)
  generalize hAe : va_A (cX x0 b z (σ.1 0 0) (σ.1 2 0) (σ.1 2 1) (σ.1 2 2) (σ.1 2 3) (σ.1 2 4) (σ.1 1) (g 0) (g 1) (g 2) (g 3) (g 4) ++ va_pl L f) s.heap.size = A at hD ⊢
  have hA : ∀ q : Nat, s.heap.size ≤ q → A q := fun q h => by rw [← hAe]; exact Or.inr h
  have hS : va_S A s.heap s.heap [] := va_S.rf
  have hP : va_P Dg vwCl (cX x0 b z (σ.1 0 0) (σ.1 2 0) (σ.1 2 1) (σ.1 2 2) (σ.1 2 3) (σ.1 2 4) (σ.1 1) (g 0) (g 1) (g 2) (g 3) (g 4) ++ va_pl L f) s.heap := hP
  have hl := lv_entry ([.ref x0, .int p1]) (n := 2) (Nat.le_of_ble_eq_true rfl)
  rw [lg_entry_eq]
  generalize (lg_sl ([.ref x0, .int p1]) ++ List.replicate (2 - (lg_sl ([.ref x0, .int p1])).length) Slot.unset).toArray = ls at hl ⊢
  have hl : lv_has ls 2 [(0, .ref x0), (1, .int p1)] := hl
  refine lv_iload_n hx hb dX7_often_0 rfl (lv_at hl 1 rfl) ?_
  refine lv_bipush (v := (-3)) hx hb dX7_often_1 (by decide) ?_
  refine lv_icmp_gt (tgt := 24) hx hb dX7_often_3 (by decide) (fun c_1 => ?_) (fun c_1 => ?_)
  · refine lv_iconst (v := 0) hx hb dX7_often_24 (by decide) ?_
    exact W.iret (v := 0) hx hb hr (fun t ht hW => ⟨⟨_, (cX x0 b z (σ.1 0 0) (σ.1 2 0) (σ.1 2 1) (σ.1 2 2) (σ.1 2 3) (σ.1 2 4) (σ.1 1) (g 0) (g 1) (g 2) (g 3) (g 4) ++ va_pl L f), rfl, ⟨by simp only [an_often, if_neg (nIn_h (a := (-10)) c_1)], L, f, ad, g, rfl, hC⟩, by rw [ht]; exact hP, va_K.moved hW.alike hK, hD⟩, hS.F ht⟩) hS.2.2 dX7_often_25
  · refine lv_iload_n hx hb dX7_often_6 rfl (lv_at hl 1 rfl) ?_
    refine lv_bipush (v := (-10)) hx hb dX7_often_7 (by decide) ?_
    refine lv_icmp_lt (tgt := 24) hx hb dX7_often_9 (by decide) (fun c_2 => ?_) (fun c_2 => ?_)
    · refine lv_iconst (v := 0) hx hb dX7_often_24 (by decide) ?_
      exact W.iret (v := 0) hx hb hr (fun t ht hW => ⟨⟨_, (cX x0 b z (σ.1 0 0) (σ.1 2 0) (σ.1 2 1) (σ.1 2 2) (σ.1 2 3) (σ.1 2 4) (σ.1 1) (g 0) (g 1) (g 2) (g 3) (g 4) ++ va_pl L f), rfl, ⟨by simp only [an_often, if_neg (nIn_l (b := (-3)) c_2)], L, f, ad, g, rfl, hC⟩, by rw [ht]; exact hP, va_K.moved hW.alike hK, hD⟩, hS.F ht⟩) hS.2.2 dX7_often_25
    · refine lv_aload_n hx hb dX7_often_12 rfl (lv_at hl 0 rfl) ?_
      refine va_get (D := Dg) (ci := 5) (v := .ref (b 5)) (C := RX7) (T := TX7) (N := 12) hx hb hts in_X7_X7_often hown hK hP 0 rfl rfl 10 (by decide) (hts (.fieldLink RX7 55 "OrreryWorks" "refusals" "[I") (by decide +kernel)) (fun _ h9 => h9) rfl dX7_often_13 ?_
      refine lv_bipush (v := (-3)) hx hb dX7_often_16 (by decide) ?_
      refine lv_iload_n hx hb dX7_often_18 rfl (lv_at hl 1 rfl) ?_
      refine lv_isub hx hb dX7_often_19 ?_
      refine va_iald hx hb hK hP 6 5 rfl rfl (often_in (yIn_h c_2 c_1)) dX7_often_20 ?_
      refine lv_goto (tgt := 25) hx hb dX7_often_21 (by decide) ?_
      exact W.iret (v := (σ.1 1) ((-3) - p1).toNatClampNeg) hx hb hr (fun t ht hW => ⟨⟨_, (cX x0 b z (σ.1 0 0) (σ.1 2 0) (σ.1 2 1) (σ.1 2 2) (σ.1 2 3) (σ.1 2 4) (σ.1 1) (g 0) (g 1) (g 2) (g 3) (g 4) ++ va_pl L f), rfl, ⟨by simp only [an_often, if_pos (yIn_h c_2 c_1)], L, f, ad, g, rfl, hC⟩, by rw [ht]; exact hP, va_K.moved hW.alike hK, hD⟩, hS.F ht⟩) hS.2.2 dX7_often_25

theorem in_X7_X7_refused : ∀ w ∈ wsX70, w ∈ wsX7_refused := fun w h => List.mem_cons_of_mem _ (List.mem_append_right _ h)
set_option maxHeartbeats 4000000 in
set_option maxRecDepth 100000 in
theorem met_X7_refused (l : Launch) (Dg : va_G) (x0 sz : Nat) (b : Nat → Nat) (z : Nat → ClassId) (σ : St) (L : List Nat) (f : Nat → va_E) (ad : Nat → Nat → Nat) (g : Nat → Nat → Option Nat)  (hV : vOK σ) (hC : CI z σ L f ad g)  : Met l yX7_refused wsX7_refused ({ frames := 0, cells := 0, slots := 0, locals := 0 }) (va_Pc [.ref x0] (wB Dg (cT z) (cX x0 b z (σ.1 0 0) (σ.1 2 0) (σ.1 2 1) (σ.1 2 2) (σ.1 2 3) (σ.1 2 4) (σ.1 1) (g 0) (g 1) (g 2) (g 3) (g 4) ++ va_pl L f) sz)) (va_Qi (fun (r : Int32) (u : va_W) => r = σ.1 0 0 ∧ CX x0 b z σ u) (wE Dg (cT z) (va_A (cX x0 b z (σ.1 0 0) (σ.1 2 0) (σ.1 2 1) (σ.1 2 2) (σ.1 2 3) (σ.1 2 4) (σ.1 1) (g 0) (g 1) (g 2) (g 3) (g 4) ++ va_pl L f) sz)) (va_A (cX x0 b z (σ.1 0 0) (σ.1 2 0) (σ.1 2 1) (σ.1 2 2) (σ.1 2 3) (σ.1 2 4) (σ.1 1) (g 0) (g 1) (g 2) (g 3) (g 4) ++ va_pl L f) sz)) 0 0 (va_A (cX x0 b z (σ.1 0 0) (σ.1 2 0) (σ.1 2 1) (σ.1 2 2) (σ.1 2 3) (σ.1 2 4) (σ.1 1) (g 0) (g 1) (g 2) (g 3) (g 4) ++ va_pl L f) sz) := by
  refine Met.ofW (cc := cX7_refused) (maxL := 1) (ret := (some .int)) (by decide) rfl ?_
  intro p e s m args below meth c s₁ B hml hv
  obtain ⟨rfl, hsz, hP, hK, hD0⟩ := hv
  have hx := B.exec
  have hb := B.bytes
  have hr := B.returns
  have hts := atoms_spec (ws := wsX7_refused) B.pre
  have hown : s.vm.findClass RX7 = some m.cls := findClass_of_methodNamed B.named
  have hlocks := B.notSynchronized
  subst hsz
  have hD := hD0.self (sz := s.heap.size)
  generalize hAe : va_A (cX x0 b z (σ.1 0 0) (σ.1 2 0) (σ.1 2 1) (σ.1 2 2) (σ.1 2 3) (σ.1 2 4) (σ.1 1) (g 0) (g 1) (g 2) (g 3) (g 4) ++ va_pl L f) s.heap.size = A at hD ⊢
  have hA : ∀ q : Nat, s.heap.size ≤ q → A q := fun q h => by rw [← hAe]; exact Or.inr h
  have hS : va_S A s.heap s.heap [] := va_S.rf
  have hP : va_P Dg vwCl (cX x0 b z (σ.1 0 0) (σ.1 2 0) (σ.1 2 1) (σ.1 2 2) (σ.1 2 3) (σ.1 2 4) (σ.1 1) (g 0) (g 1) (g 2) (g 3) (g 4) ++ va_pl L f) s.heap := hP
  have hl := lv_entry ([.ref x0]) (n := 1) (Nat.le_of_ble_eq_true rfl)
  rw [lg_entry_eq]
  generalize (lg_sl ([.ref x0]) ++ List.replicate (1 - (lg_sl ([.ref x0])).length) Slot.unset).toArray = ls at hl ⊢
  have hl : lv_has ls 1 [(0, .ref x0)] := hl
  refine lv_aload_n hx hb dX7_refused_0 rfl (lv_at hl 0 rfl) ?_
  refine va_get (D := Dg) (ci := 5) (v := .int (σ.1 0 0)) (C := RX7) (T := TX7) (N := 12) hx hb hts in_X7_X7_refused hown hK hP 0 rfl rfl 11 (by decide) (hts (.fieldLink RX7 59 "OrreryWorks" "latest" "I") (by decide +kernel)) (fun _ h9 => h9) rfl dX7_refused_1 ?_
  exact W.iret (v := (σ.1 0 0)) hx hb hr (fun t ht hW => ⟨⟨_, (cX x0 b z (σ.1 0 0) (σ.1 2 0) (σ.1 2 1) (σ.1 2 2) (σ.1 2 3) (σ.1 2 4) (σ.1 1) (g 0) (g 1) (g 2) (g 3) (g 4) ++ va_pl L f), rfl, ⟨rfl, L, f, ad, g, rfl, hC⟩, by rw [ht]; exact hP, va_K.moved hW.alike hK, hD⟩, hS.F ht⟩) hS.2.2 dX7_refused_4
