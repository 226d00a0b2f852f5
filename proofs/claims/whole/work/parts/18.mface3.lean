/-! stands, pointers, rows -/
theorem ly_in {σ : St} {s i p : Int32} (h : lyS σ s i p = 0) : fX8_isIn i 0 (σ.1 11 (ix s) - 1) = true := by
  unfold lyS at h
  by_cases g : fX8_isIn i 0 (σ.1 11 (ix s) - 1) = true
  · exact g
  · rw [if_neg g] at h; exact absurd h (by decide)
theorem tp_ok {σ : St} (hV : vOK σ) {s i : Int32} (hs : fX8_isIn s 0 (σ.1 2 4 - 1) = true) (hi : 0 ≤ i.toInt ∧ i.toInt < 6) : σ.1 12 (6 * ix s + ix i) = -1 ∨ (0 ≤ (σ.1 12 (6 * ix s + ix i)).toInt ∧ (σ.1 12 (6 * ix s + ix i)).toInt < (σ.1 2 3).toInt) :=
  (hV.2.2.2.2.2 _ (inC_lt hV.1.2.2.2.2 hs)).2.2 _ (ix_lt (n := 6) hi)
/-- what a pointer shows, in the model's numbers -/
theorem pt_ok {σ : St} (hV : vOK σ) {aTo aPo : Nat → UInt64} {aRw : Nat → Int64} {aRr : Nat → UInt64} {aWs : Nat → Int64} {aRs : Nat → UInt64} (hM : mC σ aTo aPo aRw aRr aWs aRs) {p : Int32} (h : 0 ≤ p.toInt ∧ p.toInt < (σ.1 2 3).toInt) :
    vp_in p 12 ∧ vp_in (σ.1 9 p.toNatClampNeg) 10 ∧ aPo (σ.1 9 p.toNatClampNeg).toNatClampNeg = vl (σ.1 3 (ix (σ.1 9 (ix p)))) (σ.2 1 (ix (σ.1 9 (ix p)))) ∧ okR (σ.1 3 (ix (σ.1 9 (ix p)))) (σ.2 1 (ix (σ.1 9 (ix p)))) := by
  have b := hV.1.2.2.2.1.2
  have hp : p.toNatClampNeg < cN σ 3 := by show p.toInt.toNat < (σ.1 2 3).toInt.toNat; omega
  have q := hV.2.2.2.2.1 _ hp
  have b0 := hV.1.1.2
  have hw : (σ.1 9 p.toNatClampNeg).toNatClampNeg < cN σ 0 := by
    have := q.2
    show (σ.1 9 p.toNatClampNeg).toInt.toNat < (σ.1 2 0).toInt.toNat
    omega
  have q2 := q.2
  refine ⟨by rw [vp_in_iff]; omega, by rw [vp_in_iff]; omega, (hM.1 _ hw).2, (hV.2.1 _ hw).2.2.2.1⟩

theorem in_X8_shows : ∀ w ∈ wsX80, w ∈ wsX8_shows := fun w h => List.mem_cons_of_mem _ (List.mem_append_right _ h)
set_option maxHeartbeats 8000000 in
set_option maxRecDepth 100000 in
theorem met_X8_shows (l : Launch) (Dg : va_G) (m0 z : Nat) (a : Nat → Nat) (y : Nat → ClassId) (iR : Int32) (iK : Int32) (nW : Int32) (nR : Int32) (nS : Int32) (nP : Int32) (nT : Int32) (jW : Int64) (dR : UInt64) (aOf : Nat → Int32) (aWk : Nat → Int32) (aTo : Nat → UInt64) (aPo : Nat → UInt64) (aRk : Nat → Int32) (aRw : Nat → Int64) (aRr : Nat → UInt64) (aLa : Nat → Int32) (aSi : Nat → Int32) (aGo : Nat → Int32) (aWs : Nat → Int64) (aRs : Nat → UInt64) (aSo : Nat → Int32) (aWa : Nat → Int32) (aSs : Nat → Int32) (aSz : Nat → Int32) (aSh : Nat → Int32) (p1 : Int32) (k : Int32) (b : Int64) (h1 : vp_in p1 12) (h2 : vp_in (aWa p1.toNatClampNeg) 10) (h3 : aPo (aWa p1.toNatClampNeg).toNatClampNeg = vl k b) (hok : okR k b) : Met l yX8_shows wsX8_shows ({ frames := 2, cells := 0, slots := 0, locals := 40 }) (va_Pc [.ref m0, .int p1] (wB Dg (mT y) (mW m0 a y iR iK nW nR nS nP nT jW dR aOf aWk aTo aPo aRk aRw aRr aLa aSi aGo aWs aRs aSo aWa aSs aSz aSh) z)) (vp_Sl (fun r => r = shB (aSo p1.toNatClampNeg) k b)) 0 0 (fun _ => False) := by
  refine Met.ofW (cc := cX8_shows) (maxL := 6) (ret := (some .long)) (by decide) rfl ?_
  intro p e s m args below meth c s₁ B hml hv
  obtain ⟨rfl, hsz, hP, hK, hD0⟩ := hv
  have hx := B.exec
  have hb := B.bytes
  have hr := B.returns
  have hts := atoms_spec (ws := wsX8_shows) B.pre
  have hown : s.vm.findClass RX8 = some m.cls := findClass_of_methodNamed B.named
  have hlocks := B.notSynchronized
  subst hsz
  have hl := lv_entry ([.ref m0, .int p1]) (n := 6) (Nat.le_of_ble_eq_true rfl)
  rw [lg_entry_eq]
  generalize (lg_sl ([.ref m0, .int p1]) ++ List.replicate (6 - (lg_sl ([.ref m0, .int p1])).length) Slot.unset).toArray = ls at hl ⊢
  have hl : lv_has ls 6 [(0, .ref m0), (1, .int p1)] := hl
  have zs := zv_sign hok
  refine lv_aload_n hx hb dX8_shows_0 rfl (lv_at hl 0 rfl) ?_
  refine va_get (D := Dg) (ci := 6) (v := .ref (a 3)) (C := RX8) (T := TX8) (N := 26) hx hb hts in_X8_shows hown hK hP 0 rfl rfl 8 (by decide) (hts (.fieldLink RX8 20 "OrreryWorksModel" "position" "[D") (by decide +kernel)) (fun _ h9 => h9) rfl dX8_shows_1 ?_
  refine lv_aload_n hx hb dX8_shows_4 rfl (lv_at hl 0 rfl) ?_
  refine va_get (D := Dg) (ci := 6) (v := .ref (a 13)) (C := RX8) (T := TX8) (N := 26) hx hb hts in_X8_shows hown hK hP 0 rfl rfl 21 (by decide) (hts (.fieldLink RX8 52 "OrreryWorksModel" "wheelAt" "[I") (by decide +kernel)) (fun _ h9 => h9) rfl dX8_shows_5 ?_
  refine lv_iload_n hx hb dX8_shows_8 rfl (lv_at hl 1 rfl) ?_
  refine va_iald hx hb hK hP 14 13 rfl rfl h1 dX8_shows_9 ?_
  refine va_dald hx hb hK hP 4 3 rfl rfl h2 dX8_shows_10 ?_
  refine lv_topd (fun z_1 ez_1 => ?_)
  rw [show z_1 = vl k b from ez_1.trans h3]
  refine lv_dstore_n (lv' := [(2, .double (vl k b)), (0, .ref m0), (1, .int p1)]) hx hb dX8_shows_11 rfl hl (by decide) rfl (fun ls hl => ?_)
  refine lv_aload_n hx hb dX8_shows_12 rfl (lv_at hl 1 rfl) ?_
  refine va_get (D := Dg) (ci := 6) (v := .ref (a 12)) (C := RX8) (T := TX8) (N := 26) hx hb hts in_X8_shows hown hK hP 0 rfl rfl 20 (by decide) (hts (.fieldLink RX8 49 "OrreryWorksModel" "sort" "[I") (by decide +kernel)) (fun _ h9 => h9) rfl dX8_shows_13 ?_
  refine lv_iload_n hx hb dX8_shows_16 rfl (lv_at hl 2 rfl) ?_
  refine va_iald hx hb hK hP 13 12 rfl rfl h1 dX8_shows_17 ?_
  refine lv_if_ne (tgt := 25) hx hb dX8_shows_18 (by decide) (fun c_2 => ?_) (fun c_2 => ?_)
  · refine lv_aload_n hx hb dX8_shows_25 rfl (lv_at hl 1 rfl) ?_
    refine va_get (D := Dg) (ci := 6) (v := .ref (a 12)) (C := RX8) (T := TX8) (N := 26) hx hb hts in_X8_shows hown hK hP 0 rfl rfl 20 (by decide) (hts (.fieldLink RX8 49 "OrreryWorksModel" "sort" "[I") (by decide +kernel)) (fun _ h9 => h9) rfl dX8_shows_26 ?_
    refine lv_iload_n hx hb dX8_shows_29 rfl (lv_at hl 2 rfl) ?_
    refine va_iald hx hb hK hP 13 12 rfl rfl h1 dX8_shows_30 ?_
    refine lv_iconst (v := 3) hx hb dX8_shows_31 (by decide) ?_
    refine lv_icmp_ne (tgt := 61) hx hb dX8_shows_32 (by decide) (fun c_3 => ?_) (fun c_3 => ?_)
    · refine lv_dload_n hx hb dX8_shows_61 rfl (lv_at hl 0 rfl) ?_
      refine lv_ldc2d hx hb hown (hts (.constantDouble RX8 211 (4652007308841189376)) (by decide +kernel)) dX8_shows_62 ?_
      refine lv_dmul hx hb dX8_shows_65 (fm_n64.mpr (big_nn (vl_nn hok))) ?_
      refine lv_d2l hx hb dX8_shows_66 ?_
      refine lv_lstore (lv' := [(4, .long (FP.d2l (FP.dmul (vl k b) 4652007308841189376))), (2, .double (vl k b)), (0, .ref m0), (1, .int p1)]) hx hb dX8_shows_67 hl (by decide) rfl (fun ls hl => ?_)
      refine lv_aload_n hx hb dX8_shows_69 rfl (lv_at hl 2 rfl) ?_
      refine va_get (D := Dg) (ci := 6) (v := .ref (a 12)) (C := RX8) (T := TX8) (N := 26) hx hb hts in_X8_shows hown hK hP 0 rfl rfl 20 (by decide) (hts (.fieldLink RX8 49 "OrreryWorksModel" "sort" "[I") (by decide +kernel)) (fun _ h9 => h9) rfl dX8_shows_70 ?_
      refine lv_iload_n hx hb dX8_shows_73 rfl (lv_at hl 3 rfl) ?_
      refine va_iald hx hb hK hP 13 12 rfl rfl h1 dX8_shows_74 ?_
      refine lv_iconst (v := 1) hx hb dX8_shows_75 (by decide) ?_
      refine lv_icmp_ne (tgt := 84) hx hb dX8_shows_76 (by decide) (fun c_4 => ?_) (fun c_4 => ?_)
      · refine lv_lload hx hb dX8_shows_84 (lv_at hl 0 rfl) ?_
        refine lv_l2f hx hb dX8_shows_86 ?_
        refine vp_callSi ((va_runS (As := [.float (FP.l2f (FP.d2l (FP.dmul (vl k b) 4652007308841189376)))]) (rest := []) ⟨hx, hb, hml, hown, hts⟩ (met_Jxf58ca_floatToIntBits_5c35a l (FP.l2f (FP.d2l (FP.dmul (vl k b) 4652007308841189376)))) (va_cwS 1 hts gX8_shows_Jxf58ca_floatToIntBits_5c35a rfl rfl rfl (by decide +kernel) ⟨Nat.le_of_ble_eq_true rfl, Nat.le_of_ble_eq_true rfl⟩) ⟨fun _ _ _ _ q => q, fun U hU hW => ⟨rfl, trivial⟩⟩ rfl rfl hl.1 rfl (lv_room (Nat.le_of_ble_eq_true rfl)) dX8_shows_87 ⟨Nat.le_of_ble_eq_true rfl, Nat.le_of_ble_eq_true rfl⟩).run) (fun r hw => ?_)
        subst hw
        refine lv_i2l hx hb dX8_shows_90 rfl ?_
        exact W.lret (v := (fJxf58ca_floatToIntBits_5c35a (FP.l2f (FP.d2l (FP.dmul (vl k b) 4652007308841189376)))).toInt64) hx hb hr (fun t ht hW => ⟨_, rfl, (by simp only [shB, if_neg c_2, if_neg c_3, if_neg c_4]; exact fib_eq _), ht⟩) (fun q hq => absurd hq List.not_mem_nil) dX8_shows_91
      · refine lv_lload hx hb dX8_shows_79 (lv_at hl 0 rfl) ?_
        refine lv_goto (tgt := 91) hx hb dX8_shows_81 (by decide) ?_
        exact W.lret (v := FP.d2l (FP.dmul (vl k b) 4652007308841189376)) hx hb hr (fun t ht hW => ⟨_, rfl, (by simp only [shB, if_neg c_2, if_neg c_3, if_pos c_4]; try rfl), ht⟩) (fun q hq => absurd hq List.not_mem_nil) dX8_shows_91
    · refine lv_dload_n hx hb dX8_shows_35 rfl (lv_at hl 0 rfl) ?_
      refine lv_dconst0 hx hb dX8_shows_36 ?_
      refine lv_dcmp hx hb dX8_shows_37 ?_
      refine lv_if_lt (tgt := 55) hx hb dX8_shows_38 (by decide) (fun c_5 => ?_) (fun c_5 => ?_)
      · refine lv_lconst (v := 1) hx hb dX8_shows_55 (by decide) ?_
        refine lv_goto (tgt := 60) hx hb dX8_shows_56 (by decide) ?_
        have hb0 : b < 0 := Decidable.not_not.mp (fun g => absurd (zs.2.1 g) (by rw [cmp0 (vl_nn hok), cv_lt] at c_5; omega))
        exact W.lret (v := 1) hx hb hr (fun t ht hW => ⟨_, rfl, (by simp only [shB, if_neg c_2, if_pos c_3, if_pos hb0]; try rfl), ht⟩) (fun q hq => absurd hq List.not_mem_nil) dX8_shows_60
      · refine lv_dload_n hx hb dX8_shows_41 rfl (lv_at hl 0 rfl) ?_
        refine lv_dconst0 hx hb dX8_shows_42 ?_
        refine lv_dcmp hx hb dX8_shows_43 ?_
        refine lv_if_ne (tgt := 59) hx hb dX8_shows_44 (by decide) (fun c_6 => ?_) (fun c_6 => ?_)
        · refine lv_lconst (v := 0) hx hb dX8_shows_59 (by decide) ?_
          have hb0 : ¬ b < 0 := fun g => by rw [cmp0 (vl_nn hok), cv_lt] at c_5; rw [cmp0 (vl_nn hok), cv_eq] at c_6; have := zs.1 g; omega
          exact W.lret (v := 0) hx hb hr (fun t ht hW => ⟨_, rfl, (by simp only [shB, if_neg c_2, if_pos c_3, if_neg hb0]; try rfl), ht⟩) (fun q hq => absurd hq List.not_mem_nil) dX8_shows_60
        · have hm0 : mgN k b = 0 := zs.2.2.mp (by rw [cmp0 (vl_nn hok), cv_eq] at c_6; exact c_6)
          refine lv_dconst1 hx hb dX8_shows_47 ?_
          refine lv_dload_n hx hb dX8_shows_48 rfl (lv_at hl 0 rfl) ?_
          refine lv_ddiv hx hb dX8_shows_49 ((one_by hok hm0).1) ?_
          refine lv_dconst0 hx hb dX8_shows_50 ?_
          refine lv_dcmp hx hb dX8_shows_51 ?_
          refine lv_if_ge (tgt := 59) hx hb dX8_shows_52 (by decide) (fun c_7 => ?_) (fun c_7 => ?_)
          · refine lv_lconst (v := 0) hx hb dX8_shows_59 (by decide) ?_
            have hb0 : ¬ b < 0 := (one_by hok hm0).2.mp c_7
            exact W.lret (v := 0) hx hb hr (fun t ht hW => ⟨_, rfl, (by simp only [shB, if_neg c_2, if_pos c_3, if_neg hb0]; try rfl), ht⟩) (fun q hq => absurd hq List.not_mem_nil) dX8_shows_60
          · refine lv_lconst (v := 1) hx hb dX8_shows_55 (by decide) ?_
            refine lv_goto (tgt := 60) hx hb dX8_shows_56 (by decide) ?_
            have hb0 : b < 0 := Decidable.not_not.mp (fun g => c_7 ((one_by hok hm0).2.mpr g))
            exact W.lret (v := 1) hx hb hr (fun t ht hW => ⟨_, rfl, (by simp only [shB, if_neg c_2, if_pos c_3, if_pos hb0]; try rfl), ht⟩) (fun q hq => absurd hq List.not_mem_nil) dX8_shows_60
  · refine lv_dload_n hx hb dX8_shows_21 rfl (lv_at hl 0 rfl) ?_
    refine lv_d2i hx hb dX8_shows_22 ?_
    refine lv_i2l hx hb dX8_shows_23 rfl ?_
    exact W.lret (v := (FP.d2i (vl k b)).toInt64) hx hb hr (fun t ht hW => ⟨_, rfl, (by simp only [shB, if_pos c_2]; try rfl), ht⟩) (fun q hq => absurd hq List.not_mem_nil) dX8_shows_24

theorem in_X8_lay : ∀ w ∈ wsX80, w ∈ wsX8_lay := fun w h => List.mem_cons_of_mem _ (List.mem_append_right _ h)
set_option maxHeartbeats 8000000 in
set_option maxRecDepth 100000 in
theorem met_X8_lay (l : Launch) (Dg : va_G) (m0 z : Nat) (a : Nat → Nat) (y : Nat → ClassId) (iR : Int32) (iK : Int32) (nW : Int32) (nR : Int32) (nS : Int32) (nP : Int32) (nT : Int32) (jW : Int64) (dR : UInt64) (aOf : Nat → Int32) (aWk : Nat → Int32) (aTo : Nat → UInt64) (aPo : Nat → UInt64) (aRk : Nat → Int32) (aRw : Nat → Int64) (aRr : Nat → UInt64) (aLa : Nat → Int32) (aSi : Nat → Int32) (aGo : Nat → Int32) (aWs : Nat → Int64) (aRs : Nat → UInt64) (aSo : Nat → Int32) (aWa : Nat → Int32) (aSs : Nat → Int32) (aSz : Nat → Int32) (aSh : Nat → Int32) (p1 : Int32) (p2 : Int32) (p3 : Int32) (h1 : vp_in p1 8) (h2 : ¬ p3 = (-1) → vp_in p3 12) (h3 : fX8_isIn p2 0 (aSz p1.toNatClampNeg - 1) = true → vp_in (6 * p1 + p2) 48) : Met l yX8_lay wsX8_lay ({ frames := 2, cells := 0, slots := 0, locals := 43 }) (va_Pc [.ref m0, .int p1, .int p2, .int p3] (wB Dg (mT y) (mW m0 a y iR iK nW nR nS nP nT jW dR aOf aWk aTo aPo aRk aRw aRr aLa aSi aGo aWs aRs aSo aWa aSs aSz aSh) z)) (va_Qi (fun (r : Int32) (u : va_W) => r = (if lyG aSs aSz aSo p1 p2 p3 = 0 then 1 else lyG aSs aSz aSo p1 p2 p3) ∧ u = (mW m0 a y (if lyG aSs aSz aSo p1 p2 p3 = 0 then iR else lyG aSs aSz aSo p1 p2 p3) iK nW nR nS nP nT jW dR (if lyG aSs aSz aSo p1 p2 p3 = 0 then aOf else rfO (lyG aSs aSz aSo p1 p2 p3) aOf) aWk aTo aPo aRk aRw aRr aLa aSi aGo aWs aRs aSo aWa aSs aSz (if lyG aSs aSz aSo p1 p2 p3 = 0 then upd aSh (6 * p1 + p2).toNatClampNeg p3 else aSh))) (wE Dg (mT y) (va_A (mW m0 a y iR iK nW nR nS nP nT jW dR aOf aWk aTo aPo aRk aRw aRr aLa aSi aGo aWs aRs aSo aWa aSs aSz aSh) z)) (va_A (mW m0 a y iR iK nW nR nS nP nT jW dR aOf aWk aTo aPo aRk aRw aRr aLa aSi aGo aWs aRs aSo aWa aSs aSz aSh) z)) 0 0 (va_A (mW m0 a y iR iK nW nR nS nP nT jW dR aOf aWk aTo aPo aRk aRw aRr aLa aSi aGo aWs aRs aSo aWa aSs aSz aSh) z) := by
  refine Met.ofW (cc := cX8_lay) (maxL := 4) (ret := (some .int)) (by decide) rfl ?_
  intro p e s m args below meth c s₁ B hml hv
  obtain ⟨rfl, hsz, hP, hK, hD0⟩ := hv
  have hx := B.exec
  have hb := B.bytes
  have hr := B.returns
  have hts := atoms_spec (ws := wsX8_lay) B.pre
  have hown : s.vm.findClass RX8 = some m.cls := findClass_of_methodNamed B.named
  have hlocks := B.notSynchronized
  subst hsz
  have hD := hD0.self (sz := s.heap.size)
  generalize hAe : va_A (mW m0 a y iR iK nW nR nS nP nT jW dR aOf aWk aTo aPo aRk aRw aRr aLa aSi aGo aWs aRs aSo aWa aSs aSz aSh) s.heap.size = A at hD ⊢
  have hA : ∀ q : Nat, s.heap.size ≤ q → A q := fun q h => by rw [← hAe]; exact Or.inr h
  have hS : va_S A s.heap s.heap [] := va_S.rf
  have hP : va_P Dg vwCl (mW m0 a y iR iK nW nR nS nP nT jW dR aOf aWk aTo aPo aRk aRw aRr aLa aSi aGo aWs aRs aSo aWa aSs aSz aSh) s.heap := hP
  have hl := lv_entry ([.ref m0, .int p1, .int p2, .int p3]) (n := 4) (Nat.le_of_ble_eq_true rfl)
  rw [lg_entry_eq]
  generalize (lg_sl ([.ref m0, .int p1, .int p2, .int p3]) ++ List.replicate (4 - (lg_sl ([.ref m0, .int p1, .int p2, .int p3])).length) Slot.unset).toArray = ls at hl ⊢
  have hl : lv_has ls 4 [(0, .ref m0), (1, .int p1), (2, .int p2), (3, .int p3)] := hl
  refine lv_iload_n hx hb dX8_lay_0 rfl (lv_at hl 2 rfl) ?_
  refine lv_iconst (v := 0) hx hb dX8_lay_1 (by decide) ?_
  refine lv_aload_n hx hb dX8_lay_2 rfl (lv_at hl 0 rfl) ?_
  refine va_get (D := Dg) (ci := 6) (v := .ref (a 15)) (C := RX8) (T := TX8) (N := 26) hx hb hts in_X8_lay hown hK hP 0 rfl rfl 24 (by decide) (hts (.fieldLink RX8 58 "OrreryWorksModel" "standSize" "[I") (by decide +kernel)) (fun _ h9 => h9) rfl dX8_lay_3 ?_
  refine lv_iload_n hx hb dX8_lay_6 rfl (lv_at hl 1 rfl) ?_
  refine va_iald hx hb hK hP 16 15 rfl rfl h1 dX8_lay_7 ?_
  refine lv_iconst (v := 1) hx hb dX8_lay_8 (by decide) ?_
  refine lv_isub hx hb dX8_lay_9 ?_
  refine vp_callSi ((va_runS (As := [.int p2, .int 0, .int ((aSz p1.toNatClampNeg) - 1)]) (rest := []) ⟨hx, hb, hml, hown, hts⟩ (met_X8_isIn l p2 0 ((aSz p1.toNatClampNeg) - 1)) (va_cwS 3 hts gX8_lay_X8_isIn rfl rfl rfl (by decide +kernel) ⟨Nat.le_of_ble_eq_true rfl, Nat.le_of_ble_eq_true rfl⟩) ⟨fun _ _ _ _ q => q, fun U hU hW => ⟨rfl, trivial⟩⟩ rfl rfl hl.1 rfl (lv_room (Nat.le_of_ble_eq_true rfl)) dX8_lay_10 ⟨Nat.le_of_ble_eq_true rfl, Nat.le_of_ble_eq_true rfl⟩).run) (fun r hw => ?_)
  subst hw
  refine lv_if_ne (tgt := 23) hx hb dX8_lay_13 (by decide) (fun c_1 => ?_) (fun c_1 => ?_)
  · replace c_1 := bI_ne c_1
    refine lv_iload_n hx hb dX8_lay_23 rfl (lv_at hl 3 rfl) ?_
    refine lv_iconst (v := (-1)) hx hb dX8_lay_24 (by decide) ?_
    refine lv_icmp_eq (tgt := 53) hx hb dX8_lay_25 (by decide) (fun c_2 => ?_) (fun c_2 => ?_)
    · refine lv_aload_n hx hb dX8_lay_53 rfl (lv_at hl 0 rfl) ?_
      refine va_get (D := Dg) (ci := 6) (v := .ref (a 16)) (C := RX8) (T := TX8) (N := 26) hx hb hts in_X8_lay hown hK hP 0 rfl rfl 25 (by decide) (hts (.fieldLink RX8 61 "OrreryWorksModel" "shown" "[I") (by decide +kernel)) (fun _ h9 => h9) rfl dX8_lay_54 ?_
      refine lv_bipush (v := 6) hx hb dX8_lay_57 (by decide) ?_
      refine lv_iload_n hx hb dX8_lay_59 rfl (lv_at hl 1 rfl) ?_
      refine lv_imul hx hb dX8_lay_60 ?_
      refine lv_iload_n hx hb dX8_lay_61 rfl (lv_at hl 2 rfl) ?_
      refine lv_iadd hx hb dX8_lay_62 ?_
      refine lv_iload_n hx hb dX8_lay_63 rfl (lv_at hl 3 rfl) ?_
      refine va_iast hx hb hK hP hD hS 17 16 rfl rfl (h3 c_1) dX8_lay_64 (fun H locs hP hD hS => ?_)
      have hP : va_P Dg vwCl (mW m0 a y iR iK nW nR nS nP nT jW dR aOf aWk aTo aPo aRk aRw aRr aLa aSi aGo aWs aRs aSo aWa aSs aSz (upd aSh ((6 * p1) + p2).toNatClampNeg p3)) H := hP
      have hD : va_D A (mW m0 a y iR iK nW nR nS nP nT jW dR aOf aWk aTo aPo aRk aRw aRr aLa aSi aGo aWs aRs aSo aWa aSs aSz (upd aSh ((6 * p1) + p2).toNatClampNeg p3)) := hD
      refine lv_iconst (v := 1) hx hb dX8_lay_65 (by decide) ?_
      exact W.iret (v := 1) hx hb hr (fun t ht hW => ⟨⟨_, (mW m0 a y iR iK nW nR nS nP nT jW dR aOf aWk aTo aPo aRk aRw aRr aLa aSi aGo aWs aRs aSo aWa aSs aSz (upd aSh ((6 * p1) + p2).toNatClampNeg p3)), rfl, (by have hL : lyG aSs aSz aSo p1 p2 p3 = 0 := (by simp only [lyG, if_pos c_1, if_pos c_2]); rw [hL]; exact ⟨rfl, rfl⟩), by rw [ht]; exact hP, va_K.moved hW.alike hK, hD⟩, hS.F ht⟩) hS.2.2 dX8_lay_66
    · refine lv_aload_n hx hb dX8_lay_28 rfl (lv_at hl 0 rfl) ?_
      refine va_get (D := Dg) (ci := 6) (v := .ref (a 14)) (C := RX8) (T := TX8) (N := 26) hx hb hts in_X8_lay hown hK hP 0 rfl rfl 23 (by decide) (hts (.fieldLink RX8 55 "OrreryWorksModel" "standSort" "[I") (by decide +kernel)) (fun _ h9 => h9) rfl dX8_lay_29 ?_
      refine lv_iload_n hx hb dX8_lay_32 rfl (lv_at hl 1 rfl) ?_
      refine va_iald hx hb hK hP 15 14 rfl rfl h1 dX8_lay_33 ?_
      refine lv_aload_n hx hb dX8_lay_34 rfl (lv_at hl 0 rfl) ?_
      refine va_get (D := Dg) (ci := 6) (v := .ref (a 12)) (C := RX8) (T := TX8) (N := 26) hx hb hts in_X8_lay hown hK hP 0 rfl rfl 20 (by decide) (hts (.fieldLink RX8 49 "OrreryWorksModel" "sort" "[I") (by decide +kernel)) (fun _ h9 => h9) rfl dX8_lay_35 ?_
      refine lv_iload_n hx hb dX8_lay_38 rfl (lv_at hl 3 rfl) ?_
      refine va_iald hx hb hK hP 13 12 rfl rfl (h2 c_2) dX8_lay_39 ?_
      refine vp_callSi ((va_runS (As := [.int (aSs p1.toNatClampNeg), .int (aSo p3.toNatClampNeg)]) (rest := []) ⟨hx, hb, hml, hown, hts⟩ (met_X8_holds l (aSs p1.toNatClampNeg) (aSo p3.toNatClampNeg)) (va_cwS 2 hts gX8_lay_X8_holds rfl rfl rfl (by decide +kernel) ⟨Nat.le_of_ble_eq_true rfl, Nat.le_of_ble_eq_true rfl⟩) ⟨fun _ _ _ _ q => q, fun U hU hW => ⟨rfl, trivial⟩⟩ rfl rfl hl.1 rfl (lv_room (Nat.le_of_ble_eq_true rfl)) dX8_lay_40 ⟨Nat.le_of_ble_eq_true rfl, Nat.le_of_ble_eq_true rfl⟩).run) (fun r hw => ?_)
      subst hw
      refine lv_if_ne (tgt := 53) hx hb dX8_lay_43 (by decide) (fun c_3 => ?_) (fun c_3 => ?_)
      · replace c_3 := bI_ne c_3
        refine lv_aload_n hx hb dX8_lay_53 rfl (lv_at hl 0 rfl) ?_
        refine va_get (D := Dg) (ci := 6) (v := .ref (a 16)) (C := RX8) (T := TX8) (N := 26) hx hb hts in_X8_lay hown hK hP 0 rfl rfl 25 (by decide) (hts (.fieldLink RX8 61 "OrreryWorksModel" "shown" "[I") (by decide +kernel)) (fun _ h9 => h9) rfl dX8_lay_54 ?_
        refine lv_bipush (v := 6) hx hb dX8_lay_57 (by decide) ?_
        refine lv_iload_n hx hb dX8_lay_59 rfl (lv_at hl 1 rfl) ?_
        refine lv_imul hx hb dX8_lay_60 ?_
        refine lv_iload_n hx hb dX8_lay_61 rfl (lv_at hl 2 rfl) ?_
        refine lv_iadd hx hb dX8_lay_62 ?_
        refine lv_iload_n hx hb dX8_lay_63 rfl (lv_at hl 3 rfl) ?_
        refine va_iast hx hb hK hP hD hS 17 16 rfl rfl (h3 c_1) dX8_lay_64 (fun H locs hP hD hS => ?_)
        have hP : va_P Dg vwCl (mW m0 a y iR iK nW nR nS nP nT jW dR aOf aWk aTo aPo aRk aRw aRr aLa aSi aGo aWs aRs aSo aWa aSs aSz (upd aSh ((6 * p1) + p2).toNatClampNeg p3)) H := hP
        have hD : va_D A (mW m0 a y iR iK nW nR nS nP nT jW dR aOf aWk aTo aPo aRk aRw aRr aLa aSi aGo aWs aRs aSo aWa aSs aSz (upd aSh ((6 * p1) + p2).toNatClampNeg p3)) := hD
        refine lv_iconst (v := 1) hx hb dX8_lay_65 (by decide) ?_
        exact W.iret (v := 1) hx hb hr (fun t ht hW => ⟨⟨_, (mW m0 a y iR iK nW nR nS nP nT jW dR aOf aWk aTo aPo aRk aRw aRr aLa aSi aGo aWs aRs aSo aWa aSs aSz (upd aSh ((6 * p1) + p2).toNatClampNeg p3)), rfl, (by have hL : lyG aSs aSz aSo p1 p2 p3 = 0 := (by simp only [lyG, if_pos c_1, if_neg c_2, if_pos c_3]); rw [hL]; exact ⟨rfl, rfl⟩), by rw [ht]; exact hP, va_K.moved hW.alike hK, hD⟩, hS.F ht⟩) hS.2.2 dX8_lay_66
      · replace c_3 := bI_eq c_3
        refine lv_aload_n hx hb dX8_lay_46 rfl (lv_at hl 0 rfl) ?_
        refine lv_bipush (v := (-9)) hx hb dX8_lay_47 (by decide) ?_
        have hFc := wFree hD hS hA
        refine va_calli (va_runV (As := [.int (-9)]) (rest := []) ⟨hx, hb, hml, hown, hts⟩ (met_X8_refuse l Dg m0 s.heap.size a y iR iK nW nR nS nP nT jW dR aOf aWk aTo aPo aRk aRw aRr aLa aSi aGo aWs aRs aSo aWa aSs aSz aSh (-9) (by unfold vp_in; decide)) (cwV 1 hts gX8_lay_X8_refuse rfl rfl rfl (by decide +kernel) ⟨Nat.le_of_ble_eq_true rfl, Nat.le_of_ble_eq_true rfl⟩) (wPreV hK hP (hD.weaken (fun _ _ _ _ => trivial)) (va_recv hK hP (ci := 6) (q0 := 0) rfl rfl)) rfl rfl hl.1 rfl (lv_room (Nat.le_of_ble_eq_true rfl)) dX8_lay_49 ⟨Nat.le_of_ble_eq_true rfl, Nat.le_of_ble_eq_true rfl⟩) hS (fun q _ h => hFc q h) hFc (fun r u t H locs ht hvm hw hB _ _ hS => ?_)
        obtain ⟨hP, -, hD⟩ := hB
        rw [ht] at hP
        replace hD := hD.weaken (fun _ q _ h => hFc q.1 h)
        rw [hw.2] at hP hD
        rw [hw.1]
        clear hw hFc
        have hP : va_P Dg vwCl (mW m0 a y (-9) iK nW nR nS nP nT jW dR (rfO (-9) aOf) aWk aTo aPo aRk aRw aRr aLa aSi aGo aWs aRs aSo aWa aSs aSz aSh) H := hP
        have hD : va_D A (mW m0 a y (-9) iK nW nR nS nP nT jW dR (rfO (-9) aOf) aWk aTo aPo aRk aRw aRr aLa aSi aGo aWs aRs aSo aWa aSs aSz aSh) := hD
        exact W.iret (v := (-9)) hx hb hr (fun t ht hW => ⟨⟨_, (mW m0 a y (-9) iK nW nR nS nP nT jW dR (rfO (-9) aOf) aWk aTo aPo aRk aRw aRr aLa aSi aGo aWs aRs aSo aWa aSs aSz aSh), rfl, (by have hL : lyG aSs aSz aSo p1 p2 p3 = (-9) := (by simp only [lyG, if_pos c_1, if_neg c_2, if_neg c_3]); rw [hL]; exact ⟨rfl, rfl⟩), by rw [ht]; exact hP, va_K.moved hW.alike hK, hD⟩, hS.F ht⟩) hS.2.2 dX8_lay_52
  · replace c_1 := bI_eq c_1
    refine lv_aload_n hx hb dX8_lay_16 rfl (lv_at hl 0 rfl) ?_
    refine lv_bipush (v := (-8)) hx hb dX8_lay_17 (by decide) ?_
    have hFc := wFree hD hS hA
    refine va_calli (va_runV (As := [.int (-8)]) (rest := []) ⟨hx, hb, hml, hown, hts⟩ (met_X8_refuse l Dg m0 s.heap.size a y iR iK nW nR nS nP nT jW dR aOf aWk aTo aPo aRk aRw aRr aLa aSi aGo aWs aRs aSo aWa aSs aSz aSh (-8) (by unfold vp_in; decide)) (cwV 1 hts gX8_lay_X8_refuse rfl rfl rfl (by decide +kernel) ⟨Nat.le_of_ble_eq_true rfl, Nat.le_of_ble_eq_true rfl⟩) (wPreV hK hP (hD.weaken (fun _ _ _ _ => trivial)) (va_recv hK hP (ci := 6) (q0 := 0) rfl rfl)) rfl rfl hl.1 rfl (lv_room (Nat.le_of_ble_eq_true rfl)) dX8_lay_19 ⟨Nat.le_of_ble_eq_true rfl, Nat.le_of_ble_eq_true rfl⟩) hS (fun q _ h => hFc q h) hFc (fun r u t H locs ht hvm hw hB _ _ hS => ?_)
    obtain ⟨hP, -, hD⟩ := hB
    rw [ht] at hP
    replace hD := hD.weaken (fun _ q _ h => hFc q.1 h)
    rw [hw.2] at hP hD
    rw [hw.1]
    clear hw hFc
    have hP : va_P Dg vwCl (mW m0 a y (-8) iK nW nR nS nP nT jW dR (rfO (-8) aOf) aWk aTo aPo aRk aRw aRr aLa aSi aGo aWs aRs aSo aWa aSs aSz aSh) H := hP
    have hD : va_D A (mW m0 a y (-8) iK nW nR nS nP nT jW dR (rfO (-8) aOf) aWk aTo aPo aRk aRw aRr aLa aSi aGo aWs aRs aSo aWa aSs aSz aSh) := hD
    exact W.iret (v := (-8)) hx hb hr (fun t ht hW => ⟨⟨_, (mW m0 a y (-8) iK nW nR nS nP nT jW dR (rfO (-8) aOf) aWk aTo aPo aRk aRw aRr aLa aSi aGo aWs aRs aSo aWa aSs aSz aSh), rfl, (by have hL : lyG aSs aSz aSo p1 p2 p3 = (-8) := (by simp only [lyG, if_neg c_1]); rw [hL]; exact ⟨rfl, rfl⟩), by rw [ht]; exact hP, va_K.moved hW.alike hK, hD⟩, hS.F ht⟩) hS.2.2 dX8_lay_22

theorem in_X8_hang : ∀ w ∈ wsX80, w ∈ wsX8_hang := fun w h => List.mem_cons_of_mem _ (List.mem_append_right _ h)
set_option maxHeartbeats 8000000 in
set_option maxRecDepth 100000 in
theorem met_X8_hang (l : Launch) (Dg : va_G) (m0 z : Nat) (a : Nat → Nat) (y : Nat → ClassId) (σ : St) (kd : Int32) (wh : Int64) (re : UInt64) (aTo aPo : Nat → UInt64) (aRw : Nat → Int64) (aRr : Nat → UInt64) (aWs : Nat → Int64) (aRs : Nat → UInt64) (p1 : Int32) (p2 : Int32) (p3 : Int32) (hV : vOK σ) (hM : mC σ aTo aPo aRw aRr aWs aRs)  : Met l yX8_hang wsX8_hang ({ frames := 3, cells := 0, slots := 0, locals := 66 }) (va_Pc [.ref m0, .int p1, .int p2, .int p3] (wB Dg (mT y) (mW m0 a y (σ.1 0 0) kd (σ.1 2 0) (σ.1 2 1) (σ.1 2 2) (σ.1 2 3) (σ.1 2 4) wh re (σ.1 1) (σ.1 3) aTo aPo (σ.1 4) aRw aRr (σ.1 5) (σ.1 6) (σ.1 7) aWs aRs (σ.1 8) (σ.1 9) (σ.1 10) (σ.1 11) (σ.1 12)) z)) (va_Qi (fun (r : Int32) (u : va_W) => r = an_hang σ p1 p2 p3 ∧ MI m0 a y (nw_hang σ p1 p2 p3) u) (wE Dg (mT y) (va_A (mW m0 a y (σ.1 0 0) kd (σ.1 2 0) (σ.1 2 1) (σ.1 2 2) (σ.1 2 3) (σ.1 2 4) wh re (σ.1 1) (σ.1 3) aTo aPo (σ.1 4) aRw aRr (σ.1 5) (σ.1 6) (σ.1 7) aWs aRs (σ.1 8) (σ.1 9) (σ.1 10) (σ.1 11) (σ.1 12)) z)) (va_A (mW m0 a y (σ.1 0 0) kd (σ.1 2 0) (σ.1 2 1) (σ.1 2 2) (σ.1 2 3) (σ.1 2 4) wh re (σ.1 1) (σ.1 3) aTo aPo (σ.1 4) aRw aRr (σ.1 5) (σ.1 6) (σ.1 7) aWs aRs (σ.1 8) (σ.1 9) (σ.1 10) (σ.1 11) (σ.1 12)) z)) 0 0 (va_A (mW m0 a y (σ.1 0 0) kd (σ.1 2 0) (σ.1 2 1) (σ.1 2 2) (σ.1 2 3) (σ.1 2 4) wh re (σ.1 1) (σ.1 3) aTo aPo (σ.1 4) aRw aRr (σ.1 5) (σ.1 6) (σ.1 7) aWs aRs (σ.1 8) (σ.1 9) (σ.1 10) (σ.1 11) (σ.1 12)) z) := by
  refine Met.ofW (cc := cX8_hang) (maxL := 4) (ret := (some .int)) (by decide) rfl ?_
  intro p e s m args below meth c s₁ B hml hv
  obtain ⟨rfl, hsz, hP, hK, hD0⟩ := hv
  have hx := B.exec
  have hb := B.bytes
  have hr := B.returns
  have hts := atoms_spec (ws := wsX8_hang) B.pre
  have hown : s.vm.findClass RX8 = some m.cls := findClass_of_methodNamed B.named
  have hlocks := B.notSynchronized
  subst hsz
  have hD := hD0.self (sz := s.heap.size)
  generalize hAe : va_A (mW m0 a y (σ.1 0 0) kd (σ.1 2 0) (σ.1 2 1) (σ.1 2 2) (σ.1 2 3) (σ.1 2 4) wh re (σ.1 1) (σ.1 3) aTo aPo (σ.1 4) aRw aRr (σ.1 5) (σ.1 6) (σ.1 7) aWs aRs (σ.1 8) (σ.1 9) (σ.1 10) (σ.1 11) (σ.1 12)) s.heap.size = A at hD ⊢
  have hA : ∀ q : Nat, s.heap.size ≤ q → A q := fun q h => by rw [← hAe]; exact Or.inr h
  have hS : va_S A s.heap s.heap [] := va_S.rf
  have hP : va_P Dg vwCl (mW m0 a y (σ.1 0 0) kd (σ.1 2 0) (σ.1 2 1) (σ.1 2 2) (σ.1 2 3) (σ.1 2 4) wh re (σ.1 1) (σ.1 3) aTo aPo (σ.1 4) aRw aRr (σ.1 5) (σ.1 6) (σ.1 7) aWs aRs (σ.1 8) (σ.1 9) (σ.1 10) (σ.1 11) (σ.1 12)) s.heap := hP
  have hl := lv_entry ([.ref m0, .int p1, .int p2, .int p3]) (n := 4) (Nat.le_of_ble_eq_true rfl)
  rw [lg_entry_eq]
  generalize (lg_sl ([.ref m0, .int p1, .int p2, .int p3]) ++ List.replicate (4 - (lg_sl ([.ref m0, .int p1, .int p2, .int p3])).length) Slot.unset).toArray = ls at hl ⊢
  have hl : lv_has ls 4 [(0, .ref m0), (1, .int p1), (2, .int p2), (3, .int p3)] := hl
  refine lv_aload_n hx hb dX8_hang_0 rfl (lv_at hl 0 rfl) ?_
  refine lv_iconst (v := 0) hx hb dX8_hang_1 (by decide) ?_
  refine va_put (D := Dg) (ci := 6) (v := .int 0) (ty := .int) (C := RX8) (T := TX8) (N := 26) hx hb hts in_X8_hang tyX8 tyX8_ok nmX8 hown hK hP hD hS 0 rfl rfl 0 (by decide) (hts (.fieldLink RX8 64 "OrreryWorksModel" "refused" "I") (by decide +kernel)) (fun _ h9 => h9) rfl (by decide +kernel) rfl rfl (Nat.le_of_ble_eq_true rfl) dX8_hang_2 (fun H locs hP hD hS => ?_)
  have hP : va_P Dg vwCl (mW m0 a y 0 kd (σ.1 2 0) (σ.1 2 1) (σ.1 2 2) (σ.1 2 3) (σ.1 2 4) wh re (σ.1 1) (σ.1 3) aTo aPo (σ.1 4) aRw aRr (σ.1 5) (σ.1 6) (σ.1 7) aWs aRs (σ.1 8) (σ.1 9) (σ.1 10) (σ.1 11) (σ.1 12)) H := hP
  have hD : va_D A (mW m0 a y 0 kd (σ.1 2 0) (σ.1 2 1) (σ.1 2 2) (σ.1 2 3) (σ.1 2 4) wh re (σ.1 1) (σ.1 3) aTo aPo (σ.1 4) aRw aRr (σ.1 5) (σ.1 6) (σ.1 7) aWs aRs (σ.1 8) (σ.1 9) (σ.1 10) (σ.1 11) (σ.1 12)) := hD
  refine lv_aload_n hx hb dX8_hang_5 rfl (lv_at hl 0 rfl) ?_
  refine lv_iload_n hx hb dX8_hang_6 rfl (lv_at hl 1 rfl) ?_
  refine vp_callSi ((va_runV (As := [.int p1]) (rest := []) ⟨hx, hb, hml, hown, hts⟩ (met_X8_isStand l Dg m0 H.size a y 0 kd (σ.1 2 0) (σ.1 2 1) (σ.1 2 2) (σ.1 2 3) (σ.1 2 4) wh re (σ.1 1) (σ.1 3) aTo aPo (σ.1 4) aRw aRr (σ.1 5) (σ.1 6) (σ.1 7) aWs aRs (σ.1 8) (σ.1 9) (σ.1 10) (σ.1 11) (σ.1 12) p1 ) (cwV 1 hts gX8_hang_X8_isStand rfl rfl rfl (by decide +kernel) ⟨Nat.le_of_ble_eq_true rfl, Nat.le_of_ble_eq_true rfl⟩) (wPreV hK hP (hD.weaken (fun _ _ _ _ => trivial)) (va_recv hK hP (ci := 6) (q0 := 0) rfl rfl)) rfl rfl hl.1 rfl (lv_room (Nat.le_of_ble_eq_true rfl)) dX8_hang_7 ⟨Nat.le_of_ble_eq_true rfl, Nat.le_of_ble_eq_true rfl⟩).run) (fun r hw => ?_)
  rw [hw]
  refine lv_if_eq (tgt := 26) hx hb dX8_hang_10 (by decide) (fun c_1 => ?_) (fun c_1 => ?_)
  · replace c_1 := bI_eq c_1
    refine lv_aload_n hx hb dX8_hang_26 rfl (lv_at hl 0 rfl) ?_
    refine lv_bipush (v := (-2)) hx hb dX8_hang_27 (by decide) ?_
    have hFc := wFree hD hS hA
    refine va_calli (va_runV (As := [.int (-2)]) (rest := []) ⟨hx, hb, hml, hown, hts⟩ (met_X8_refuse l Dg m0 H.size a y 0 kd (σ.1 2 0) (σ.1 2 1) (σ.1 2 2) (σ.1 2 3) (σ.1 2 4) wh re (σ.1 1) (σ.1 3) aTo aPo (σ.1 4) aRw aRr (σ.1 5) (σ.1 6) (σ.1 7) aWs aRs (σ.1 8) (σ.1 9) (σ.1 10) (σ.1 11) (σ.1 12) (-2) (by unfold vp_in; decide)) (cwV 1 hts gX8_hang_X8_refuse rfl rfl rfl (by decide +kernel) ⟨Nat.le_of_ble_eq_true rfl, Nat.le_of_ble_eq_true rfl⟩) (wPreV hK hP (hD.weaken (fun _ _ _ _ => trivial)) (va_recv hK hP (ci := 6) (q0 := 0) rfl rfl)) rfl rfl hl.1 rfl (lv_room (Nat.le_of_ble_eq_true rfl)) dX8_hang_29 ⟨Nat.le_of_ble_eq_true rfl, Nat.le_of_ble_eq_true rfl⟩) hS (fun q _ h => hFc q h) hFc (fun r u t H locs ht hvm hw hB _ _ hS => ?_)
    obtain ⟨hP, -, hD⟩ := hB
    rw [ht] at hP
    replace hD := hD.weaken (fun _ q _ h => hFc q.1 h)
    rw [hw.2] at hP hD
    rw [hw.1]
    clear hw hFc
    have hP : va_P Dg vwCl (mW m0 a y (-2) kd (σ.1 2 0) (σ.1 2 1) (σ.1 2 2) (σ.1 2 3) (σ.1 2 4) wh re (rfO (-2) (σ.1 1)) (σ.1 3) aTo aPo (σ.1 4) aRw aRr (σ.1 5) (σ.1 6) (σ.1 7) aWs aRs (σ.1 8) (σ.1 9) (σ.1 10) (σ.1 11) (σ.1 12)) H := hP
    have hD : va_D A (mW m0 a y (-2) kd (σ.1 2 0) (σ.1 2 1) (σ.1 2 2) (σ.1 2 3) (σ.1 2 4) wh re (rfO (-2) (σ.1 1)) (σ.1 3) aTo aPo (σ.1 4) aRw aRr (σ.1 5) (σ.1 6) (σ.1 7) aWs aRs (σ.1 8) (σ.1 9) (σ.1 10) (σ.1 11) (σ.1 12)) := hD
    have hw : wh_hang σ p1 p2 p3 = (-2) := by simp only [wh_hang, if_neg c_1]
    have hn : ¬ wh_hang σ p1 p2 p3 = 0 := by rw [hw]; decide
    exact W.iret (v := (-2)) hx hb hr (fun t ht hW => ⟨⟨_, (mW m0 a y (-2) kd (σ.1 2 0) (σ.1 2 1) (σ.1 2 2) (σ.1 2 3) (σ.1 2 4) wh re (rfO (-2) (σ.1 1)) (σ.1 3) aTo aPo (σ.1 4) aRw aRr (σ.1 5) (σ.1 6) (σ.1 7) aWs aRs (σ.1 8) (σ.1 9) (σ.1 10) (σ.1 11) (σ.1 12)), rfl, ⟨by rw [an_hang, if_neg hn, hw]; try rfl, kd, wh, re, aTo, aPo, aRw, aRr, aWs, aRs, by rw [nw_hang, if_neg hn, hw]; rfl, by rw [nw_hang, if_neg hn]; exact hM⟩, by rw [ht]; exact hP, va_K.moved hW.alike hK, hD⟩, hS.F ht⟩) hS.2.2 dX8_hang_32
  · replace c_1 := bI_ne c_1
    refine lv_iload_n hx hb dX8_hang_13 rfl (lv_at hl 3 rfl) ?_
    refine lv_iconst (v := (-1)) hx hb dX8_hang_14 (by decide) ?_
    refine lv_icmp_eq (tgt := 33) hx hb dX8_hang_15 (by decide) (fun c_2 => ?_) (fun c_2 => ?_)
    · refine lv_aload_n hx hb dX8_hang_33 rfl (lv_at hl 0 rfl) ?_
      refine lv_iload_n hx hb dX8_hang_34 rfl (lv_at hl 1 rfl) ?_
      refine lv_iload_n hx hb dX8_hang_35 rfl (lv_at hl 2 rfl) ?_
      refine lv_iload_n hx hb dX8_hang_36 rfl (lv_at hl 3 rfl) ?_
      have hFc := wFree hD hS hA
      refine va_calli (va_runV (As := [.int p1, .int p2, .int p3]) (rest := []) ⟨hx, hb, hml, hown, hts⟩ (met_X8_lay l Dg m0 H.size a y 0 kd (σ.1 2 0) (σ.1 2 1) (σ.1 2 2) (σ.1 2 3) (σ.1 2 4) wh re (σ.1 1) (σ.1 3) aTo aPo (σ.1 4) aRw aRr (σ.1 5) (σ.1 6) (σ.1 7) aWs aRs (σ.1 8) (σ.1 9) (σ.1 10) (σ.1 11) (σ.1 12) p1 p2 p3 (inC_in hV.1.2.2.2.2 c_1) (fun g => absurd c_2 g) (fun g => (mix6 (t_rng hV c_1) (j_rng hV c_1 g)).1)) (cwV 3 hts gX8_hang_X8_lay rfl rfl rfl (by decide +kernel) ⟨Nat.le_of_ble_eq_true rfl, Nat.le_of_ble_eq_true rfl⟩) (wPreV hK hP (hD.weaken (fun _ _ _ _ => trivial)) (va_recv hK hP (ci := 6) (q0 := 0) rfl rfl)) rfl rfl hl.1 rfl (lv_room (Nat.le_of_ble_eq_true rfl)) dX8_hang_37 ⟨Nat.le_of_ble_eq_true rfl, Nat.le_of_ble_eq_true rfl⟩) hS (fun q _ h => hFc q h) hFc (fun r u t H locs ht hvm hw hB _ _ hS => ?_)
      obtain ⟨hP, -, hD⟩ := hB
      rw [ht] at hP
      replace hD := hD.weaken (fun _ q _ h => hFc q.1 h)
      rw [hw.2] at hP hD
      rw [hw.1]
      clear hw hFc
      have hP : va_P Dg vwCl (mW m0 a y (if lyS σ p1 p2 p3 = 0 then 0 else lyS σ p1 p2 p3) kd (σ.1 2 0) (σ.1 2 1) (σ.1 2 2) (σ.1 2 3) (σ.1 2 4) wh re (if lyS σ p1 p2 p3 = 0 then (σ.1 1) else rfO (lyS σ p1 p2 p3) (σ.1 1)) (σ.1 3) aTo aPo (σ.1 4) aRw aRr (σ.1 5) (σ.1 6) (σ.1 7) aWs aRs (σ.1 8) (σ.1 9) (σ.1 10) (σ.1 11) (if lyS σ p1 p2 p3 = 0 then upd (σ.1 12) (6 * p1 + p2).toNatClampNeg p3 else (σ.1 12))) H := hP
      have hD : va_D A (mW m0 a y (if lyS σ p1 p2 p3 = 0 then 0 else lyS σ p1 p2 p3) kd (σ.1 2 0) (σ.1 2 1) (σ.1 2 2) (σ.1 2 3) (σ.1 2 4) wh re (if lyS σ p1 p2 p3 = 0 then (σ.1 1) else rfO (lyS σ p1 p2 p3) (σ.1 1)) (σ.1 3) aTo aPo (σ.1 4) aRw aRr (σ.1 5) (σ.1 6) (σ.1 7) aWs aRs (σ.1 8) (σ.1 9) (σ.1 10) (σ.1 11) (if lyS σ p1 p2 p3 = 0 then upd (σ.1 12) (6 * p1 + p2).toNatClampNeg p3 else (σ.1 12))) := hD
      have hw0 : wh_hang σ p1 p2 p3 = lyS σ p1 p2 p3 := by simp only [wh_hang, if_pos c_1, if_pos c_2]
      have hF : (if lyS σ p1 p2 p3 = 0 then 1 else lyS σ p1 p2 p3) = an_hang σ p1 p2 p3 ∧ MI m0 a y (nw_hang σ p1 p2 p3) (mW m0 a y (if lyS σ p1 p2 p3 = 0 then 0 else lyS σ p1 p2 p3) kd (σ.1 2 0) (σ.1 2 1) (σ.1 2 2) (σ.1 2 3) (σ.1 2 4) wh re (if lyS σ p1 p2 p3 = 0 then (σ.1 1) else rfO (lyS σ p1 p2 p3) (σ.1 1)) (σ.1 3) aTo aPo (σ.1 4) aRw aRr (σ.1 5) (σ.1 6) (σ.1 7) aWs aRs (σ.1 8) (σ.1 9) (σ.1 10) (σ.1 11) (if lyS σ p1 p2 p3 = 0 then upd (σ.1 12) (6 * p1 + p2).toNatClampNeg p3 else (σ.1 12))) := by
        by_cases hL : lyS σ p1 p2 p3 = 0
        · have hw := hw0.trans hL
          have hi : fX8_isIn p2 0 (σ.1 11 (ix p1) - 1) = true := ly_in hL
          have hm := (mix6 (t_rng hV c_1) (j_rng hV c_1 hi)).2
          refine ⟨by rw [an_hang, if_pos hw, if_pos hL], kd, wh, re, aTo, aPo, aRw, aRr, aWs, aRs, ?_, by rw [nw_hang, if_pos hw]; exact hM⟩
          rw [nw_hang, if_pos hw, if_pos hL, if_pos hL, if_pos hL, hm]; try rfl
        · have hn : ¬ wh_hang σ p1 p2 p3 = 0 := by rw [hw0]; exact hL
          refine ⟨by rw [an_hang, if_neg hn, if_neg hL, hw0], kd, wh, re, aTo, aPo, aRw, aRr, aWs, aRs, ?_, by rw [nw_hang, if_neg hn]; exact hM⟩
          rw [nw_hang, if_neg hn, if_neg hL, if_neg hL, if_neg hL, hw0]; try rfl
      exact W.iret (v := if lyS σ p1 p2 p3 = 0 then 1 else lyS σ p1 p2 p3) hx hb hr (fun t ht hW => ⟨⟨_, (mW m0 a y (if lyS σ p1 p2 p3 = 0 then 0 else lyS σ p1 p2 p3) kd (σ.1 2 0) (σ.1 2 1) (σ.1 2 2) (σ.1 2 3) (σ.1 2 4) wh re (if lyS σ p1 p2 p3 = 0 then (σ.1 1) else rfO (lyS σ p1 p2 p3) (σ.1 1)) (σ.1 3) aTo aPo (σ.1 4) aRw aRr (σ.1 5) (σ.1 6) (σ.1 7) aWs aRs (σ.1 8) (σ.1 9) (σ.1 10) (σ.1 11) (if lyS σ p1 p2 p3 = 0 then upd (σ.1 12) (6 * p1 + p2).toNatClampNeg p3 else (σ.1 12))), rfl, hF, by rw [ht]; exact hP, va_K.moved hW.alike hK, hD⟩, hS.F ht⟩) hS.2.2 dX8_hang_40
    · refine lv_aload_n hx hb dX8_hang_18 rfl (lv_at hl 0 rfl) ?_
      refine lv_iload_n hx hb dX8_hang_19 rfl (lv_at hl 3 rfl) ?_
      refine vp_callSi ((va_runV (As := [.int p3]) (rest := []) ⟨hx, hb, hml, hown, hts⟩ (met_X8_isPointer l Dg m0 H.size a y 0 kd (σ.1 2 0) (σ.1 2 1) (σ.1 2 2) (σ.1 2 3) (σ.1 2 4) wh re (σ.1 1) (σ.1 3) aTo aPo (σ.1 4) aRw aRr (σ.1 5) (σ.1 6) (σ.1 7) aWs aRs (σ.1 8) (σ.1 9) (σ.1 10) (σ.1 11) (σ.1 12) p3 ) (cwV 1 hts gX8_hang_X8_isPointer rfl rfl rfl (by decide +kernel) ⟨Nat.le_of_ble_eq_true rfl, Nat.le_of_ble_eq_true rfl⟩) (wPreV hK hP (hD.weaken (fun _ _ _ _ => trivial)) (va_recv hK hP (ci := 6) (q0 := 0) rfl rfl)) rfl rfl hl.1 rfl (lv_room (Nat.le_of_ble_eq_true rfl)) dX8_hang_20 ⟨Nat.le_of_ble_eq_true rfl, Nat.le_of_ble_eq_true rfl⟩).run) (fun r hw => ?_)
      rw [hw]
      refine lv_if_ne (tgt := 33) hx hb dX8_hang_23 (by decide) (fun c_3 => ?_) (fun c_3 => ?_)
      · replace c_3 := bI_ne c_3
        refine lv_aload_n hx hb dX8_hang_33 rfl (lv_at hl 0 rfl) ?_
        refine lv_iload_n hx hb dX8_hang_34 rfl (lv_at hl 1 rfl) ?_
        refine lv_iload_n hx hb dX8_hang_35 rfl (lv_at hl 2 rfl) ?_
        refine lv_iload_n hx hb dX8_hang_36 rfl (lv_at hl 3 rfl) ?_
        have hFc := wFree hD hS hA
        refine va_calli (va_runV (As := [.int p1, .int p2, .int p3]) (rest := []) ⟨hx, hb, hml, hown, hts⟩ (met_X8_lay l Dg m0 H.size a y 0 kd (σ.1 2 0) (σ.1 2 1) (σ.1 2 2) (σ.1 2 3) (σ.1 2 4) wh re (σ.1 1) (σ.1 3) aTo aPo (σ.1 4) aRw aRr (σ.1 5) (σ.1 6) (σ.1 7) aWs aRs (σ.1 8) (σ.1 9) (σ.1 10) (σ.1 11) (σ.1 12) p1 p2 p3 (inC_in hV.1.2.2.2.2 c_1) (fun _ => inC_in hV.1.2.2.2.1 c_3) (fun g => (mix6 (t_rng hV c_1) (j_rng hV c_1 g)).1)) (cwV 3 hts gX8_hang_X8_lay rfl rfl rfl (by decide +kernel) ⟨Nat.le_of_ble_eq_true rfl, Nat.le_of_ble_eq_true rfl⟩) (wPreV hK hP (hD.weaken (fun _ _ _ _ => trivial)) (va_recv hK hP (ci := 6) (q0 := 0) rfl rfl)) rfl rfl hl.1 rfl (lv_room (Nat.le_of_ble_eq_true rfl)) dX8_hang_37 ⟨Nat.le_of_ble_eq_true rfl, Nat.le_of_ble_eq_true rfl⟩) hS (fun q _ h => hFc q h) hFc (fun r u t H locs ht hvm hw hB _ _ hS => ?_)
        obtain ⟨hP, -, hD⟩ := hB
        rw [ht] at hP
        replace hD := hD.weaken (fun _ q _ h => hFc q.1 h)
        rw [hw.2] at hP hD
        rw [hw.1]
        clear hw hFc
        have hP : va_P Dg vwCl (mW m0 a y (if lyS σ p1 p2 p3 = 0 then 0 else lyS σ p1 p2 p3) kd (σ.1 2 0) (σ.1 2 1) (σ.1 2 2) (σ.1 2 3) (σ.1 2 4) wh re (if lyS σ p1 p2 p3 = 0 then (σ.1 1) else rfO (lyS σ p1 p2 p3) (σ.1 1)) (σ.1 3) aTo aPo (σ.1 4) aRw aRr (σ.1 5) (σ.1 6) (σ.1 7) aWs aRs (σ.1 8) (σ.1 9) (σ.1 10) (σ.1 11) (if lyS σ p1 p2 p3 = 0 then upd (σ.1 12) (6 * p1 + p2).toNatClampNeg p3 else (σ.1 12))) H := hP
        have hD : va_D A (mW m0 a y (if lyS σ p1 p2 p3 = 0 then 0 else lyS σ p1 p2 p3) kd (σ.1 2 0) (σ.1 2 1) (σ.1 2 2) (σ.1 2 3) (σ.1 2 4) wh re (if lyS σ p1 p2 p3 = 0 then (σ.1 1) else rfO (lyS σ p1 p2 p3) (σ.1 1)) (σ.1 3) aTo aPo (σ.1 4) aRw aRr (σ.1 5) (σ.1 6) (σ.1 7) aWs aRs (σ.1 8) (σ.1 9) (σ.1 10) (σ.1 11) (if lyS σ p1 p2 p3 = 0 then upd (σ.1 12) (6 * p1 + p2).toNatClampNeg p3 else (σ.1 12))) := hD
        have hw0 : wh_hang σ p1 p2 p3 = lyS σ p1 p2 p3 := by simp only [wh_hang, if_pos c_1, if_neg c_2, if_pos c_3]
        have hF : (if lyS σ p1 p2 p3 = 0 then 1 else lyS σ p1 p2 p3) = an_hang σ p1 p2 p3 ∧ MI m0 a y (nw_hang σ p1 p2 p3) (mW m0 a y (if lyS σ p1 p2 p3 = 0 then 0 else lyS σ p1 p2 p3) kd (σ.1 2 0) (σ.1 2 1) (σ.1 2 2) (σ.1 2 3) (σ.1 2 4) wh re (if lyS σ p1 p2 p3 = 0 then (σ.1 1) else rfO (lyS σ p1 p2 p3) (σ.1 1)) (σ.1 3) aTo aPo (σ.1 4) aRw aRr (σ.1 5) (σ.1 6) (σ.1 7) aWs aRs (σ.1 8) (σ.1 9) (σ.1 10) (σ.1 11) (if lyS σ p1 p2 p3 = 0 then upd (σ.1 12) (6 * p1 + p2).toNatClampNeg p3 else (σ.1 12))) := by
          by_cases hL : lyS σ p1 p2 p3 = 0
          · have hw := hw0.trans hL
            have hi : fX8_isIn p2 0 (σ.1 11 (ix p1) - 1) = true := ly_in hL
            have hm := (mix6 (t_rng hV c_1) (j_rng hV c_1 hi)).2
            refine ⟨by rw [an_hang, if_pos hw, if_pos hL], kd, wh, re, aTo, aPo, aRw, aRr, aWs, aRs, ?_, by rw [nw_hang, if_pos hw]; exact hM⟩
            rw [nw_hang, if_pos hw, if_pos hL, if_pos hL, if_pos hL, hm]; try rfl
          · have hn : ¬ wh_hang σ p1 p2 p3 = 0 := by rw [hw0]; exact hL
            refine ⟨by rw [an_hang, if_neg hn, if_neg hL, hw0], kd, wh, re, aTo, aPo, aRw, aRr, aWs, aRs, ?_, by rw [nw_hang, if_neg hn]; exact hM⟩
            rw [nw_hang, if_neg hn, if_neg hL, if_neg hL, if_neg hL, hw0]; try rfl
        exact W.iret (v := if lyS σ p1 p2 p3 = 0 then 1 else lyS σ p1 p2 p3) hx hb hr (fun t ht hW => ⟨⟨_, (mW m0 a y (if lyS σ p1 p2 p3 = 0 then 0 else lyS σ p1 p2 p3) kd (σ.1 2 0) (σ.1 2 1) (σ.1 2 2) (σ.1 2 3) (σ.1 2 4) wh re (if lyS σ p1 p2 p3 = 0 then (σ.1 1) else rfO (lyS σ p1 p2 p3) (σ.1 1)) (σ.1 3) aTo aPo (σ.1 4) aRw aRr (σ.1 5) (σ.1 6) (σ.1 7) aWs aRs (σ.1 8) (σ.1 9) (σ.1 10) (σ.1 11) (if lyS σ p1 p2 p3 = 0 then upd (σ.1 12) (6 * p1 + p2).toNatClampNeg p3 else (σ.1 12))), rfl, hF, by rw [ht]; exact hP, va_K.moved hW.alike hK, hD⟩, hS.F ht⟩) hS.2.2 dX8_hang_40
      · replace c_3 := bI_eq c_3
        refine lv_aload_n hx hb dX8_hang_26 rfl (lv_at hl 0 rfl) ?_
        refine lv_bipush (v := (-2)) hx hb dX8_hang_27 (by decide) ?_
        have hFc := wFree hD hS hA
        refine va_calli (va_runV (As := [.int (-2)]) (rest := []) ⟨hx, hb, hml, hown, hts⟩ (met_X8_refuse l Dg m0 H.size a y 0 kd (σ.1 2 0) (σ.1 2 1) (σ.1 2 2) (σ.1 2 3) (σ.1 2 4) wh re (σ.1 1) (σ.1 3) aTo aPo (σ.1 4) aRw aRr (σ.1 5) (σ.1 6) (σ.1 7) aWs aRs (σ.1 8) (σ.1 9) (σ.1 10) (σ.1 11) (σ.1 12) (-2) (by unfold vp_in; decide)) (cwV 1 hts gX8_hang_X8_refuse rfl rfl rfl (by decide +kernel) ⟨Nat.le_of_ble_eq_true rfl, Nat.le_of_ble_eq_true rfl⟩) (wPreV hK hP (hD.weaken (fun _ _ _ _ => trivial)) (va_recv hK hP (ci := 6) (q0 := 0) rfl rfl)) rfl rfl hl.1 rfl (lv_room (Nat.le_of_ble_eq_true rfl)) dX8_hang_29 ⟨Nat.le_of_ble_eq_true rfl, Nat.le_of_ble_eq_true rfl⟩) hS (fun q _ h => hFc q h) hFc (fun r u t H locs ht hvm hw hB _ _ hS => ?_)
        obtain ⟨hP, -, hD⟩ := hB
        rw [ht] at hP
        replace hD := hD.weaken (fun _ q _ h => hFc q.1 h)
        rw [hw.2] at hP hD
        rw [hw.1]
        clear hw hFc
        have hP : va_P Dg vwCl (mW m0 a y (-2) kd (σ.1 2 0) (σ.1 2 1) (σ.1 2 2) (σ.1 2 3) (σ.1 2 4) wh re (rfO (-2) (σ.1 1)) (σ.1 3) aTo aPo (σ.1 4) aRw aRr (σ.1 5) (σ.1 6) (σ.1 7) aWs aRs (σ.1 8) (σ.1 9) (σ.1 10) (σ.1 11) (σ.1 12)) H := hP
        have hD : va_D A (mW m0 a y (-2) kd (σ.1 2 0) (σ.1 2 1) (σ.1 2 2) (σ.1 2 3) (σ.1 2 4) wh re (rfO (-2) (σ.1 1)) (σ.1 3) aTo aPo (σ.1 4) aRw aRr (σ.1 5) (σ.1 6) (σ.1 7) aWs aRs (σ.1 8) (σ.1 9) (σ.1 10) (σ.1 11) (σ.1 12)) := hD
        have hw : wh_hang σ p1 p2 p3 = (-2) := by simp only [wh_hang, if_pos c_1, if_neg c_2, if_neg c_3]
        have hn : ¬ wh_hang σ p1 p2 p3 = 0 := by rw [hw]; decide
        exact W.iret (v := (-2)) hx hb hr (fun t ht hW => ⟨⟨_, (mW m0 a y (-2) kd (σ.1 2 0) (σ.1 2 1) (σ.1 2 2) (σ.1 2 3) (σ.1 2 4) wh re (rfO (-2) (σ.1 1)) (σ.1 3) aTo aPo (σ.1 4) aRw aRr (σ.1 5) (σ.1 6) (σ.1 7) aWs aRs (σ.1 8) (σ.1 9) (σ.1 10) (σ.1 11) (σ.1 12)), rfl, ⟨by rw [an_hang, if_neg hn, hw]; try rfl, kd, wh, re, aTo, aPo, aRw, aRr, aWs, aRs, by rw [nw_hang, if_neg hn, hw]; rfl, by rw [nw_hang, if_neg hn]; exact hM⟩, by rw [ht]; exact hP, va_K.moved hW.alike hK, hD⟩, hS.F ht⟩) hS.2.2 dX8_hang_32

theorem in_X8_set : ∀ w ∈ wsX80, w ∈ wsX8_set := fun w h => List.mem_cons_of_mem _ (List.mem_append_right _ h)
set_option maxHeartbeats 8000000 in
set_option maxRecDepth 100000 in
theorem met_X8_set (l : Launch) (Dg : va_G) (m0 z : Nat) (a : Nat → Nat) (y : Nat → ClassId) (σ : St) (kd : Int32) (wh : Int64) (re : UInt64) (aTo aPo : Nat → UInt64) (aRw : Nat → Int64) (aRr : Nat → UInt64) (aWs : Nat → Int64) (aRs : Nat → UInt64) (p1 : Int32) (p2 : Int32) (p3 : Int32) (hV : vOK σ) (hM : mC σ aTo aPo aRw aRr aWs aRs)  : Met l yX8_set wsX8_set ({ frames := 3, cells := 0, slots := 0, locals := 66 }) (va_Pc [.ref m0, .int p1, .int p2, .int p3] (wB Dg (mT y) (mW m0 a y (σ.1 0 0) kd (σ.1 2 0) (σ.1 2 1) (σ.1 2 2) (σ.1 2 3) (σ.1 2 4) wh re (σ.1 1) (σ.1 3) aTo aPo (σ.1 4) aRw aRr (σ.1 5) (σ.1 6) (σ.1 7) aWs aRs (σ.1 8) (σ.1 9) (σ.1 10) (σ.1 11) (σ.1 12)) z)) (va_Qi (fun (r : Int32) (u : va_W) => r = an_set σ p1 p2 p3 ∧ MI m0 a y (nw_set σ p1 p2 p3) u) (wE Dg (mT y) (va_A (mW m0 a y (σ.1 0 0) kd (σ.1 2 0) (σ.1 2 1) (σ.1 2 2) (σ.1 2 3) (σ.1 2 4) wh re (σ.1 1) (σ.1 3) aTo aPo (σ.1 4) aRw aRr (σ.1 5) (σ.1 6) (σ.1 7) aWs aRs (σ.1 8) (σ.1 9) (σ.1 10) (σ.1 11) (σ.1 12)) z)) (va_A (mW m0 a y (σ.1 0 0) kd (σ.1 2 0) (σ.1 2 1) (σ.1 2 2) (σ.1 2 3) (σ.1 2 4) wh re (σ.1 1) (σ.1 3) aTo aPo (σ.1 4) aRw aRr (σ.1 5) (σ.1 6) (σ.1 7) aWs aRs (σ.1 8) (σ.1 9) (σ.1 10) (σ.1 11) (σ.1 12)) z)) 0 0 (va_A (mW m0 a y (σ.1 0 0) kd (σ.1 2 0) (σ.1 2 1) (σ.1 2 2) (σ.1 2 3) (σ.1 2 4) wh re (σ.1 1) (σ.1 3) aTo aPo (σ.1 4) aRw aRr (σ.1 5) (σ.1 6) (σ.1 7) aWs aRs (σ.1 8) (σ.1 9) (σ.1 10) (σ.1 11) (σ.1 12)) z) := by
  refine Met.ofW (cc := cX8_set) (maxL := 4) (ret := (some .int)) (by decide) rfl ?_
  intro p e s m args below meth c s₁ B hml hv
  obtain ⟨rfl, hsz, hP, hK, hD0⟩ := hv
  have hx := B.exec
  have hb := B.bytes
  have hr := B.returns
  have hts := atoms_spec (ws := wsX8_set) B.pre
  have hown : s.vm.findClass RX8 = some m.cls := findClass_of_methodNamed B.named
  have hlocks := B.notSynchronized
  subst hsz
  have hD := hD0.self (sz := s.heap.size)
  generalize hAe : va_A (mW m0 a y (σ.1 0 0) kd (σ.1 2 0) (σ.1 2 1) (σ.1 2 2) (σ.1 2 3) (σ.1 2 4) wh re (σ.1 1) (σ.1 3) aTo aPo (σ.1 4) aRw aRr (σ.1 5) (σ.1 6) (σ.1 7) aWs aRs (σ.1 8) (σ.1 9) (σ.1 10) (σ.1 11) (σ.1 12)) s.heap.size = A at hD ⊢
  have hA : ∀ q : Nat, s.heap.size ≤ q → A q := fun q h => by rw [← hAe]; exact Or.inr h
  have hS : va_S A s.heap s.heap [] := va_S.rf
  have hP : va_P Dg vwCl (mW m0 a y (σ.1 0 0) kd (σ.1 2 0) (σ.1 2 1) (σ.1 2 2) (σ.1 2 3) (σ.1 2 4) wh re (σ.1 1) (σ.1 3) aTo aPo (σ.1 4) aRw aRr (σ.1 5) (σ.1 6) (σ.1 7) aWs aRs (σ.1 8) (σ.1 9) (σ.1 10) (σ.1 11) (σ.1 12)) s.heap := hP
  have hl := lv_entry ([.ref m0, .int p1, .int p2, .int p3]) (n := 4) (Nat.le_of_ble_eq_true rfl)
  rw [lg_entry_eq]
  generalize (lg_sl ([.ref m0, .int p1, .int p2, .int p3]) ++ List.replicate (4 - (lg_sl ([.ref m0, .int p1, .int p2, .int p3])).length) Slot.unset).toArray = ls at hl ⊢
  have hl : lv_has ls 4 [(0, .ref m0), (1, .int p1), (2, .int p2), (3, .int p3)] := hl
  refine lv_aload_n hx hb dX8_set_0 rfl (lv_at hl 0 rfl) ?_
  refine lv_iconst (v := 0) hx hb dX8_set_1 (by decide) ?_
  refine va_put (D := Dg) (ci := 6) (v := .int 0) (ty := .int) (C := RX8) (T := TX8) (N := 26) hx hb hts in_X8_set tyX8 tyX8_ok nmX8 hown hK hP hD hS 0 rfl rfl 0 (by decide) (hts (.fieldLink RX8 64 "OrreryWorksModel" "refused" "I") (by decide +kernel)) (fun _ h9 => h9) rfl (by decide +kernel) rfl rfl (Nat.le_of_ble_eq_true rfl) dX8_set_2 (fun H locs hP hD hS => ?_)
  have hP : va_P Dg vwCl (mW m0 a y 0 kd (σ.1 2 0) (σ.1 2 1) (σ.1 2 2) (σ.1 2 3) (σ.1 2 4) wh re (σ.1 1) (σ.1 3) aTo aPo (σ.1 4) aRw aRr (σ.1 5) (σ.1 6) (σ.1 7) aWs aRs (σ.1 8) (σ.1 9) (σ.1 10) (σ.1 11) (σ.1 12)) H := hP
  have hD : va_D A (mW m0 a y 0 kd (σ.1 2 0) (σ.1 2 1) (σ.1 2 2) (σ.1 2 3) (σ.1 2 4) wh re (σ.1 1) (σ.1 3) aTo aPo (σ.1 4) aRw aRr (σ.1 5) (σ.1 6) (σ.1 7) aWs aRs (σ.1 8) (σ.1 9) (σ.1 10) (σ.1 11) (σ.1 12)) := hD
  refine lv_aload_n hx hb dX8_set_5 rfl (lv_at hl 0 rfl) ?_
  refine lv_iload_n hx hb dX8_set_6 rfl (lv_at hl 1 rfl) ?_
  refine vp_callSi ((va_runV (As := [.int p1]) (rest := []) ⟨hx, hb, hml, hown, hts⟩ (met_X8_isStand l Dg m0 H.size a y 0 kd (σ.1 2 0) (σ.1 2 1) (σ.1 2 2) (σ.1 2 3) (σ.1 2 4) wh re (σ.1 1) (σ.1 3) aTo aPo (σ.1 4) aRw aRr (σ.1 5) (σ.1 6) (σ.1 7) aWs aRs (σ.1 8) (σ.1 9) (σ.1 10) (σ.1 11) (σ.1 12) p1 ) (cwV 1 hts gX8_set_X8_isStand rfl rfl rfl (by decide +kernel) ⟨Nat.le_of_ble_eq_true rfl, Nat.le_of_ble_eq_true rfl⟩) (wPreV hK hP (hD.weaken (fun _ _ _ _ => trivial)) (va_recv hK hP (ci := 6) (q0 := 0) rfl rfl)) rfl rfl hl.1 rfl (lv_room (Nat.le_of_ble_eq_true rfl)) dX8_set_7 ⟨Nat.le_of_ble_eq_true rfl, Nat.le_of_ble_eq_true rfl⟩).run) (fun r hw => ?_)
  rw [hw]
  refine lv_if_eq (tgt := 26) hx hb dX8_set_10 (by decide) (fun c_1 => ?_) (fun c_1 => ?_)
  · replace c_1 := bI_eq c_1
    refine lv_aload_n hx hb dX8_set_26 rfl (lv_at hl 0 rfl) ?_
    refine lv_bipush (v := (-2)) hx hb dX8_set_27 (by decide) ?_
    have hFc := wFree hD hS hA
    refine va_calli (va_runV (As := [.int (-2)]) (rest := []) ⟨hx, hb, hml, hown, hts⟩ (met_X8_refuse l Dg m0 H.size a y 0 kd (σ.1 2 0) (σ.1 2 1) (σ.1 2 2) (σ.1 2 3) (σ.1 2 4) wh re (σ.1 1) (σ.1 3) aTo aPo (σ.1 4) aRw aRr (σ.1 5) (σ.1 6) (σ.1 7) aWs aRs (σ.1 8) (σ.1 9) (σ.1 10) (σ.1 11) (σ.1 12) (-2) (by unfold vp_in; decide)) (cwV 1 hts gX8_set_X8_refuse rfl rfl rfl (by decide +kernel) ⟨Nat.le_of_ble_eq_true rfl, Nat.le_of_ble_eq_true rfl⟩) (wPreV hK hP (hD.weaken (fun _ _ _ _ => trivial)) (va_recv hK hP (ci := 6) (q0 := 0) rfl rfl)) rfl rfl hl.1 rfl (lv_room (Nat.le_of_ble_eq_true rfl)) dX8_set_29 ⟨Nat.le_of_ble_eq_true rfl, Nat.le_of_ble_eq_true rfl⟩) hS (fun q _ h => hFc q h) hFc (fun r u t H locs ht hvm hw hB _ _ hS => ?_)
    obtain ⟨hP, -, hD⟩ := hB
    rw [ht] at hP
    replace hD := hD.weaken (fun _ q _ h => hFc q.1 h)
    rw [hw.2] at hP hD
    rw [hw.1]
    clear hw hFc
    have hP : va_P Dg vwCl (mW m0 a y (-2) kd (σ.1 2 0) (σ.1 2 1) (σ.1 2 2) (σ.1 2 3) (σ.1 2 4) wh re (rfO (-2) (σ.1 1)) (σ.1 3) aTo aPo (σ.1 4) aRw aRr (σ.1 5) (σ.1 6) (σ.1 7) aWs aRs (σ.1 8) (σ.1 9) (σ.1 10) (σ.1 11) (σ.1 12)) H := hP
    have hD : va_D A (mW m0 a y (-2) kd (σ.1 2 0) (σ.1 2 1) (σ.1 2 2) (σ.1 2 3) (σ.1 2 4) wh re (rfO (-2) (σ.1 1)) (σ.1 3) aTo aPo (σ.1 4) aRw aRr (σ.1 5) (σ.1 6) (σ.1 7) aWs aRs (σ.1 8) (σ.1 9) (σ.1 10) (σ.1 11) (σ.1 12)) := hD
    have hw : wh_set σ p1 p2 p3 = (-2) := by simp only [wh_set, if_neg c_1]
    have hn : ¬ wh_set σ p1 p2 p3 = 0 := by rw [hw]; decide
    exact W.iret (v := (-2)) hx hb hr (fun t ht hW => ⟨⟨_, (mW m0 a y (-2) kd (σ.1 2 0) (σ.1 2 1) (σ.1 2 2) (σ.1 2 3) (σ.1 2 4) wh re (rfO (-2) (σ.1 1)) (σ.1 3) aTo aPo (σ.1 4) aRw aRr (σ.1 5) (σ.1 6) (σ.1 7) aWs aRs (σ.1 8) (σ.1 9) (σ.1 10) (σ.1 11) (σ.1 12)), rfl, ⟨by rw [an_set, if_neg hn, hw]; try rfl, kd, wh, re, aTo, aPo, aRw, aRr, aWs, aRs, by rw [nw_set, if_neg hn, hw]; rfl, by rw [nw_set, if_neg hn]; exact hM⟩, by rw [ht]; exact hP, va_K.moved hW.alike hK, hD⟩, hS.F ht⟩) hS.2.2 dX8_set_32
  · replace c_1 := bI_ne c_1
    refine lv_iload_n hx hb dX8_set_13 rfl (lv_at hl 3 rfl) ?_
    refine lv_iconst (v := (-1)) hx hb dX8_set_14 (by decide) ?_
    refine lv_icmp_eq (tgt := 33) hx hb dX8_set_15 (by decide) (fun c_2 => ?_) (fun c_2 => ?_)
    · refine lv_aload_n hx hb dX8_set_33 rfl (lv_at hl 0 rfl) ?_
      refine va_get (D := Dg) (ci := 6) (v := .ref (a 14)) (C := RX8) (T := TX8) (N := 26) hx hb hts in_X8_set hown hK hP 0 rfl rfl 23 (by decide) (hts (.fieldLink RX8 55 "OrreryWorksModel" "standSort" "[I") (by decide +kernel)) (fun _ h9 => h9) rfl dX8_set_34 ?_
      refine lv_iload_n hx hb dX8_set_37 rfl (lv_at hl 1 rfl) ?_
      refine va_iald hx hb hK hP 15 14 rfl rfl (inC_in hV.1.2.2.2.2 c_1) dX8_set_38 ?_
      refine lv_iconst (v := 3) hx hb dX8_set_39 (by decide) ?_
      refine lv_icmp_eq (tgt := 58) hx hb dX8_set_40 (by decide) (fun c_3 => ?_) (fun c_3 => ?_)
      · refine lv_aload_n hx hb dX8_set_58 rfl (lv_at hl 0 rfl) ?_
        refine lv_bipush (v := (-7)) hx hb dX8_set_59 (by decide) ?_
        have hFc := wFree hD hS hA
        refine va_calli (va_runV (As := [.int (-7)]) (rest := []) ⟨hx, hb, hml, hown, hts⟩ (met_X8_refuse l Dg m0 H.size a y 0 kd (σ.1 2 0) (σ.1 2 1) (σ.1 2 2) (σ.1 2 3) (σ.1 2 4) wh re (σ.1 1) (σ.1 3) aTo aPo (σ.1 4) aRw aRr (σ.1 5) (σ.1 6) (σ.1 7) aWs aRs (σ.1 8) (σ.1 9) (σ.1 10) (σ.1 11) (σ.1 12) (-7) (by unfold vp_in; decide)) (cwV 1 hts gX8_set_X8_refuse rfl rfl rfl (by decide +kernel) ⟨Nat.le_of_ble_eq_true rfl, Nat.le_of_ble_eq_true rfl⟩) (wPreV hK hP (hD.weaken (fun _ _ _ _ => trivial)) (va_recv hK hP (ci := 6) (q0 := 0) rfl rfl)) rfl rfl hl.1 rfl (lv_room (Nat.le_of_ble_eq_true rfl)) dX8_set_61 ⟨Nat.le_of_ble_eq_true rfl, Nat.le_of_ble_eq_true rfl⟩) hS (fun q _ h => hFc q h) hFc (fun r u t H locs ht hvm hw hB _ _ hS => ?_)
        obtain ⟨hP, -, hD⟩ := hB
        rw [ht] at hP
        replace hD := hD.weaken (fun _ q _ h => hFc q.1 h)
        rw [hw.2] at hP hD
        rw [hw.1]
        clear hw hFc
        have hP : va_P Dg vwCl (mW m0 a y (-7) kd (σ.1 2 0) (σ.1 2 1) (σ.1 2 2) (σ.1 2 3) (σ.1 2 4) wh re (rfO (-7) (σ.1 1)) (σ.1 3) aTo aPo (σ.1 4) aRw aRr (σ.1 5) (σ.1 6) (σ.1 7) aWs aRs (σ.1 8) (σ.1 9) (σ.1 10) (σ.1 11) (σ.1 12)) H := hP
        have hD : va_D A (mW m0 a y (-7) kd (σ.1 2 0) (σ.1 2 1) (σ.1 2 2) (σ.1 2 3) (σ.1 2 4) wh re (rfO (-7) (σ.1 1)) (σ.1 3) aTo aPo (σ.1 4) aRw aRr (σ.1 5) (σ.1 6) (σ.1 7) aWs aRs (σ.1 8) (σ.1 9) (σ.1 10) (σ.1 11) (σ.1 12)) := hD
        have hw : wh_set σ p1 p2 p3 = (-7) := by simp only [wh_set, if_pos c_1, if_pos c_2, if_pos c_3]
        have hn : ¬ wh_set σ p1 p2 p3 = 0 := by rw [hw]; decide
        exact W.iret (v := (-7)) hx hb hr (fun t ht hW => ⟨⟨_, (mW m0 a y (-7) kd (σ.1 2 0) (σ.1 2 1) (σ.1 2 2) (σ.1 2 3) (σ.1 2 4) wh re (rfO (-7) (σ.1 1)) (σ.1 3) aTo aPo (σ.1 4) aRw aRr (σ.1 5) (σ.1 6) (σ.1 7) aWs aRs (σ.1 8) (σ.1 9) (σ.1 10) (σ.1 11) (σ.1 12)), rfl, ⟨by rw [an_set, if_neg hn, hw]; try rfl, kd, wh, re, aTo, aPo, aRw, aRr, aWs, aRs, by rw [nw_set, if_neg hn, hw]; rfl, by rw [nw_set, if_neg hn]; exact hM⟩, by rw [ht]; exact hP, va_K.moved hW.alike hK, hD⟩, hS.F ht⟩) hS.2.2 dX8_set_64
      · refine lv_iload_n hx hb dX8_set_43 rfl (lv_at hl 3 rfl) ?_
        refine lv_iconst (v := (-1)) hx hb dX8_set_44 (by decide) ?_
        refine lv_icmp_eq (tgt := 65) hx hb dX8_set_45 (by decide) (fun _ => ?_) (fun h0 => absurd c_2 h0)
        refine lv_aload_n hx hb dX8_set_65 rfl (lv_at hl 0 rfl) ?_
        refine lv_iload_n hx hb dX8_set_66 rfl (lv_at hl 1 rfl) ?_
        refine lv_iload_n hx hb dX8_set_67 rfl (lv_at hl 2 rfl) ?_
        refine lv_iload_n hx hb dX8_set_68 rfl (lv_at hl 3 rfl) ?_
        have hFc := wFree hD hS hA
        refine va_calli (va_runV (As := [.int p1, .int p2, .int p3]) (rest := []) ⟨hx, hb, hml, hown, hts⟩ (met_X8_lay l Dg m0 H.size a y 0 kd (σ.1 2 0) (σ.1 2 1) (σ.1 2 2) (σ.1 2 3) (σ.1 2 4) wh re (σ.1 1) (σ.1 3) aTo aPo (σ.1 4) aRw aRr (σ.1 5) (σ.1 6) (σ.1 7) aWs aRs (σ.1 8) (σ.1 9) (σ.1 10) (σ.1 11) (σ.1 12) p1 p2 p3 (inC_in hV.1.2.2.2.2 c_1) (fun g => absurd c_2 g) (fun g => (mix6 (t_rng hV c_1) (j_rng hV c_1 g)).1)) (cwV 3 hts gX8_set_X8_lay rfl rfl rfl (by decide +kernel) ⟨Nat.le_of_ble_eq_true rfl, Nat.le_of_ble_eq_true rfl⟩) (wPreV hK hP (hD.weaken (fun _ _ _ _ => trivial)) (va_recv hK hP (ci := 6) (q0 := 0) rfl rfl)) rfl rfl hl.1 rfl (lv_room (Nat.le_of_ble_eq_true rfl)) dX8_set_69 ⟨Nat.le_of_ble_eq_true rfl, Nat.le_of_ble_eq_true rfl⟩) hS (fun q _ h => hFc q h) hFc (fun r u t H locs ht hvm hw hB _ _ hS => ?_)
        obtain ⟨hP, -, hD⟩ := hB
        rw [ht] at hP
        replace hD := hD.weaken (fun _ q _ h => hFc q.1 h)
        rw [hw.2] at hP hD
        rw [hw.1]
        clear hw hFc
        have hP : va_P Dg vwCl (mW m0 a y (if lyS σ p1 p2 p3 = 0 then 0 else lyS σ p1 p2 p3) kd (σ.1 2 0) (σ.1 2 1) (σ.1 2 2) (σ.1 2 3) (σ.1 2 4) wh re (if lyS σ p1 p2 p3 = 0 then (σ.1 1) else rfO (lyS σ p1 p2 p3) (σ.1 1)) (σ.1 3) aTo aPo (σ.1 4) aRw aRr (σ.1 5) (σ.1 6) (σ.1 7) aWs aRs (σ.1 8) (σ.1 9) (σ.1 10) (σ.1 11) (if lyS σ p1 p2 p3 = 0 then upd (σ.1 12) (6 * p1 + p2).toNatClampNeg p3 else (σ.1 12))) H := hP
        have hD : va_D A (mW m0 a y (if lyS σ p1 p2 p3 = 0 then 0 else lyS σ p1 p2 p3) kd (σ.1 2 0) (σ.1 2 1) (σ.1 2 2) (σ.1 2 3) (σ.1 2 4) wh re (if lyS σ p1 p2 p3 = 0 then (σ.1 1) else rfO (lyS σ p1 p2 p3) (σ.1 1)) (σ.1 3) aTo aPo (σ.1 4) aRw aRr (σ.1 5) (σ.1 6) (σ.1 7) aWs aRs (σ.1 8) (σ.1 9) (σ.1 10) (σ.1 11) (if lyS σ p1 p2 p3 = 0 then upd (σ.1 12) (6 * p1 + p2).toNatClampNeg p3 else (σ.1 12))) := hD
        have hw0 : wh_set σ p1 p2 p3 = lyS σ p1 p2 p3 := by simp only [wh_set, if_pos c_1, if_pos c_2, if_neg c_3]
        have hF : (if lyS σ p1 p2 p3 = 0 then 1 else lyS σ p1 p2 p3) = an_set σ p1 p2 p3 ∧ MI m0 a y (nw_set σ p1 p2 p3) (mW m0 a y (if lyS σ p1 p2 p3 = 0 then 0 else lyS σ p1 p2 p3) kd (σ.1 2 0) (σ.1 2 1) (σ.1 2 2) (σ.1 2 3) (σ.1 2 4) wh re (if lyS σ p1 p2 p3 = 0 then (σ.1 1) else rfO (lyS σ p1 p2 p3) (σ.1 1)) (σ.1 3) aTo aPo (σ.1 4) aRw aRr (σ.1 5) (σ.1 6) (σ.1 7) aWs aRs (σ.1 8) (σ.1 9) (σ.1 10) (σ.1 11) (if lyS σ p1 p2 p3 = 0 then upd (σ.1 12) (6 * p1 + p2).toNatClampNeg p3 else (σ.1 12))) := by
          by_cases hL : lyS σ p1 p2 p3 = 0
          · have hw := hw0.trans hL
            have hi : fX8_isIn p2 0 (σ.1 11 (ix p1) - 1) = true := ly_in hL
            have hm := (mix6 (t_rng hV c_1) (j_rng hV c_1 hi)).2
            refine ⟨by rw [an_set, if_pos hw, if_pos hL], kd, wh, re, aTo, aPo, aRw, aRr, aWs, aRs, ?_, by rw [nw_set, if_pos hw]; exact hM⟩
            rw [nw_set, if_pos hw, if_pos hL, if_pos hL, if_pos hL, hm]; try rfl
          · have hn : ¬ wh_set σ p1 p2 p3 = 0 := by rw [hw0]; exact hL
            refine ⟨by rw [an_set, if_neg hn, if_neg hL, hw0], kd, wh, re, aTo, aPo, aRw, aRr, aWs, aRs, ?_, by rw [nw_set, if_neg hn]; exact hM⟩
            rw [nw_set, if_neg hn, if_neg hL, if_neg hL, if_neg hL, hw0]; try rfl
        exact W.iret (v := if lyS σ p1 p2 p3 = 0 then 1 else lyS σ p1 p2 p3) hx hb hr (fun t ht hW => ⟨⟨_, (mW m0 a y (if lyS σ p1 p2 p3 = 0 then 0 else lyS σ p1 p2 p3) kd (σ.1 2 0) (σ.1 2 1) (σ.1 2 2) (σ.1 2 3) (σ.1 2 4) wh re (if lyS σ p1 p2 p3 = 0 then (σ.1 1) else rfO (lyS σ p1 p2 p3) (σ.1 1)) (σ.1 3) aTo aPo (σ.1 4) aRw aRr (σ.1 5) (σ.1 6) (σ.1 7) aWs aRs (σ.1 8) (σ.1 9) (σ.1 10) (σ.1 11) (if lyS σ p1 p2 p3 = 0 then upd (σ.1 12) (6 * p1 + p2).toNatClampNeg p3 else (σ.1 12))), rfl, hF, by rw [ht]; exact hP, va_K.moved hW.alike hK, hD⟩, hS.F ht⟩) hS.2.2 dX8_set_72
    · refine lv_aload_n hx hb dX8_set_18 rfl (lv_at hl 0 rfl) ?_
      refine lv_iload_n hx hb dX8_set_19 rfl (lv_at hl 3 rfl) ?_
      refine vp_callSi ((va_runV (As := [.int p3]) (rest := []) ⟨hx, hb, hml, hown, hts⟩ (met_X8_isPointer l Dg m0 H.size a y 0 kd (σ.1 2 0) (σ.1 2 1) (σ.1 2 2) (σ.1 2 3) (σ.1 2 4) wh re (σ.1 1) (σ.1 3) aTo aPo (σ.1 4) aRw aRr (σ.1 5) (σ.1 6) (σ.1 7) aWs aRs (σ.1 8) (σ.1 9) (σ.1 10) (σ.1 11) (σ.1 12) p3 ) (cwV 1 hts gX8_set_X8_isPointer rfl rfl rfl (by decide +kernel) ⟨Nat.le_of_ble_eq_true rfl, Nat.le_of_ble_eq_true rfl⟩) (wPreV hK hP (hD.weaken (fun _ _ _ _ => trivial)) (va_recv hK hP (ci := 6) (q0 := 0) rfl rfl)) rfl rfl hl.1 rfl (lv_room (Nat.le_of_ble_eq_true rfl)) dX8_set_20 ⟨Nat.le_of_ble_eq_true rfl, Nat.le_of_ble_eq_true rfl⟩).run) (fun r hw => ?_)
      rw [hw]
      refine lv_if_ne (tgt := 33) hx hb dX8_set_23 (by decide) (fun c_4 => ?_) (fun c_4 => ?_)
      · replace c_4 := bI_ne c_4
        refine lv_aload_n hx hb dX8_set_33 rfl (lv_at hl 0 rfl) ?_
        refine va_get (D := Dg) (ci := 6) (v := .ref (a 14)) (C := RX8) (T := TX8) (N := 26) hx hb hts in_X8_set hown hK hP 0 rfl rfl 23 (by decide) (hts (.fieldLink RX8 55 "OrreryWorksModel" "standSort" "[I") (by decide +kernel)) (fun _ h9 => h9) rfl dX8_set_34 ?_
        refine lv_iload_n hx hb dX8_set_37 rfl (lv_at hl 1 rfl) ?_
        refine va_iald hx hb hK hP 15 14 rfl rfl (inC_in hV.1.2.2.2.2 c_1) dX8_set_38 ?_
        refine lv_iconst (v := 3) hx hb dX8_set_39 (by decide) ?_
        refine lv_icmp_eq (tgt := 58) hx hb dX8_set_40 (by decide) (fun c_5 => ?_) (fun c_5 => ?_)
        · refine lv_aload_n hx hb dX8_set_58 rfl (lv_at hl 0 rfl) ?_
          refine lv_bipush (v := (-7)) hx hb dX8_set_59 (by decide) ?_
          have hFc := wFree hD hS hA
          refine va_calli (va_runV (As := [.int (-7)]) (rest := []) ⟨hx, hb, hml, hown, hts⟩ (met_X8_refuse l Dg m0 H.size a y 0 kd (σ.1 2 0) (σ.1 2 1) (σ.1 2 2) (σ.1 2 3) (σ.1 2 4) wh re (σ.1 1) (σ.1 3) aTo aPo (σ.1 4) aRw aRr (σ.1 5) (σ.1 6) (σ.1 7) aWs aRs (σ.1 8) (σ.1 9) (σ.1 10) (σ.1 11) (σ.1 12) (-7) (by unfold vp_in; decide)) (cwV 1 hts gX8_set_X8_refuse rfl rfl rfl (by decide +kernel) ⟨Nat.le_of_ble_eq_true rfl, Nat.le_of_ble_eq_true rfl⟩) (wPreV hK hP (hD.weaken (fun _ _ _ _ => trivial)) (va_recv hK hP (ci := 6) (q0 := 0) rfl rfl)) rfl rfl hl.1 rfl (lv_room (Nat.le_of_ble_eq_true rfl)) dX8_set_61 ⟨Nat.le_of_ble_eq_true rfl, Nat.le_of_ble_eq_true rfl⟩) hS (fun q _ h => hFc q h) hFc (fun r u t H locs ht hvm hw hB _ _ hS => ?_)
          obtain ⟨hP, -, hD⟩ := hB
          rw [ht] at hP
          replace hD := hD.weaken (fun _ q _ h => hFc q.1 h)
          rw [hw.2] at hP hD
          rw [hw.1]
          clear hw hFc
          have hP : va_P Dg vwCl (mW m0 a y (-7) kd (σ.1 2 0) (σ.1 2 1) (σ.1 2 2) (σ.1 2 3) (σ.1 2 4) wh re (rfO (-7) (σ.1 1)) (σ.1 3) aTo aPo (σ.1 4) aRw aRr (σ.1 5) (σ.1 6) (σ.1 7) aWs aRs (σ.1 8) (σ.1 9) (σ.1 10) (σ.1 11) (σ.1 12)) H := hP
          have hD : va_D A (mW m0 a y (-7) kd (σ.1 2 0) (σ.1 2 1) (σ.1 2 2) (σ.1 2 3) (σ.1 2 4) wh re (rfO (-7) (σ.1 1)) (σ.1 3) aTo aPo (σ.1 4) aRw aRr (σ.1 5) (σ.1 6) (σ.1 7) aWs aRs (σ.1 8) (σ.1 9) (σ.1 10) (σ.1 11) (σ.1 12)) := hD
          have hw : wh_set σ p1 p2 p3 = (-7) := by simp only [wh_set, if_pos c_1, if_neg c_2, if_pos c_4, if_pos c_5]
          have hn : ¬ wh_set σ p1 p2 p3 = 0 := by rw [hw]; decide
          exact W.iret (v := (-7)) hx hb hr (fun t ht hW => ⟨⟨_, (mW m0 a y (-7) kd (σ.1 2 0) (σ.1 2 1) (σ.1 2 2) (σ.1 2 3) (σ.1 2 4) wh re (rfO (-7) (σ.1 1)) (σ.1 3) aTo aPo (σ.1 4) aRw aRr (σ.1 5) (σ.1 6) (σ.1 7) aWs aRs (σ.1 8) (σ.1 9) (σ.1 10) (σ.1 11) (σ.1 12)), rfl, ⟨by rw [an_set, if_neg hn, hw]; try rfl, kd, wh, re, aTo, aPo, aRw, aRr, aWs, aRs, by rw [nw_set, if_neg hn, hw]; rfl, by rw [nw_set, if_neg hn]; exact hM⟩, by rw [ht]; exact hP, va_K.moved hW.alike hK, hD⟩, hS.F ht⟩) hS.2.2 dX8_set_64
        · refine lv_iload_n hx hb dX8_set_43 rfl (lv_at hl 3 rfl) ?_
          refine lv_iconst (v := (-1)) hx hb dX8_set_44 (by decide) ?_
          refine lv_icmp_eq (tgt := 65) hx hb dX8_set_45 (by decide) (fun h0 => absurd h0 c_2) (fun _ => ?_)
          refine lv_aload_n hx hb dX8_set_48 rfl (lv_at hl 0 rfl) ?_
          refine va_get (D := Dg) (ci := 6) (v := .ref (a 12)) (C := RX8) (T := TX8) (N := 26) hx hb hts in_X8_set hown hK hP 0 rfl rfl 20 (by decide) (hts (.fieldLink RX8 49 "OrreryWorksModel" "sort" "[I") (by decide +kernel)) (fun _ h9 => h9) rfl dX8_set_49 ?_
          refine lv_iload_n hx hb dX8_set_52 rfl (lv_at hl 3 rfl) ?_
          refine va_iald hx hb hK hP 13 12 rfl rfl (inC_in hV.1.2.2.2.1 c_4) dX8_set_53 ?_
          refine lv_iconst (v := 3) hx hb dX8_set_54 (by decide) ?_
          refine lv_icmp_ne (tgt := 65) hx hb dX8_set_55 (by decide) (fun c_6 => ?_) (fun c_6 => ?_)
          · refine lv_aload_n hx hb dX8_set_65 rfl (lv_at hl 0 rfl) ?_
            refine lv_iload_n hx hb dX8_set_66 rfl (lv_at hl 1 rfl) ?_
            refine lv_iload_n hx hb dX8_set_67 rfl (lv_at hl 2 rfl) ?_
            refine lv_iload_n hx hb dX8_set_68 rfl (lv_at hl 3 rfl) ?_
            have hFc := wFree hD hS hA
            refine va_calli (va_runV (As := [.int p1, .int p2, .int p3]) (rest := []) ⟨hx, hb, hml, hown, hts⟩ (met_X8_lay l Dg m0 H.size a y 0 kd (σ.1 2 0) (σ.1 2 1) (σ.1 2 2) (σ.1 2 3) (σ.1 2 4) wh re (σ.1 1) (σ.1 3) aTo aPo (σ.1 4) aRw aRr (σ.1 5) (σ.1 6) (σ.1 7) aWs aRs (σ.1 8) (σ.1 9) (σ.1 10) (σ.1 11) (σ.1 12) p1 p2 p3 (inC_in hV.1.2.2.2.2 c_1) (fun _ => inC_in hV.1.2.2.2.1 c_4) (fun g => (mix6 (t_rng hV c_1) (j_rng hV c_1 g)).1)) (cwV 3 hts gX8_set_X8_lay rfl rfl rfl (by decide +kernel) ⟨Nat.le_of_ble_eq_true rfl, Nat.le_of_ble_eq_true rfl⟩) (wPreV hK hP (hD.weaken (fun _ _ _ _ => trivial)) (va_recv hK hP (ci := 6) (q0 := 0) rfl rfl)) rfl rfl hl.1 rfl (lv_room (Nat.le_of_ble_eq_true rfl)) dX8_set_69 ⟨Nat.le_of_ble_eq_true rfl, Nat.le_of_ble_eq_true rfl⟩) hS (fun q _ h => hFc q h) hFc (fun r u t H locs ht hvm hw hB _ _ hS => ?_)
            obtain ⟨hP, -, hD⟩ := hB
            rw [ht] at hP
            replace hD := hD.weaken (fun _ q _ h => hFc q.1 h)
            rw [hw.2] at hP hD
            rw [hw.1]
            clear hw hFc
            have hP : va_P Dg vwCl (mW m0 a y (if lyS σ p1 p2 p3 = 0 then 0 else lyS σ p1 p2 p3) kd (σ.1 2 0) (σ.1 2 1) (σ.1 2 2) (σ.1 2 3) (σ.1 2 4) wh re (if lyS σ p1 p2 p3 = 0 then (σ.1 1) else rfO (lyS σ p1 p2 p3) (σ.1 1)) (σ.1 3) aTo aPo (σ.1 4) aRw aRr (σ.1 5) (σ.1 6) (σ.1 7) aWs aRs (σ.1 8) (σ.1 9) (σ.1 10) (σ.1 11) (if lyS σ p1 p2 p3 = 0 then upd (σ.1 12) (6 * p1 + p2).toNatClampNeg p3 else (σ.1 12))) H := hP
            have hD : va_D A (mW m0 a y (if lyS σ p1 p2 p3 = 0 then 0 else lyS σ p1 p2 p3) kd (σ.1 2 0) (σ.1 2 1) (σ.1 2 2) (σ.1 2 3) (σ.1 2 4) wh re (if lyS σ p1 p2 p3 = 0 then (σ.1 1) else rfO (lyS σ p1 p2 p3) (σ.1 1)) (σ.1 3) aTo aPo (σ.1 4) aRw aRr (σ.1 5) (σ.1 6) (σ.1 7) aWs aRs (σ.1 8) (σ.1 9) (σ.1 10) (σ.1 11) (if lyS σ p1 p2 p3 = 0 then upd (σ.1 12) (6 * p1 + p2).toNatClampNeg p3 else (σ.1 12))) := hD
            have hw0 : wh_set σ p1 p2 p3 = lyS σ p1 p2 p3 := by simp only [wh_set, if_pos c_1, if_neg c_2, if_pos c_4, if_neg c_5, if_neg c_6]
            have hF : (if lyS σ p1 p2 p3 = 0 then 1 else lyS σ p1 p2 p3) = an_set σ p1 p2 p3 ∧ MI m0 a y (nw_set σ p1 p2 p3) (mW m0 a y (if lyS σ p1 p2 p3 = 0 then 0 else lyS σ p1 p2 p3) kd (σ.1 2 0) (σ.1 2 1) (σ.1 2 2) (σ.1 2 3) (σ.1 2 4) wh re (if lyS σ p1 p2 p3 = 0 then (σ.1 1) else rfO (lyS σ p1 p2 p3) (σ.1 1)) (σ.1 3) aTo aPo (σ.1 4) aRw aRr (σ.1 5) (σ.1 6) (σ.1 7) aWs aRs (σ.1 8) (σ.1 9) (σ.1 10) (σ.1 11) (if lyS σ p1 p2 p3 = 0 then upd (σ.1 12) (6 * p1 + p2).toNatClampNeg p3 else (σ.1 12))) := by
              by_cases hL : lyS σ p1 p2 p3 = 0
              · have hw := hw0.trans hL
                have hi : fX8_isIn p2 0 (σ.1 11 (ix p1) - 1) = true := ly_in hL
                have hm := (mix6 (t_rng hV c_1) (j_rng hV c_1 hi)).2
                refine ⟨by rw [an_set, if_pos hw, if_pos hL], kd, wh, re, aTo, aPo, aRw, aRr, aWs, aRs, ?_, by rw [nw_set, if_pos hw]; exact hM⟩
                rw [nw_set, if_pos hw, if_pos hL, if_pos hL, if_pos hL, hm]; try rfl
              · have hn : ¬ wh_set σ p1 p2 p3 = 0 := by rw [hw0]; exact hL
                refine ⟨by rw [an_set, if_neg hn, if_neg hL, hw0], kd, wh, re, aTo, aPo, aRw, aRr, aWs, aRs, ?_, by rw [nw_set, if_neg hn]; exact hM⟩
                rw [nw_set, if_neg hn, if_neg hL, if_neg hL, if_neg hL, hw0]; try rfl
            exact W.iret (v := if lyS σ p1 p2 p3 = 0 then 1 else lyS σ p1 p2 p3) hx hb hr (fun t ht hW => ⟨⟨_, (mW m0 a y (if lyS σ p1 p2 p3 = 0 then 0 else lyS σ p1 p2 p3) kd (σ.1 2 0) (σ.1 2 1) (σ.1 2 2) (σ.1 2 3) (σ.1 2 4) wh re (if lyS σ p1 p2 p3 = 0 then (σ.1 1) else rfO (lyS σ p1 p2 p3) (σ.1 1)) (σ.1 3) aTo aPo (σ.1 4) aRw aRr (σ.1 5) (σ.1 6) (σ.1 7) aWs aRs (σ.1 8) (σ.1 9) (σ.1 10) (σ.1 11) (if lyS σ p1 p2 p3 = 0 then upd (σ.1 12) (6 * p1 + p2).toNatClampNeg p3 else (σ.1 12))), rfl, hF, by rw [ht]; exact hP, va_K.moved hW.alike hK, hD⟩, hS.F ht⟩) hS.2.2 dX8_set_72
          · refine lv_aload_n hx hb dX8_set_58 rfl (lv_at hl 0 rfl) ?_
            refine lv_bipush (v := (-7)) hx hb dX8_set_59 (by decide) ?_
            have hFc := wFree hD hS hA
            refine va_calli (va_runV (As := [.int (-7)]) (rest := []) ⟨hx, hb, hml, hown, hts⟩ (met_X8_refuse l Dg m0 H.size a y 0 kd (σ.1 2 0) (σ.1 2 1) (σ.1 2 2) (σ.1 2 3) (σ.1 2 4) wh re (σ.1 1) (σ.1 3) aTo aPo (σ.1 4) aRw aRr (σ.1 5) (σ.1 6) (σ.1 7) aWs aRs (σ.1 8) (σ.1 9) (σ.1 10) (σ.1 11) (σ.1 12) (-7) (by unfold vp_in; decide)) (cwV 1 hts gX8_set_X8_refuse rfl rfl rfl (by decide +kernel) ⟨Nat.le_of_ble_eq_true rfl, Nat.le_of_ble_eq_true rfl⟩) (wPreV hK hP (hD.weaken (fun _ _ _ _ => trivial)) (va_recv hK hP (ci := 6) (q0 := 0) rfl rfl)) rfl rfl hl.1 rfl (lv_room (Nat.le_of_ble_eq_true rfl)) dX8_set_61 ⟨Nat.le_of_ble_eq_true rfl, Nat.le_of_ble_eq_true rfl⟩) hS (fun q _ h => hFc q h) hFc (fun r u t H locs ht hvm hw hB _ _ hS => ?_)
            obtain ⟨hP, -, hD⟩ := hB
            rw [ht] at hP
            replace hD := hD.weaken (fun _ q _ h => hFc q.1 h)
            rw [hw.2] at hP hD
            rw [hw.1]
            clear hw hFc
            have hP : va_P Dg vwCl (mW m0 a y (-7) kd (σ.1 2 0) (σ.1 2 1) (σ.1 2 2) (σ.1 2 3) (σ.1 2 4) wh re (rfO (-7) (σ.1 1)) (σ.1 3) aTo aPo (σ.1 4) aRw aRr (σ.1 5) (σ.1 6) (σ.1 7) aWs aRs (σ.1 8) (σ.1 9) (σ.1 10) (σ.1 11) (σ.1 12)) H := hP
            have hD : va_D A (mW m0 a y (-7) kd (σ.1 2 0) (σ.1 2 1) (σ.1 2 2) (σ.1 2 3) (σ.1 2 4) wh re (rfO (-7) (σ.1 1)) (σ.1 3) aTo aPo (σ.1 4) aRw aRr (σ.1 5) (σ.1 6) (σ.1 7) aWs aRs (σ.1 8) (σ.1 9) (σ.1 10) (σ.1 11) (σ.1 12)) := hD
            have hw : wh_set σ p1 p2 p3 = (-7) := by simp only [wh_set, if_pos c_1, if_neg c_2, if_pos c_4, if_neg c_5, if_pos c_6]
            have hn : ¬ wh_set σ p1 p2 p3 = 0 := by rw [hw]; decide
            exact W.iret (v := (-7)) hx hb hr (fun t ht hW => ⟨⟨_, (mW m0 a y (-7) kd (σ.1 2 0) (σ.1 2 1) (σ.1 2 2) (σ.1 2 3) (σ.1 2 4) wh re (rfO (-7) (σ.1 1)) (σ.1 3) aTo aPo (σ.1 4) aRw aRr (σ.1 5) (σ.1 6) (σ.1 7) aWs aRs (σ.1 8) (σ.1 9) (σ.1 10) (σ.1 11) (σ.1 12)), rfl, ⟨by rw [an_set, if_neg hn, hw]; try rfl, kd, wh, re, aTo, aPo, aRw, aRr, aWs, aRs, by rw [nw_set, if_neg hn, hw]; rfl, by rw [nw_set, if_neg hn]; exact hM⟩, by rw [ht]; exact hP, va_K.moved hW.alike hK, hD⟩, hS.F ht⟩) hS.2.2 dX8_set_64
      · replace c_4 := bI_eq c_4
        refine lv_aload_n hx hb dX8_set_26 rfl (lv_at hl 0 rfl) ?_
        refine lv_bipush (v := (-2)) hx hb dX8_set_27 (by decide) ?_
        have hFc := wFree hD hS hA
        refine va_calli (va_runV (As := [.int (-2)]) (rest := []) ⟨hx, hb, hml, hown, hts⟩ (met_X8_refuse l Dg m0 H.size a y 0 kd (σ.1 2 0) (σ.1 2 1) (σ.1 2 2) (σ.1 2 3) (σ.1 2 4) wh re (σ.1 1) (σ.1 3) aTo aPo (σ.1 4) aRw aRr (σ.1 5) (σ.1 6) (σ.1 7) aWs aRs (σ.1 8) (σ.1 9) (σ.1 10) (σ.1 11) (σ.1 12) (-2) (by unfold vp_in; decide)) (cwV 1 hts gX8_set_X8_refuse rfl rfl rfl (by decide +kernel) ⟨Nat.le_of_ble_eq_true rfl, Nat.le_of_ble_eq_true rfl⟩) (wPreV hK hP (hD.weaken (fun _ _ _ _ => trivial)) (va_recv hK hP (ci := 6) (q0 := 0) rfl rfl)) rfl rfl hl.1 rfl (lv_room (Nat.le_of_ble_eq_true rfl)) dX8_set_29 ⟨Nat.le_of_ble_eq_true rfl, Nat.le_of_ble_eq_true rfl⟩) hS (fun q _ h => hFc q h) hFc (fun r u t H locs ht hvm hw hB _ _ hS => ?_)
        obtain ⟨hP, -, hD⟩ := hB
        rw [ht] at hP
        replace hD := hD.weaken (fun _ q _ h => hFc q.1 h)
        rw [hw.2] at hP hD
        rw [hw.1]
        clear hw hFc
        have hP : va_P Dg vwCl (mW m0 a y (-2) kd (σ.1 2 0) (σ.1 2 1) (σ.1 2 2) (σ.1 2 3) (σ.1 2 4) wh re (rfO (-2) (σ.1 1)) (σ.1 3) aTo aPo (σ.1 4) aRw aRr (σ.1 5) (σ.1 6) (σ.1 7) aWs aRs (σ.1 8) (σ.1 9) (σ.1 10) (σ.1 11) (σ.1 12)) H := hP
        have hD : va_D A (mW m0 a y (-2) kd (σ.1 2 0) (σ.1 2 1) (σ.1 2 2) (σ.1 2 3) (σ.1 2 4) wh re (rfO (-2) (σ.1 1)) (σ.1 3) aTo aPo (σ.1 4) aRw aRr (σ.1 5) (σ.1 6) (σ.1 7) aWs aRs (σ.1 8) (σ.1 9) (σ.1 10) (σ.1 11) (σ.1 12)) := hD
        have hw : wh_set σ p1 p2 p3 = (-2) := by simp only [wh_set, if_pos c_1, if_neg c_2, if_neg c_4]
        have hn : ¬ wh_set σ p1 p2 p3 = 0 := by rw [hw]; decide
        exact W.iret (v := (-2)) hx hb hr (fun t ht hW => ⟨⟨_, (mW m0 a y (-2) kd (σ.1 2 0) (σ.1 2 1) (σ.1 2 2) (σ.1 2 3) (σ.1 2 4) wh re (rfO (-2) (σ.1 1)) (σ.1 3) aTo aPo (σ.1 4) aRw aRr (σ.1 5) (σ.1 6) (σ.1 7) aWs aRs (σ.1 8) (σ.1 9) (σ.1 10) (σ.1 11) (σ.1 12)), rfl, ⟨by rw [an_set, if_neg hn, hw]; try rfl, kd, wh, re, aTo, aPo, aRw, aRr, aWs, aRs, by rw [nw_set, if_neg hn, hw]; rfl, by rw [nw_set, if_neg hn]; exact hM⟩, by rw [ht]; exact hP, va_K.moved hW.alike hK, hD⟩, hS.F ht⟩) hS.2.2 dX8_set_32

theorem in_X8_show : ∀ w ∈ wsX80, w ∈ wsX8_show := fun w h => List.mem_cons_of_mem _ (List.mem_append_right _ h)
set_option maxHeartbeats 8000000 in
set_option maxRecDepth 100000 in
theorem met_X8_show (l : Launch) (Dg : va_G) (m0 z : Nat) (a : Nat → Nat) (y : Nat → ClassId) (σ : St) (kd : Int32) (wh : Int64) (re : UInt64) (aTo aPo : Nat → UInt64) (aRw : Nat → Int64) (aRr : Nat → UInt64) (aWs : Nat → Int64) (aRs : Nat → UInt64) (p1 : Int32) (p2 : Int32) (hV : vOK σ) (hM : mC σ aTo aPo aRw aRr aWs aRs)  : Met l yX8_show wsX8_show ({ frames := 3, cells := 0, slots := 0, locals := 65 }) (va_Pc [.ref m0, .int p1, .int p2] (wB Dg (mT y) (mW m0 a y (σ.1 0 0) kd (σ.1 2 0) (σ.1 2 1) (σ.1 2 2) (σ.1 2 3) (σ.1 2 4) wh re (σ.1 1) (σ.1 3) aTo aPo (σ.1 4) aRw aRr (σ.1 5) (σ.1 6) (σ.1 7) aWs aRs (σ.1 8) (σ.1 9) (σ.1 10) (σ.1 11) (σ.1 12)) z)) (va_Ql (fun (r : Int64) (u : va_W) => r = an_show σ p1 p2 ∧ MI m0 a y (nw_show σ p1 p2) u) (wE Dg (mT y) (va_A (mW m0 a y (σ.1 0 0) kd (σ.1 2 0) (σ.1 2 1) (σ.1 2 2) (σ.1 2 3) (σ.1 2 4) wh re (σ.1 1) (σ.1 3) aTo aPo (σ.1 4) aRw aRr (σ.1 5) (σ.1 6) (σ.1 7) aWs aRs (σ.1 8) (σ.1 9) (σ.1 10) (σ.1 11) (σ.1 12)) z)) (va_A (mW m0 a y (σ.1 0 0) kd (σ.1 2 0) (σ.1 2 1) (σ.1 2 2) (σ.1 2 3) (σ.1 2 4) wh re (σ.1 1) (σ.1 3) aTo aPo (σ.1 4) aRw aRr (σ.1 5) (σ.1 6) (σ.1 7) aWs aRs (σ.1 8) (σ.1 9) (σ.1 10) (σ.1 11) (σ.1 12)) z)) 0 0 (va_A (mW m0 a y (σ.1 0 0) kd (σ.1 2 0) (σ.1 2 1) (σ.1 2 2) (σ.1 2 3) (σ.1 2 4) wh re (σ.1 1) (σ.1 3) aTo aPo (σ.1 4) aRw aRr (σ.1 5) (σ.1 6) (σ.1 7) aWs aRs (σ.1 8) (σ.1 9) (σ.1 10) (σ.1 11) (σ.1 12)) z) := by
  refine Met.ofW (cc := cX8_show) (maxL := 4) (ret := (some .long)) (by decide) rfl ?_
  intro p e s m args below meth c s₁ B hml hv
  obtain ⟨rfl, hsz, hP, hK, hD0⟩ := hv
  have hx := B.exec
  have hb := B.bytes
  have hr := B.returns
  have hts := atoms_spec (ws := wsX8_show) B.pre
  have hown : s.vm.findClass RX8 = some m.cls := findClass_of_methodNamed B.named
  have hlocks := B.notSynchronized
  subst hsz
  have hD := hD0.self (sz := s.heap.size)
  generalize hAe : va_A (mW m0 a y (σ.1 0 0) kd (σ.1 2 0) (σ.1 2 1) (σ.1 2 2) (σ.1 2 3) (σ.1 2 4) wh re (σ.1 1) (σ.1 3) aTo aPo (σ.1 4) aRw aRr (σ.1 5) (σ.1 6) (σ.1 7) aWs aRs (σ.1 8) (σ.1 9) (σ.1 10) (σ.1 11) (σ.1 12)) s.heap.size = A at hD ⊢
  have hA : ∀ q : Nat, s.heap.size ≤ q → A q := fun q h => by rw [← hAe]; exact Or.inr h
  have hS : va_S A s.heap s.heap [] := va_S.rf
  have hP : va_P Dg vwCl (mW m0 a y (σ.1 0 0) kd (σ.1 2 0) (σ.1 2 1) (σ.1 2 2) (σ.1 2 3) (σ.1 2 4) wh re (σ.1 1) (σ.1 3) aTo aPo (σ.1 4) aRw aRr (σ.1 5) (σ.1 6) (σ.1 7) aWs aRs (σ.1 8) (σ.1 9) (σ.1 10) (σ.1 11) (σ.1 12)) s.heap := hP
  have hl := lv_entry ([.ref m0, .int p1, .int p2]) (n := 4) (Nat.le_of_ble_eq_true rfl)
  rw [lg_entry_eq]
  generalize (lg_sl ([.ref m0, .int p1, .int p2]) ++ List.replicate (4 - (lg_sl ([.ref m0, .int p1, .int p2])).length) Slot.unset).toArray = ls at hl ⊢
  have hl : lv_has ls 4 [(0, .ref m0), (1, .int p1), (2, .int p2)] := hl
  refine lv_aload_n hx hb dX8_show_0 rfl (lv_at hl 0 rfl) ?_
  refine lv_iconst (v := 0) hx hb dX8_show_1 (by decide) ?_
  refine va_put (D := Dg) (ci := 6) (v := .int 0) (ty := .int) (C := RX8) (T := TX8) (N := 26) hx hb hts in_X8_show tyX8 tyX8_ok nmX8 hown hK hP hD hS 0 rfl rfl 0 (by decide) (hts (.fieldLink RX8 64 "OrreryWorksModel" "refused" "I") (by decide +kernel)) (fun _ h9 => h9) rfl (by decide +kernel) rfl rfl (Nat.le_of_ble_eq_true rfl) dX8_show_2 (fun H locs hP hD hS => ?_)
  have hP : va_P Dg vwCl (mW m0 a y 0 kd (σ.1 2 0) (σ.1 2 1) (σ.1 2 2) (σ.1 2 3) (σ.1 2 4) wh re (σ.1 1) (σ.1 3) aTo aPo (σ.1 4) aRw aRr (σ.1 5) (σ.1 6) (σ.1 7) aWs aRs (σ.1 8) (σ.1 9) (σ.1 10) (σ.1 11) (σ.1 12)) H := hP
  have hD : va_D A (mW m0 a y 0 kd (σ.1 2 0) (σ.1 2 1) (σ.1 2 2) (σ.1 2 3) (σ.1 2 4) wh re (σ.1 1) (σ.1 3) aTo aPo (σ.1 4) aRw aRr (σ.1 5) (σ.1 6) (σ.1 7) aWs aRs (σ.1 8) (σ.1 9) (σ.1 10) (σ.1 11) (σ.1 12)) := hD
  refine lv_aload_n hx hb dX8_show_5 rfl (lv_at hl 0 rfl) ?_
  refine lv_iload_n hx hb dX8_show_6 rfl (lv_at hl 1 rfl) ?_
  refine vp_callSi ((va_runV (As := [.int p1]) (rest := []) ⟨hx, hb, hml, hown, hts⟩ (met_X8_isStand l Dg m0 H.size a y 0 kd (σ.1 2 0) (σ.1 2 1) (σ.1 2 2) (σ.1 2 3) (σ.1 2 4) wh re (σ.1 1) (σ.1 3) aTo aPo (σ.1 4) aRw aRr (σ.1 5) (σ.1 6) (σ.1 7) aWs aRs (σ.1 8) (σ.1 9) (σ.1 10) (σ.1 11) (σ.1 12) p1 ) (cwV 1 hts gX8_show_X8_isStand rfl rfl rfl (by decide +kernel) ⟨Nat.le_of_ble_eq_true rfl, Nat.le_of_ble_eq_true rfl⟩) (wPreV hK hP (hD.weaken (fun _ _ _ _ => trivial)) (va_recv hK hP (ci := 6) (q0 := 0) rfl rfl)) rfl rfl hl.1 rfl (lv_room (Nat.le_of_ble_eq_true rfl)) dX8_show_7 ⟨Nat.le_of_ble_eq_true rfl, Nat.le_of_ble_eq_true rfl⟩).run) (fun r hw => ?_)
  rw [hw]
  refine lv_if_ne (tgt := 18) hx hb dX8_show_10 (by decide) (fun c_1 => ?_) (fun c_1 => ?_)
  · replace c_1 := bI_ne c_1
    refine lv_iload_n hx hb dX8_show_18 rfl (lv_at hl 2 rfl) ?_
    refine lv_iconst (v := 0) hx hb dX8_show_19 (by decide) ?_
    refine lv_aload_n hx hb dX8_show_20 rfl (lv_at hl 0 rfl) ?_
    refine va_get (D := Dg) (ci := 6) (v := .ref (a 15)) (C := RX8) (T := TX8) (N := 26) hx hb hts in_X8_show hown hK hP 0 rfl rfl 24 (by decide) (hts (.fieldLink RX8 58 "OrreryWorksModel" "standSize" "[I") (by decide +kernel)) (fun _ h9 => h9) rfl dX8_show_21 ?_
    refine lv_iload_n hx hb dX8_show_24 rfl (lv_at hl 1 rfl) ?_
    refine va_iald hx hb hK hP 16 15 rfl rfl (inC_in hV.1.2.2.2.2 c_1) dX8_show_25 ?_
    refine lv_iconst (v := 1) hx hb dX8_show_26 (by decide) ?_
    refine lv_isub hx hb dX8_show_27 ?_
    refine vp_callSi ((va_runS (As := [.int p2, .int 0, .int (((σ.1 11) p1.toNatClampNeg) - 1)]) (rest := []) ⟨hx, hb, hml, hown, hts⟩ (met_X8_isIn l p2 0 (((σ.1 11) p1.toNatClampNeg) - 1)) (va_cwS 3 hts gX8_show_X8_isIn rfl rfl rfl (by decide +kernel) ⟨Nat.le_of_ble_eq_true rfl, Nat.le_of_ble_eq_true rfl⟩) ⟨fun _ _ _ _ q => q, fun U hU hW => ⟨rfl, trivial⟩⟩ rfl rfl hl.1 rfl (lv_room (Nat.le_of_ble_eq_true rfl)) dX8_show_28 ⟨Nat.le_of_ble_eq_true rfl, Nat.le_of_ble_eq_true rfl⟩).run) (fun r hw => ?_)
    subst hw
    refine lv_if_ne (tgt := 39) hx hb dX8_show_31 (by decide) (fun c_2 => ?_) (fun c_2 => ?_)
    · replace c_2 := bI_ne c_2
      have hm := mix6 (t_rng hV c_1) (j_rng hV c_1 c_2)
      refine lv_aload_n hx hb dX8_show_39 rfl (lv_at hl 0 rfl) ?_
      refine va_get (D := Dg) (ci := 6) (v := .ref (a 16)) (C := RX8) (T := TX8) (N := 26) hx hb hts in_X8_show hown hK hP 0 rfl rfl 25 (by decide) (hts (.fieldLink RX8 61 "OrreryWorksModel" "shown" "[I") (by decide +kernel)) (fun _ h9 => h9) rfl dX8_show_40 ?_
      refine lv_bipush (v := 6) hx hb dX8_show_43 (by decide) ?_
      refine lv_iload_n hx hb dX8_show_45 rfl (lv_at hl 1 rfl) ?_
      refine lv_imul hx hb dX8_show_46 ?_
      refine lv_iload_n hx hb dX8_show_47 rfl (lv_at hl 2 rfl) ?_
      refine lv_iadd hx hb dX8_show_48 ?_
      refine va_iald hx hb hK hP 17 16 rfl rfl hm.1 dX8_show_49 ?_
      refine lv_iconst (v := (-1)) hx hb dX8_show_50 (by decide) ?_
      refine lv_icmp_ne (tgt := 59) hx hb dX8_show_51 (by decide) (fun c_3 => ?_) (fun c_3 => ?_)
      · refine lv_iconst (v := 0) hx hb dX8_show_59 (by decide) ?_
        refine lv_istore_n (lv' := [(3, .int 0), (0, .ref m0), (1, .int p1), (2, .int p2)]) hx hb dX8_show_60 rfl hl (by decide) rfl (fun ls hl => ?_)
        refine lv_iload_n hx hb dX8_show_61 rfl (lv_at hl 0 rfl) ?_
        refine lv_if_eq (tgt := 73) hx hb dX8_show_62 (by decide) (fun _ => ?_) (fun h0 => absurd (by decide) h0)
        have hp := (tp_ok hV c_1 (j_rng hV c_1 c_2)).resolve_left (by rw [← hm.2]; exact c_3)
        have q1 := pt_ok hV hM hp
        rw [← hm.2] at q1
        refine lv_aload_n hx hb dX8_show_73 rfl (lv_at hl 1 rfl) ?_
        refine lv_aload_n hx hb dX8_show_74 rfl (lv_at hl 1 rfl) ?_
        refine va_get (D := Dg) (ci := 6) (v := .ref (a 16)) (C := RX8) (T := TX8) (N := 26) hx hb hts in_X8_show hown hK hP 0 rfl rfl 25 (by decide) (hts (.fieldLink RX8 61 "OrreryWorksModel" "shown" "[I") (by decide +kernel)) (fun _ h9 => h9) rfl dX8_show_75 ?_
        refine lv_bipush (v := 6) hx hb dX8_show_78 (by decide) ?_
        refine lv_iload_n hx hb dX8_show_80 rfl (lv_at hl 2 rfl) ?_
        refine lv_imul hx hb dX8_show_81 ?_
        refine lv_iload_n hx hb dX8_show_82 rfl (lv_at hl 3 rfl) ?_
        refine lv_iadd hx hb dX8_show_83 ?_
        refine va_iald hx hb hK hP 17 16 rfl rfl hm.1 dX8_show_84 ?_
        refine vp_callSl ((va_runV (As := [.int ((σ.1 12) ((6 * p1) + p2).toNatClampNeg)]) (rest := []) ⟨hx, hb, hml, hown, hts⟩ (met_X8_shows l Dg m0 H.size a y 0 kd (σ.1 2 0) (σ.1 2 1) (σ.1 2 2) (σ.1 2 3) (σ.1 2 4) wh re (σ.1 1) (σ.1 3) aTo aPo (σ.1 4) aRw aRr (σ.1 5) (σ.1 6) (σ.1 7) aWs aRs (σ.1 8) (σ.1 9) (σ.1 10) (σ.1 11) (σ.1 12) ((σ.1 12) ((6 * p1) + p2).toNatClampNeg) _ _ q1.1 q1.2.1 q1.2.2.1 q1.2.2.2) (cwV 1 hts gX8_show_X8_shows rfl rfl rfl (by decide +kernel) ⟨Nat.le_of_ble_eq_true rfl, Nat.le_of_ble_eq_true rfl⟩) (wPreV hK hP (hD.weaken (fun _ _ _ _ => trivial)) (va_recv hK hP (ci := 6) (q0 := 0) rfl rfl)) rfl rfl hl.1 rfl (lv_room (Nat.le_of_ble_eq_true rfl)) dX8_show_85 ⟨Nat.le_of_ble_eq_true rfl, Nat.le_of_ble_eq_true rfl⟩).run) (fun r hw => ?_)
        rw [hw]
        have hw : wh_show σ p1 p2 = 0 := by simp only [wh_show, if_pos c_1, if_pos c_2, if_neg (show ¬ σ.1 12 (6 * ix p1 + ix p2) = -1 by rw [← hm.2]; exact c_3)]
        exact W.lret (v := shP σ ((σ.1 12) ((6 * p1) + p2).toNatClampNeg)) hx hb hr (fun t ht hW => ⟨⟨_, (mW m0 a y 0 kd (σ.1 2 0) (σ.1 2 1) (σ.1 2 2) (σ.1 2 3) (σ.1 2 4) wh re (σ.1 1) (σ.1 3) aTo aPo (σ.1 4) aRw aRr (σ.1 5) (σ.1 6) (σ.1 7) aWs aRs (σ.1 8) (σ.1 9) (σ.1 10) (σ.1 11) (σ.1 12)), rfl, ⟨by rw [an_show, if_pos hw]; rw [← hm.2], kd, wh, re, aTo, aPo, aRw, aRr, aWs, aRs, by rw [nw_show, if_pos hw]; rfl, by rw [nw_show, if_pos hw]; exact hM⟩, by rw [ht]; exact hP, va_K.moved hW.alike hK, hD⟩, hS.F ht⟩) hS.2.2 dX8_show_88
      · refine lv_bipush (v := (-10)) hx hb dX8_show_54 (by decide) ?_
        refine lv_goto (tgt := 60) hx hb dX8_show_56 (by decide) ?_
        refine lv_istore_n (lv' := [(3, .int (-10)), (0, .ref m0), (1, .int p1), (2, .int p2)]) hx hb dX8_show_60 rfl hl (by decide) rfl (fun ls hl => ?_)
        refine lv_iload_n hx hb dX8_show_61 rfl (lv_at hl 0 rfl) ?_
        refine lv_if_eq (tgt := 73) hx hb dX8_show_62 (by decide) (fun h0 => absurd h0 (by decide)) (fun _ => ?_)
        refine lv_aload_n hx hb dX8_show_65 rfl (lv_at hl 1 rfl) ?_
        refine lv_iload_n hx hb dX8_show_66 rfl (lv_at hl 0 rfl) ?_
        have hFc := wFree hD hS hA
        refine va_calli (va_runV (As := [.int (-10)]) (rest := []) ⟨hx, hb, hml, hown, hts⟩ (met_X8_refuse l Dg m0 H.size a y 0 kd (σ.1 2 0) (σ.1 2 1) (σ.1 2 2) (σ.1 2 3) (σ.1 2 4) wh re (σ.1 1) (σ.1 3) aTo aPo (σ.1 4) aRw aRr (σ.1 5) (σ.1 6) (σ.1 7) aWs aRs (σ.1 8) (σ.1 9) (σ.1 10) (σ.1 11) (σ.1 12) (-10) (by unfold vp_in; decide)) (cwV 1 hts gX8_show_X8_refuse rfl rfl rfl (by decide +kernel) ⟨Nat.le_of_ble_eq_true rfl, Nat.le_of_ble_eq_true rfl⟩) (wPreV hK hP (hD.weaken (fun _ _ _ _ => trivial)) (va_recv hK hP (ci := 6) (q0 := 0) rfl rfl)) rfl rfl hl.1 rfl (lv_room (Nat.le_of_ble_eq_true rfl)) dX8_show_67 ⟨Nat.le_of_ble_eq_true rfl, Nat.le_of_ble_eq_true rfl⟩) hS (fun q _ h => hFc q h) hFc (fun r u t H locs ht hvm hw hB _ _ hS => ?_)
        obtain ⟨hP, -, hD⟩ := hB
        rw [ht] at hP
        replace hD := hD.weaken (fun _ q _ h => hFc q.1 h)
        rw [hw.2] at hP hD
        rw [hw.1]
        clear hw hFc
        have hP : va_P Dg vwCl (mW m0 a y (-10) kd (σ.1 2 0) (σ.1 2 1) (σ.1 2 2) (σ.1 2 3) (σ.1 2 4) wh re (rfO (-10) (σ.1 1)) (σ.1 3) aTo aPo (σ.1 4) aRw aRr (σ.1 5) (σ.1 6) (σ.1 7) aWs aRs (σ.1 8) (σ.1 9) (σ.1 10) (σ.1 11) (σ.1 12)) H := hP
        have hD : va_D A (mW m0 a y (-10) kd (σ.1 2 0) (σ.1 2 1) (σ.1 2 2) (σ.1 2 3) (σ.1 2 4) wh re (rfO (-10) (σ.1 1)) (σ.1 3) aTo aPo (σ.1 4) aRw aRr (σ.1 5) (σ.1 6) (σ.1 7) aWs aRs (σ.1 8) (σ.1 9) (σ.1 10) (σ.1 11) (σ.1 12)) := hD
        refine lv_istore_n (lv' := [(3, .int (-10)), (0, .ref m0), (1, .int p1), (2, .int p2)]) hx hb dX8_show_70 rfl hl (by decide) rfl (fun ls hl => ?_)
        refine lv_lconst (v := 0) hx hb dX8_show_71 (by decide) ?_
        have hw : wh_show σ p1 p2 = (-10) := by simp only [wh_show, if_pos c_1, if_pos c_2, if_pos (show σ.1 12 (6 * ix p1 + ix p2) = -1 by rw [← hm.2]; exact c_3)]
        have hn : ¬ wh_show σ p1 p2 = 0 := by rw [hw]; decide
        exact W.lret (v := 0) hx hb hr (fun t ht hW => ⟨⟨_, (mW m0 a y (-10) kd (σ.1 2 0) (σ.1 2 1) (σ.1 2 2) (σ.1 2 3) (σ.1 2 4) wh re (rfO (-10) (σ.1 1)) (σ.1 3) aTo aPo (σ.1 4) aRw aRr (σ.1 5) (σ.1 6) (σ.1 7) aWs aRs (σ.1 8) (σ.1 9) (σ.1 10) (σ.1 11) (σ.1 12)), rfl, ⟨by rw [an_show, if_neg hn]; try rfl, kd, wh, re, aTo, aPo, aRw, aRr, aWs, aRs, by rw [nw_show, if_neg hn, hw]; rfl, by rw [nw_show, if_neg hn]; exact hM⟩, by rw [ht]; exact hP, va_K.moved hW.alike hK, hD⟩, hS.F ht⟩) hS.2.2 dX8_show_72
    · replace c_2 := bI_eq c_2
      refine lv_bipush (v := (-8)) hx hb dX8_show_34 (by decide) ?_
      refine lv_goto (tgt := 60) hx hb dX8_show_36 (by decide) ?_
      refine lv_istore_n (lv' := [(3, .int (-8)), (0, .ref m0), (1, .int p1), (2, .int p2)]) hx hb dX8_show_60 rfl hl (by decide) rfl (fun ls hl => ?_)
      refine lv_iload_n hx hb dX8_show_61 rfl (lv_at hl 0 rfl) ?_
      refine lv_if_eq (tgt := 73) hx hb dX8_show_62 (by decide) (fun h0 => absurd h0 (by decide)) (fun _ => ?_)
      refine lv_aload_n hx hb dX8_show_65 rfl (lv_at hl 1 rfl) ?_
      refine lv_iload_n hx hb dX8_show_66 rfl (lv_at hl 0 rfl) ?_
      have hFc := wFree hD hS hA
      refine va_calli (va_runV (As := [.int (-8)]) (rest := []) ⟨hx, hb, hml, hown, hts⟩ (met_X8_refuse l Dg m0 H.size a y 0 kd (σ.1 2 0) (σ.1 2 1) (σ.1 2 2) (σ.1 2 3) (σ.1 2 4) wh re (σ.1 1) (σ.1 3) aTo aPo (σ.1 4) aRw aRr (σ.1 5) (σ.1 6) (σ.1 7) aWs aRs (σ.1 8) (σ.1 9) (σ.1 10) (σ.1 11) (σ.1 12) (-8) (by unfold vp_in; decide)) (cwV 1 hts gX8_show_X8_refuse rfl rfl rfl (by decide +kernel) ⟨Nat.le_of_ble_eq_true rfl, Nat.le_of_ble_eq_true rfl⟩) (wPreV hK hP (hD.weaken (fun _ _ _ _ => trivial)) (va_recv hK hP (ci := 6) (q0 := 0) rfl rfl)) rfl rfl hl.1 rfl (lv_room (Nat.le_of_ble_eq_true rfl)) dX8_show_67 ⟨Nat.le_of_ble_eq_true rfl, Nat.le_of_ble_eq_true rfl⟩) hS (fun q _ h => hFc q h) hFc (fun r u t H locs ht hvm hw hB _ _ hS => ?_)
      obtain ⟨hP, -, hD⟩ := hB
      rw [ht] at hP
      replace hD := hD.weaken (fun _ q _ h => hFc q.1 h)
      rw [hw.2] at hP hD
      rw [hw.1]
      clear hw hFc
      have hP : va_P Dg vwCl (mW m0 a y (-8) kd (σ.1 2 0) (σ.1 2 1) (σ.1 2 2) (σ.1 2 3) (σ.1 2 4) wh re (rfO (-8) (σ.1 1)) (σ.1 3) aTo aPo (σ.1 4) aRw aRr (σ.1 5) (σ.1 6) (σ.1 7) aWs aRs (σ.1 8) (σ.1 9) (σ.1 10) (σ.1 11) (σ.1 12)) H := hP
      have hD : va_D A (mW m0 a y (-8) kd (σ.1 2 0) (σ.1 2 1) (σ.1 2 2) (σ.1 2 3) (σ.1 2 4) wh re (rfO (-8) (σ.1 1)) (σ.1 3) aTo aPo (σ.1 4) aRw aRr (σ.1 5) (σ.1 6) (σ.1 7) aWs aRs (σ.1 8) (σ.1 9) (σ.1 10) (σ.1 11) (σ.1 12)) := hD
      refine lv_istore_n (lv' := [(3, .int (-8)), (0, .ref m0), (1, .int p1), (2, .int p2)]) hx hb dX8_show_70 rfl hl (by decide) rfl (fun ls hl => ?_)
      refine lv_lconst (v := 0) hx hb dX8_show_71 (by decide) ?_
      have hw : wh_show σ p1 p2 = (-8) := by simp only [wh_show, if_pos c_1, if_neg c_2]
      have hn : ¬ wh_show σ p1 p2 = 0 := by rw [hw]; decide
      exact W.lret (v := 0) hx hb hr (fun t ht hW => ⟨⟨_, (mW m0 a y (-8) kd (σ.1 2 0) (σ.1 2 1) (σ.1 2 2) (σ.1 2 3) (σ.1 2 4) wh re (rfO (-8) (σ.1 1)) (σ.1 3) aTo aPo (σ.1 4) aRw aRr (σ.1 5) (σ.1 6) (σ.1 7) aWs aRs (σ.1 8) (σ.1 9) (σ.1 10) (σ.1 11) (σ.1 12)), rfl, ⟨by rw [an_show, if_neg hn]; try rfl, kd, wh, re, aTo, aPo, aRw, aRr, aWs, aRs, by rw [nw_show, if_neg hn, hw]; rfl, by rw [nw_show, if_neg hn]; exact hM⟩, by rw [ht]; exact hP, va_K.moved hW.alike hK, hD⟩, hS.F ht⟩) hS.2.2 dX8_show_72
  · replace c_1 := bI_eq c_1
    refine lv_bipush (v := (-2)) hx hb dX8_show_13 (by decide) ?_
    refine lv_goto (tgt := 60) hx hb dX8_show_15 (by decide) ?_
    refine lv_istore_n (lv' := [(3, .int (-2)), (0, .ref m0), (1, .int p1), (2, .int p2)]) hx hb dX8_show_60 rfl hl (by decide) rfl (fun ls hl => ?_)
    refine lv_iload_n hx hb dX8_show_61 rfl (lv_at hl 0 rfl) ?_
    refine lv_if_eq (tgt := 73) hx hb dX8_show_62 (by decide) (fun h0 => absurd h0 (by decide)) (fun _ => ?_)
    refine lv_aload_n hx hb dX8_show_65 rfl (lv_at hl 1 rfl) ?_
    refine lv_iload_n hx hb dX8_show_66 rfl (lv_at hl 0 rfl) ?_
    have hFc := wFree hD hS hA
    refine va_calli (va_runV (As := [.int (-2)]) (rest := []) ⟨hx, hb, hml, hown, hts⟩ (met_X8_refuse l Dg m0 H.size a y 0 kd (σ.1 2 0) (σ.1 2 1) (σ.1 2 2) (σ.1 2 3) (σ.1 2 4) wh re (σ.1 1) (σ.1 3) aTo aPo (σ.1 4) aRw aRr (σ.1 5) (σ.1 6) (σ.1 7) aWs aRs (σ.1 8) (σ.1 9) (σ.1 10) (σ.1 11) (σ.1 12) (-2) (by unfold vp_in; decide)) (cwV 1 hts gX8_show_X8_refuse rfl rfl rfl (by decide +kernel) ⟨Nat.le_of_ble_eq_true rfl, Nat.le_of_ble_eq_true rfl⟩) (wPreV hK hP (hD.weaken (fun _ _ _ _ => trivial)) (va_recv hK hP (ci := 6) (q0 := 0) rfl rfl)) rfl rfl hl.1 rfl (lv_room (Nat.le_of_ble_eq_true rfl)) dX8_show_67 ⟨Nat.le_of_ble_eq_true rfl, Nat.le_of_ble_eq_true rfl⟩) hS (fun q _ h => hFc q h) hFc (fun r u t H locs ht hvm hw hB _ _ hS => ?_)
    obtain ⟨hP, -, hD⟩ := hB
    rw [ht] at hP
    replace hD := hD.weaken (fun _ q _ h => hFc q.1 h)
    rw [hw.2] at hP hD
    rw [hw.1]
    clear hw hFc
    have hP : va_P Dg vwCl (mW m0 a y (-2) kd (σ.1 2 0) (σ.1 2 1) (σ.1 2 2) (σ.1 2 3) (σ.1 2 4) wh re (rfO (-2) (σ.1 1)) (σ.1 3) aTo aPo (σ.1 4) aRw aRr (σ.1 5) (σ.1 6) (σ.1 7) aWs aRs (σ.1 8) (σ.1 9) (σ.1 10) (σ.1 11) (σ.1 12)) H := hP
    have hD : va_D A (mW m0 a y (-2) kd (σ.1 2 0) (σ.1 2 1) (σ.1 2 2) (σ.1 2 3) (σ.1 2 4) wh re (rfO (-2) (σ.1 1)) (σ.1 3) aTo aPo (σ.1 4) aRw aRr (σ.1 5) (σ.1 6) (σ.1 7) aWs aRs (σ.1 8) (σ.1 9) (σ.1 10) (σ.1 11) (σ.1 12)) := hD
    refine lv_istore_n (lv' := [(3, .int (-2)), (0, .ref m0), (1, .int p1), (2, .int p2)]) hx hb dX8_show_70 rfl hl (by decide) rfl (fun ls hl => ?_)
    refine lv_lconst (v := 0) hx hb dX8_show_71 (by decide) ?_
    have hw : wh_show σ p1 p2 = (-2) := by simp only [wh_show, if_neg c_1]
    have hn : ¬ wh_show σ p1 p2 = 0 := by rw [hw]; decide
    exact W.lret (v := 0) hx hb hr (fun t ht hW => ⟨⟨_, (mW m0 a y (-2) kd (σ.1 2 0) (σ.1 2 1) (σ.1 2 2) (σ.1 2 3) (σ.1 2 4) wh re (rfO (-2) (σ.1 1)) (σ.1 3) aTo aPo (σ.1 4) aRw aRr (σ.1 5) (σ.1 6) (σ.1 7) aWs aRs (σ.1 8) (σ.1 9) (σ.1 10) (σ.1 11) (σ.1 12)), rfl, ⟨by rw [an_show, if_neg hn]; try rfl, kd, wh, re, aTo, aPo, aRw, aRr, aWs, aRs, by rw [nw_show, if_neg hn, hw]; rfl, by rw [nw_show, if_neg hn]; exact hM⟩, by rw [ht]; exact hP, va_K.moved hW.alike hK, hD⟩, hS.F ht⟩) hS.2.2 dX8_show_72

theorem in_X8_strip : ∀ w ∈ wsX80, w ∈ wsX8_strip := fun w h => List.mem_cons_of_mem _ (List.mem_append_right _ h)
set_option maxHeartbeats 8000000 in
set_option maxRecDepth 100000 in
theorem met_X8_strip (l : Launch) (Dg : va_G) (m0 z : Nat) (a : Nat → Nat) (y : Nat → ClassId) (σ : St) (kd : Int32) (wh : Int64) (re : UInt64) (aTo aPo : Nat → UInt64) (aRw : Nat → Int64) (aRr : Nat → UInt64) (aWs : Nat → Int64) (aRs : Nat → UInt64) (p1 : Int32) (p2 : Int32) (hV : vOK σ) (hM : mC σ aTo aPo aRw aRr aWs aRs)  : Met l yX8_strip wsX8_strip ({ frames := 2, cells := 0, slots := 0, locals := 42 }) (va_Pc [.ref m0, .int p1, .int p2] (wB Dg (mT y) (mW m0 a y (σ.1 0 0) kd (σ.1 2 0) (σ.1 2 1) (σ.1 2 2) (σ.1 2 3) (σ.1 2 4) wh re (σ.1 1) (σ.1 3) aTo aPo (σ.1 4) aRw aRr (σ.1 5) (σ.1 6) (σ.1 7) aWs aRs (σ.1 8) (σ.1 9) (σ.1 10) (σ.1 11) (σ.1 12)) z)) (va_Qi (fun (r : Int32) (u : va_W) => r = an_strip σ p1 p2 ∧ MI m0 a y (nw_strip σ p1 p2) u) (wE Dg (mT y) (va_A (mW m0 a y (σ.1 0 0) kd (σ.1 2 0) (σ.1 2 1) (σ.1 2 2) (σ.1 2 3) (σ.1 2 4) wh re (σ.1 1) (σ.1 3) aTo aPo (σ.1 4) aRw aRr (σ.1 5) (σ.1 6) (σ.1 7) aWs aRs (σ.1 8) (σ.1 9) (σ.1 10) (σ.1 11) (σ.1 12)) z)) (va_A (mW m0 a y (σ.1 0 0) kd (σ.1 2 0) (σ.1 2 1) (σ.1 2 2) (σ.1 2 3) (σ.1 2 4) wh re (σ.1 1) (σ.1 3) aTo aPo (σ.1 4) aRw aRr (σ.1 5) (σ.1 6) (σ.1 7) aWs aRs (σ.1 8) (σ.1 9) (σ.1 10) (σ.1 11) (σ.1 12)) z)) 0 0 (va_A (mW m0 a y (σ.1 0 0) kd (σ.1 2 0) (σ.1 2 1) (σ.1 2 2) (σ.1 2 3) (σ.1 2 4) wh re (σ.1 1) (σ.1 3) aTo aPo (σ.1 4) aRw aRr (σ.1 5) (σ.1 6) (σ.1 7) aWs aRs (σ.1 8) (σ.1 9) (σ.1 10) (σ.1 11) (σ.1 12)) z) := by
  refine Met.ofW (cc := cX8_strip) (maxL := 4) (ret := (some .int)) (by decide) rfl ?_
  intro p e s m args below meth c s₁ B hml hv
  obtain ⟨rfl, hsz, hP, hK, hD0⟩ := hv
  have hx := B.exec
  have hb := B.bytes
  have hr := B.returns
  have hts := atoms_spec (ws := wsX8_strip) B.pre
  have hown : s.vm.findClass RX8 = some m.cls := findClass_of_methodNamed B.named
  have hlocks := B.notSynchronized
  subst hsz
  have hD := hD0.self (sz := s.heap.size)
  generalize hAe : va_A (mW m0 a y (σ.1 0 0) kd (σ.1 2 0) (σ.1 2 1) (σ.1 2 2) (σ.1 2 3) (σ.1 2 4) wh re (σ.1 1) (σ.1 3) aTo aPo (σ.1 4) aRw aRr (σ.1 5) (σ.1 6) (σ.1 7) aWs aRs (σ.1 8) (σ.1 9) (σ.1 10) (σ.1 11) (σ.1 12)) s.heap.size = A at hD ⊢
  have hA : ∀ q : Nat, s.heap.size ≤ q → A q := fun q h => by rw [← hAe]; exact Or.inr h
  have hS : va_S A s.heap s.heap [] := va_S.rf
  have hP : va_P Dg vwCl (mW m0 a y (σ.1 0 0) kd (σ.1 2 0) (σ.1 2 1) (σ.1 2 2) (σ.1 2 3) (σ.1 2 4) wh re (σ.1 1) (σ.1 3) aTo aPo (σ.1 4) aRw aRr (σ.1 5) (σ.1 6) (σ.1 7) aWs aRs (σ.1 8) (σ.1 9) (σ.1 10) (σ.1 11) (σ.1 12)) s.heap := hP
  have hl := lv_entry ([.ref m0, .int p1, .int p2]) (n := 4) (Nat.le_of_ble_eq_true rfl)
  rw [lg_entry_eq]
  generalize (lg_sl ([.ref m0, .int p1, .int p2]) ++ List.replicate (4 - (lg_sl ([.ref m0, .int p1, .int p2])).length) Slot.unset).toArray = ls at hl ⊢
  have hl : lv_has ls 4 [(0, .ref m0), (1, .int p1), (2, .int p2)] := hl
  refine lv_aload_n hx hb dX8_strip_0 rfl (lv_at hl 0 rfl) ?_
  refine lv_iconst (v := 0) hx hb dX8_strip_1 (by decide) ?_
  refine va_put (D := Dg) (ci := 6) (v := .int 0) (ty := .int) (C := RX8) (T := TX8) (N := 26) hx hb hts in_X8_strip tyX8 tyX8_ok nmX8 hown hK hP hD hS 0 rfl rfl 0 (by decide) (hts (.fieldLink RX8 64 "OrreryWorksModel" "refused" "I") (by decide +kernel)) (fun _ h9 => h9) rfl (by decide +kernel) rfl rfl (Nat.le_of_ble_eq_true rfl) dX8_strip_2 (fun H locs hP hD hS => ?_)
  replace hP : va_P Dg vwCl (mW m0 a y 0 kd (σ.1 2 0) (σ.1 2 1) (σ.1 2 2) (σ.1 2 3) (σ.1 2 4) wh re (σ.1 1) (σ.1 3) aTo aPo (σ.1 4) aRw aRr (σ.1 5) (σ.1 6) (σ.1 7) aWs aRs (σ.1 8) (σ.1 9) (σ.1 10) (σ.1 11) (σ.1 12)) H := hP
  replace hD : va_D A (mW m0 a y 0 kd (σ.1 2 0) (σ.1 2 1) (σ.1 2 2) (σ.1 2 3) (σ.1 2 4) wh re (σ.1 1) (σ.1 3) aTo aPo (σ.1 4) aRw aRr (σ.1 5) (σ.1 6) (σ.1 7) aWs aRs (σ.1 8) (σ.1 9) (σ.1 10) (σ.1 11) (σ.1 12)) := hD
  refine lv_iload_n hx hb dX8_strip_5 rfl (lv_at hl 1 rfl) ?_
  refine vp_callSi ((va_runS (As := [.int p1]) (rest := []) ⟨hx, hb, hml, hown, hts⟩ (met_X8_isKind l p1) (va_cwS 1 hts gX8_strip_X8_isKind rfl rfl rfl (by decide +kernel) ⟨Nat.le_of_ble_eq_true rfl, Nat.le_of_ble_eq_true rfl⟩) ⟨fun _ _ _ _ q => q, fun U hU hW => ⟨rfl, trivial⟩⟩ rfl rfl hl.1 rfl (lv_room (Nat.le_of_ble_eq_true rfl)) dX8_strip_6 ⟨Nat.le_of_ble_eq_true rfl, Nat.le_of_ble_eq_true rfl⟩).run) (fun r hw => ?_)
  subst hw
  refine lv_if_eq (tgt := 22) hx hb dX8_strip_9 (by decide) (fun c_1 => ?_) (fun c_1 => ?_)
  · replace c_1 := bI_eq c_1
    refine lv_aload_n hx hb dX8_strip_22 rfl (lv_at hl 0 rfl) ?_
    refine lv_bipush (v := (-2)) hx hb dX8_strip_23 (by decide) ?_
    have hFc := wFree hD hS hA
    refine va_calli (va_runV (As := [.int (-2)]) (rest := []) ⟨hx, hb, hml, hown, hts⟩ (met_X8_refuse l Dg m0 H.size a y 0 kd (σ.1 2 0) (σ.1 2 1) (σ.1 2 2) (σ.1 2 3) (σ.1 2 4) wh re (σ.1 1) (σ.1 3) aTo aPo (σ.1 4) aRw aRr (σ.1 5) (σ.1 6) (σ.1 7) aWs aRs (σ.1 8) (σ.1 9) (σ.1 10) (σ.1 11) (σ.1 12) (-2) (by unfold vp_in; decide)) (cwV 1 hts gX8_strip_X8_refuse rfl rfl rfl (by decide +kernel) ⟨Nat.le_of_ble_eq_true rfl, Nat.le_of_ble_eq_true rfl⟩) (wPreV hK hP (hD.weaken (fun _ _ _ _ => trivial)) (va_recv hK hP (ci := 6) (q0 := 0) rfl rfl)) rfl rfl hl.1 rfl (lv_room (Nat.le_of_ble_eq_true rfl)) dX8_strip_25 ⟨Nat.le_of_ble_eq_true rfl, Nat.le_of_ble_eq_true rfl⟩) hS (fun q _ h => hFc q h) hFc (fun r u t H locs ht hvm hw hB _ _ hS => ?_)
    obtain ⟨hP, -, hD⟩ := hB
    rw [ht] at hP
    replace hD := hD.weaken (fun _ q _ h => hFc q.1 h)
    rw [hw.2] at hP hD
    rw [hw.1]
    clear hw hFc
    replace hP : va_P Dg vwCl (mW m0 a y (-2) kd (σ.1 2 0) (σ.1 2 1) (σ.1 2 2) (σ.1 2 3) (σ.1 2 4) wh re (rfO (-2) (σ.1 1)) (σ.1 3) aTo aPo (σ.1 4) aRw aRr (σ.1 5) (σ.1 6) (σ.1 7) aWs aRs (σ.1 8) (σ.1 9) (σ.1 10) (σ.1 11) (σ.1 12)) H := hP
    replace hD : va_D A (mW m0 a y (-2) kd (σ.1 2 0) (σ.1 2 1) (σ.1 2 2) (σ.1 2 3) (σ.1 2 4) wh re (rfO (-2) (σ.1 1)) (σ.1 3) aTo aPo (σ.1 4) aRw aRr (σ.1 5) (σ.1 6) (σ.1 7) aWs aRs (σ.1 8) (σ.1 9) (σ.1 10) (σ.1 11) (σ.1 12)) := hD
    have hw : wh_strip σ p1 p2 = (-2) := by simp only [wh_strip, if_neg c_1]
    have hn : ¬ wh_strip σ p1 p2 = 0 := by rw [hw]; decide
    exact W.iret (v := (-2)) hx hb hr (fun t ht hW => ⟨⟨_, (mW m0 a y (-2) kd (σ.1 2 0) (σ.1 2 1) (σ.1 2 2) (σ.1 2 3) (σ.1 2 4) wh re (rfO (-2) (σ.1 1)) (σ.1 3) aTo aPo (σ.1 4) aRw aRr (σ.1 5) (σ.1 6) (σ.1 7) aWs aRs (σ.1 8) (σ.1 9) (σ.1 10) (σ.1 11) (σ.1 12)), rfl, ⟨by rw [an_strip, if_neg hn, hw]; try rfl, kd, wh, re, aTo, aPo, aRw, aRr, aWs, aRs, by rw [nw_strip, if_neg hn, hw]; rfl, by rw [nw_strip, if_neg hn]; exact hM⟩, by rw [ht]; exact hP, va_K.moved hW.alike hK, hD⟩, hS.F ht⟩) hS.2.2 dX8_strip_28
  · replace c_1 := bI_ne c_1
    refine lv_iload_n hx hb dX8_strip_12 rfl (lv_at hl 2 rfl) ?_
    refine lv_iconst (v := 0) hx hb dX8_strip_13 (by decide) ?_
    refine lv_bipush (v := 16) hx hb dX8_strip_14 (by decide) ?_
    refine vp_callSi ((va_runS (As := [.int p2, .int 0, .int 16]) (rest := []) ⟨hx, hb, hml, hown, hts⟩ (met_X8_isIn l p2 0 16) (va_cwS 3 hts gX8_strip_X8_isIn rfl rfl rfl (by decide +kernel) ⟨Nat.le_of_ble_eq_true rfl, Nat.le_of_ble_eq_true rfl⟩) ⟨fun _ _ _ _ q => q, fun U hU hW => ⟨rfl, trivial⟩⟩ rfl rfl hl.1 rfl (lv_room (Nat.le_of_ble_eq_true rfl)) dX8_strip_16 ⟨Nat.le_of_ble_eq_true rfl, Nat.le_of_ble_eq_true rfl⟩).run) (fun r hw => ?_)
    subst hw
    refine lv_if_ne (tgt := 29) hx hb dX8_strip_19 (by decide) (fun c_2 => ?_) (fun c_2 => ?_)
    · replace c_2 := bI_ne c_2
      refine lv_aload_n hx hb dX8_strip_29 rfl (lv_at hl 0 rfl) ?_
      refine va_get (D := Dg) (ci := 6) (v := .int (σ.1 2 2)) (C := RX8) (T := TX8) (N := 26) hx hb hts in_X8_strip hown hK hP 0 rfl rfl 13 (by decide) (hts (.fieldLink RX8 182 "OrreryWorksModel" "strips" "I") (by decide +kernel)) (fun _ h9 => h9) rfl dX8_strip_30 ?_
      refine lv_bipush (v := 8) hx hb dX8_strip_33 (by decide) ?_
      refine lv_icmp_ne (tgt := 45) hx hb dX8_strip_35 (by decide) (fun c_3 => ?_) (fun c_3 => ?_)
      · refine lv_aload_n hx hb dX8_strip_45 rfl (lv_at hl 0 rfl) ?_
        refine va_get (D := Dg) (ci := 6) (v := .ref (a 7)) (C := RX8) (T := TX8) (N := 26) hx hb hts in_X8_strip hown hK hP 0 rfl rfl 14 (by decide) (hts (.fieldLink RX8 33 "OrreryWorksModel" "lane" "[I") (by decide +kernel)) (fun _ h9 => h9) rfl dX8_strip_46 ?_
        refine lv_aload_n hx hb dX8_strip_49 rfl (lv_at hl 0 rfl) ?_
        refine va_get (D := Dg) (ci := 6) (v := .int (σ.1 2 2)) (C := RX8) (T := TX8) (N := 26) hx hb hts in_X8_strip hown hK hP 0 rfl rfl 13 (by decide) (hts (.fieldLink RX8 182 "OrreryWorksModel" "strips" "I") (by decide +kernel)) (fun _ h9 => h9) rfl dX8_strip_50 ?_
        refine lv_iload_n hx hb dX8_strip_53 rfl (lv_at hl 1 rfl) ?_
        refine va_iast hx hb hK hP hD hS 8 7 rfl rfl (top_in hV.1.2.2.1 (m := 8) rfl c_3) dX8_strip_54 (fun H locs hP hD hS => ?_)
        replace hP : va_P Dg vwCl (mW m0 a y 0 kd (σ.1 2 0) (σ.1 2 1) (σ.1 2 2) (σ.1 2 3) (σ.1 2 4) wh re (σ.1 1) (σ.1 3) aTo aPo (σ.1 4) aRw aRr (upd (σ.1 5) (σ.1 2 2).toNatClampNeg p1) (σ.1 6) (σ.1 7) aWs aRs (σ.1 8) (σ.1 9) (σ.1 10) (σ.1 11) (σ.1 12)) H := hP
        replace hD : va_D A (mW m0 a y 0 kd (σ.1 2 0) (σ.1 2 1) (σ.1 2 2) (σ.1 2 3) (σ.1 2 4) wh re (σ.1 1) (σ.1 3) aTo aPo (σ.1 4) aRw aRr (upd (σ.1 5) (σ.1 2 2).toNatClampNeg p1) (σ.1 6) (σ.1 7) aWs aRs (σ.1 8) (σ.1 9) (σ.1 10) (σ.1 11) (σ.1 12)) := hD
        refine lv_aload_n hx hb dX8_strip_55 rfl (lv_at hl 0 rfl) ?_
        refine va_get (D := Dg) (ci := 6) (v := .ref (a 8)) (C := RX8) (T := TX8) (N := 26) hx hb hts in_X8_strip hown hK hP 0 rfl rfl 15 (by decide) (hts (.fieldLink RX8 36 "OrreryWorksModel" "size" "[I") (by decide +kernel)) (fun _ h9 => h9) rfl dX8_strip_56 ?_
        refine lv_aload_n hx hb dX8_strip_59 rfl (lv_at hl 0 rfl) ?_
        refine va_get (D := Dg) (ci := 6) (v := .int (σ.1 2 2)) (C := RX8) (T := TX8) (N := 26) hx hb hts in_X8_strip hown hK hP 0 rfl rfl 13 (by decide) (hts (.fieldLink RX8 182 "OrreryWorksModel" "strips" "I") (by decide +kernel)) (fun _ h9 => h9) rfl dX8_strip_60 ?_
        refine lv_iload_n hx hb dX8_strip_63 rfl (lv_at hl 2 rfl) ?_
        refine va_iast hx hb hK hP hD hS 9 8 rfl rfl (top_in hV.1.2.2.1 (m := 8) rfl c_3) dX8_strip_64 (fun H locs hP hD hS => ?_)
        replace hP : va_P Dg vwCl (mW m0 a y 0 kd (σ.1 2 0) (σ.1 2 1) (σ.1 2 2) (σ.1 2 3) (σ.1 2 4) wh re (σ.1 1) (σ.1 3) aTo aPo (σ.1 4) aRw aRr (upd (σ.1 5) (σ.1 2 2).toNatClampNeg p1) (upd (σ.1 6) (σ.1 2 2).toNatClampNeg p2) (σ.1 7) aWs aRs (σ.1 8) (σ.1 9) (σ.1 10) (σ.1 11) (σ.1 12)) H := hP
        replace hD : va_D A (mW m0 a y 0 kd (σ.1 2 0) (σ.1 2 1) (σ.1 2 2) (σ.1 2 3) (σ.1 2 4) wh re (σ.1 1) (σ.1 3) aTo aPo (σ.1 4) aRw aRr (upd (σ.1 5) (σ.1 2 2).toNatClampNeg p1) (upd (σ.1 6) (σ.1 2 2).toNatClampNeg p2) (σ.1 7) aWs aRs (σ.1 8) (σ.1 9) (σ.1 10) (σ.1 11) (σ.1 12)) := hD
        refine lv_aload_n hx hb dX8_strip_65 rfl (lv_at hl 0 rfl) ?_
        refine va_get (D := Dg) (ci := 6) (v := .ref (a 9)) (C := RX8) (T := TX8) (N := 26) hx hb hts in_X8_strip hown hK hP 0 rfl rfl 16 (by decide) (hts (.fieldLink RX8 39 "OrreryWorksModel" "isGone" "[Z") (by decide +kernel)) (fun _ h9 => h9) rfl dX8_strip_66 ?_
        refine lv_aload_n hx hb dX8_strip_69 rfl (lv_at hl 0 rfl) ?_
        refine va_get (D := Dg) (ci := 6) (v := .int (σ.1 2 2)) (C := RX8) (T := TX8) (N := 26) hx hb hts in_X8_strip hown hK hP 0 rfl rfl 13 (by decide) (hts (.fieldLink RX8 182 "OrreryWorksModel" "strips" "I") (by decide +kernel)) (fun _ h9 => h9) rfl dX8_strip_70 ?_
        refine lv_iconst (v := 0) hx hb dX8_strip_73 (by decide) ?_
        refine va_zast hx hb hK hP hD hS 10 9 rfl rfl (top_in hV.1.2.2.1 (m := 8) rfl c_3) dX8_strip_74 (fun H locs hP hD hS => ?_)
        replace hP : va_P Dg vwCl (mW m0 a y 0 kd (σ.1 2 0) (σ.1 2 1) (σ.1 2 2) (σ.1 2 3) (σ.1 2 4) wh re (σ.1 1) (σ.1 3) aTo aPo (σ.1 4) aRw aRr (upd (σ.1 5) (σ.1 2 2).toNatClampNeg p1) (upd (σ.1 6) (σ.1 2 2).toNatClampNeg p2) (upd (σ.1 7) (σ.1 2 2).toNatClampNeg (vp_nar .boolean 0)) aWs aRs (σ.1 8) (σ.1 9) (σ.1 10) (σ.1 11) (σ.1 12)) H := hP
        replace hD : va_D A (mW m0 a y 0 kd (σ.1 2 0) (σ.1 2 1) (σ.1 2 2) (σ.1 2 3) (σ.1 2 4) wh re (σ.1 1) (σ.1 3) aTo aPo (σ.1 4) aRw aRr (upd (σ.1 5) (σ.1 2 2).toNatClampNeg p1) (upd (σ.1 6) (σ.1 2 2).toNatClampNeg p2) (upd (σ.1 7) (σ.1 2 2).toNatClampNeg (vp_nar .boolean 0)) aWs aRs (σ.1 8) (σ.1 9) (σ.1 10) (σ.1 11) (σ.1 12)) := hD
        refine lv_iconst (v := 0) hx hb dX8_strip_75 (by decide) ?_
        refine lv_istore_n (lv' := [(3, .int 0), (0, .ref m0), (1, .int p1), (2, .int p2)]) hx hb dX8_strip_76 rfl hl (by decide) rfl (fun ls hl => ?_)
        have hc0 : vp_in (σ.1 2 2) 8 := top_in hV.1.2.2.1 (m := 8) rfl c_3
        have hcr := vp_in_iff.mp hc0
        have hq : ∃ j : Nat, lv_has ls 4 [(3, .int (nI j)), (0, .ref m0), (1, .int p1), (2, .int p2)] ∧ j ≤ 16 ∧ va_P Dg vwCl (mW m0 a y 0 kd (σ.1 2 0) (σ.1 2 1) (σ.1 2 2) (σ.1 2 3) (σ.1 2 4) wh re (σ.1 1) (σ.1 3) aTo aPo (σ.1 4) aRw aRr (upd (σ.1 5) (σ.1 2 2).toNatClampNeg p1) (upd (σ.1 6) (σ.1 2 2).toNatClampNeg p2) (upd (σ.1 7) (σ.1 2 2).toNatClampNeg (vp_nar .boolean 0)) (stF 0 aWs (16 * (σ.1 2 2).toNatClampNeg) j) (stF FP.dconst0 aRs (16 * (σ.1 2 2).toNatClampNeg) j) (σ.1 8) (σ.1 9) (σ.1 10) (σ.1 11) (σ.1 12)) H ∧ va_D A (mW m0 a y 0 kd (σ.1 2 0) (σ.1 2 1) (σ.1 2 2) (σ.1 2 3) (σ.1 2 4) wh re (σ.1 1) (σ.1 3) aTo aPo (σ.1 4) aRw aRr (upd (σ.1 5) (σ.1 2 2).toNatClampNeg p1) (upd (σ.1 6) (σ.1 2 2).toNatClampNeg p2) (upd (σ.1 7) (σ.1 2 2).toNatClampNeg (vp_nar .boolean 0)) (stF 0 aWs (16 * (σ.1 2 2).toNatClampNeg) j) (stF FP.dconst0 aRs (16 * (σ.1 2 2).toNatClampNeg) j) (σ.1 8) (σ.1 9) (σ.1 10) (σ.1 11) (σ.1 12)) := ⟨0, hl, Nat.zero_le _, by simp only [stF_0]; exact hP, by simp only [stF_0]; exact hD⟩
        clear hl hP hD
        obtain ⟨j, hl, hj, hP, hD⟩ := hq
        obtain ⟨n, hn⟩ : ∃ n : Nat, j + n = 16 := ⟨16 - j, by omega⟩
        induction n generalizing j ls H locs with
        | zero =>
          obtain rfl : j = 16 := by omega
          have d1 : (16 : Int32) ≤ nI 16 := by decide
          refine lv_iload_n hx hb dX8_strip_77 rfl (lv_at hl 0 rfl) ?_
          refine lv_bipush (v := 16) hx hb dX8_strip_78 (by decide) ?_
          refine lv_icmp_ge (tgt := 119) hx hb dX8_strip_80 (by decide) (fun _ => ?_) (fun h0 => absurd d1 h0)
          refine lv_aload_n hx hb dX8_strip_119 rfl (lv_at hl 1 rfl) ?_
          refine lv_dup hx hb dX8_strip_120 rfl ?_
          refine va_get (D := Dg) (ci := 6) (v := .int (σ.1 2 2)) (C := RX8) (T := TX8) (N := 26) hx hb hts in_X8_strip hown hK hP 0 rfl rfl 13 (by decide) (hts (.fieldLink RX8 182 "OrreryWorksModel" "strips" "I") (by decide +kernel)) (fun _ h9 => h9) rfl dX8_strip_121 ?_
          refine lv_iconst (v := 1) hx hb dX8_strip_124 (by decide) ?_
          refine lv_iadd hx hb dX8_strip_125 ?_
          refine va_put (D := Dg) (ci := 6) (v := .int ((σ.1 2 2) + 1)) (ty := .int) (C := RX8) (T := TX8) (N := 26) hx hb hts in_X8_strip tyX8 tyX8_ok nmX8 hown hK hP hD hS 0 rfl rfl 13 (by decide) (hts (.fieldLink RX8 182 "OrreryWorksModel" "strips" "I") (by decide +kernel)) (fun _ h9 => h9) rfl (by decide +kernel) rfl rfl (Nat.le_of_ble_eq_true rfl) dX8_strip_126 (fun H locs hP hD hS => ?_)
          replace hP : va_P Dg vwCl (mW m0 a y 0 kd (σ.1 2 0) (σ.1 2 1) ((σ.1 2 2) + 1) (σ.1 2 3) (σ.1 2 4) wh re (σ.1 1) (σ.1 3) aTo aPo (σ.1 4) aRw aRr (upd (σ.1 5) (σ.1 2 2).toNatClampNeg p1) (upd (σ.1 6) (σ.1 2 2).toNatClampNeg p2) (upd (σ.1 7) (σ.1 2 2).toNatClampNeg (vp_nar .boolean 0)) (stF 0 aWs (16 * (σ.1 2 2).toNatClampNeg) 16) (stF FP.dconst0 aRs (16 * (σ.1 2 2).toNatClampNeg) 16) (σ.1 8) (σ.1 9) (σ.1 10) (σ.1 11) (σ.1 12)) H := hP
          replace hD : va_D A (mW m0 a y 0 kd (σ.1 2 0) (σ.1 2 1) ((σ.1 2 2) + 1) (σ.1 2 3) (σ.1 2 4) wh re (σ.1 1) (σ.1 3) aTo aPo (σ.1 4) aRw aRr (upd (σ.1 5) (σ.1 2 2).toNatClampNeg p1) (upd (σ.1 6) (σ.1 2 2).toNatClampNeg p2) (upd (σ.1 7) (σ.1 2 2).toNatClampNeg (vp_nar .boolean 0)) (stF 0 aWs (16 * (σ.1 2 2).toNatClampNeg) 16) (stF FP.dconst0 aRs (16 * (σ.1 2 2).toNatClampNeg) 16) (σ.1 8) (σ.1 9) (σ.1 10) (σ.1 11) (σ.1 12)) := hD
          refine lv_aload_n hx hb dX8_strip_129 rfl (lv_at hl 1 rfl) ?_
          refine va_get (D := Dg) (ci := 6) (v := .int ((σ.1 2 2) + 1)) (C := RX8) (T := TX8) (N := 26) hx hb hts in_X8_strip hown hK hP 0 rfl rfl 13 (by decide) (hts (.fieldLink RX8 182 "OrreryWorksModel" "strips" "I") (by decide +kernel)) (fun _ h9 => h9) rfl dX8_strip_130 ?_
          refine lv_iconst (v := 1) hx hb dX8_strip_133 (by decide) ?_
          refine lv_isub hx hb dX8_strip_134 ?_
          have hw : wh_strip σ p1 p2 = 0 := by simp only [wh_strip, if_pos c_1, if_pos c_2, if_neg c_3]
          exact W.iret (v := ((σ.1 2 2) + 1) - 1) hx hb hr (fun t ht hW => ⟨⟨_, (mW m0 a y 0 kd (σ.1 2 0) (σ.1 2 1) ((σ.1 2 2) + 1) (σ.1 2 3) (σ.1 2 4) wh re (σ.1 1) (σ.1 3) aTo aPo (σ.1 4) aRw aRr (upd (σ.1 5) (σ.1 2 2).toNatClampNeg p1) (upd (σ.1 6) (σ.1 2 2).toNatClampNeg p2) (upd (σ.1 7) (σ.1 2 2).toNatClampNeg (vp_nar .boolean 0)) (stF 0 aWs (16 * (σ.1 2 2).toNatClampNeg) 16) (stF FP.dconst0 aRs (16 * (σ.1 2 2).toNatClampNeg) 16) (σ.1 8) (σ.1 9) (σ.1 10) (σ.1 11) (σ.1 12)), rfl, ⟨by rw [an_strip, if_pos hw]; exact inc_dec, kd, wh, re, aTo, aPo, aRw, aRr, stF 0 aWs (16 * (σ.1 2 2).toNatClampNeg) 16, stF FP.dconst0 aRs (16 * (σ.1 2 2).toNatClampNeg) 16, by rw [nw_strip, if_pos hw]; rfl, by rw [nw_strip, if_pos hw]; exact mC_strip hV hM⟩, by rw [ht]; exact hP, va_K.moved hW.alike hK, hD⟩, hS.F ht⟩) hS.2.2 dX8_strip_135
        | succ n ih =>
          have d1 : ¬ (16 : Int32) ≤ nI j := fun g => by rw [Int32.le_iff_toInt_le, nI_toInt (by omega)] at g; have : (16 : Int32).toInt = 16 := rfl; omega
          have hjr : 0 ≤ (nI j).toInt ∧ (nI j).toInt < 16 := by rw [nI_toInt (by omega)]; omega
          have hm := mix16 hcr hjr
          have hm2 : (16 * σ.1 2 2 + nI j).toNatClampNeg = 16 * (σ.1 2 2).toNatClampNeg + j := by rw [hm.2]; show _ + (nI j).toNatClampNeg = _; rw [nI_clamp (by omega)]
          refine lv_iload_n hx hb dX8_strip_77 rfl (lv_at hl 0 rfl) ?_
          refine lv_bipush (v := 16) hx hb dX8_strip_78 (by decide) ?_
          refine lv_icmp_ge (tgt := 119) hx hb dX8_strip_80 (by decide) (fun h0 => absurd h0 d1) (fun _ => ?_)
          refine lv_aload_n hx hb dX8_strip_83 rfl (lv_at hl 1 rfl) ?_
          refine va_get (D := Dg) (ci := 6) (v := .ref (a 10)) (C := RX8) (T := TX8) (N := 26) hx hb hts in_X8_strip hown hK hP 0 rfl rfl 17 (by decide) (hts (.fieldLink RX8 43 "OrreryWorksModel" "wholes" "[J") (by decide +kernel)) (fun _ h9 => h9) rfl dX8_strip_84 ?_
          refine lv_bipush (v := 16) hx hb dX8_strip_87 (by decide) ?_
          refine lv_aload_n hx hb dX8_strip_89 rfl (lv_at hl 1 rfl) ?_
          refine va_get (D := Dg) (ci := 6) (v := .int (σ.1 2 2)) (C := RX8) (T := TX8) (N := 26) hx hb hts in_X8_strip hown hK hP 0 rfl rfl 13 (by decide) (hts (.fieldLink RX8 182 "OrreryWorksModel" "strips" "I") (by decide +kernel)) (fun _ h9 => h9) rfl dX8_strip_90 ?_
          refine lv_imul hx hb dX8_strip_93 ?_
          refine lv_iload_n hx hb dX8_strip_94 rfl (lv_at hl 0 rfl) ?_
          refine lv_iadd hx hb dX8_strip_95 ?_
          refine lv_lconst (v := 0) hx hb dX8_strip_96 (by decide) ?_
          refine va_last hx hb hK hP hD hS 11 10 rfl rfl hm.1 dX8_strip_97 (fun H locs hP hD hS => ?_)
          replace hP : va_P Dg vwCl (mW m0 a y 0 kd (σ.1 2 0) (σ.1 2 1) (σ.1 2 2) (σ.1 2 3) (σ.1 2 4) wh re (σ.1 1) (σ.1 3) aTo aPo (σ.1 4) aRw aRr (upd (σ.1 5) (σ.1 2 2).toNatClampNeg p1) (upd (σ.1 6) (σ.1 2 2).toNatClampNeg p2) (upd (σ.1 7) (σ.1 2 2).toNatClampNeg (vp_nar .boolean 0)) (vp_updL (stF 0 aWs (16 * (σ.1 2 2).toNatClampNeg) j) ((16 * (σ.1 2 2)) + (nI j)).toNatClampNeg 0) (stF FP.dconst0 aRs (16 * (σ.1 2 2).toNatClampNeg) j) (σ.1 8) (σ.1 9) (σ.1 10) (σ.1 11) (σ.1 12)) H := hP
          replace hD : va_D A (mW m0 a y 0 kd (σ.1 2 0) (σ.1 2 1) (σ.1 2 2) (σ.1 2 3) (σ.1 2 4) wh re (σ.1 1) (σ.1 3) aTo aPo (σ.1 4) aRw aRr (upd (σ.1 5) (σ.1 2 2).toNatClampNeg p1) (upd (σ.1 6) (σ.1 2 2).toNatClampNeg p2) (upd (σ.1 7) (σ.1 2 2).toNatClampNeg (vp_nar .boolean 0)) (vp_updL (stF 0 aWs (16 * (σ.1 2 2).toNatClampNeg) j) ((16 * (σ.1 2 2)) + (nI j)).toNatClampNeg 0) (stF FP.dconst0 aRs (16 * (σ.1 2 2).toNatClampNeg) j) (σ.1 8) (σ.1 9) (σ.1 10) (σ.1 11) (σ.1 12)) := hD
          refine lv_aload_n hx hb dX8_strip_98 rfl (lv_at hl 1 rfl) ?_
          refine va_get (D := Dg) (ci := 6) (v := .ref (a 11)) (C := RX8) (T := TX8) (N := 26) hx hb hts in_X8_strip hown hK hP 0 rfl rfl 18 (by decide) (hts (.fieldLink RX8 46 "OrreryWorksModel" "reals" "[D") (by decide +kernel)) (fun _ h9 => h9) rfl dX8_strip_99 ?_
          refine lv_bipush (v := 16) hx hb dX8_strip_102 (by decide) ?_
          refine lv_aload_n hx hb dX8_strip_104 rfl (lv_at hl 1 rfl) ?_
          refine va_get (D := Dg) (ci := 6) (v := .int (σ.1 2 2)) (C := RX8) (T := TX8) (N := 26) hx hb hts in_X8_strip hown hK hP 0 rfl rfl 13 (by decide) (hts (.fieldLink RX8 182 "OrreryWorksModel" "strips" "I") (by decide +kernel)) (fun _ h9 => h9) rfl dX8_strip_105 ?_
          refine lv_imul hx hb dX8_strip_108 ?_
          refine lv_iload_n hx hb dX8_strip_109 rfl (lv_at hl 0 rfl) ?_
          refine lv_iadd hx hb dX8_strip_110 ?_
          refine lv_dconst0 hx hb dX8_strip_111 ?_
          refine va_dast hx hb hK hP hD hS 12 11 rfl rfl hm.1 dX8_strip_112 (fun H locs hP hD hS => ?_)
          replace hP : va_P Dg vwCl (mW m0 a y 0 kd (σ.1 2 0) (σ.1 2 1) (σ.1 2 2) (σ.1 2 3) (σ.1 2 4) wh re (σ.1 1) (σ.1 3) aTo aPo (σ.1 4) aRw aRr (upd (σ.1 5) (σ.1 2 2).toNatClampNeg p1) (upd (σ.1 6) (σ.1 2 2).toNatClampNeg p2) (upd (σ.1 7) (σ.1 2 2).toNatClampNeg (vp_nar .boolean 0)) (vp_updL (stF 0 aWs (16 * (σ.1 2 2).toNatClampNeg) j) ((16 * (σ.1 2 2)) + (nI j)).toNatClampNeg 0) (vf_upd (stF FP.dconst0 aRs (16 * (σ.1 2 2).toNatClampNeg) j) ((16 * (σ.1 2 2)) + (nI j)).toNatClampNeg FP.dconst0) (σ.1 8) (σ.1 9) (σ.1 10) (σ.1 11) (σ.1 12)) H := hP
          replace hD : va_D A (mW m0 a y 0 kd (σ.1 2 0) (σ.1 2 1) (σ.1 2 2) (σ.1 2 3) (σ.1 2 4) wh re (σ.1 1) (σ.1 3) aTo aPo (σ.1 4) aRw aRr (upd (σ.1 5) (σ.1 2 2).toNatClampNeg p1) (upd (σ.1 6) (σ.1 2 2).toNatClampNeg p2) (upd (σ.1 7) (σ.1 2 2).toNatClampNeg (vp_nar .boolean 0)) (vp_updL (stF 0 aWs (16 * (σ.1 2 2).toNatClampNeg) j) ((16 * (σ.1 2 2)) + (nI j)).toNatClampNeg 0) (vf_upd (stF FP.dconst0 aRs (16 * (σ.1 2 2).toNatClampNeg) j) ((16 * (σ.1 2 2)) + (nI j)).toNatClampNeg FP.dconst0) (σ.1 8) (σ.1 9) (σ.1 10) (σ.1 11) (σ.1 12)) := hD
          refine lv_iinc (v := (nI j) + 1) (lv' := [(3, .int ((nI j) + 1)), (0, .ref m0), (1, .int p1), (2, .int p2)]) hx hb dX8_strip_113 hl (k := 0) rfl rfl (by decide) rfl (fun ls hl => ?_)
          refine lv_goto (tgt := 77) hx hb dX8_strip_116 (by decide) ?_
          exact ih (j := j + 1) (hS := hS) (hl := by rw [← nI_1]; exact hl) (hj := by omega) (hP := by rw [hm2, stF_J, stF_s] at hP; exact hP) (hD := by rw [hm2, stF_J, stF_s] at hD; exact hD) (hn := by omega)
      · refine lv_aload_n hx hb dX8_strip_38 rfl (lv_at hl 0 rfl) ?_
        refine lv_bipush (v := (-3)) hx hb dX8_strip_39 (by decide) ?_
        have hFc := wFree hD hS hA
        refine va_calli (va_runV (As := [.int (-3)]) (rest := []) ⟨hx, hb, hml, hown, hts⟩ (met_X8_refuse l Dg m0 H.size a y 0 kd (σ.1 2 0) (σ.1 2 1) (σ.1 2 2) (σ.1 2 3) (σ.1 2 4) wh re (σ.1 1) (σ.1 3) aTo aPo (σ.1 4) aRw aRr (σ.1 5) (σ.1 6) (σ.1 7) aWs aRs (σ.1 8) (σ.1 9) (σ.1 10) (σ.1 11) (σ.1 12) (-3) (by unfold vp_in; decide)) (cwV 1 hts gX8_strip_X8_refuse rfl rfl rfl (by decide +kernel) ⟨Nat.le_of_ble_eq_true rfl, Nat.le_of_ble_eq_true rfl⟩) (wPreV hK hP (hD.weaken (fun _ _ _ _ => trivial)) (va_recv hK hP (ci := 6) (q0 := 0) rfl rfl)) rfl rfl hl.1 rfl (lv_room (Nat.le_of_ble_eq_true rfl)) dX8_strip_41 ⟨Nat.le_of_ble_eq_true rfl, Nat.le_of_ble_eq_true rfl⟩) hS (fun q _ h => hFc q h) hFc (fun r u t H locs ht hvm hw hB _ _ hS => ?_)
        obtain ⟨hP, -, hD⟩ := hB
        rw [ht] at hP
        replace hD := hD.weaken (fun _ q _ h => hFc q.1 h)
        rw [hw.2] at hP hD
        rw [hw.1]
        clear hw hFc
        replace hP : va_P Dg vwCl (mW m0 a y (-3) kd (σ.1 2 0) (σ.1 2 1) (σ.1 2 2) (σ.1 2 3) (σ.1 2 4) wh re (rfO (-3) (σ.1 1)) (σ.1 3) aTo aPo (σ.1 4) aRw aRr (σ.1 5) (σ.1 6) (σ.1 7) aWs aRs (σ.1 8) (σ.1 9) (σ.1 10) (σ.1 11) (σ.1 12)) H := hP
        replace hD : va_D A (mW m0 a y (-3) kd (σ.1 2 0) (σ.1 2 1) (σ.1 2 2) (σ.1 2 3) (σ.1 2 4) wh re (rfO (-3) (σ.1 1)) (σ.1 3) aTo aPo (σ.1 4) aRw aRr (σ.1 5) (σ.1 6) (σ.1 7) aWs aRs (σ.1 8) (σ.1 9) (σ.1 10) (σ.1 11) (σ.1 12)) := hD
        have hw : wh_strip σ p1 p2 = (-3) := by simp only [wh_strip, if_pos c_1, if_pos c_2, if_pos c_3]
        have hn : ¬ wh_strip σ p1 p2 = 0 := by rw [hw]; decide
        exact W.iret (v := (-3)) hx hb hr (fun t ht hW => ⟨⟨_, (mW m0 a y (-3) kd (σ.1 2 0) (σ.1 2 1) (σ.1 2 2) (σ.1 2 3) (σ.1 2 4) wh re (rfO (-3) (σ.1 1)) (σ.1 3) aTo aPo (σ.1 4) aRw aRr (σ.1 5) (σ.1 6) (σ.1 7) aWs aRs (σ.1 8) (σ.1 9) (σ.1 10) (σ.1 11) (σ.1 12)), rfl, ⟨by rw [an_strip, if_neg hn, hw]; try rfl, kd, wh, re, aTo, aPo, aRw, aRr, aWs, aRs, by rw [nw_strip, if_neg hn, hw]; rfl, by rw [nw_strip, if_neg hn]; exact hM⟩, by rw [ht]; exact hP, va_K.moved hW.alike hK, hD⟩, hS.F ht⟩) hS.2.2 dX8_strip_44
    · replace c_2 := bI_eq c_2
      refine lv_aload_n hx hb dX8_strip_22 rfl (lv_at hl 0 rfl) ?_
      refine lv_bipush (v := (-2)) hx hb dX8_strip_23 (by decide) ?_
      have hFc := wFree hD hS hA
      refine va_calli (va_runV (As := [.int (-2)]) (rest := []) ⟨hx, hb, hml, hown, hts⟩ (met_X8_refuse l Dg m0 H.size a y 0 kd (σ.1 2 0) (σ.1 2 1) (σ.1 2 2) (σ.1 2 3) (σ.1 2 4) wh re (σ.1 1) (σ.1 3) aTo aPo (σ.1 4) aRw aRr (σ.1 5) (σ.1 6) (σ.1 7) aWs aRs (σ.1 8) (σ.1 9) (σ.1 10) (σ.1 11) (σ.1 12) (-2) (by unfold vp_in; decide)) (cwV 1 hts gX8_strip_X8_refuse rfl rfl rfl (by decide +kernel) ⟨Nat.le_of_ble_eq_true rfl, Nat.le_of_ble_eq_true rfl⟩) (wPreV hK hP (hD.weaken (fun _ _ _ _ => trivial)) (va_recv hK hP (ci := 6) (q0 := 0) rfl rfl)) rfl rfl hl.1 rfl (lv_room (Nat.le_of_ble_eq_true rfl)) dX8_strip_25 ⟨Nat.le_of_ble_eq_true rfl, Nat.le_of_ble_eq_true rfl⟩) hS (fun q _ h => hFc q h) hFc (fun r u t H locs ht hvm hw hB _ _ hS => ?_)
      obtain ⟨hP, -, hD⟩ := hB
      rw [ht] at hP
      replace hD := hD.weaken (fun _ q _ h => hFc q.1 h)
      rw [hw.2] at hP hD
      rw [hw.1]
      clear hw hFc
      replace hP : va_P Dg vwCl (mW m0 a y (-2) kd (σ.1 2 0) (σ.1 2 1) (σ.1 2 2) (σ.1 2 3) (σ.1 2 4) wh re (rfO (-2) (σ.1 1)) (σ.1 3) aTo aPo (σ.1 4) aRw aRr (σ.1 5) (σ.1 6) (σ.1 7) aWs aRs (σ.1 8) (σ.1 9) (σ.1 10) (σ.1 11) (σ.1 12)) H := hP
      replace hD : va_D A (mW m0 a y (-2) kd (σ.1 2 0) (σ.1 2 1) (σ.1 2 2) (σ.1 2 3) (σ.1 2 4) wh re (rfO (-2) (σ.1 1)) (σ.1 3) aTo aPo (σ.1 4) aRw aRr (σ.1 5) (σ.1 6) (σ.1 7) aWs aRs (σ.1 8) (σ.1 9) (σ.1 10) (σ.1 11) (σ.1 12)) := hD
      have hw : wh_strip σ p1 p2 = (-2) := by simp only [wh_strip, if_pos c_1, if_neg c_2]
      have hn : ¬ wh_strip σ p1 p2 = 0 := by rw [hw]; decide
      exact W.iret (v := (-2)) hx hb hr (fun t ht hW => ⟨⟨_, (mW m0 a y (-2) kd (σ.1 2 0) (σ.1 2 1) (σ.1 2 2) (σ.1 2 3) (σ.1 2 4) wh re (rfO (-2) (σ.1 1)) (σ.1 3) aTo aPo (σ.1 4) aRw aRr (σ.1 5) (σ.1 6) (σ.1 7) aWs aRs (σ.1 8) (σ.1 9) (σ.1 10) (σ.1 11) (σ.1 12)), rfl, ⟨by rw [an_strip, if_neg hn, hw]; try rfl, kd, wh, re, aTo, aPo, aRw, aRr, aWs, aRs, by rw [nw_strip, if_neg hn, hw]; rfl, by rw [nw_strip, if_neg hn]; exact hM⟩, by rw [ht]; exact hP, va_K.moved hW.alike hK, hD⟩, hS.F ht⟩) hS.2.2 dX8_strip_28

theorem in_X8_stand : ∀ w ∈ wsX80, w ∈ wsX8_stand := fun w h => List.mem_cons_of_mem _ (List.mem_append_right _ h)
set_option maxHeartbeats 8000000 in
set_option maxRecDepth 100000 in
theorem met_X8_stand (l : Launch) (Dg : va_G) (m0 z : Nat) (a : Nat → Nat) (y : Nat → ClassId) (σ : St) (kd : Int32) (wh : Int64) (re : UInt64) (aTo aPo : Nat → UInt64) (aRw : Nat → Int64) (aRr : Nat → UInt64) (aWs : Nat → Int64) (aRs : Nat → UInt64) (p1 : Int32) (p2 : Int32) (hV : vOK σ) (hM : mC σ aTo aPo aRw aRr aWs aRs)  : Met l yX8_stand wsX8_stand ({ frames := 1, cells := 0, slots := 0, locals := 22 }) (va_Pc [.ref m0, .int p1, .int p2] (wB Dg (mT y) (mW m0 a y (σ.1 0 0) kd (σ.1 2 0) (σ.1 2 1) (σ.1 2 2) (σ.1 2 3) (σ.1 2 4) wh re (σ.1 1) (σ.1 3) aTo aPo (σ.1 4) aRw aRr (σ.1 5) (σ.1 6) (σ.1 7) aWs aRs (σ.1 8) (σ.1 9) (σ.1 10) (σ.1 11) (σ.1 12)) z)) (va_Qi (fun (r : Int32) (u : va_W) => r = an_stand σ p1 p2 ∧ MI m0 a y (nw_stand σ p1 p2) u) (wE Dg (mT y) (va_A (mW m0 a y (σ.1 0 0) kd (σ.1 2 0) (σ.1 2 1) (σ.1 2 2) (σ.1 2 3) (σ.1 2 4) wh re (σ.1 1) (σ.1 3) aTo aPo (σ.1 4) aRw aRr (σ.1 5) (σ.1 6) (σ.1 7) aWs aRs (σ.1 8) (σ.1 9) (σ.1 10) (σ.1 11) (σ.1 12)) z)) (va_A (mW m0 a y (σ.1 0 0) kd (σ.1 2 0) (σ.1 2 1) (σ.1 2 2) (σ.1 2 3) (σ.1 2 4) wh re (σ.1 1) (σ.1 3) aTo aPo (σ.1 4) aRw aRr (σ.1 5) (σ.1 6) (σ.1 7) aWs aRs (σ.1 8) (σ.1 9) (σ.1 10) (σ.1 11) (σ.1 12)) z)) 0 0 (va_A (mW m0 a y (σ.1 0 0) kd (σ.1 2 0) (σ.1 2 1) (σ.1 2 2) (σ.1 2 3) (σ.1 2 4) wh re (σ.1 1) (σ.1 3) aTo aPo (σ.1 4) aRw aRr (σ.1 5) (σ.1 6) (σ.1 7) aWs aRs (σ.1 8) (σ.1 9) (σ.1 10) (σ.1 11) (σ.1 12)) z) := by
  refine Met.ofW (cc := cX8_stand) (maxL := 4) (ret := (some .int)) (by decide) rfl ?_
  intro p e s m args below meth c s₁ B hml hv
  obtain ⟨rfl, hsz, hP, hK, hD0⟩ := hv
  have hx := B.exec
  have hb := B.bytes
  have hr := B.returns
  have hts := atoms_spec (ws := wsX8_stand) B.pre
  have hown : s.vm.findClass RX8 = some m.cls := findClass_of_methodNamed B.named
  have hlocks := B.notSynchronized
  subst hsz
  have hD := hD0.self (sz := s.heap.size)
  generalize hAe : va_A (mW m0 a y (σ.1 0 0) kd (σ.1 2 0) (σ.1 2 1) (σ.1 2 2) (σ.1 2 3) (σ.1 2 4) wh re (σ.1 1) (σ.1 3) aTo aPo (σ.1 4) aRw aRr (σ.1 5) (σ.1 6) (σ.1 7) aWs aRs (σ.1 8) (σ.1 9) (σ.1 10) (σ.1 11) (σ.1 12)) s.heap.size = A at hD ⊢
  have hA : ∀ q : Nat, s.heap.size ≤ q → A q := fun q h => by rw [← hAe]; exact Or.inr h
  have hS : va_S A s.heap s.heap [] := va_S.rf
  have hP : va_P Dg vwCl (mW m0 a y (σ.1 0 0) kd (σ.1 2 0) (σ.1 2 1) (σ.1 2 2) (σ.1 2 3) (σ.1 2 4) wh re (σ.1 1) (σ.1 3) aTo aPo (σ.1 4) aRw aRr (σ.1 5) (σ.1 6) (σ.1 7) aWs aRs (σ.1 8) (σ.1 9) (σ.1 10) (σ.1 11) (σ.1 12)) s.heap := hP
  have hl := lv_entry ([.ref m0, .int p1, .int p2]) (n := 4) (Nat.le_of_ble_eq_true rfl)
  rw [lg_entry_eq]
  generalize (lg_sl ([.ref m0, .int p1, .int p2]) ++ List.replicate (4 - (lg_sl ([.ref m0, .int p1, .int p2])).length) Slot.unset).toArray = ls at hl ⊢
  have hl : lv_has ls 4 [(0, .ref m0), (1, .int p1), (2, .int p2)] := hl
  refine lv_aload_n hx hb dX8_stand_0 rfl (lv_at hl 0 rfl) ?_
  refine lv_iconst (v := 0) hx hb dX8_stand_1 (by decide) ?_
  refine va_put (D := Dg) (ci := 6) (v := .int 0) (ty := .int) (C := RX8) (T := TX8) (N := 26) hx hb hts in_X8_stand tyX8 tyX8_ok nmX8 hown hK hP hD hS 0 rfl rfl 0 (by decide) (hts (.fieldLink RX8 64 "OrreryWorksModel" "refused" "I") (by decide +kernel)) (fun _ h9 => h9) rfl (by decide +kernel) rfl rfl (Nat.le_of_ble_eq_true rfl) dX8_stand_2 (fun H locs hP hD hS => ?_)
  replace hP : va_P Dg vwCl (mW m0 a y 0 kd (σ.1 2 0) (σ.1 2 1) (σ.1 2 2) (σ.1 2 3) (σ.1 2 4) wh re (σ.1 1) (σ.1 3) aTo aPo (σ.1 4) aRw aRr (σ.1 5) (σ.1 6) (σ.1 7) aWs aRs (σ.1 8) (σ.1 9) (σ.1 10) (σ.1 11) (σ.1 12)) H := hP
  replace hD : va_D A (mW m0 a y 0 kd (σ.1 2 0) (σ.1 2 1) (σ.1 2 2) (σ.1 2 3) (σ.1 2 4) wh re (σ.1 1) (σ.1 3) aTo aPo (σ.1 4) aRw aRr (σ.1 5) (σ.1 6) (σ.1 7) aWs aRs (σ.1 8) (σ.1 9) (σ.1 10) (σ.1 11) (σ.1 12)) := hD
  refine lv_iload_n hx hb dX8_stand_5 rfl (lv_at hl 1 rfl) ?_
  refine lv_iconst (v := 0) hx hb dX8_stand_6 (by decide) ?_
  refine lv_iconst (v := 3) hx hb dX8_stand_7 (by decide) ?_
  refine vp_callSi ((va_runS (As := [.int p1, .int 0, .int 3]) (rest := []) ⟨hx, hb, hml, hown, hts⟩ (met_X8_isIn l p1 0 3) (va_cwS 3 hts gX8_stand_X8_isIn rfl rfl rfl (by decide +kernel) ⟨Nat.le_of_ble_eq_true rfl, Nat.le_of_ble_eq_true rfl⟩) ⟨fun _ _ _ _ q => q, fun U hU hW => ⟨rfl, trivial⟩⟩ rfl rfl hl.1 rfl (lv_room (Nat.le_of_ble_eq_true rfl)) dX8_stand_8 ⟨Nat.le_of_ble_eq_true rfl, Nat.le_of_ble_eq_true rfl⟩).run) (fun r hw => ?_)
  subst hw
  refine lv_if_eq (tgt := 24) hx hb dX8_stand_11 (by decide) (fun c_1 => ?_) (fun c_1 => ?_)
  · replace c_1 := bI_eq c_1
    refine lv_aload_n hx hb dX8_stand_24 rfl (lv_at hl 0 rfl) ?_
    refine lv_bipush (v := (-2)) hx hb dX8_stand_25 (by decide) ?_
    have hFc := wFree hD hS hA
    refine va_calli (va_runV (As := [.int (-2)]) (rest := []) ⟨hx, hb, hml, hown, hts⟩ (met_X8_refuse l Dg m0 H.size a y 0 kd (σ.1 2 0) (σ.1 2 1) (σ.1 2 2) (σ.1 2 3) (σ.1 2 4) wh re (σ.1 1) (σ.1 3) aTo aPo (σ.1 4) aRw aRr (σ.1 5) (σ.1 6) (σ.1 7) aWs aRs (σ.1 8) (σ.1 9) (σ.1 10) (σ.1 11) (σ.1 12) (-2) (by unfold vp_in; decide)) (cwV 1 hts gX8_stand_X8_refuse rfl rfl rfl (by decide +kernel) ⟨Nat.le_of_ble_eq_true rfl, Nat.le_of_ble_eq_true rfl⟩) (wPreV hK hP (hD.weaken (fun _ _ _ _ => trivial)) (va_recv hK hP (ci := 6) (q0 := 0) rfl rfl)) rfl rfl hl.1 rfl (lv_room (Nat.le_of_ble_eq_true rfl)) dX8_stand_27 ⟨Nat.le_of_ble_eq_true rfl, Nat.le_of_ble_eq_true rfl⟩) hS (fun q _ h => hFc q h) hFc (fun r u t H locs ht hvm hw hB _ _ hS => ?_)
    obtain ⟨hP, -, hD⟩ := hB
    rw [ht] at hP
    replace hD := hD.weaken (fun _ q _ h => hFc q.1 h)
    rw [hw.2] at hP hD
    rw [hw.1]
    clear hw hFc
    replace hP : va_P Dg vwCl (mW m0 a y (-2) kd (σ.1 2 0) (σ.1 2 1) (σ.1 2 2) (σ.1 2 3) (σ.1 2 4) wh re (rfO (-2) (σ.1 1)) (σ.1 3) aTo aPo (σ.1 4) aRw aRr (σ.1 5) (σ.1 6) (σ.1 7) aWs aRs (σ.1 8) (σ.1 9) (σ.1 10) (σ.1 11) (σ.1 12)) H := hP
    replace hD : va_D A (mW m0 a y (-2) kd (σ.1 2 0) (σ.1 2 1) (σ.1 2 2) (σ.1 2 3) (σ.1 2 4) wh re (rfO (-2) (σ.1 1)) (σ.1 3) aTo aPo (σ.1 4) aRw aRr (σ.1 5) (σ.1 6) (σ.1 7) aWs aRs (σ.1 8) (σ.1 9) (σ.1 10) (σ.1 11) (σ.1 12)) := hD
    have hw : wh_stand σ p1 p2 = (-2) := by simp only [wh_stand, if_neg c_1]
    have hn : ¬ wh_stand σ p1 p2 = 0 := by rw [hw]; decide
    exact W.iret (v := (-2)) hx hb hr (fun t ht hW => ⟨⟨_, (mW m0 a y (-2) kd (σ.1 2 0) (σ.1 2 1) (σ.1 2 2) (σ.1 2 3) (σ.1 2 4) wh re (rfO (-2) (σ.1 1)) (σ.1 3) aTo aPo (σ.1 4) aRw aRr (σ.1 5) (σ.1 6) (σ.1 7) aWs aRs (σ.1 8) (σ.1 9) (σ.1 10) (σ.1 11) (σ.1 12)), rfl, ⟨by rw [an_stand, if_neg hn, hw]; try rfl, kd, wh, re, aTo, aPo, aRw, aRr, aWs, aRs, by rw [nw_stand, if_neg hn, hw]; rfl, by rw [nw_stand, if_neg hn]; exact hM⟩, by rw [ht]; exact hP, va_K.moved hW.alike hK, hD⟩, hS.F ht⟩) hS.2.2 dX8_stand_30
  · replace c_1 := bI_ne c_1
    refine lv_iload_n hx hb dX8_stand_14 rfl (lv_at hl 2 rfl) ?_
    refine lv_iconst (v := 1) hx hb dX8_stand_15 (by decide) ?_
    refine lv_bipush (v := 6) hx hb dX8_stand_16 (by decide) ?_
    refine vp_callSi ((va_runS (As := [.int p2, .int 1, .int 6]) (rest := []) ⟨hx, hb, hml, hown, hts⟩ (met_X8_isIn l p2 1 6) (va_cwS 3 hts gX8_stand_X8_isIn rfl rfl rfl (by decide +kernel) ⟨Nat.le_of_ble_eq_true rfl, Nat.le_of_ble_eq_true rfl⟩) ⟨fun _ _ _ _ q => q, fun U hU hW => ⟨rfl, trivial⟩⟩ rfl rfl hl.1 rfl (lv_room (Nat.le_of_ble_eq_true rfl)) dX8_stand_18 ⟨Nat.le_of_ble_eq_true rfl, Nat.le_of_ble_eq_true rfl⟩).run) (fun r hw => ?_)
    subst hw
    refine lv_if_ne (tgt := 31) hx hb dX8_stand_21 (by decide) (fun c_2 => ?_) (fun c_2 => ?_)
    · replace c_2 := bI_ne c_2
      refine lv_aload_n hx hb dX8_stand_31 rfl (lv_at hl 0 rfl) ?_
      refine va_get (D := Dg) (ci := 6) (v := .int (σ.1 2 4)) (C := RX8) (T := TX8) (N := 26) hx hb hts in_X8_stand hown hK hP 0 rfl rfl 22 (by decide) (hts (.fieldLink RX8 195 "OrreryWorksModel" "stands" "I") (by decide +kernel)) (fun _ h9 => h9) rfl dX8_stand_32 ?_
      refine lv_bipush (v := 8) hx hb dX8_stand_35 (by decide) ?_
      refine lv_icmp_ne (tgt := 47) hx hb dX8_stand_37 (by decide) (fun c_3 => ?_) (fun c_3 => ?_)
      · refine lv_aload_n hx hb dX8_stand_47 rfl (lv_at hl 0 rfl) ?_
        refine va_get (D := Dg) (ci := 6) (v := .ref (a 14)) (C := RX8) (T := TX8) (N := 26) hx hb hts in_X8_stand hown hK hP 0 rfl rfl 23 (by decide) (hts (.fieldLink RX8 55 "OrreryWorksModel" "standSort" "[I") (by decide +kernel)) (fun _ h9 => h9) rfl dX8_stand_48 ?_
        refine lv_aload_n hx hb dX8_stand_51 rfl (lv_at hl 0 rfl) ?_
        refine va_get (D := Dg) (ci := 6) (v := .int (σ.1 2 4)) (C := RX8) (T := TX8) (N := 26) hx hb hts in_X8_stand hown hK hP 0 rfl rfl 22 (by decide) (hts (.fieldLink RX8 195 "OrreryWorksModel" "stands" "I") (by decide +kernel)) (fun _ h9 => h9) rfl dX8_stand_52 ?_
        refine lv_iload_n hx hb dX8_stand_55 rfl (lv_at hl 1 rfl) ?_
        refine va_iast hx hb hK hP hD hS 15 14 rfl rfl (top_in hV.1.2.2.2.2 (m := 8) rfl c_3) dX8_stand_56 (fun H locs hP hD hS => ?_)
        replace hP : va_P Dg vwCl (mW m0 a y 0 kd (σ.1 2 0) (σ.1 2 1) (σ.1 2 2) (σ.1 2 3) (σ.1 2 4) wh re (σ.1 1) (σ.1 3) aTo aPo (σ.1 4) aRw aRr (σ.1 5) (σ.1 6) (σ.1 7) aWs aRs (σ.1 8) (σ.1 9) (upd (σ.1 10) (σ.1 2 4).toNatClampNeg p1) (σ.1 11) (σ.1 12)) H := hP
        replace hD : va_D A (mW m0 a y 0 kd (σ.1 2 0) (σ.1 2 1) (σ.1 2 2) (σ.1 2 3) (σ.1 2 4) wh re (σ.1 1) (σ.1 3) aTo aPo (σ.1 4) aRw aRr (σ.1 5) (σ.1 6) (σ.1 7) aWs aRs (σ.1 8) (σ.1 9) (upd (σ.1 10) (σ.1 2 4).toNatClampNeg p1) (σ.1 11) (σ.1 12)) := hD
        refine lv_aload_n hx hb dX8_stand_57 rfl (lv_at hl 0 rfl) ?_
        refine va_get (D := Dg) (ci := 6) (v := .ref (a 15)) (C := RX8) (T := TX8) (N := 26) hx hb hts in_X8_stand hown hK hP 0 rfl rfl 24 (by decide) (hts (.fieldLink RX8 58 "OrreryWorksModel" "standSize" "[I") (by decide +kernel)) (fun _ h9 => h9) rfl dX8_stand_58 ?_
        refine lv_aload_n hx hb dX8_stand_61 rfl (lv_at hl 0 rfl) ?_
        refine va_get (D := Dg) (ci := 6) (v := .int (σ.1 2 4)) (C := RX8) (T := TX8) (N := 26) hx hb hts in_X8_stand hown hK hP 0 rfl rfl 22 (by decide) (hts (.fieldLink RX8 195 "OrreryWorksModel" "stands" "I") (by decide +kernel)) (fun _ h9 => h9) rfl dX8_stand_62 ?_
        refine lv_iload_n hx hb dX8_stand_65 rfl (lv_at hl 2 rfl) ?_
        refine va_iast hx hb hK hP hD hS 16 15 rfl rfl (top_in hV.1.2.2.2.2 (m := 8) rfl c_3) dX8_stand_66 (fun H locs hP hD hS => ?_)
        replace hP : va_P Dg vwCl (mW m0 a y 0 kd (σ.1 2 0) (σ.1 2 1) (σ.1 2 2) (σ.1 2 3) (σ.1 2 4) wh re (σ.1 1) (σ.1 3) aTo aPo (σ.1 4) aRw aRr (σ.1 5) (σ.1 6) (σ.1 7) aWs aRs (σ.1 8) (σ.1 9) (upd (σ.1 10) (σ.1 2 4).toNatClampNeg p1) (upd (σ.1 11) (σ.1 2 4).toNatClampNeg p2) (σ.1 12)) H := hP
        replace hD : va_D A (mW m0 a y 0 kd (σ.1 2 0) (σ.1 2 1) (σ.1 2 2) (σ.1 2 3) (σ.1 2 4) wh re (σ.1 1) (σ.1 3) aTo aPo (σ.1 4) aRw aRr (σ.1 5) (σ.1 6) (σ.1 7) aWs aRs (σ.1 8) (σ.1 9) (upd (σ.1 10) (σ.1 2 4).toNatClampNeg p1) (upd (σ.1 11) (σ.1 2 4).toNatClampNeg p2) (σ.1 12)) := hD
        refine lv_iconst (v := 0) hx hb dX8_stand_67 (by decide) ?_
        refine lv_istore_n (lv' := [(3, .int 0), (0, .ref m0), (1, .int p1), (2, .int p2)]) hx hb dX8_stand_68 rfl hl (by decide) rfl (fun ls hl => ?_)
        have hc0 : vp_in (σ.1 2 4) 8 := top_in hV.1.2.2.2.2 (m := 8) rfl c_3
        have hcr := vp_in_iff.mp hc0
        have hq : ∃ j : Nat, lv_has ls 4 [(3, .int (nI j)), (0, .ref m0), (1, .int p1), (2, .int p2)] ∧ j ≤ 6 ∧ va_P Dg vwCl (mW m0 a y 0 kd (σ.1 2 0) (σ.1 2 1) (σ.1 2 2) (σ.1 2 3) (σ.1 2 4) wh re (σ.1 1) (σ.1 3) aTo aPo (σ.1 4) aRw aRr (σ.1 5) (σ.1 6) (σ.1 7) aWs aRs (σ.1 8) (σ.1 9) (upd (σ.1 10) (σ.1 2 4).toNatClampNeg p1) (upd (σ.1 11) (σ.1 2 4).toNatClampNeg p2) (stF (-1) (σ.1 12) (6 * (σ.1 2 4).toNatClampNeg) j)) H ∧ va_D A (mW m0 a y 0 kd (σ.1 2 0) (σ.1 2 1) (σ.1 2 2) (σ.1 2 3) (σ.1 2 4) wh re (σ.1 1) (σ.1 3) aTo aPo (σ.1 4) aRw aRr (σ.1 5) (σ.1 6) (σ.1 7) aWs aRs (σ.1 8) (σ.1 9) (upd (σ.1 10) (σ.1 2 4).toNatClampNeg p1) (upd (σ.1 11) (σ.1 2 4).toNatClampNeg p2) (stF (-1) (σ.1 12) (6 * (σ.1 2 4).toNatClampNeg) j)) := ⟨0, hl, Nat.zero_le _, by simp only [stF_0]; exact hP, by simp only [stF_0]; exact hD⟩
        clear hl hP hD
        obtain ⟨j, hl, hj, hP, hD⟩ := hq
        obtain ⟨n, hn⟩ : ∃ n : Nat, j + n = 6 := ⟨6 - j, by omega⟩
        induction n generalizing j ls H locs with
        | zero =>
          obtain rfl : j = 6 := by omega
          have d1 : (6 : Int32) ≤ nI 6 := by decide
          refine lv_iload_n hx hb dX8_stand_69 rfl (lv_at hl 0 rfl) ?_
          refine lv_bipush (v := 6) hx hb dX8_stand_70 (by decide) ?_
          refine lv_icmp_ge (tgt := 96) hx hb dX8_stand_72 (by decide) (fun _ => ?_) (fun h0 => absurd d1 h0)
          refine lv_aload_n hx hb dX8_stand_96 rfl (lv_at hl 1 rfl) ?_
          refine lv_dup hx hb dX8_stand_97 rfl ?_
          refine va_get (D := Dg) (ci := 6) (v := .int (σ.1 2 4)) (C := RX8) (T := TX8) (N := 26) hx hb hts in_X8_stand hown hK hP 0 rfl rfl 22 (by decide) (hts (.fieldLink RX8 195 "OrreryWorksModel" "stands" "I") (by decide +kernel)) (fun _ h9 => h9) rfl dX8_stand_98 ?_
          refine lv_iconst (v := 1) hx hb dX8_stand_101 (by decide) ?_
          refine lv_iadd hx hb dX8_stand_102 ?_
          refine va_put (D := Dg) (ci := 6) (v := .int ((σ.1 2 4) + 1)) (ty := .int) (C := RX8) (T := TX8) (N := 26) hx hb hts in_X8_stand tyX8 tyX8_ok nmX8 hown hK hP hD hS 0 rfl rfl 22 (by decide) (hts (.fieldLink RX8 195 "OrreryWorksModel" "stands" "I") (by decide +kernel)) (fun _ h9 => h9) rfl (by decide +kernel) rfl rfl (Nat.le_of_ble_eq_true rfl) dX8_stand_103 (fun H locs hP hD hS => ?_)
          replace hP : va_P Dg vwCl (mW m0 a y 0 kd (σ.1 2 0) (σ.1 2 1) (σ.1 2 2) (σ.1 2 3) ((σ.1 2 4) + 1) wh re (σ.1 1) (σ.1 3) aTo aPo (σ.1 4) aRw aRr (σ.1 5) (σ.1 6) (σ.1 7) aWs aRs (σ.1 8) (σ.1 9) (upd (σ.1 10) (σ.1 2 4).toNatClampNeg p1) (upd (σ.1 11) (σ.1 2 4).toNatClampNeg p2) (stF (-1) (σ.1 12) (6 * (σ.1 2 4).toNatClampNeg) 6)) H := hP
          replace hD : va_D A (mW m0 a y 0 kd (σ.1 2 0) (σ.1 2 1) (σ.1 2 2) (σ.1 2 3) ((σ.1 2 4) + 1) wh re (σ.1 1) (σ.1 3) aTo aPo (σ.1 4) aRw aRr (σ.1 5) (σ.1 6) (σ.1 7) aWs aRs (σ.1 8) (σ.1 9) (upd (σ.1 10) (σ.1 2 4).toNatClampNeg p1) (upd (σ.1 11) (σ.1 2 4).toNatClampNeg p2) (stF (-1) (σ.1 12) (6 * (σ.1 2 4).toNatClampNeg) 6)) := hD
          refine lv_aload_n hx hb dX8_stand_106 rfl (lv_at hl 1 rfl) ?_
          refine va_get (D := Dg) (ci := 6) (v := .int ((σ.1 2 4) + 1)) (C := RX8) (T := TX8) (N := 26) hx hb hts in_X8_stand hown hK hP 0 rfl rfl 22 (by decide) (hts (.fieldLink RX8 195 "OrreryWorksModel" "stands" "I") (by decide +kernel)) (fun _ h9 => h9) rfl dX8_stand_107 ?_
          refine lv_iconst (v := 1) hx hb dX8_stand_110 (by decide) ?_
          refine lv_isub hx hb dX8_stand_111 ?_
          have hw : wh_stand σ p1 p2 = 0 := by simp only [wh_stand, if_pos c_1, if_pos c_2, if_neg c_3]
          exact W.iret (v := ((σ.1 2 4) + 1) - 1) hx hb hr (fun t ht hW => ⟨⟨_, (mW m0 a y 0 kd (σ.1 2 0) (σ.1 2 1) (σ.1 2 2) (σ.1 2 3) ((σ.1 2 4) + 1) wh re (σ.1 1) (σ.1 3) aTo aPo (σ.1 4) aRw aRr (σ.1 5) (σ.1 6) (σ.1 7) aWs aRs (σ.1 8) (σ.1 9) (upd (σ.1 10) (σ.1 2 4).toNatClampNeg p1) (upd (σ.1 11) (σ.1 2 4).toNatClampNeg p2) (stF (-1) (σ.1 12) (6 * (σ.1 2 4).toNatClampNeg) 6)), rfl, ⟨by rw [an_stand, if_pos hw]; exact inc_dec, kd, wh, re, aTo, aPo, aRw, aRr, aWs, aRs, by rw [nw_stand, if_pos hw]; rfl, by rw [nw_stand, if_pos hw]; exact hM⟩, by rw [ht]; exact hP, va_K.moved hW.alike hK, hD⟩, hS.F ht⟩) hS.2.2 dX8_stand_112
        | succ n ih =>
          have d1 : ¬ (6 : Int32) ≤ nI j := fun g => by rw [Int32.le_iff_toInt_le, nI_toInt (by omega)] at g; have : (6 : Int32).toInt = 6 := rfl; omega
          have hjr : 0 ≤ (nI j).toInt ∧ (nI j).toInt < 6 := by rw [nI_toInt (by omega)]; omega
          have hm := mix6 hcr hjr
          have hm2 : (6 * σ.1 2 4 + nI j).toNatClampNeg = 6 * (σ.1 2 4).toNatClampNeg + j := by rw [hm.2]; show _ + (nI j).toNatClampNeg = _; rw [nI_clamp (by omega)]
          refine lv_iload_n hx hb dX8_stand_69 rfl (lv_at hl 0 rfl) ?_
          refine lv_bipush (v := 6) hx hb dX8_stand_70 (by decide) ?_
          refine lv_icmp_ge (tgt := 96) hx hb dX8_stand_72 (by decide) (fun h0 => absurd h0 d1) (fun _ => ?_)
          refine lv_aload_n hx hb dX8_stand_75 rfl (lv_at hl 1 rfl) ?_
          refine va_get (D := Dg) (ci := 6) (v := .ref (a 16)) (C := RX8) (T := TX8) (N := 26) hx hb hts in_X8_stand hown hK hP 0 rfl rfl 25 (by decide) (hts (.fieldLink RX8 61 "OrreryWorksModel" "shown" "[I") (by decide +kernel)) (fun _ h9 => h9) rfl dX8_stand_76 ?_
          refine lv_bipush (v := 6) hx hb dX8_stand_79 (by decide) ?_
          refine lv_aload_n hx hb dX8_stand_81 rfl (lv_at hl 1 rfl) ?_
          refine va_get (D := Dg) (ci := 6) (v := .int (σ.1 2 4)) (C := RX8) (T := TX8) (N := 26) hx hb hts in_X8_stand hown hK hP 0 rfl rfl 22 (by decide) (hts (.fieldLink RX8 195 "OrreryWorksModel" "stands" "I") (by decide +kernel)) (fun _ h9 => h9) rfl dX8_stand_82 ?_
          refine lv_imul hx hb dX8_stand_85 ?_
          refine lv_iload_n hx hb dX8_stand_86 rfl (lv_at hl 0 rfl) ?_
          refine lv_iadd hx hb dX8_stand_87 ?_
          refine lv_iconst (v := (-1)) hx hb dX8_stand_88 (by decide) ?_
          refine va_iast hx hb hK hP hD hS 17 16 rfl rfl hm.1 dX8_stand_89 (fun H locs hP hD hS => ?_)
          replace hP : va_P Dg vwCl (mW m0 a y 0 kd (σ.1 2 0) (σ.1 2 1) (σ.1 2 2) (σ.1 2 3) (σ.1 2 4) wh re (σ.1 1) (σ.1 3) aTo aPo (σ.1 4) aRw aRr (σ.1 5) (σ.1 6) (σ.1 7) aWs aRs (σ.1 8) (σ.1 9) (upd (σ.1 10) (σ.1 2 4).toNatClampNeg p1) (upd (σ.1 11) (σ.1 2 4).toNatClampNeg p2) (upd (stF (-1) (σ.1 12) (6 * (σ.1 2 4).toNatClampNeg) j) ((6 * (σ.1 2 4)) + (nI j)).toNatClampNeg (-1))) H := hP
          replace hD : va_D A (mW m0 a y 0 kd (σ.1 2 0) (σ.1 2 1) (σ.1 2 2) (σ.1 2 3) (σ.1 2 4) wh re (σ.1 1) (σ.1 3) aTo aPo (σ.1 4) aRw aRr (σ.1 5) (σ.1 6) (σ.1 7) aWs aRs (σ.1 8) (σ.1 9) (upd (σ.1 10) (σ.1 2 4).toNatClampNeg p1) (upd (σ.1 11) (σ.1 2 4).toNatClampNeg p2) (upd (stF (-1) (σ.1 12) (6 * (σ.1 2 4).toNatClampNeg) j) ((6 * (σ.1 2 4)) + (nI j)).toNatClampNeg (-1))) := hD
          refine lv_iinc (v := (nI j) + 1) (lv' := [(3, .int ((nI j) + 1)), (0, .ref m0), (1, .int p1), (2, .int p2)]) hx hb dX8_stand_90 hl (k := 0) rfl rfl (by decide) rfl (fun ls hl => ?_)
          refine lv_goto (tgt := 69) hx hb dX8_stand_93 (by decide) ?_
          exact ih (j := j + 1) (hS := hS) (hl := by rw [← nI_1]; exact hl) (hj := by omega) (hP := by rw [hm2, stF_I] at hP; exact hP) (hD := by rw [hm2, stF_I] at hD; exact hD) (hn := by omega)
      · refine lv_aload_n hx hb dX8_stand_40 rfl (lv_at hl 0 rfl) ?_
        refine lv_bipush (v := (-3)) hx hb dX8_stand_41 (by decide) ?_
        have hFc := wFree hD hS hA
        refine va_calli (va_runV (As := [.int (-3)]) (rest := []) ⟨hx, hb, hml, hown, hts⟩ (met_X8_refuse l Dg m0 H.size a y 0 kd (σ.1 2 0) (σ.1 2 1) (σ.1 2 2) (σ.1 2 3) (σ.1 2 4) wh re (σ.1 1) (σ.1 3) aTo aPo (σ.1 4) aRw aRr (σ.1 5) (σ.1 6) (σ.1 7) aWs aRs (σ.1 8) (σ.1 9) (σ.1 10) (σ.1 11) (σ.1 12) (-3) (by unfold vp_in; decide)) (cwV 1 hts gX8_stand_X8_refuse rfl rfl rfl (by decide +kernel) ⟨Nat.le_of_ble_eq_true rfl, Nat.le_of_ble_eq_true rfl⟩) (wPreV hK hP (hD.weaken (fun _ _ _ _ => trivial)) (va_recv hK hP (ci := 6) (q0 := 0) rfl rfl)) rfl rfl hl.1 rfl (lv_room (Nat.le_of_ble_eq_true rfl)) dX8_stand_43 ⟨Nat.le_of_ble_eq_true rfl, Nat.le_of_ble_eq_true rfl⟩) hS (fun q _ h => hFc q h) hFc (fun r u t H locs ht hvm hw hB _ _ hS => ?_)
        obtain ⟨hP, -, hD⟩ := hB
        rw [ht] at hP
        replace hD := hD.weaken (fun _ q _ h => hFc q.1 h)
        rw [hw.2] at hP hD
        rw [hw.1]
        clear hw hFc
        replace hP : va_P Dg vwCl (mW m0 a y (-3) kd (σ.1 2 0) (σ.1 2 1) (σ.1 2 2) (σ.1 2 3) (σ.1 2 4) wh re (rfO (-3) (σ.1 1)) (σ.1 3) aTo aPo (σ.1 4) aRw aRr (σ.1 5) (σ.1 6) (σ.1 7) aWs aRs (σ.1 8) (σ.1 9) (σ.1 10) (σ.1 11) (σ.1 12)) H := hP
        replace hD : va_D A (mW m0 a y (-3) kd (σ.1 2 0) (σ.1 2 1) (σ.1 2 2) (σ.1 2 3) (σ.1 2 4) wh re (rfO (-3) (σ.1 1)) (σ.1 3) aTo aPo (σ.1 4) aRw aRr (σ.1 5) (σ.1 6) (σ.1 7) aWs aRs (σ.1 8) (σ.1 9) (σ.1 10) (σ.1 11) (σ.1 12)) := hD
        have hw : wh_stand σ p1 p2 = (-3) := by simp only [wh_stand, if_pos c_1, if_pos c_2, if_pos c_3]
        have hn : ¬ wh_stand σ p1 p2 = 0 := by rw [hw]; decide
        exact W.iret (v := (-3)) hx hb hr (fun t ht hW => ⟨⟨_, (mW m0 a y (-3) kd (σ.1 2 0) (σ.1 2 1) (σ.1 2 2) (σ.1 2 3) (σ.1 2 4) wh re (rfO (-3) (σ.1 1)) (σ.1 3) aTo aPo (σ.1 4) aRw aRr (σ.1 5) (σ.1 6) (σ.1 7) aWs aRs (σ.1 8) (σ.1 9) (σ.1 10) (σ.1 11) (σ.1 12)), rfl, ⟨by rw [an_stand, if_neg hn, hw]; try rfl, kd, wh, re, aTo, aPo, aRw, aRr, aWs, aRs, by rw [nw_stand, if_neg hn, hw]; rfl, by rw [nw_stand, if_neg hn]; exact hM⟩, by rw [ht]; exact hP, va_K.moved hW.alike hK, hD⟩, hS.F ht⟩) hS.2.2 dX8_stand_46
    · replace c_2 := bI_eq c_2
      refine lv_aload_n hx hb dX8_stand_24 rfl (lv_at hl 0 rfl) ?_
      refine lv_bipush (v := (-2)) hx hb dX8_stand_25 (by decide) ?_
      have hFc := wFree hD hS hA
      refine va_calli (va_runV (As := [.int (-2)]) (rest := []) ⟨hx, hb, hml, hown, hts⟩ (met_X8_refuse l Dg m0 H.size a y 0 kd (σ.1 2 0) (σ.1 2 1) (σ.1 2 2) (σ.1 2 3) (σ.1 2 4) wh re (σ.1 1) (σ.1 3) aTo aPo (σ.1 4) aRw aRr (σ.1 5) (σ.1 6) (σ.1 7) aWs aRs (σ.1 8) (σ.1 9) (σ.1 10) (σ.1 11) (σ.1 12) (-2) (by unfold vp_in; decide)) (cwV 1 hts gX8_stand_X8_refuse rfl rfl rfl (by decide +kernel) ⟨Nat.le_of_ble_eq_true rfl, Nat.le_of_ble_eq_true rfl⟩) (wPreV hK hP (hD.weaken (fun _ _ _ _ => trivial)) (va_recv hK hP (ci := 6) (q0 := 0) rfl rfl)) rfl rfl hl.1 rfl (lv_room (Nat.le_of_ble_eq_true rfl)) dX8_stand_27 ⟨Nat.le_of_ble_eq_true rfl, Nat.le_of_ble_eq_true rfl⟩) hS (fun q _ h => hFc q h) hFc (fun r u t H locs ht hvm hw hB _ _ hS => ?_)
      obtain ⟨hP, -, hD⟩ := hB
      rw [ht] at hP
      replace hD := hD.weaken (fun _ q _ h => hFc q.1 h)
      rw [hw.2] at hP hD
      rw [hw.1]
      clear hw hFc
      replace hP : va_P Dg vwCl (mW m0 a y (-2) kd (σ.1 2 0) (σ.1 2 1) (σ.1 2 2) (σ.1 2 3) (σ.1 2 4) wh re (rfO (-2) (σ.1 1)) (σ.1 3) aTo aPo (σ.1 4) aRw aRr (σ.1 5) (σ.1 6) (σ.1 7) aWs aRs (σ.1 8) (σ.1 9) (σ.1 10) (σ.1 11) (σ.1 12)) H := hP
      replace hD : va_D A (mW m0 a y (-2) kd (σ.1 2 0) (σ.1 2 1) (σ.1 2 2) (σ.1 2 3) (σ.1 2 4) wh re (rfO (-2) (σ.1 1)) (σ.1 3) aTo aPo (σ.1 4) aRw aRr (σ.1 5) (σ.1 6) (σ.1 7) aWs aRs (σ.1 8) (σ.1 9) (σ.1 10) (σ.1 11) (σ.1 12)) := hD
      have hw : wh_stand σ p1 p2 = (-2) := by simp only [wh_stand, if_pos c_1, if_neg c_2]
      have hn : ¬ wh_stand σ p1 p2 = 0 := by rw [hw]; decide
      exact W.iret (v := (-2)) hx hb hr (fun t ht hW => ⟨⟨_, (mW m0 a y (-2) kd (σ.1 2 0) (σ.1 2 1) (σ.1 2 2) (σ.1 2 3) (σ.1 2 4) wh re (rfO (-2) (σ.1 1)) (σ.1 3) aTo aPo (σ.1 4) aRw aRr (σ.1 5) (σ.1 6) (σ.1 7) aWs aRs (σ.1 8) (σ.1 9) (σ.1 10) (σ.1 11) (σ.1 12)), rfl, ⟨by rw [an_stand, if_neg hn, hw]; try rfl, kd, wh, re, aTo, aPo, aRw, aRr, aWs, aRs, by rw [nw_stand, if_neg hn, hw]; rfl, by rw [nw_stand, if_neg hn]; exact hM⟩, by rw [ht]; exact hP, va_K.moved hW.alike hK, hD⟩, hS.F ht⟩) hS.2.2 dX8_stand_30

theorem in_X8_rests : ∀ w ∈ wsX80, w ∈ wsX8_rests := fun w h => List.mem_cons_of_mem _ (List.mem_append_right _ h)
set_option maxHeartbeats 8000000 in
set_option maxRecDepth 100000 in
theorem met_X8_rests (l : Launch) (Dg : va_G) (m0 z : Nat) (a : Nat → Nat) (y : Nat → ClassId) (σ : St) (kd : Int32) (wh : Int64) (re : UInt64) (aTo aPo : Nat → UInt64) (aRw : Nat → Int64) (aRr : Nat → UInt64) (aWs : Nat → Int64) (aRs : Nat → UInt64) (p1 : Int32) (p2 : Int32) (hV : vOK σ) (hM : mC σ aTo aPo aRw aRr aWs aRs)  : Met l yX8_rests wsX8_rests ({ frames := 2, cells := 0, slots := 0, locals := 44 }) (va_Pc [.ref m0, .int p1, .int p2] (wB Dg (mT y) (mW m0 a y (σ.1 0 0) kd (σ.1 2 0) (σ.1 2 1) (σ.1 2 2) (σ.1 2 3) (σ.1 2 4) wh re (σ.1 1) (σ.1 3) aTo aPo (σ.1 4) aRw aRr (σ.1 5) (σ.1 6) (σ.1 7) aWs aRs (σ.1 8) (σ.1 9) (σ.1 10) (σ.1 11) (σ.1 12)) z)) (va_Qi (fun (r : Int32) (u : va_W) => r = an_rests σ p1 p2 ∧ MI m0 a y (nw_rests σ p1 p2) u) (wE Dg (mT y) (va_A (mW m0 a y (σ.1 0 0) kd (σ.1 2 0) (σ.1 2 1) (σ.1 2 2) (σ.1 2 3) (σ.1 2 4) wh re (σ.1 1) (σ.1 3) aTo aPo (σ.1 4) aRw aRr (σ.1 5) (σ.1 6) (σ.1 7) aWs aRs (σ.1 8) (σ.1 9) (σ.1 10) (σ.1 11) (σ.1 12)) z)) (va_A (mW m0 a y (σ.1 0 0) kd (σ.1 2 0) (σ.1 2 1) (σ.1 2 2) (σ.1 2 3) (σ.1 2 4) wh re (σ.1 1) (σ.1 3) aTo aPo (σ.1 4) aRw aRr (σ.1 5) (σ.1 6) (σ.1 7) aWs aRs (σ.1 8) (σ.1 9) (σ.1 10) (σ.1 11) (σ.1 12)) z)) 0 0 (va_A (mW m0 a y (σ.1 0 0) kd (σ.1 2 0) (σ.1 2 1) (σ.1 2 2) (σ.1 2 3) (σ.1 2 4) wh re (σ.1 1) (σ.1 3) aTo aPo (σ.1 4) aRw aRr (σ.1 5) (σ.1 6) (σ.1 7) aWs aRs (σ.1 8) (σ.1 9) (σ.1 10) (σ.1 11) (σ.1 12)) z) := by
  refine Met.ofW (cc := cX8_rests) (maxL := 11) (ret := (some .int)) (by decide) rfl ?_
  intro p e s m args below meth c s₁ B hml hv
  obtain ⟨rfl, hsz, hP, hK, hD0⟩ := hv
  have hx := B.exec
  have hb := B.bytes
  have hr := B.returns
  have hts := atoms_spec (ws := wsX8_rests) B.pre
  have hown : s.vm.findClass RX8 = some m.cls := findClass_of_methodNamed B.named
  have hlocks := B.notSynchronized
  subst hsz
  have hD := hD0.self (sz := s.heap.size)
  generalize hAe : va_A (mW m0 a y (σ.1 0 0) kd (σ.1 2 0) (σ.1 2 1) (σ.1 2 2) (σ.1 2 3) (σ.1 2 4) wh re (σ.1 1) (σ.1 3) aTo aPo (σ.1 4) aRw aRr (σ.1 5) (σ.1 6) (σ.1 7) aWs aRs (σ.1 8) (σ.1 9) (σ.1 10) (σ.1 11) (σ.1 12)) s.heap.size = A at hD ⊢
  have hA : ∀ q : Nat, s.heap.size ≤ q → A q := fun q h => by rw [← hAe]; exact Or.inr h
  have hS : va_S A s.heap s.heap [] := va_S.rf
  have hP : va_P Dg vwCl (mW m0 a y (σ.1 0 0) kd (σ.1 2 0) (σ.1 2 1) (σ.1 2 2) (σ.1 2 3) (σ.1 2 4) wh re (σ.1 1) (σ.1 3) aTo aPo (σ.1 4) aRw aRr (σ.1 5) (σ.1 6) (σ.1 7) aWs aRs (σ.1 8) (σ.1 9) (σ.1 10) (σ.1 11) (σ.1 12)) s.heap := hP
  have hl := lv_entry ([.ref m0, .int p1, .int p2]) (n := 11) (Nat.le_of_ble_eq_true rfl)
  rw [lg_entry_eq]
  generalize (lg_sl ([.ref m0, .int p1, .int p2]) ++ List.replicate (11 - (lg_sl ([.ref m0, .int p1, .int p2])).length) Slot.unset).toArray = ls at hl ⊢
  have hl : lv_has ls 11 [(0, .ref m0), (1, .int p1), (2, .int p2)] := hl
  refine lv_aload_n hx hb dX8_rests_0 rfl (lv_at hl 0 rfl) ?_
  refine lv_iconst (v := 0) hx hb dX8_rests_1 (by decide) ?_
  refine va_put (D := Dg) (ci := 6) (v := .int 0) (ty := .int) (C := RX8) (T := TX8) (N := 26) hx hb hts in_X8_rests tyX8 tyX8_ok nmX8 hown hK hP hD hS 0 rfl rfl 0 (by decide) (hts (.fieldLink RX8 64 "OrreryWorksModel" "refused" "I") (by decide +kernel)) (fun _ h9 => h9) rfl (by decide +kernel) rfl rfl (Nat.le_of_ble_eq_true rfl) dX8_rests_2 (fun H locs hP hD hS => ?_)
  have hP : va_P Dg vwCl (mW m0 a y 0 kd (σ.1 2 0) (σ.1 2 1) (σ.1 2 2) (σ.1 2 3) (σ.1 2 4) wh re (σ.1 1) (σ.1 3) aTo aPo (σ.1 4) aRw aRr (σ.1 5) (σ.1 6) (σ.1 7) aWs aRs (σ.1 8) (σ.1 9) (σ.1 10) (σ.1 11) (σ.1 12)) H := hP
  have hD : va_D A (mW m0 a y 0 kd (σ.1 2 0) (σ.1 2 1) (σ.1 2 2) (σ.1 2 3) (σ.1 2 4) wh re (σ.1 1) (σ.1 3) aTo aPo (σ.1 4) aRw aRr (σ.1 5) (σ.1 6) (σ.1 7) aWs aRs (σ.1 8) (σ.1 9) (σ.1 10) (σ.1 11) (σ.1 12)) := hD
  refine lv_aload_n hx hb dX8_rests_5 rfl (lv_at hl 0 rfl) ?_
  refine lv_iload_n hx hb dX8_rests_6 rfl (lv_at hl 1 rfl) ?_
  refine vp_callSi ((va_runV (As := [.int p1]) (rest := []) ⟨hx, hb, hml, hown, hts⟩ (met_X8_isStrip l Dg m0 H.size a y 0 kd (σ.1 2 0) (σ.1 2 1) (σ.1 2 2) (σ.1 2 3) (σ.1 2 4) wh re (σ.1 1) (σ.1 3) aTo aPo (σ.1 4) aRw aRr (σ.1 5) (σ.1 6) (σ.1 7) aWs aRs (σ.1 8) (σ.1 9) (σ.1 10) (σ.1 11) (σ.1 12) p1 ) (cwV 1 hts gX8_rests_X8_isStrip rfl rfl rfl (by decide +kernel) ⟨Nat.le_of_ble_eq_true rfl, Nat.le_of_ble_eq_true rfl⟩) (wPreV hK hP (hD.weaken (fun _ _ _ _ => trivial)) (va_recv hK hP (ci := 6) (q0 := 0) rfl rfl)) rfl rfl hl.1 rfl (lv_room (Nat.le_of_ble_eq_true rfl)) dX8_rests_7 ⟨Nat.le_of_ble_eq_true rfl, Nat.le_of_ble_eq_true rfl⟩).run) (fun r hw => ?_)
  rw [hw]
  refine lv_if_eq (tgt := 21) hx hb dX8_rests_10 (by decide) (fun c_1 => ?_) (fun c_1 => ?_)
  · replace c_1 := bI_eq c_1
    refine lv_aload_n hx hb dX8_rests_21 rfl (lv_at hl 0 rfl) ?_
    refine lv_bipush (v := (-2)) hx hb dX8_rests_22 (by decide) ?_
    have hFc := wFree hD hS hA
    refine va_calli (va_runV (As := [.int (-2)]) (rest := []) ⟨hx, hb, hml, hown, hts⟩ (met_X8_refuse l Dg m0 H.size a y 0 kd (σ.1 2 0) (σ.1 2 1) (σ.1 2 2) (σ.1 2 3) (σ.1 2 4) wh re (σ.1 1) (σ.1 3) aTo aPo (σ.1 4) aRw aRr (σ.1 5) (σ.1 6) (σ.1 7) aWs aRs (σ.1 8) (σ.1 9) (σ.1 10) (σ.1 11) (σ.1 12) (-2) (by unfold vp_in; decide)) (cwV 1 hts gX8_rests_X8_refuse rfl rfl rfl (by decide +kernel) ⟨Nat.le_of_ble_eq_true rfl, Nat.le_of_ble_eq_true rfl⟩) (wPreV hK hP (hD.weaken (fun _ _ _ _ => trivial)) (va_recv hK hP (ci := 6) (q0 := 0) rfl rfl)) rfl rfl hl.1 rfl (lv_room (Nat.le_of_ble_eq_true rfl)) dX8_rests_24 ⟨Nat.le_of_ble_eq_true rfl, Nat.le_of_ble_eq_true rfl⟩) hS (fun q _ h => hFc q h) hFc (fun r u t H locs ht hvm hw hB _ _ hS => ?_)
    obtain ⟨hP, -, hD⟩ := hB
    rw [ht] at hP
    replace hD := hD.weaken (fun _ q _ h => hFc q.1 h)
    rw [hw.2] at hP hD
    rw [hw.1]
    clear hw hFc
    have hP : va_P Dg vwCl (mW m0 a y (-2) kd (σ.1 2 0) (σ.1 2 1) (σ.1 2 2) (σ.1 2 3) (σ.1 2 4) wh re (rfO (-2) (σ.1 1)) (σ.1 3) aTo aPo (σ.1 4) aRw aRr (σ.1 5) (σ.1 6) (σ.1 7) aWs aRs (σ.1 8) (σ.1 9) (σ.1 10) (σ.1 11) (σ.1 12)) H := hP
    have hD : va_D A (mW m0 a y (-2) kd (σ.1 2 0) (σ.1 2 1) (σ.1 2 2) (σ.1 2 3) (σ.1 2 4) wh re (rfO (-2) (σ.1 1)) (σ.1 3) aTo aPo (σ.1 4) aRw aRr (σ.1 5) (σ.1 6) (σ.1 7) aWs aRs (σ.1 8) (σ.1 9) (σ.1 10) (σ.1 11) (σ.1 12)) := hD
    have hw : wh_rests σ p1 p2 = (-2) := by simp only [wh_rests, if_neg c_1]
    have hn : ¬ wh_rests σ p1 p2 = 0 := by rw [hw]; decide
    exact W.iret (v := (-2)) hx hb hr (fun t ht hW => ⟨⟨_, (mW m0 a y (-2) kd (σ.1 2 0) (σ.1 2 1) (σ.1 2 2) (σ.1 2 3) (σ.1 2 4) wh re (rfO (-2) (σ.1 1)) (σ.1 3) aTo aPo (σ.1 4) aRw aRr (σ.1 5) (σ.1 6) (σ.1 7) aWs aRs (σ.1 8) (σ.1 9) (σ.1 10) (σ.1 11) (σ.1 12)), rfl, ⟨by rw [an_rests, if_neg hn, hw]; try rfl, kd, wh, re, aTo, aPo, aRw, aRr, aWs, aRs, by rw [nw_rests, if_neg hn, hw]; rfl, by rw [nw_rests, if_neg hn]; exact hM⟩, by rw [ht]; exact hP, va_K.moved hW.alike hK, hD⟩, hS.F ht⟩) hS.2.2 dX8_rests_27
  · replace c_1 := bI_ne c_1
    refine lv_aload_n hx hb dX8_rests_13 rfl (lv_at hl 0 rfl) ?_
    refine lv_iload_n hx hb dX8_rests_14 rfl (lv_at hl 2 rfl) ?_
    refine vp_callSi ((va_runV (As := [.int p2]) (rest := []) ⟨hx, hb, hml, hown, hts⟩ (met_X8_isRegister l Dg m0 H.size a y 0 kd (σ.1 2 0) (σ.1 2 1) (σ.1 2 2) (σ.1 2 3) (σ.1 2 4) wh re (σ.1 1) (σ.1 3) aTo aPo (σ.1 4) aRw aRr (σ.1 5) (σ.1 6) (σ.1 7) aWs aRs (σ.1 8) (σ.1 9) (σ.1 10) (σ.1 11) (σ.1 12) p2 ) (cwV 1 hts gX8_rests_X8_isRegister rfl rfl rfl (by decide +kernel) ⟨Nat.le_of_ble_eq_true rfl, Nat.le_of_ble_eq_true rfl⟩) (wPreV hK hP (hD.weaken (fun _ _ _ _ => trivial)) (va_recv hK hP (ci := 6) (q0 := 0) rfl rfl)) rfl rfl hl.1 rfl (lv_room (Nat.le_of_ble_eq_true rfl)) dX8_rests_15 ⟨Nat.le_of_ble_eq_true rfl, Nat.le_of_ble_eq_true rfl⟩).run) (fun r hw => ?_)
    rw [hw]
    refine lv_if_ne (tgt := 28) hx hb dX8_rests_18 (by decide) (fun c_2 => ?_) (fun c_2 => ?_)
    · replace c_2 := bI_ne c_2
      refine lv_aload_n hx hb dX8_rests_28 rfl (lv_at hl 0 rfl) ?_
      refine va_get (D := Dg) (ci := 6) (v := .ref (a 9)) (C := RX8) (T := TX8) (N := 26) hx hb hts in_X8_rests hown hK hP 0 rfl rfl 16 (by decide) (hts (.fieldLink RX8 39 "OrreryWorksModel" "isGone" "[Z") (by decide +kernel)) (fun _ h9 => h9) rfl dX8_rests_29 ?_
      refine lv_iload_n hx hb dX8_rests_32 rfl (lv_at hl 1 rfl) ?_
      refine va_zald hx hb hK hP 10 9 rfl rfl (inC_in hV.1.2.2.1 c_1) dX8_rests_33 ?_
      refine lv_if_eq (tgt := 44) hx hb dX8_rests_34 (by decide) (fun c_3 => ?_) (fun c_3 => ?_)
      · refine lv_aload_n hx hb dX8_rests_44 rfl (lv_at hl 0 rfl) ?_
        refine va_get (D := Dg) (ci := 6) (v := .ref (a 7)) (C := RX8) (T := TX8) (N := 26) hx hb hts in_X8_rests hown hK hP 0 rfl rfl 14 (by decide) (hts (.fieldLink RX8 33 "OrreryWorksModel" "lane" "[I") (by decide +kernel)) (fun _ h9 => h9) rfl dX8_rests_45 ?_
        refine lv_iload_n hx hb dX8_rests_48 rfl (lv_at hl 1 rfl) ?_
        refine va_iald hx hb hK hP 8 7 rfl rfl (inC_in hV.1.2.2.1 c_1) dX8_rests_49 ?_
        refine lv_iconst (v := 2) hx hb dX8_rests_50 (by decide) ?_
        refine lv_icmp_ge (tgt := 61) hx hb dX8_rests_51 (by decide) (fun c_4 => ?_) (fun c_4 => ?_)
        · have T1 := hV.2.2.2.1 _ (inC_lt hV.1.2.2.1 c_1)
          have hkR := kR_of T1.1 c_4
          have hf : ∀ j, j < 16 → okR (σ.1 5 (ix p1)) ((fun j => σ.2 3 (16 * ix p1 + j)) j) := fun j hj => okRB hkR (T1.2.2 j hj)
          have hfp : ∀ j, j < 16 → aRs (16 * ix p1 + j) = vl (σ.1 5 (ix p1)) ((fun j => σ.2 3 (16 * ix p1 + j)) j) := fun j hj => rep_r (hM.2.2 _ (inC_lt hV.1.2.2.1 c_1) j hj) c_4
          have hsr := s_rng hV c_1
          have hn1 := T1.2.1.1
          have hn2 := T1.2.1.2
          have R2 := hV.2.2.1 _ (inC_lt hV.1.2.1 c_2)
          have P2 := hM.2.1 _ (inC_lt hV.1.2.1 c_2)
          refine lv_iconst (v := 0) hx hb dX8_rests_61 (by decide) ?_
          refine lv_istore_n (lv' := [(3, .int 0), (0, .ref m0), (1, .int p1), (2, .int p2)]) hx hb dX8_rests_62 rfl hl (by decide) rfl (fun ls hl => ?_)
          refine lv_dconst0 hx hb dX8_rests_63 ?_
          refine lv_dstore (lv' := [(4, .double FP.dconst0), (3, .int 0), (0, .ref m0), (1, .int p1), (2, .int p2)]) hx hb dX8_rests_64 hl (by decide) rfl (fun ls hl => ?_)
          refine lv_iconst (v := 0) hx hb dX8_rests_66 (by decide) ?_
          refine lv_istore (lv' := [(6, .int 0), (4, .double FP.dconst0), (3, .int 0), (0, .ref m0), (1, .int p1), (2, .int p2)]) hx hb dX8_rests_67 hl (by decide) rfl (fun ls hl => ?_)
          have hq : ∃ j : Nat, lv_has ls 11 [(6, .int (nI j)), (4, .double (vl (σ.1 5 (ix p1)) (rsS (σ.1 5 (ix p1)) (fun j => σ.2 3 (16 * ix p1 + j)) j))), (3, .int (rsN (σ.1 5 (ix p1)) (fun j => σ.2 3 (16 * ix p1 + j)) j)), (0, .ref m0), (1, .int p1), (2, .int p2)] ∧ j ≤ ix (σ.1 6 (ix p1)) - 1 := ⟨0, by rw [show vl (σ.1 5 (ix p1)) (rsS (σ.1 5 (ix p1)) (fun j => σ.2 3 (16 * ix p1 + j)) 0) = FP.dconst0 from vl_0]; exact hl, Nat.zero_le _⟩
          clear hl
          obtain ⟨j, hl, hj⟩ := hq
          have hN : ((ix (σ.1 6 (ix p1)) : Nat) : Int) = (σ.1 6 (ix p1)).toInt := by show (((σ.1 6 (ix p1)).toInt.toNat : Nat) : Int) = _; omega
          obtain ⟨n, hn⟩ : ∃ n : Nat, j + n = ix (σ.1 6 (ix p1)) - 1 := ⟨ix (σ.1 6 (ix p1)) - 1 - j, by omega⟩
          induction n generalizing j ls with
          | zero =>
            have ej : j = ix (σ.1 6 (ix p1)) - 1 := by omega
            have d1 : σ.1 6 (ix p1) ≤ nI j + 1 := by rw [nI_1, Int32.le_iff_toInt_le, nI_toInt (by omega)]; omega
            refine lv_iload hx hb dX8_rests_69 (lv_at hl 0 rfl) ?_
            refine lv_iconst (v := 1) hx hb dX8_rests_71 (by decide) ?_
            refine lv_iadd hx hb dX8_rests_72 ?_
            refine lv_aload_n hx hb dX8_rests_73 rfl (lv_at hl 3 rfl) ?_
            refine va_get (D := Dg) (ci := 6) (v := .ref (a 8)) (C := RX8) (T := TX8) (N := 26) hx hb hts in_X8_rests hown hK hP 0 rfl rfl 15 (by decide) (hts (.fieldLink RX8 36 "OrreryWorksModel" "size" "[I") (by decide +kernel)) (fun _ h9 => h9) rfl dX8_rests_74 ?_
            refine lv_iload_n hx hb dX8_rests_77 rfl (lv_at hl 4 rfl) ?_
            refine va_iald hx hb hK hP 9 8 rfl rfl (inC_in hV.1.2.2.1 c_1) dX8_rests_78 ?_
            refine lv_icmp_ge (tgt := 155) hx hb dX8_rests_79 (by decide) (fun _ => ?_) (fun h0 => absurd d1 h0)
            have oR := rs_ok hkR hf j (by omega)
            have SR := rep_cast (w := 0) T1.1 R2.1 (okBR hkR oR) (repR hkR rfl)
            rw [ej] at SR oR hl
            have hl : lv_has ls 11 [(6, .int (nI (ix (σ.1 6 (ix p1)) - 1))), (4, .double (vl (σ.1 5 (ix p1)) (rsS (σ.1 5 (ix p1)) (fun j => σ.2 3 (16 * ix p1 + j)) (ix (σ.1 6 (ix p1)) - 1)))), (3, .int (rsN (σ.1 5 (ix p1)) (fun j => σ.2 3 (16 * ix p1 + j)) (ix (σ.1 6 (ix p1)) - 1))), (0, .ref m0), (1, .int p1), (2, .int p2)] := hl
            refine lv_aload_n hx hb dX8_rests_155 rfl (lv_at hl 3 rfl) ?_
            refine lv_aload_n hx hb dX8_rests_156 rfl (lv_at hl 3 rfl) ?_
            refine va_get (D := Dg) (ci := 6) (v := .ref (a 7)) (C := RX8) (T := TX8) (N := 26) hx hb hts in_X8_rests hown hK hP 0 rfl rfl 14 (by decide) (hts (.fieldLink RX8 33 "OrreryWorksModel" "lane" "[I") (by decide +kernel)) (fun _ h9 => h9) rfl dX8_rests_157 ?_
            refine lv_iload_n hx hb dX8_rests_160 rfl (lv_at hl 4 rfl) ?_
            refine va_iald hx hb hK hP 8 7 rfl rfl (inC_in hV.1.2.2.1 c_1) dX8_rests_161 ?_
            refine lv_lconst (v := 0) hx hb dX8_rests_162 (by decide) ?_
            refine lv_dload hx hb dX8_rests_163 (lv_at hl 1 rfl) ?_
            have hFc := wFree hD hS hA
            refine va_callv (va_runV (As := [.int ((σ.1 5) p1.toNatClampNeg), .long 0, .double (vl (σ.1 5 (ix p1)) (rsS (σ.1 5 (ix p1)) (fun j => σ.2 3 (16 * ix p1 + j)) (ix (σ.1 6 (ix p1)) - 1)))]) (rest := []) ⟨hx, hb, hml, hown, hts⟩ (met_X8_hold l Dg m0 H.size a y 0 kd (σ.1 2 0) (σ.1 2 1) (σ.1 2 2) (σ.1 2 3) (σ.1 2 4) wh re (σ.1 1) (σ.1 3) aTo aPo (σ.1 4) aRw aRr (σ.1 5) (σ.1 6) (σ.1 7) aWs aRs (σ.1 8) (σ.1 9) (σ.1 10) (σ.1 11) (σ.1 12) ((σ.1 5) p1.toNatClampNeg) 0 (vl (σ.1 5 (ix p1)) (rsS (σ.1 5 (ix p1)) (fun j => σ.2 3 (16 * ix p1 + j)) (ix (σ.1 6 (ix p1)) - 1))) ) (cwV 3 hts gX8_rests_X8_hold rfl rfl rfl (by decide +kernel) ⟨Nat.le_of_ble_eq_true rfl, Nat.le_of_ble_eq_true rfl⟩) (wPreV hK hP (hD.weaken (fun _ _ _ _ => trivial)) (va_recv hK hP (ci := 6) (q0 := 0) rfl rfl)) rfl rfl hl.1 rfl (lv_room (Nat.le_of_ble_eq_true rfl)) dX8_rests_165 ⟨Nat.le_of_ble_eq_true rfl, Nat.le_of_ble_eq_true rfl⟩) hS (fun q _ h => hFc q h) hFc (fun u t H locs ht hvm hw hB _ _ hS => ?_)
            obtain ⟨hP, -, hD⟩ := hB
            rw [ht] at hP
            replace hD := hD.weaken (fun _ q _ h => hFc q.1 h)
            rw [hw] at hP hD
            clear hw hFc
            have hP : va_P Dg vwCl (mW m0 a y 0 ((σ.1 5) p1.toNatClampNeg) (σ.1 2 0) (σ.1 2 1) (σ.1 2 2) (σ.1 2 3) (σ.1 2 4) 0 (vl (σ.1 5 (ix p1)) (rsS (σ.1 5 (ix p1)) (fun j => σ.2 3 (16 * ix p1 + j)) (ix (σ.1 6 (ix p1)) - 1))) (σ.1 1) (σ.1 3) aTo aPo (σ.1 4) aRw aRr (σ.1 5) (σ.1 6) (σ.1 7) aWs aRs (σ.1 8) (σ.1 9) (σ.1 10) (σ.1 11) (σ.1 12)) H := hP
            have hD : va_D A (mW m0 a y 0 ((σ.1 5) p1.toNatClampNeg) (σ.1 2 0) (σ.1 2 1) (σ.1 2 2) (σ.1 2 3) (σ.1 2 4) 0 (vl (σ.1 5 (ix p1)) (rsS (σ.1 5 (ix p1)) (fun j => σ.2 3 (16 * ix p1 + j)) (ix (σ.1 6 (ix p1)) - 1))) (σ.1 1) (σ.1 3) aTo aPo (σ.1 4) aRw aRr (σ.1 5) (σ.1 6) (σ.1 7) aWs aRs (σ.1 8) (σ.1 9) (σ.1 10) (σ.1 11) (σ.1 12)) := hD
            refine lv_aload_n hx hb dX8_rests_168 rfl (lv_at hl 3 rfl) ?_
            refine lv_iload_n hx hb dX8_rests_169 rfl (lv_at hl 5 rfl) ?_
            have hFc := wFree hD hS hA
            refine va_callv (va_runV (As := [.int p2]) (rest := []) ⟨hx, hb, hml, hown, hts⟩ (met_X8_store l Dg m0 H.size a y 0 ((σ.1 5) p1.toNatClampNeg) (σ.1 2 0) (σ.1 2 1) (σ.1 2 2) (σ.1 2 3) (σ.1 2 4) 0 (vl (σ.1 5 (ix p1)) (rsS (σ.1 5 (ix p1)) (fun j => σ.2 3 (16 * ix p1 + j)) (ix (σ.1 6 (ix p1)) - 1))) (σ.1 1) (σ.1 3) aTo aPo (σ.1 4) aRw aRr (σ.1 5) (σ.1 6) (σ.1 7) aWs aRs (σ.1 8) (σ.1 9) (σ.1 10) (σ.1 11) (σ.1 12) p2 (inC_in hV.1.2.1 c_2) (fun _ => vl_nn oR)) (cwV 1 hts gX8_rests_X8_store rfl rfl rfl (by decide +kernel) ⟨Nat.le_of_ble_eq_true rfl, Nat.le_of_ble_eq_true rfl⟩) (wPreV hK hP (hD.weaken (fun _ _ _ _ => trivial)) (va_recv hK hP (ci := 6) (q0 := 0) rfl rfl)) rfl rfl hl.1 rfl (lv_room (Nat.le_of_ble_eq_true rfl)) dX8_rests_170 ⟨Nat.le_of_ble_eq_true rfl, Nat.le_of_ble_eq_true rfl⟩) hS (fun q _ h => hFc q h) hFc (fun u t H locs ht hvm hw hB _ _ hS => ?_)
            obtain ⟨hP, -, hD⟩ := hB
            rw [ht] at hP
            replace hD := hD.weaken (fun _ q _ h => hFc q.1 h)
            rw [hw] at hP hD
            clear hw hFc
            have hP : va_P Dg vwCl (mW m0 a y 0 ((σ.1 4) p2.toNatClampNeg) (σ.1 2 0) (σ.1 2 1) (σ.1 2 2) (σ.1 2 3) (σ.1 2 4) (mcW ((σ.1 5) p1.toNatClampNeg) 0 (vl (σ.1 5 (ix p1)) (rsS (σ.1 5 (ix p1)) (fun j => σ.2 3 (16 * ix p1 + j)) (ix (σ.1 6 (ix p1)) - 1))) ((σ.1 4) p2.toNatClampNeg)) (mcR ((σ.1 5) p1.toNatClampNeg) 0 (vl (σ.1 5 (ix p1)) (rsS (σ.1 5 (ix p1)) (fun j => σ.2 3 (16 * ix p1 + j)) (ix (σ.1 6 (ix p1)) - 1))) ((σ.1 4) p2.toNatClampNeg)) (σ.1 1) (σ.1 3) aTo aPo (σ.1 4) (vp_updL aRw p2.toNatClampNeg (mcW ((σ.1 5) p1.toNatClampNeg) 0 (vl (σ.1 5 (ix p1)) (rsS (σ.1 5 (ix p1)) (fun j => σ.2 3 (16 * ix p1 + j)) (ix (σ.1 6 (ix p1)) - 1))) ((σ.1 4) p2.toNatClampNeg))) (vf_upd aRr p2.toNatClampNeg (mcR ((σ.1 5) p1.toNatClampNeg) 0 (vl (σ.1 5 (ix p1)) (rsS (σ.1 5 (ix p1)) (fun j => σ.2 3 (16 * ix p1 + j)) (ix (σ.1 6 (ix p1)) - 1))) ((σ.1 4) p2.toNatClampNeg))) (σ.1 5) (σ.1 6) (σ.1 7) aWs aRs (σ.1 8) (σ.1 9) (σ.1 10) (σ.1 11) (σ.1 12)) H := hP
            have hD : va_D A (mW m0 a y 0 ((σ.1 4) p2.toNatClampNeg) (σ.1 2 0) (σ.1 2 1) (σ.1 2 2) (σ.1 2 3) (σ.1 2 4) (mcW ((σ.1 5) p1.toNatClampNeg) 0 (vl (σ.1 5 (ix p1)) (rsS (σ.1 5 (ix p1)) (fun j => σ.2 3 (16 * ix p1 + j)) (ix (σ.1 6 (ix p1)) - 1))) ((σ.1 4) p2.toNatClampNeg)) (mcR ((σ.1 5) p1.toNatClampNeg) 0 (vl (σ.1 5 (ix p1)) (rsS (σ.1 5 (ix p1)) (fun j => σ.2 3 (16 * ix p1 + j)) (ix (σ.1 6 (ix p1)) - 1))) ((σ.1 4) p2.toNatClampNeg)) (σ.1 1) (σ.1 3) aTo aPo (σ.1 4) (vp_updL aRw p2.toNatClampNeg (mcW ((σ.1 5) p1.toNatClampNeg) 0 (vl (σ.1 5 (ix p1)) (rsS (σ.1 5 (ix p1)) (fun j => σ.2 3 (16 * ix p1 + j)) (ix (σ.1 6 (ix p1)) - 1))) ((σ.1 4) p2.toNatClampNeg))) (vf_upd aRr p2.toNatClampNeg (mcR ((σ.1 5) p1.toNatClampNeg) 0 (vl (σ.1 5 (ix p1)) (rsS (σ.1 5 (ix p1)) (fun j => σ.2 3 (16 * ix p1 + j)) (ix (σ.1 6 (ix p1)) - 1))) ((σ.1 4) p2.toNatClampNeg))) (σ.1 5) (σ.1 6) (σ.1 7) aWs aRs (σ.1 8) (σ.1 9) (σ.1 10) (σ.1 11) (σ.1 12)) := hD
            refine lv_iload_n hx hb dX8_rests_173 rfl (lv_at hl 2 rfl) ?_
            have hw : wh_rests σ p1 p2 = 0 := by simp only [wh_rests, if_pos c_1, if_pos c_2, if_pos c_3, if_pos c_4]
            exact W.iret (v := (rsN (σ.1 5 (ix p1)) (fun j => σ.2 3 (16 * ix p1 + j)) (ix (σ.1 6 (ix p1)) - 1))) hx hb hr (fun t ht hW => ⟨⟨_, (mW m0 a y 0 ((σ.1 4) p2.toNatClampNeg) (σ.1 2 0) (σ.1 2 1) (σ.1 2 2) (σ.1 2 3) (σ.1 2 4) (mcW ((σ.1 5) p1.toNatClampNeg) 0 (vl (σ.1 5 (ix p1)) (rsS (σ.1 5 (ix p1)) (fun j => σ.2 3 (16 * ix p1 + j)) (ix (σ.1 6 (ix p1)) - 1))) ((σ.1 4) p2.toNatClampNeg)) (mcR ((σ.1 5) p1.toNatClampNeg) 0 (vl (σ.1 5 (ix p1)) (rsS (σ.1 5 (ix p1)) (fun j => σ.2 3 (16 * ix p1 + j)) (ix (σ.1 6 (ix p1)) - 1))) ((σ.1 4) p2.toNatClampNeg)) (σ.1 1) (σ.1 3) aTo aPo (σ.1 4) (vp_updL aRw p2.toNatClampNeg (mcW ((σ.1 5) p1.toNatClampNeg) 0 (vl (σ.1 5 (ix p1)) (rsS (σ.1 5 (ix p1)) (fun j => σ.2 3 (16 * ix p1 + j)) (ix (σ.1 6 (ix p1)) - 1))) ((σ.1 4) p2.toNatClampNeg))) (vf_upd aRr p2.toNatClampNeg (mcR ((σ.1 5) p1.toNatClampNeg) 0 (vl (σ.1 5 (ix p1)) (rsS (σ.1 5 (ix p1)) (fun j => σ.2 3 (16 * ix p1 + j)) (ix (σ.1 6 (ix p1)) - 1))) ((σ.1 4) p2.toNatClampNeg))) (σ.1 5) (σ.1 6) (σ.1 7) aWs aRs (σ.1 8) (σ.1 9) (σ.1 10) (σ.1 11) (σ.1 12)), rfl, ⟨by rw [an_rests, if_pos hw]; try rfl, (σ.1 4) p2.toNatClampNeg, mcW ((σ.1 5) p1.toNatClampNeg) 0 (vl (σ.1 5 (ix p1)) (rsS (σ.1 5 (ix p1)) (fun j => σ.2 3 (16 * ix p1 + j)) (ix (σ.1 6 (ix p1)) - 1))) ((σ.1 4) p2.toNatClampNeg), mcR ((σ.1 5) p1.toNatClampNeg) 0 (vl (σ.1 5 (ix p1)) (rsS (σ.1 5 (ix p1)) (fun j => σ.2 3 (16 * ix p1 + j)) (ix (σ.1 6 (ix p1)) - 1))) ((σ.1 4) p2.toNatClampNeg), aTo, aPo, vp_updL aRw p2.toNatClampNeg (mcW ((σ.1 5) p1.toNatClampNeg) 0 (vl (σ.1 5 (ix p1)) (rsS (σ.1 5 (ix p1)) (fun j => σ.2 3 (16 * ix p1 + j)) (ix (σ.1 6 (ix p1)) - 1))) ((σ.1 4) p2.toNatClampNeg)), vf_upd aRr p2.toNatClampNeg (mcR ((σ.1 5) p1.toNatClampNeg) 0 (vl (σ.1 5 (ix p1)) (rsS (σ.1 5 (ix p1)) (fun j => σ.2 3 (16 * ix p1 + j)) (ix (σ.1 6 (ix p1)) - 1))) ((σ.1 4) p2.toNatClampNeg)), aWs, aRs, by rw [nw_rests, if_pos hw]; rfl, by rw [nw_rests, if_pos hw]; exact mC_store hM SR⟩, by rw [ht]; exact hP, va_K.moved hW.alike hK, hD⟩, hS.F ht⟩) hS.2.2 dX8_rests_174
          | succ n ih =>
            have d1 : ¬ σ.1 6 (ix p1) ≤ nI j + 1 := fun g => by rw [nI_1, Int32.le_iff_toInt_le, nI_toInt (by omega)] at g; omega
            have hm := mix16 (i := nI j) hsr (by rw [nI_toInt (by omega)]; omega)
            have hm2 := mix16 (i := nI (j + 1)) hsr (by rw [nI_toInt (by omega)]; omega)
            have a3 : 16 * p1 + nI j + 1 = 16 * p1 + nI (j + 1) := by rw [← nI_1]; exact Int32.add_assoc _ _ _
            have x1 : aRs (16 * p1 + nI j).toNatClampNeg = vl (σ.1 5 (ix p1)) ((fun j => σ.2 3 (16 * ix p1 + j)) j) := by rw [hm.2, show ix (nI j) = j from nI_clamp (by omega)]; exact hfp j (by omega)
            have x2 : aRs (16 * p1 + nI j + 1).toNatClampNeg = vl (σ.1 5 (ix p1)) ((fun j => σ.2 3 (16 * ix p1 + j)) (j + 1)) := by rw [a3, hm2.2, show ix (nI (j + 1)) = j + 1 from nI_clamp (by omega)]; exact hfp (j + 1) (by omega)
            have o1 := hf j (by omega)
            have o2 := hf (j + 1) (by omega)
            have o3 := rs_ok hkR hf j (by omega)
            refine lv_iload hx hb dX8_rests_69 (lv_at hl 0 rfl) ?_
            refine lv_iconst (v := 1) hx hb dX8_rests_71 (by decide) ?_
            refine lv_iadd hx hb dX8_rests_72 ?_
            refine lv_aload_n hx hb dX8_rests_73 rfl (lv_at hl 3 rfl) ?_
            refine va_get (D := Dg) (ci := 6) (v := .ref (a 8)) (C := RX8) (T := TX8) (N := 26) hx hb hts in_X8_rests hown hK hP 0 rfl rfl 15 (by decide) (hts (.fieldLink RX8 36 "OrreryWorksModel" "size" "[I") (by decide +kernel)) (fun _ h9 => h9) rfl dX8_rests_74 ?_
            refine lv_iload_n hx hb dX8_rests_77 rfl (lv_at hl 4 rfl) ?_
            refine va_iald hx hb hK hP 9 8 rfl rfl (inC_in hV.1.2.2.1 c_1) dX8_rests_78 ?_
            refine lv_icmp_ge (tgt := 155) hx hb dX8_rests_79 (by decide) (fun h0 => absurd h0 d1) (fun _ => ?_)
            refine lv_aload_n hx hb dX8_rests_82 rfl (lv_at hl 3 rfl) ?_
            refine va_get (D := Dg) (ci := 6) (v := .ref (a 11)) (C := RX8) (T := TX8) (N := 26) hx hb hts in_X8_rests hown hK hP 0 rfl rfl 18 (by decide) (hts (.fieldLink RX8 46 "OrreryWorksModel" "reals" "[D") (by decide +kernel)) (fun _ h9 => h9) rfl dX8_rests_83 ?_
            refine lv_bipush (v := 16) hx hb dX8_rests_86 (by decide) ?_
            refine lv_iload_n hx hb dX8_rests_88 rfl (lv_at hl 4 rfl) ?_
            refine lv_imul hx hb dX8_rests_89 ?_
            refine lv_iload hx hb dX8_rests_90 (lv_at hl 0 rfl) ?_
            refine lv_iadd hx hb dX8_rests_92 ?_
            refine va_dald hx hb hK hP 12 11 rfl rfl hm.1 dX8_rests_93 ?_
            refine lv_topd (fun z_5 ez_5 => ?_)
            rw [show z_5 = vl (σ.1 5 (ix p1)) ((fun j => σ.2 3 (16 * ix p1 + j)) j) from ez_5.trans x1]
            refine lv_dstore (lv' := [(7, .double (vl (σ.1 5 (ix p1)) ((fun j => σ.2 3 (16 * ix p1 + j)) j))), (6, .int (nI j)), (4, .double (vl (σ.1 5 (ix p1)) (rsS (σ.1 5 (ix p1)) (fun j => σ.2 3 (16 * ix p1 + j)) j))), (3, .int (rsN (σ.1 5 (ix p1)) (fun j => σ.2 3 (16 * ix p1 + j)) j)), (0, .ref m0), (1, .int p1), (2, .int p2)]) hx hb dX8_rests_94 hl (by decide) rfl (fun ls hl => ?_)
            refine lv_aload_n hx hb dX8_rests_96 rfl (lv_at hl 4 rfl) ?_
            refine va_get (D := Dg) (ci := 6) (v := .ref (a 11)) (C := RX8) (T := TX8) (N := 26) hx hb hts in_X8_rests hown hK hP 0 rfl rfl 18 (by decide) (hts (.fieldLink RX8 46 "OrreryWorksModel" "reals" "[D") (by decide +kernel)) (fun _ h9 => h9) rfl dX8_rests_97 ?_
            refine lv_bipush (v := 16) hx hb dX8_rests_100 (by decide) ?_
            refine lv_iload_n hx hb dX8_rests_102 rfl (lv_at hl 5 rfl) ?_
            refine lv_imul hx hb dX8_rests_103 ?_
            refine lv_iload hx hb dX8_rests_104 (lv_at hl 1 rfl) ?_
            refine lv_iadd hx hb dX8_rests_106 ?_
            refine lv_iconst (v := 1) hx hb dX8_rests_107 (by decide) ?_
            refine lv_iadd hx hb dX8_rests_108 ?_
            refine va_dald hx hb hK hP 12 11 rfl rfl (by rw [a3]; exact hm2.1) dX8_rests_109 ?_
            refine lv_topd (fun z_6 ez_6 => ?_)
            rw [show z_6 = vl (σ.1 5 (ix p1)) ((fun j => σ.2 3 (16 * ix p1 + j)) (j + 1)) from ez_6.trans x2]
            refine lv_dstore (lv' := [(9, .double (vl (σ.1 5 (ix p1)) ((fun j => σ.2 3 (16 * ix p1 + j)) (j + 1)))), (7, .double (vl (σ.1 5 (ix p1)) ((fun j => σ.2 3 (16 * ix p1 + j)) j))), (6, .int (nI j)), (4, .double (vl (σ.1 5 (ix p1)) (rsS (σ.1 5 (ix p1)) (fun j => σ.2 3 (16 * ix p1 + j)) j))), (3, .int (rsN (σ.1 5 (ix p1)) (fun j => σ.2 3 (16 * ix p1 + j)) j)), (0, .ref m0), (1, .int p1), (2, .int p2)]) hx hb dX8_rests_110 hl (by decide) rfl (fun ls hl => ?_)
            refine lv_dload hx hb dX8_rests_112 (lv_at hl 0 rfl) ?_
            refine lv_dconst0 hx hb dX8_rests_114 ?_
            refine lv_dcmp hx hb dX8_rests_115 ?_
            refine lv_if_eq (tgt := 149) hx hb dX8_rests_116 (by decide) (fun c_7 => ?_) (fun c_7 => ?_)
            · rw [zero_eq o2] at c_7
              refine lv_iinc (v := (nI j) + 1) (lv' := [(6, .int ((nI j) + 1)), (9, .double (vl (σ.1 5 (ix p1)) ((fun j => σ.2 3 (16 * ix p1 + j)) (j + 1)))), (7, .double (vl (σ.1 5 (ix p1)) ((fun j => σ.2 3 (16 * ix p1 + j)) j))), (4, .double (vl (σ.1 5 (ix p1)) (rsS (σ.1 5 (ix p1)) (fun j => σ.2 3 (16 * ix p1 + j)) j))), (3, .int (rsN (σ.1 5 (ix p1)) (fun j => σ.2 3 (16 * ix p1 + j)) j)), (0, .ref m0), (1, .int p1), (2, .int p2)]) hx hb dX8_rests_149 hl (k := 2) rfl rfl (by decide) rfl (fun ls hl => ?_)
              refine lv_goto (tgt := 69) hx hb dX8_rests_152 (by decide) ?_
              have v1 : fX2_isVoid (σ.1 5 (ix p1)) 4 ((fun j => σ.2 3 (16 * ix p1 + j)) j) ((fun j => σ.2 3 (16 * ix p1 + j)) (j + 1)) = true := void_eq.mpr (show _ ∨ _ from Or.inl c_7)
              exact ih (j := j + 1) (hl := by rw [← nI_1, show rsS (σ.1 5 (ix p1)) (fun j => σ.2 3 (16 * ix p1 + j)) (j + 1) = rsS (σ.1 5 (ix p1)) (fun j => σ.2 3 (16 * ix p1 + j)) j from if_pos v1, show rsN (σ.1 5 (ix p1)) (fun j => σ.2 3 (16 * ix p1 + j)) (j + 1) = rsN (σ.1 5 (ix p1)) (fun j => σ.2 3 (16 * ix p1 + j)) j from if_pos v1]; exact lv_sub hl [0, 3, 4, 5, 6, 7] rfl) (hj := by omega) (hn := by omega)
            · rw [zero_eq o2] at c_7
              refine lv_dload hx hb dX8_rests_119 (lv_at hl 1 rfl) ?_
              refine vp_callSi ((va_runS (As := [.double (vl (σ.1 5 (ix p1)) ((fun j => σ.2 3 (16 * ix p1 + j)) j))]) (rest := []) ⟨hx, hb, hml, hown, hts⟩ (met_X8_isEndless l (vl (σ.1 5 (ix p1)) ((fun j => σ.2 3 (16 * ix p1 + j)) j))) (va_cwS 1 hts gX8_rests_X8_isEndless rfl rfl rfl (by decide +kernel) ⟨Nat.le_of_ble_eq_true rfl, Nat.le_of_ble_eq_true rfl⟩) ⟨fun _ _ _ _ q => q, fun U hU hW => ⟨rfl, trivial⟩⟩ rfl rfl hl.1 rfl (lv_room (Nat.le_of_ble_eq_true rfl)) dX8_rests_121 ⟨Nat.le_of_ble_eq_true rfl, Nat.le_of_ble_eq_true rfl⟩).run) (fun r hw => ?_)
              subst hw
              refine lv_if_ne (tgt := 149) hx hb dX8_rests_124 (by decide) (fun c_8 => ?_) (fun c_8 => ?_)
              · replace c_8 := bI_ne c_8
                refine lv_iinc (v := (nI j) + 1) (lv' := [(6, .int ((nI j) + 1)), (9, .double (vl (σ.1 5 (ix p1)) ((fun j => σ.2 3 (16 * ix p1 + j)) (j + 1)))), (7, .double (vl (σ.1 5 (ix p1)) ((fun j => σ.2 3 (16 * ix p1 + j)) j))), (4, .double (vl (σ.1 5 (ix p1)) (rsS (σ.1 5 (ix p1)) (fun j => σ.2 3 (16 * ix p1 + j)) j))), (3, .int (rsN (σ.1 5 (ix p1)) (fun j => σ.2 3 (16 * ix p1 + j)) j)), (0, .ref m0), (1, .int p1), (2, .int p2)]) hx hb dX8_rests_149 hl (k := 2) rfl rfl (by decide) rfl (fun ls hl => ?_)
                refine lv_goto (tgt := 69) hx hb dX8_rests_152 (by decide) ?_
                have v1 : fX2_isVoid (σ.1 5 (ix p1)) 4 ((fun j => σ.2 3 (16 * ix p1 + j)) j) ((fun j => σ.2 3 (16 * ix p1 + j)) (j + 1)) = true := void_eq.mpr (show _ ∨ _ from Or.inr ((endl_eq o1).mp c_8))
                exact ih (j := j + 1) (hl := by rw [← nI_1, show rsS (σ.1 5 (ix p1)) (fun j => σ.2 3 (16 * ix p1 + j)) (j + 1) = rsS (σ.1 5 (ix p1)) (fun j => σ.2 3 (16 * ix p1 + j)) j from if_pos v1, show rsN (σ.1 5 (ix p1)) (fun j => σ.2 3 (16 * ix p1 + j)) (j + 1) = rsN (σ.1 5 (ix p1)) (fun j => σ.2 3 (16 * ix p1 + j)) j from if_pos v1]; exact lv_sub hl [0, 3, 4, 5, 6, 7] rfl) (hj := by omega) (hn := by omega)
              · replace c_8 := bI_eq c_8
                have e1 : ¬ mgN (σ.1 5 (ix p1)) ((fun j => σ.2 3 (16 * ix p1 + j)) j) = infN (σ.1 5 (ix p1)) := fun g => c_8 ((endl_eq o1).mpr g)
                have e2 : ¬ mgN (σ.1 5 (ix p1)) ((fun j => σ.2 3 (16 * ix p1 + j)) (j + 1)) = 0 := c_7
                have hR := rem_eq hkR o1 o2 e1 e2
                have hRn := rm_ne o1 o2 e1 e2
                have v1 : ¬ fX2_isVoid (σ.1 5 (ix p1)) 4 ((fun j => σ.2 3 (16 * ix p1 + j)) j) ((fun j => σ.2 3 (16 * ix p1 + j)) (j + 1)) = true := fun g => (show _ ∨ _ from void_eq.mp g).elim e2 e1
                have qA := wr_eq (w := 0) hkR o3 hR.2.2 (fun g => hRn (And.left (And.right (show _ ∧ _ ∧ _ from g)))) (Or.inl rfl)
                refine lv_aload_n hx hb dX8_rests_127 rfl (lv_at hl 5 rfl) ?_
                refine va_get (D := Dg) (ci := 6) (v := .ref (a 7)) (C := RX8) (T := TX8) (N := 26) hx hb hts in_X8_rests hown hK hP 0 rfl rfl 14 (by decide) (hts (.fieldLink RX8 33 "OrreryWorksModel" "lane" "[I") (by decide +kernel)) (fun _ h9 => h9) rfl dX8_rests_128 ?_
                refine lv_iload_n hx hb dX8_rests_131 rfl (lv_at hl 6 rfl) ?_
                refine va_iald hx hb hK hP 8 7 rfl rfl (inC_in hV.1.2.2.1 c_1) dX8_rests_132 ?_
                refine lv_dload hx hb dX8_rests_133 (lv_at hl 3 rfl) ?_
                refine lv_dload hx hb dX8_rests_135 (lv_at hl 1 rfl) ?_
                refine lv_dload hx hb dX8_rests_137 (lv_at hl 0 rfl) ?_
                refine lv_drem hx hb dX8_rests_139 (fm_n64.mpr hR.1) ?_
                refine lv_topd (fun z_9 ez_9 => ?_)
                rw [show z_9 = vl (σ.1 5 (ix p1)) (rmB (σ.1 5 (ix p1)) ((fun j => σ.2 3 (16 * ix p1 + j)) j) ((fun j => σ.2 3 (16 * ix p1 + j)) (j + 1))) from ez_9.trans hR.2.1]
                refine lv_dadd hx hb dX8_rests_140 (fm_n64.mpr qA.1) ?_
                refine vp_callSd ((va_runS (As := [.int ((σ.1 5) p1.toNatClampNeg), .double (FP.dadd (vl (σ.1 5 (ix p1)) (rsS (σ.1 5 (ix p1)) (fun j => σ.2 3 (16 * ix p1 + j)) j)) (vl (σ.1 5 (ix p1)) (rmB (σ.1 5 (ix p1)) ((fun j => σ.2 3 (16 * ix p1 + j)) j) ((fun j => σ.2 3 (16 * ix p1 + j)) (j + 1)))))]) (rest := []) ⟨hx, hb, hml, hown, hts⟩ (met_X8_narrowed l ((σ.1 5) p1.toNatClampNeg) (FP.dadd (vl (σ.1 5 (ix p1)) (rsS (σ.1 5 (ix p1)) (fun j => σ.2 3 (16 * ix p1 + j)) j)) (vl (σ.1 5 (ix p1)) (rmB (σ.1 5 (ix p1)) ((fun j => σ.2 3 (16 * ix p1 + j)) j) ((fun j => σ.2 3 (16 * ix p1 + j)) (j + 1))))) qA.1) (va_cwS 2 hts gX8_rests_X8_narrowed rfl rfl rfl (by decide +kernel) ⟨Nat.le_of_ble_eq_true rfl, Nat.le_of_ble_eq_true rfl⟩) ⟨fun _ _ _ _ q => q, fun U hU hW => ⟨rfl, trivial⟩⟩ rfl rfl hl.1 rfl (lv_room (Nat.le_of_ble_eq_true rfl)) dX8_rests_141 ⟨Nat.le_of_ble_eq_true rfl, Nat.le_of_ble_eq_true rfl⟩).run) (fun r_1 h_1 => ?_)
                subst h_1
                refine lv_topd (fun z_10 ez_10 => ?_)
                rw [show z_10 = vl (σ.1 5 (ix p1)) (wkB (σ.1 5 (ix p1)) 0 (rsS (σ.1 5 (ix p1)) (fun j => σ.2 3 (16 * ix p1 + j)) j) (rmB (σ.1 5 (ix p1)) ((fun j => σ.2 3 (16 * ix p1 + j)) j) ((fun j => σ.2 3 (16 * ix p1 + j)) (j + 1)))) from ez_10.trans qA.2.1]
                refine lv_dstore (lv' := [(4, .double (vl (σ.1 5 (ix p1)) (wkB (σ.1 5 (ix p1)) 0 (rsS (σ.1 5 (ix p1)) (fun j => σ.2 3 (16 * ix p1 + j)) j) (rmB (σ.1 5 (ix p1)) ((fun j => σ.2 3 (16 * ix p1 + j)) j) ((fun j => σ.2 3 (16 * ix p1 + j)) (j + 1)))))), (9, .double (vl (σ.1 5 (ix p1)) ((fun j => σ.2 3 (16 * ix p1 + j)) (j + 1)))), (7, .double (vl (σ.1 5 (ix p1)) ((fun j => σ.2 3 (16 * ix p1 + j)) j))), (6, .int (nI j)), (3, .int (rsN (σ.1 5 (ix p1)) (fun j => σ.2 3 (16 * ix p1 + j)) j)), (0, .ref m0), (1, .int p1), (2, .int p2)]) hx hb dX8_rests_144 hl (by decide) rfl (fun ls hl => ?_)
                refine lv_iinc (v := (rsN (σ.1 5 (ix p1)) (fun j => σ.2 3 (16 * ix p1 + j)) j) + 1) (lv' := [(3, .int ((rsN (σ.1 5 (ix p1)) (fun j => σ.2 3 (16 * ix p1 + j)) j) + 1)), (4, .double (vl (σ.1 5 (ix p1)) (wkB (σ.1 5 (ix p1)) 0 (rsS (σ.1 5 (ix p1)) (fun j => σ.2 3 (16 * ix p1 + j)) j) (rmB (σ.1 5 (ix p1)) ((fun j => σ.2 3 (16 * ix p1 + j)) j) ((fun j => σ.2 3 (16 * ix p1 + j)) (j + 1)))))), (9, .double (vl (σ.1 5 (ix p1)) ((fun j => σ.2 3 (16 * ix p1 + j)) (j + 1)))), (7, .double (vl (σ.1 5 (ix p1)) ((fun j => σ.2 3 (16 * ix p1 + j)) j))), (6, .int (nI j)), (0, .ref m0), (1, .int p1), (2, .int p2)]) hx hb dX8_rests_146 hl (k := 4) rfl rfl (by decide) rfl (fun ls hl => ?_)
                refine lv_iinc (v := (nI j) + 1) (lv' := [(6, .int ((nI j) + 1)), (3, .int ((rsN (σ.1 5 (ix p1)) (fun j => σ.2 3 (16 * ix p1 + j)) j) + 1)), (4, .double (vl (σ.1 5 (ix p1)) (wkB (σ.1 5 (ix p1)) 0 (rsS (σ.1 5 (ix p1)) (fun j => σ.2 3 (16 * ix p1 + j)) j) (rmB (σ.1 5 (ix p1)) ((fun j => σ.2 3 (16 * ix p1 + j)) j) ((fun j => σ.2 3 (16 * ix p1 + j)) (j + 1)))))), (9, .double (vl (σ.1 5 (ix p1)) ((fun j => σ.2 3 (16 * ix p1 + j)) (j + 1)))), (7, .double (vl (σ.1 5 (ix p1)) ((fun j => σ.2 3 (16 * ix p1 + j)) j))), (0, .ref m0), (1, .int p1), (2, .int p2)]) hx hb dX8_rests_149 hl (k := 4) rfl rfl (by decide) rfl (fun ls hl => ?_)
                refine lv_goto (tgt := 69) hx hb dX8_rests_152 (by decide) ?_
                exact ih (j := j + 1) (hl := by rw [← nI_1, show rsS (σ.1 5 (ix p1)) (fun j => σ.2 3 (16 * ix p1 + j)) (j + 1) = _ from if_neg v1, show rsN (σ.1 5 (ix p1)) (fun j => σ.2 3 (16 * ix p1 + j)) (j + 1) = _ from if_neg v1]; exact lv_sub hl [0, 2, 1, 5, 6, 7] rfl) (hj := by omega) (hn := by omega)
        · refine lv_aload_n hx hb dX8_rests_54 rfl (lv_at hl 0 rfl) ?_
          refine lv_bipush (v := (-7)) hx hb dX8_rests_55 (by decide) ?_
          have hFc := wFree hD hS hA
          refine va_calli (va_runV (As := [.int (-7)]) (rest := []) ⟨hx, hb, hml, hown, hts⟩ (met_X8_refuse l Dg m0 H.size a y 0 kd (σ.1 2 0) (σ.1 2 1) (σ.1 2 2) (σ.1 2 3) (σ.1 2 4) wh re (σ.1 1) (σ.1 3) aTo aPo (σ.1 4) aRw aRr (σ.1 5) (σ.1 6) (σ.1 7) aWs aRs (σ.1 8) (σ.1 9) (σ.1 10) (σ.1 11) (σ.1 12) (-7) (by unfold vp_in; decide)) (cwV 1 hts gX8_rests_X8_refuse rfl rfl rfl (by decide +kernel) ⟨Nat.le_of_ble_eq_true rfl, Nat.le_of_ble_eq_true rfl⟩) (wPreV hK hP (hD.weaken (fun _ _ _ _ => trivial)) (va_recv hK hP (ci := 6) (q0 := 0) rfl rfl)) rfl rfl hl.1 rfl (lv_room (Nat.le_of_ble_eq_true rfl)) dX8_rests_57 ⟨Nat.le_of_ble_eq_true rfl, Nat.le_of_ble_eq_true rfl⟩) hS (fun q _ h => hFc q h) hFc (fun r u t H locs ht hvm hw hB _ _ hS => ?_)
          obtain ⟨hP, -, hD⟩ := hB
          rw [ht] at hP
          replace hD := hD.weaken (fun _ q _ h => hFc q.1 h)
          rw [hw.2] at hP hD
          rw [hw.1]
          clear hw hFc
          have hP : va_P Dg vwCl (mW m0 a y (-7) kd (σ.1 2 0) (σ.1 2 1) (σ.1 2 2) (σ.1 2 3) (σ.1 2 4) wh re (rfO (-7) (σ.1 1)) (σ.1 3) aTo aPo (σ.1 4) aRw aRr (σ.1 5) (σ.1 6) (σ.1 7) aWs aRs (σ.1 8) (σ.1 9) (σ.1 10) (σ.1 11) (σ.1 12)) H := hP
          have hD : va_D A (mW m0 a y (-7) kd (σ.1 2 0) (σ.1 2 1) (σ.1 2 2) (σ.1 2 3) (σ.1 2 4) wh re (rfO (-7) (σ.1 1)) (σ.1 3) aTo aPo (σ.1 4) aRw aRr (σ.1 5) (σ.1 6) (σ.1 7) aWs aRs (σ.1 8) (σ.1 9) (σ.1 10) (σ.1 11) (σ.1 12)) := hD
          have hw : wh_rests σ p1 p2 = (-7) := by simp only [wh_rests, if_pos c_1, if_pos c_2, if_pos c_3, if_neg c_4]
          have hn : ¬ wh_rests σ p1 p2 = 0 := by rw [hw]; decide
          exact W.iret (v := (-7)) hx hb hr (fun t ht hW => ⟨⟨_, (mW m0 a y (-7) kd (σ.1 2 0) (σ.1 2 1) (σ.1 2 2) (σ.1 2 3) (σ.1 2 4) wh re (rfO (-7) (σ.1 1)) (σ.1 3) aTo aPo (σ.1 4) aRw aRr (σ.1 5) (σ.1 6) (σ.1 7) aWs aRs (σ.1 8) (σ.1 9) (σ.1 10) (σ.1 11) (σ.1 12)), rfl, ⟨by rw [an_rests, if_neg hn, hw]; try rfl, kd, wh, re, aTo, aPo, aRw, aRr, aWs, aRs, by rw [nw_rests, if_neg hn, hw]; rfl, by rw [nw_rests, if_neg hn]; exact hM⟩, by rw [ht]; exact hP, va_K.moved hW.alike hK, hD⟩, hS.F ht⟩) hS.2.2 dX8_rests_60
      · refine lv_aload_n hx hb dX8_rests_37 rfl (lv_at hl 0 rfl) ?_
        refine lv_bipush (v := (-10)) hx hb dX8_rests_38 (by decide) ?_
        have hFc := wFree hD hS hA
        refine va_calli (va_runV (As := [.int (-10)]) (rest := []) ⟨hx, hb, hml, hown, hts⟩ (met_X8_refuse l Dg m0 H.size a y 0 kd (σ.1 2 0) (σ.1 2 1) (σ.1 2 2) (σ.1 2 3) (σ.1 2 4) wh re (σ.1 1) (σ.1 3) aTo aPo (σ.1 4) aRw aRr (σ.1 5) (σ.1 6) (σ.1 7) aWs aRs (σ.1 8) (σ.1 9) (σ.1 10) (σ.1 11) (σ.1 12) (-10) (by unfold vp_in; decide)) (cwV 1 hts gX8_rests_X8_refuse rfl rfl rfl (by decide +kernel) ⟨Nat.le_of_ble_eq_true rfl, Nat.le_of_ble_eq_true rfl⟩) (wPreV hK hP (hD.weaken (fun _ _ _ _ => trivial)) (va_recv hK hP (ci := 6) (q0 := 0) rfl rfl)) rfl rfl hl.1 rfl (lv_room (Nat.le_of_ble_eq_true rfl)) dX8_rests_40 ⟨Nat.le_of_ble_eq_true rfl, Nat.le_of_ble_eq_true rfl⟩) hS (fun q _ h => hFc q h) hFc (fun r u t H locs ht hvm hw hB _ _ hS => ?_)
        obtain ⟨hP, -, hD⟩ := hB
        rw [ht] at hP
        replace hD := hD.weaken (fun _ q _ h => hFc q.1 h)
        rw [hw.2] at hP hD
        rw [hw.1]
        clear hw hFc
        have hP : va_P Dg vwCl (mW m0 a y (-10) kd (σ.1 2 0) (σ.1 2 1) (σ.1 2 2) (σ.1 2 3) (σ.1 2 4) wh re (rfO (-10) (σ.1 1)) (σ.1 3) aTo aPo (σ.1 4) aRw aRr (σ.1 5) (σ.1 6) (σ.1 7) aWs aRs (σ.1 8) (σ.1 9) (σ.1 10) (σ.1 11) (σ.1 12)) H := hP
        have hD : va_D A (mW m0 a y (-10) kd (σ.1 2 0) (σ.1 2 1) (σ.1 2 2) (σ.1 2 3) (σ.1 2 4) wh re (rfO (-10) (σ.1 1)) (σ.1 3) aTo aPo (σ.1 4) aRw aRr (σ.1 5) (σ.1 6) (σ.1 7) aWs aRs (σ.1 8) (σ.1 9) (σ.1 10) (σ.1 11) (σ.1 12)) := hD
        have hw : wh_rests σ p1 p2 = (-10) := by simp only [wh_rests, if_pos c_1, if_pos c_2, if_neg c_3]
        have hn : ¬ wh_rests σ p1 p2 = 0 := by rw [hw]; decide
        exact W.iret (v := (-10)) hx hb hr (fun t ht hW => ⟨⟨_, (mW m0 a y (-10) kd (σ.1 2 0) (σ.1 2 1) (σ.1 2 2) (σ.1 2 3) (σ.1 2 4) wh re (rfO (-10) (σ.1 1)) (σ.1 3) aTo aPo (σ.1 4) aRw aRr (σ.1 5) (σ.1 6) (σ.1 7) aWs aRs (σ.1 8) (σ.1 9) (σ.1 10) (σ.1 11) (σ.1 12)), rfl, ⟨by rw [an_rests, if_neg hn, hw]; try rfl, kd, wh, re, aTo, aPo, aRw, aRr, aWs, aRs, by rw [nw_rests, if_neg hn, hw]; rfl, by rw [nw_rests, if_neg hn]; exact hM⟩, by rw [ht]; exact hP, va_K.moved hW.alike hK, hD⟩, hS.F ht⟩) hS.2.2 dX8_rests_43
    · replace c_2 := bI_eq c_2
      refine lv_aload_n hx hb dX8_rests_21 rfl (lv_at hl 0 rfl) ?_
      refine lv_bipush (v := (-2)) hx hb dX8_rests_22 (by decide) ?_
      have hFc := wFree hD hS hA
      refine va_calli (va_runV (As := [.int (-2)]) (rest := []) ⟨hx, hb, hml, hown, hts⟩ (met_X8_refuse l Dg m0 H.size a y 0 kd (σ.1 2 0) (σ.1 2 1) (σ.1 2 2) (σ.1 2 3) (σ.1 2 4) wh re (σ.1 1) (σ.1 3) aTo aPo (σ.1 4) aRw aRr (σ.1 5) (σ.1 6) (σ.1 7) aWs aRs (σ.1 8) (σ.1 9) (σ.1 10) (σ.1 11) (σ.1 12) (-2) (by unfold vp_in; decide)) (cwV 1 hts gX8_rests_X8_refuse rfl rfl rfl (by decide +kernel) ⟨Nat.le_of_ble_eq_true rfl, Nat.le_of_ble_eq_true rfl⟩) (wPreV hK hP (hD.weaken (fun _ _ _ _ => trivial)) (va_recv hK hP (ci := 6) (q0 := 0) rfl rfl)) rfl rfl hl.1 rfl (lv_room (Nat.le_of_ble_eq_true rfl)) dX8_rests_24 ⟨Nat.le_of_ble_eq_true rfl, Nat.le_of_ble_eq_true rfl⟩) hS (fun q _ h => hFc q h) hFc (fun r u t H locs ht hvm hw hB _ _ hS => ?_)
      obtain ⟨hP, -, hD⟩ := hB
      rw [ht] at hP
      replace hD := hD.weaken (fun _ q _ h => hFc q.1 h)
      rw [hw.2] at hP hD
      rw [hw.1]
      clear hw hFc
      have hP : va_P Dg vwCl (mW m0 a y (-2) kd (σ.1 2 0) (σ.1 2 1) (σ.1 2 2) (σ.1 2 3) (σ.1 2 4) wh re (rfO (-2) (σ.1 1)) (σ.1 3) aTo aPo (σ.1 4) aRw aRr (σ.1 5) (σ.1 6) (σ.1 7) aWs aRs (σ.1 8) (σ.1 9) (σ.1 10) (σ.1 11) (σ.1 12)) H := hP
      have hD : va_D A (mW m0 a y (-2) kd (σ.1 2 0) (σ.1 2 1) (σ.1 2 2) (σ.1 2 3) (σ.1 2 4) wh re (rfO (-2) (σ.1 1)) (σ.1 3) aTo aPo (σ.1 4) aRw aRr (σ.1 5) (σ.1 6) (σ.1 7) aWs aRs (σ.1 8) (σ.1 9) (σ.1 10) (σ.1 11) (σ.1 12)) := hD
      have hw : wh_rests σ p1 p2 = (-2) := by simp only [wh_rests, if_pos c_1, if_neg c_2]
      have hn : ¬ wh_rests σ p1 p2 = 0 := by rw [hw]; decide
      exact W.iret (v := (-2)) hx hb hr (fun t ht hW => ⟨⟨_, (mW m0 a y (-2) kd (σ.1 2 0) (σ.1 2 1) (σ.1 2 2) (σ.1 2 3) (σ.1 2 4) wh re (rfO (-2) (σ.1 1)) (σ.1 3) aTo aPo (σ.1 4) aRw aRr (σ.1 5) (σ.1 6) (σ.1 7) aWs aRs (σ.1 8) (σ.1 9) (σ.1 10) (σ.1 11) (σ.1 12)), rfl, ⟨by rw [an_rests, if_neg hn, hw]; try rfl, kd, wh, re, aTo, aPo, aRw, aRr, aWs, aRs, by rw [nw_rests, if_neg hn, hw]; rfl, by rw [nw_rests, if_neg hn]; exact hM⟩, by rw [ht]; exact hP, va_K.moved hW.alike hK, hD⟩, hS.F ht⟩) hS.2.2 dX8_rests_27

theorem in_X8_all : ∀ w ∈ wsX80, w ∈ wsX8_all := fun w h => List.mem_cons_of_mem _ (List.mem_append_right _ h)
set_option maxHeartbeats 8000000 in
set_option maxRecDepth 100000 in
theorem met_X8_all (l : Launch) (Dg : va_G) (m0 z : Nat) (a : Nat → Nat) (y : Nat → ClassId) (σ : St) (kd : Int32) (wh : Int64) (re : UInt64) (aTo aPo : Nat → UInt64) (aRw : Nat → Int64) (aRr : Nat → UInt64) (aWs : Nat → Int64) (aRs : Nat → UInt64) (p1 : Int32) (hV : vOK σ) (hM : mC σ aTo aPo aRw aRr aWs aRs)  : Met l yX8_all wsX8_all ({ frames := 3, cells := 0, slots := 0, locals := 65 }) (va_Pc [.ref m0, .int p1] (wB Dg (mT y) (mW m0 a y (σ.1 0 0) kd (σ.1 2 0) (σ.1 2 1) (σ.1 2 2) (σ.1 2 3) (σ.1 2 4) wh re (σ.1 1) (σ.1 3) aTo aPo (σ.1 4) aRw aRr (σ.1 5) (σ.1 6) (σ.1 7) aWs aRs (σ.1 8) (σ.1 9) (σ.1 10) (σ.1 11) (σ.1 12)) z)) (va_Ql (fun (r : Int64) (u : va_W) => r = an_all σ p1 ∧ MI m0 a y (nw_all σ p1) u) (wE Dg (mT y) (va_A (mW m0 a y (σ.1 0 0) kd (σ.1 2 0) (σ.1 2 1) (σ.1 2 2) (σ.1 2 3) (σ.1 2 4) wh re (σ.1 1) (σ.1 3) aTo aPo (σ.1 4) aRw aRr (σ.1 5) (σ.1 6) (σ.1 7) aWs aRs (σ.1 8) (σ.1 9) (σ.1 10) (σ.1 11) (σ.1 12)) z)) (va_A (mW m0 a y (σ.1 0 0) kd (σ.1 2 0) (σ.1 2 1) (σ.1 2 2) (σ.1 2 3) (σ.1 2 4) wh re (σ.1 1) (σ.1 3) aTo aPo (σ.1 4) aRw aRr (σ.1 5) (σ.1 6) (σ.1 7) aWs aRs (σ.1 8) (σ.1 9) (σ.1 10) (σ.1 11) (σ.1 12)) z)) 0 0 (va_A (mW m0 a y (σ.1 0 0) kd (σ.1 2 0) (σ.1 2 1) (σ.1 2 2) (σ.1 2 3) (σ.1 2 4) wh re (σ.1 1) (σ.1 3) aTo aPo (σ.1 4) aRw aRr (σ.1 5) (σ.1 6) (σ.1 7) aWs aRs (σ.1 8) (σ.1 9) (σ.1 10) (σ.1 11) (σ.1 12)) z) := by
  refine Met.ofW (cc := cX8_all) (maxL := 6) (ret := (some .long)) (by decide) rfl ?_
  intro p e s m args below meth c s₁ B hml hv
  obtain ⟨rfl, hsz, hP, hK, hD0⟩ := hv
  have hx := B.exec
  have hb := B.bytes
  have hr := B.returns
  have hts := atoms_spec (ws := wsX8_all) B.pre
  have hown : s.vm.findClass RX8 = some m.cls := findClass_of_methodNamed B.named
  have hlocks := B.notSynchronized
  subst hsz
  have hD := hD0.self (sz := s.heap.size)
  generalize hAe : va_A (mW m0 a y (σ.1 0 0) kd (σ.1 2 0) (σ.1 2 1) (σ.1 2 2) (σ.1 2 3) (σ.1 2 4) wh re (σ.1 1) (σ.1 3) aTo aPo (σ.1 4) aRw aRr (σ.1 5) (σ.1 6) (σ.1 7) aWs aRs (σ.1 8) (σ.1 9) (σ.1 10) (σ.1 11) (σ.1 12)) s.heap.size = A at hD ⊢
  have hA : ∀ q : Nat, s.heap.size ≤ q → A q := fun q h => by rw [← hAe]; exact Or.inr h
  have hS : va_S A s.heap s.heap [] := va_S.rf
  have hP : va_P Dg vwCl (mW m0 a y (σ.1 0 0) kd (σ.1 2 0) (σ.1 2 1) (σ.1 2 2) (σ.1 2 3) (σ.1 2 4) wh re (σ.1 1) (σ.1 3) aTo aPo (σ.1 4) aRw aRr (σ.1 5) (σ.1 6) (σ.1 7) aWs aRs (σ.1 8) (σ.1 9) (σ.1 10) (σ.1 11) (σ.1 12)) s.heap := hP
  have hl := lv_entry ([.ref m0, .int p1]) (n := 6) (Nat.le_of_ble_eq_true rfl)
  rw [lg_entry_eq]
  generalize (lg_sl ([.ref m0, .int p1]) ++ List.replicate (6 - (lg_sl ([.ref m0, .int p1])).length) Slot.unset).toArray = ls at hl ⊢
  have hl : lv_has ls 6 [(0, .ref m0), (1, .int p1)] := hl
  refine lv_aload_n hx hb dX8_all_0 rfl (lv_at hl 0 rfl) ?_
  refine lv_aload_n hx hb dX8_all_1 rfl (lv_at hl 0 rfl) ?_
  refine lv_iload_n hx hb dX8_all_2 rfl (lv_at hl 1 rfl) ?_
  refine vp_callSi ((va_runV (As := [.int p1]) (rest := [.ref m0]) ⟨hx, hb, hml, hown, hts⟩ (met_X8_isStand l Dg m0 s.heap.size a y (σ.1 0 0) kd (σ.1 2 0) (σ.1 2 1) (σ.1 2 2) (σ.1 2 3) (σ.1 2 4) wh re (σ.1 1) (σ.1 3) aTo aPo (σ.1 4) aRw aRr (σ.1 5) (σ.1 6) (σ.1 7) aWs aRs (σ.1 8) (σ.1 9) (σ.1 10) (σ.1 11) (σ.1 12) p1 ) (cwV 1 hts gX8_all_X8_isStand rfl rfl rfl (by decide +kernel) ⟨Nat.le_of_ble_eq_true rfl, Nat.le_of_ble_eq_true rfl⟩) (wPreV hK hP (hD.weaken (fun _ _ _ _ => trivial)) (va_recv hK hP (ci := 6) (q0 := 0) rfl rfl)) rfl rfl hl.1 rfl (lv_room (Nat.le_of_ble_eq_true rfl)) dX8_all_3 ⟨Nat.le_of_ble_eq_true rfl, Nat.le_of_ble_eq_true rfl⟩).run) (fun r hw => ?_)
  rw [hw]
  refine lv_if_eq (tgt := 13) hx hb dX8_all_6 (by decide) (fun c_1 => ?_) (fun c_1 => ?_)
  · replace c_1 := bI_eq c_1
    refine lv_bipush (v := (-2)) hx hb dX8_all_13 (by decide) ?_
    refine va_put (D := Dg) (ci := 6) (v := .int (-2)) (ty := .int) (C := RX8) (T := TX8) (N := 26) hx hb hts in_X8_all tyX8 tyX8_ok nmX8 hown hK hP hD hS 0 rfl rfl 0 (by decide) (hts (.fieldLink RX8 64 "OrreryWorksModel" "refused" "I") (by decide +kernel)) (fun _ h9 => h9) rfl (by decide +kernel) rfl rfl (Nat.le_of_ble_eq_true rfl) dX8_all_15 (fun H locs hP hD hS => ?_)
    have hP : va_P Dg vwCl (mW m0 a y (-2) kd (σ.1 2 0) (σ.1 2 1) (σ.1 2 2) (σ.1 2 3) (σ.1 2 4) wh re (σ.1 1) (σ.1 3) aTo aPo (σ.1 4) aRw aRr (σ.1 5) (σ.1 6) (σ.1 7) aWs aRs (σ.1 8) (σ.1 9) (σ.1 10) (σ.1 11) (σ.1 12)) H := hP
    have hD : va_D A (mW m0 a y (-2) kd (σ.1 2 0) (σ.1 2 1) (σ.1 2 2) (σ.1 2 3) (σ.1 2 4) wh re (σ.1 1) (σ.1 3) aTo aPo (σ.1 4) aRw aRr (σ.1 5) (σ.1 6) (σ.1 7) aWs aRs (σ.1 8) (σ.1 9) (σ.1 10) (σ.1 11) (σ.1 12)) := hD
    refine lv_lconst (v := 0) hx hb dX8_all_18 (by decide) ?_
    refine lv_lstore_n (lv' := [(2, .long 0), (0, .ref m0), (1, .int p1)]) hx hb dX8_all_19 rfl hl (by decide) rfl (fun ls hl => ?_)
    refine lv_iconst (v := 0) hx hb dX8_all_20 (by decide) ?_
    refine lv_istore (lv' := [(4, .int 0), (2, .long 0), (0, .ref m0), (1, .int p1)]) hx hb dX8_all_21 hl (by decide) rfl (fun ls hl => ?_)
    refine lv_aload_n hx hb dX8_all_23 rfl (lv_at hl 2 rfl) ?_
    refine va_get (D := Dg) (ci := 6) (v := .int (-2)) (C := RX8) (T := TX8) (N := 26) hx hb hts in_X8_all hown hK hP 0 rfl rfl 0 (by decide) (hts (.fieldLink RX8 64 "OrreryWorksModel" "refused" "I") (by decide +kernel)) (fun _ h9 => h9) rfl dX8_all_24 ?_
    refine lv_if_ne (tgt := 80) hx hb dX8_all_27 (by decide) (fun _ => ?_) (fun h0 => absurd h0 (by decide))
    refine lv_lload_n hx hb dX8_all_80 rfl (lv_at hl 1 rfl) ?_
    have hw : wh_all σ p1 = (-2) := by simp only [wh_all, if_neg c_1]
    have hn : ¬ wh_all σ p1 = 0 := by rw [hw]; decide
    exact W.lret (v := 0) hx hb hr (fun t ht hW => ⟨⟨_, (mW m0 a y (-2) kd (σ.1 2 0) (σ.1 2 1) (σ.1 2 2) (σ.1 2 3) (σ.1 2 4) wh re (σ.1 1) (σ.1 3) aTo aPo (σ.1 4) aRw aRr (σ.1 5) (σ.1 6) (σ.1 7) aWs aRs (σ.1 8) (σ.1 9) (σ.1 10) (σ.1 11) (σ.1 12)), rfl, ⟨by rw [an_all, if_neg hn]; try rfl, kd, wh, re, aTo, aPo, aRw, aRr, aWs, aRs, by rw [nw_all, if_neg hn, hw]; simp only [mG, rf, rfO2]; rfl, by rw [nw_all, if_neg hn]; exact hM⟩, by rw [ht]; exact hP, va_K.moved hW.alike hK, hD⟩, hS.F ht⟩) hS.2.2 dX8_all_81
  · replace c_1 := bI_ne c_1
    refine lv_iconst (v := 0) hx hb dX8_all_9 (by decide) ?_
    refine lv_goto (tgt := 15) hx hb dX8_all_10 (by decide) ?_
    refine va_put (D := Dg) (ci := 6) (v := .int 0) (ty := .int) (C := RX8) (T := TX8) (N := 26) hx hb hts in_X8_all tyX8 tyX8_ok nmX8 hown hK hP hD hS 0 rfl rfl 0 (by decide) (hts (.fieldLink RX8 64 "OrreryWorksModel" "refused" "I") (by decide +kernel)) (fun _ h9 => h9) rfl (by decide +kernel) rfl rfl (Nat.le_of_ble_eq_true rfl) dX8_all_15 (fun H locs hP hD hS => ?_)
    have hP : va_P Dg vwCl (mW m0 a y 0 kd (σ.1 2 0) (σ.1 2 1) (σ.1 2 2) (σ.1 2 3) (σ.1 2 4) wh re (σ.1 1) (σ.1 3) aTo aPo (σ.1 4) aRw aRr (σ.1 5) (σ.1 6) (σ.1 7) aWs aRs (σ.1 8) (σ.1 9) (σ.1 10) (σ.1 11) (σ.1 12)) H := hP
    have hD : va_D A (mW m0 a y 0 kd (σ.1 2 0) (σ.1 2 1) (σ.1 2 2) (σ.1 2 3) (σ.1 2 4) wh re (σ.1 1) (σ.1 3) aTo aPo (σ.1 4) aRw aRr (σ.1 5) (σ.1 6) (σ.1 7) aWs aRs (σ.1 8) (σ.1 9) (σ.1 10) (σ.1 11) (σ.1 12)) := hD
    have T1 := hV.2.2.2.2.2 _ (inC_lt hV.1.2.2.2.2 c_1)
    have hn1 := T1.2.1.1
    have hn2 := T1.2.1.2
    have hsr := t_rng hV c_1
    refine lv_lconst (v := 0) hx hb dX8_all_18 (by decide) ?_
    refine lv_lstore_n (lv' := [(2, .long 0), (0, .ref m0), (1, .int p1)]) hx hb dX8_all_19 rfl hl (by decide) rfl (fun ls hl => ?_)
    refine lv_iconst (v := 0) hx hb dX8_all_20 (by decide) ?_
    refine lv_istore (lv' := [(4, .int 0), (2, .long 0), (0, .ref m0), (1, .int p1)]) hx hb dX8_all_21 hl (by decide) rfl (fun ls hl => ?_)
    have hq : ∃ j : Nat, lv_has ls 6 [(4, .int (nI j)), (2, .long (alS σ (ix p1) j)), (0, .ref m0), (1, .int p1)] ∧ j ≤ ix (σ.1 11 (ix p1)) := ⟨0, hl, Nat.zero_le _⟩
    clear hl
    obtain ⟨j, hl, hj⟩ := hq
    have hN : ((ix (σ.1 11 (ix p1)) : Nat) : Int) = (σ.1 11 (ix p1)).toInt := by show (((σ.1 11 (ix p1)).toInt.toNat : Nat) : Int) = _; omega
    obtain ⟨n, hn⟩ : ∃ n : Nat, j + n = ix (σ.1 11 (ix p1)) := ⟨ix (σ.1 11 (ix p1)) - j, by omega⟩
    induction n generalizing j ls with
    | zero =>
      have ej : j = ix (σ.1 11 (ix p1)) := by omega
      have d1 : σ.1 11 (ix p1) ≤ nI j := by rw [Int32.le_iff_toInt_le, nI_toInt (by omega)]; omega
      refine lv_aload_n hx hb dX8_all_23 rfl (lv_at hl 2 rfl) ?_
      refine va_get (D := Dg) (ci := 6) (v := .int 0) (C := RX8) (T := TX8) (N := 26) hx hb hts in_X8_all hown hK hP 0 rfl rfl 0 (by decide) (hts (.fieldLink RX8 64 "OrreryWorksModel" "refused" "I") (by decide +kernel)) (fun _ h9 => h9) rfl dX8_all_24 ?_
      refine lv_if_ne (tgt := 80) hx hb dX8_all_27 (by decide) (fun h0 => absurd (by decide) h0) (fun _ => ?_)
      refine lv_iload hx hb dX8_all_30 (lv_at hl 0 rfl) ?_
      refine lv_aload_n hx hb dX8_all_32 rfl (lv_at hl 2 rfl) ?_
      refine va_get (D := Dg) (ci := 6) (v := .ref (a 15)) (C := RX8) (T := TX8) (N := 26) hx hb hts in_X8_all hown hK hP 0 rfl rfl 24 (by decide) (hts (.fieldLink RX8 58 "OrreryWorksModel" "standSize" "[I") (by decide +kernel)) (fun _ h9 => h9) rfl dX8_all_33 ?_
      refine lv_iload_n hx hb dX8_all_36 rfl (lv_at hl 3 rfl) ?_
      refine va_iald hx hb hK hP 16 15 rfl rfl (inC_in hV.1.2.2.2.2 c_1) dX8_all_37 ?_
      refine lv_icmp_ge (tgt := 80) hx hb dX8_all_38 (by decide) (fun _ => ?_) (fun h0 => absurd d1 h0)
      refine lv_lload_n hx hb dX8_all_80 rfl (lv_at hl 1 rfl) ?_
      have hw : wh_all σ p1 = 0 := by simp only [wh_all, if_pos c_1]
      exact W.lret (v := (alS σ (ix p1) j)) hx hb hr (fun t ht hW => ⟨⟨_, (mW m0 a y 0 kd (σ.1 2 0) (σ.1 2 1) (σ.1 2 2) (σ.1 2 3) (σ.1 2 4) wh re (σ.1 1) (σ.1 3) aTo aPo (σ.1 4) aRw aRr (σ.1 5) (σ.1 6) (σ.1 7) aWs aRs (σ.1 8) (σ.1 9) (σ.1 10) (σ.1 11) (σ.1 12)), rfl, ⟨by rw [an_all, if_pos hw]; rw [← ej], kd, wh, re, aTo, aPo, aRw, aRr, aWs, aRs, by rw [nw_all, if_pos hw]; rfl, by rw [nw_all, if_pos hw]; exact hM⟩, by rw [ht]; exact hP, va_K.moved hW.alike hK, hD⟩, hS.F ht⟩) hS.2.2 dX8_all_81
    | succ n ih =>
      have d1 : ¬ σ.1 11 (ix p1) ≤ nI j := fun g => by rw [Int32.le_iff_toInt_le, nI_toInt (by omega)] at g; omega
      have hjr : 0 ≤ (nI j).toInt ∧ (nI j).toInt < 6 := by rw [nI_toInt (by omega)]; omega
      have hm := mix6 hsr hjr
      have hcl : ix (nI j) = j := nI_clamp (by omega)
      refine lv_aload_n hx hb dX8_all_23 rfl (lv_at hl 2 rfl) ?_
      refine va_get (D := Dg) (ci := 6) (v := .int 0) (C := RX8) (T := TX8) (N := 26) hx hb hts in_X8_all hown hK hP 0 rfl rfl 0 (by decide) (hts (.fieldLink RX8 64 "OrreryWorksModel" "refused" "I") (by decide +kernel)) (fun _ h9 => h9) rfl dX8_all_24 ?_
      refine lv_if_ne (tgt := 80) hx hb dX8_all_27 (by decide) (fun h0 => absurd (by decide) h0) (fun _ => ?_)
      refine lv_iload hx hb dX8_all_30 (lv_at hl 0 rfl) ?_
      refine lv_aload_n hx hb dX8_all_32 rfl (lv_at hl 2 rfl) ?_
      refine va_get (D := Dg) (ci := 6) (v := .ref (a 15)) (C := RX8) (T := TX8) (N := 26) hx hb hts in_X8_all hown hK hP 0 rfl rfl 24 (by decide) (hts (.fieldLink RX8 58 "OrreryWorksModel" "standSize" "[I") (by decide +kernel)) (fun _ h9 => h9) rfl dX8_all_33 ?_
      refine lv_iload_n hx hb dX8_all_36 rfl (lv_at hl 3 rfl) ?_
      refine va_iald hx hb hK hP 16 15 rfl rfl (inC_in hV.1.2.2.2.2 c_1) dX8_all_37 ?_
      refine lv_icmp_ge (tgt := 80) hx hb dX8_all_38 (by decide) (fun h0 => absurd h0 d1) (fun _ => ?_)
      refine lv_aload_n hx hb dX8_all_41 rfl (lv_at hl 2 rfl) ?_
      refine va_get (D := Dg) (ci := 6) (v := .ref (a 16)) (C := RX8) (T := TX8) (N := 26) hx hb hts in_X8_all hown hK hP 0 rfl rfl 25 (by decide) (hts (.fieldLink RX8 61 "OrreryWorksModel" "shown" "[I") (by decide +kernel)) (fun _ h9 => h9) rfl dX8_all_42 ?_
      refine lv_bipush (v := 6) hx hb dX8_all_45 (by decide) ?_
      refine lv_iload_n hx hb dX8_all_47 rfl (lv_at hl 3 rfl) ?_
      refine lv_imul hx hb dX8_all_48 ?_
      refine lv_iload hx hb dX8_all_49 (lv_at hl 0 rfl) ?_
      refine lv_iadd hx hb dX8_all_51 ?_
      refine va_iald hx hb hK hP 17 16 rfl rfl hm.1 dX8_all_52 ?_
      refine lv_istore (lv' := [(5, .int ((σ.1 12) ((6 * p1) + (nI j)).toNatClampNeg)), (4, .int (nI j)), (2, .long (alS σ (ix p1) j)), (0, .ref m0), (1, .int p1)]) hx hb dX8_all_53 hl (by decide) rfl (fun ls hl => ?_)
      refine lv_lload_n hx hb dX8_all_55 rfl (lv_at hl 2 rfl) ?_
      refine lv_iload hx hb dX8_all_56 (lv_at hl 0 rfl) ?_
      refine lv_iconst (v := (-1)) hx hb dX8_all_58 (by decide) ?_
      refine lv_icmp_ne (tgt := 66) hx hb dX8_all_59 (by decide) (fun c_2 => ?_) (fun c_2 => ?_)
      · have hp := (tp_ok hV c_1 hjr).resolve_left (by rw [← hm.2]; exact c_2)
        have q1 := pt_ok hV hM hp
        rw [← hm.2] at q1
        refine lv_aload_n hx hb dX8_all_66 rfl (lv_at hl 3 rfl) ?_
        refine lv_iload hx hb dX8_all_67 (lv_at hl 0 rfl) ?_
        refine vp_callSl ((va_runV (As := [.int ((σ.1 12) ((6 * p1) + (nI j)).toNatClampNeg)]) (rest := [.long (alS σ (ix p1) j)]) ⟨hx, hb, hml, hown, hts⟩ (met_X8_shows l Dg m0 H.size a y 0 kd (σ.1 2 0) (σ.1 2 1) (σ.1 2 2) (σ.1 2 3) (σ.1 2 4) wh re (σ.1 1) (σ.1 3) aTo aPo (σ.1 4) aRw aRr (σ.1 5) (σ.1 6) (σ.1 7) aWs aRs (σ.1 8) (σ.1 9) (σ.1 10) (σ.1 11) (σ.1 12) ((σ.1 12) ((6 * p1) + (nI j)).toNatClampNeg) _ _ q1.1 q1.2.1 q1.2.2.1 q1.2.2.2) (cwV 1 hts gX8_all_X8_shows rfl rfl rfl (by decide +kernel) ⟨Nat.le_of_ble_eq_true rfl, Nat.le_of_ble_eq_true rfl⟩) (wPreV hK hP (hD.weaken (fun _ _ _ _ => trivial)) (va_recv hK hP (ci := 6) (q0 := 0) rfl rfl)) rfl rfl hl.1 rfl (lv_room (Nat.le_of_ble_eq_true rfl)) dX8_all_69 ⟨Nat.le_of_ble_eq_true rfl, Nat.le_of_ble_eq_true rfl⟩).run) (fun r hw => ?_)
        rw [hw]
        refine lv_ladd hx hb dX8_all_72 ?_
        refine lv_lstore_n (lv' := [(2, .long ((alS σ (ix p1) j) + (shP σ ((σ.1 12) ((6 * p1) + (nI j)).toNatClampNeg)))), (5, .int ((σ.1 12) ((6 * p1) + (nI j)).toNatClampNeg)), (4, .int (nI j)), (0, .ref m0), (1, .int p1)]) hx hb dX8_all_73 rfl hl (by decide) rfl (fun ls hl => ?_)
        refine lv_iinc (v := (nI j) + 1) (lv' := [(4, .int ((nI j) + 1)), (2, .long ((alS σ (ix p1) j) + (shP σ ((σ.1 12) ((6 * p1) + (nI j)).toNatClampNeg)))), (5, .int ((σ.1 12) ((6 * p1) + (nI j)).toNatClampNeg)), (0, .ref m0), (1, .int p1)]) hx hb dX8_all_74 hl (k := 2) rfl rfl (by decide) rfl (fun ls hl => ?_)
        refine lv_goto (tgt := 23) hx hb dX8_all_77 (by decide) ?_
        have v1 : ¬ σ.1 12 (6 * ix p1 + j) = -1 := by have g := c_2; rwa [hm.2, hcl] at g
        rw [hm.2, hcl] at hl
        exact ih (j := j + 1) (hl := by rw [← nI_1, show alS σ (ix p1) (j + 1) = _ from if_neg v1]; exact lv_sub hl [0, 1, 3, 4] rfl) (hj := by omega) (hn := by omega)
      · refine lv_lconst (v := 0) hx hb dX8_all_62 (by decide) ?_
        refine lv_goto (tgt := 72) hx hb dX8_all_63 (by decide) ?_
        refine lv_ladd hx hb dX8_all_72 ?_
        refine lv_lstore_n (lv' := [(2, .long ((alS σ (ix p1) j) + 0)), (5, .int ((σ.1 12) ((6 * p1) + (nI j)).toNatClampNeg)), (4, .int (nI j)), (0, .ref m0), (1, .int p1)]) hx hb dX8_all_73 rfl hl (by decide) rfl (fun ls hl => ?_)
        refine lv_iinc (v := (nI j) + 1) (lv' := [(4, .int ((nI j) + 1)), (2, .long ((alS σ (ix p1) j) + 0)), (5, .int ((σ.1 12) ((6 * p1) + (nI j)).toNatClampNeg)), (0, .ref m0), (1, .int p1)]) hx hb dX8_all_74 hl (k := 2) rfl rfl (by decide) rfl (fun ls hl => ?_)
        refine lv_goto (tgt := 23) hx hb dX8_all_77 (by decide) ?_
        have v1 : σ.1 12 (6 * ix p1 + j) = -1 := by have g := c_2; rwa [hm.2, hcl] at g
        rw [Int64.add_zero] at hl
        exact ih (j := j + 1) (hl := by rw [← nI_1, show alS σ (ix p1) (j + 1) = alS σ (ix p1) j from if_pos v1]; exact lv_sub hl [0, 1, 3, 4] rfl) (hj := by omega) (hn := by omega)
