/-! the model's own acts -/
def rfO (w : Int32) (f : Nat → Int32) : Nat → Int32 := if (-3) < w then f else upd f ((-3) - w).toNatClampNeg (f ((-3) - w).toNatClampNeg + 1)
def mcW (k : Int32) (w : Int64) (r : UInt64) (t : Int32) : Int64 := if 2 ≤ t then w else if t = 0 then (if 2 ≤ k then (FP.d2i r).toInt64 else w).toInt32.toInt64 else (if 2 ≤ k then FP.d2l r else w)
def mcR (k : Int32) (w : Int64) (r : UInt64) (t : Int32) : UInt64 := if 2 ≤ t then (if t = 2 then (if 2 ≤ k then FP.f2d (FP.d2f r) else FP.f2d (FP.l2f w)) else (if 2 ≤ k then r else FP.l2d w)) else r
def mbt (k : Int32) (w : Int64) (r : UInt64) : Int64 := if 2 ≤ k then (if k = 2 then (fJxf58ca_floatToIntBits_5c35a (FP.d2f r)).toInt64 else fJxe99ae_doubleToLongBits_ccdee r) else w
def hbW (k : Int32) (b : Int64) : Int64 := if 2 ≤ k then 0 else if k = 0 then b.toInt32.toInt64 else b
def hbR (k : Int32) (b : Int64) : UInt64 := if 2 ≤ k then (if k = 2 then FP.f2d b.toInt32.toUInt32 else b.toUInt64) else FP.dconst0
def agn (g l s k i : Int32) : Int32 := if g = 0 then (if l = k then (if fX8_isIn i 0 (s - 1) = true then 0 else (-8)) else (-7)) else (-10)

theorem in_X8_isWheel : ∀ w ∈ wsX80, w ∈ wsX8_isWheel := fun w h => List.mem_cons_of_mem _ (List.mem_append_right _ h)
set_option maxHeartbeats 8000000 in
set_option maxRecDepth 100000 in
theorem met_X8_isWheel (l : Launch) (Dg : va_G) (m0 z : Nat) (a : Nat → Nat) (y : Nat → ClassId) (iR : Int32) (iK : Int32) (nW : Int32) (nR : Int32) (nS : Int32) (nP : Int32) (nT : Int32) (jW : Int64) (dR : UInt64) (aOf : Nat → Int32) (aWk : Nat → Int32) (aTo : Nat → UInt64) (aPo : Nat → UInt64) (aRk : Nat → Int32) (aRw : Nat → Int64) (aRr : Nat → UInt64) (aLa : Nat → Int32) (aSi : Nat → Int32) (aGo : Nat → Int32) (aWs : Nat → Int64) (aRs : Nat → UInt64) (aSo : Nat → Int32) (aWa : Nat → Int32) (aSs : Nat → Int32) (aSz : Nat → Int32) (aSh : Nat → Int32) (p1 : Int32)  : Met l yX8_isWheel wsX8_isWheel ({ frames := 1, cells := 0, slots := 0, locals := 22 }) (va_Pc [.ref m0, .int p1] (wB Dg (mT y) (mW m0 a y iR iK nW nR nS nP nT jW dR aOf aWk aTo aPo aRk aRw aRr aLa aSi aGo aWs aRs aSo aWa aSs aSz aSh) z)) (vp_Si (fun r => r = bI (fX8_isIn p1 0 (nW - 1)))) 0 0 (fun _ => False) := by
  refine Met.ofW (cc := cX8_isWheel) (maxL := 2) (ret := (some .boolean)) (by decide) rfl ?_
  intro p e s m args below meth c s₁ B hml hv
  obtain ⟨rfl, hsz, hP, hK, hD0⟩ := hv
  have hx := B.exec
  have hb := B.bytes
  have hr := B.returns
  have hts := atoms_spec (ws := wsX8_isWheel) B.pre
  have hown : s.vm.findClass RX8 = some m.cls := findClass_of_methodNamed B.named
  have hlocks := B.notSynchronized
  subst hsz
  have hl := lv_entry ([.ref m0, .int p1]) (n := 2) (Nat.le_of_ble_eq_true rfl)
  rw [lg_entry_eq]
  generalize (lg_sl ([.ref m0, .int p1]) ++ List.replicate (2 - (lg_sl ([.ref m0, .int p1])).length) Slot.unset).toArray = ls at hl ⊢
  have hl : lv_has ls 2 [(0, .ref m0), (1, .int p1)] := hl
  refine lv_iload_n hx hb dX8_isWheel_0 rfl (lv_at hl 1 rfl) ?_
  refine lv_iconst (v := 0) hx hb dX8_isWheel_1 (by decide) ?_
  refine lv_aload_n hx hb dX8_isWheel_2 rfl (lv_at hl 0 rfl) ?_
  refine va_get (D := Dg) (ci := 6) (v := .int nW) (C := RX8) (T := TX8) (N := 26) hx hb hts in_X8_isWheel hown hK hP 0 rfl rfl 5 (by decide) (hts (.fieldLink RX8 113 "OrreryWorksModel" "wheels" "I") (by decide +kernel)) (fun _ h9 => h9) rfl dX8_isWheel_3 ?_
  refine lv_iconst (v := 1) hx hb dX8_isWheel_6 (by decide) ?_
  refine lv_isub hx hb dX8_isWheel_7 ?_
  refine vp_callSi ((va_runS (As := [.int p1, .int 0, .int (nW - 1)]) (rest := []) ⟨hx, hb, hml, hown, hts⟩ (met_X8_isIn l p1 0 (nW - 1)) (va_cwS 3 hts gX8_isWheel_X8_isIn rfl rfl rfl (by decide +kernel) ⟨Nat.le_of_ble_eq_true rfl, Nat.le_of_ble_eq_true rfl⟩) ⟨fun _ _ _ _ q => q, fun U hU hW => ⟨rfl, trivial⟩⟩ rfl rfl hl.1 rfl (lv_room (Nat.le_of_ble_eq_true rfl)) dX8_isWheel_8 ⟨Nat.le_of_ble_eq_true rfl, Nat.le_of_ble_eq_true rfl⟩).run) (fun r hw => ?_)
  subst hw
  exact W.zret (v := bI (fX8_isIn p1 0 (nW - 1))) hx hb hr (nar_bI _) (fun t ht hW => ⟨_, rfl, rfl, ht⟩) (fun q hq => absurd hq List.not_mem_nil) dX8_isWheel_11

theorem in_X8_isRegister : ∀ w ∈ wsX80, w ∈ wsX8_isRegister := fun w h => List.mem_cons_of_mem _ (List.mem_append_right _ h)
set_option maxHeartbeats 8000000 in
set_option maxRecDepth 100000 in
theorem met_X8_isRegister (l : Launch) (Dg : va_G) (m0 z : Nat) (a : Nat → Nat) (y : Nat → ClassId) (iR : Int32) (iK : Int32) (nW : Int32) (nR : Int32) (nS : Int32) (nP : Int32) (nT : Int32) (jW : Int64) (dR : UInt64) (aOf : Nat → Int32) (aWk : Nat → Int32) (aTo : Nat → UInt64) (aPo : Nat → UInt64) (aRk : Nat → Int32) (aRw : Nat → Int64) (aRr : Nat → UInt64) (aLa : Nat → Int32) (aSi : Nat → Int32) (aGo : Nat → Int32) (aWs : Nat → Int64) (aRs : Nat → UInt64) (aSo : Nat → Int32) (aWa : Nat → Int32) (aSs : Nat → Int32) (aSz : Nat → Int32) (aSh : Nat → Int32) (p1 : Int32)  : Met l yX8_isRegister wsX8_isRegister ({ frames := 1, cells := 0, slots := 0, locals := 22 }) (va_Pc [.ref m0, .int p1] (wB Dg (mT y) (mW m0 a y iR iK nW nR nS nP nT jW dR aOf aWk aTo aPo aRk aRw aRr aLa aSi aGo aWs aRs aSo aWa aSs aSz aSh) z)) (vp_Si (fun r => r = bI (fX8_isIn p1 0 (nR - 1)))) 0 0 (fun _ => False) := by
  refine Met.ofW (cc := cX8_isRegister) (maxL := 2) (ret := (some .boolean)) (by decide) rfl ?_
  intro p e s m args below meth c s₁ B hml hv
  obtain ⟨rfl, hsz, hP, hK, hD0⟩ := hv
  have hx := B.exec
  have hb := B.bytes
  have hr := B.returns
  have hts := atoms_spec (ws := wsX8_isRegister) B.pre
  have hown : s.vm.findClass RX8 = some m.cls := findClass_of_methodNamed B.named
  have hlocks := B.notSynchronized
  subst hsz
  have hl := lv_entry ([.ref m0, .int p1]) (n := 2) (Nat.le_of_ble_eq_true rfl)
  rw [lg_entry_eq]
  generalize (lg_sl ([.ref m0, .int p1]) ++ List.replicate (2 - (lg_sl ([.ref m0, .int p1])).length) Slot.unset).toArray = ls at hl ⊢
  have hl : lv_has ls 2 [(0, .ref m0), (1, .int p1)] := hl
  refine lv_iload_n hx hb dX8_isRegister_0 rfl (lv_at hl 1 rfl) ?_
  refine lv_iconst (v := 0) hx hb dX8_isRegister_1 (by decide) ?_
  refine lv_aload_n hx hb dX8_isRegister_2 rfl (lv_at hl 0 rfl) ?_
  refine va_get (D := Dg) (ci := 6) (v := .int nR) (C := RX8) (T := TX8) (N := 26) hx hb hts in_X8_isRegister hown hK hP 0 rfl rfl 9 (by decide) (hts (.fieldLink RX8 144 "OrreryWorksModel" "registers" "I") (by decide +kernel)) (fun _ h9 => h9) rfl dX8_isRegister_3 ?_
  refine lv_iconst (v := 1) hx hb dX8_isRegister_6 (by decide) ?_
  refine lv_isub hx hb dX8_isRegister_7 ?_
  refine vp_callSi ((va_runS (As := [.int p1, .int 0, .int (nR - 1)]) (rest := []) ⟨hx, hb, hml, hown, hts⟩ (met_X8_isIn l p1 0 (nR - 1)) (va_cwS 3 hts gX8_isRegister_X8_isIn rfl rfl rfl (by decide +kernel) ⟨Nat.le_of_ble_eq_true rfl, Nat.le_of_ble_eq_true rfl⟩) ⟨fun _ _ _ _ q => q, fun U hU hW => ⟨rfl, trivial⟩⟩ rfl rfl hl.1 rfl (lv_room (Nat.le_of_ble_eq_true rfl)) dX8_isRegister_8 ⟨Nat.le_of_ble_eq_true rfl, Nat.le_of_ble_eq_true rfl⟩).run) (fun r hw => ?_)
  subst hw
  exact W.zret (v := bI (fX8_isIn p1 0 (nR - 1))) hx hb hr (nar_bI _) (fun t ht hW => ⟨_, rfl, rfl, ht⟩) (fun q hq => absurd hq List.not_mem_nil) dX8_isRegister_11

theorem in_X8_isStrip : ∀ w ∈ wsX80, w ∈ wsX8_isStrip := fun w h => List.mem_cons_of_mem _ (List.mem_append_right _ h)
set_option maxHeartbeats 8000000 in
set_option maxRecDepth 100000 in
theorem met_X8_isStrip (l : Launch) (Dg : va_G) (m0 z : Nat) (a : Nat → Nat) (y : Nat → ClassId) (iR : Int32) (iK : Int32) (nW : Int32) (nR : Int32) (nS : Int32) (nP : Int32) (nT : Int32) (jW : Int64) (dR : UInt64) (aOf : Nat → Int32) (aWk : Nat → Int32) (aTo : Nat → UInt64) (aPo : Nat → UInt64) (aRk : Nat → Int32) (aRw : Nat → Int64) (aRr : Nat → UInt64) (aLa : Nat → Int32) (aSi : Nat → Int32) (aGo : Nat → Int32) (aWs : Nat → Int64) (aRs : Nat → UInt64) (aSo : Nat → Int32) (aWa : Nat → Int32) (aSs : Nat → Int32) (aSz : Nat → Int32) (aSh : Nat → Int32) (p1 : Int32)  : Met l yX8_isStrip wsX8_isStrip ({ frames := 1, cells := 0, slots := 0, locals := 22 }) (va_Pc [.ref m0, .int p1] (wB Dg (mT y) (mW m0 a y iR iK nW nR nS nP nT jW dR aOf aWk aTo aPo aRk aRw aRr aLa aSi aGo aWs aRs aSo aWa aSs aSz aSh) z)) (vp_Si (fun r => r = bI (fX8_isIn p1 0 (nS - 1)))) 0 0 (fun _ => False) := by
  refine Met.ofW (cc := cX8_isStrip) (maxL := 2) (ret := (some .boolean)) (by decide) rfl ?_
  intro p e s m args below meth c s₁ B hml hv
  obtain ⟨rfl, hsz, hP, hK, hD0⟩ := hv
  have hx := B.exec
  have hb := B.bytes
  have hr := B.returns
  have hts := atoms_spec (ws := wsX8_isStrip) B.pre
  have hown : s.vm.findClass RX8 = some m.cls := findClass_of_methodNamed B.named
  have hlocks := B.notSynchronized
  subst hsz
  have hl := lv_entry ([.ref m0, .int p1]) (n := 2) (Nat.le_of_ble_eq_true rfl)
  rw [lg_entry_eq]
  generalize (lg_sl ([.ref m0, .int p1]) ++ List.replicate (2 - (lg_sl ([.ref m0, .int p1])).length) Slot.unset).toArray = ls at hl ⊢
  have hl : lv_has ls 2 [(0, .ref m0), (1, .int p1)] := hl
  refine lv_iload_n hx hb dX8_isStrip_0 rfl (lv_at hl 1 rfl) ?_
  refine lv_iconst (v := 0) hx hb dX8_isStrip_1 (by decide) ?_
  refine lv_aload_n hx hb dX8_isStrip_2 rfl (lv_at hl 0 rfl) ?_
  refine va_get (D := Dg) (ci := 6) (v := .int nS) (C := RX8) (T := TX8) (N := 26) hx hb hts in_X8_isStrip hown hK hP 0 rfl rfl 13 (by decide) (hts (.fieldLink RX8 182 "OrreryWorksModel" "strips" "I") (by decide +kernel)) (fun _ h9 => h9) rfl dX8_isStrip_3 ?_
  refine lv_iconst (v := 1) hx hb dX8_isStrip_6 (by decide) ?_
  refine lv_isub hx hb dX8_isStrip_7 ?_
  refine vp_callSi ((va_runS (As := [.int p1, .int 0, .int (nS - 1)]) (rest := []) ⟨hx, hb, hml, hown, hts⟩ (met_X8_isIn l p1 0 (nS - 1)) (va_cwS 3 hts gX8_isStrip_X8_isIn rfl rfl rfl (by decide +kernel) ⟨Nat.le_of_ble_eq_true rfl, Nat.le_of_ble_eq_true rfl⟩) ⟨fun _ _ _ _ q => q, fun U hU hW => ⟨rfl, trivial⟩⟩ rfl rfl hl.1 rfl (lv_room (Nat.le_of_ble_eq_true rfl)) dX8_isStrip_8 ⟨Nat.le_of_ble_eq_true rfl, Nat.le_of_ble_eq_true rfl⟩).run) (fun r hw => ?_)
  subst hw
  exact W.zret (v := bI (fX8_isIn p1 0 (nS - 1))) hx hb hr (nar_bI _) (fun t ht hW => ⟨_, rfl, rfl, ht⟩) (fun q hq => absurd hq List.not_mem_nil) dX8_isStrip_11

theorem in_X8_isPointer : ∀ w ∈ wsX80, w ∈ wsX8_isPointer := fun w h => List.mem_cons_of_mem _ (List.mem_append_right _ h)
set_option maxHeartbeats 8000000 in
set_option maxRecDepth 100000 in
theorem met_X8_isPointer (l : Launch) (Dg : va_G) (m0 z : Nat) (a : Nat → Nat) (y : Nat → ClassId) (iR : Int32) (iK : Int32) (nW : Int32) (nR : Int32) (nS : Int32) (nP : Int32) (nT : Int32) (jW : Int64) (dR : UInt64) (aOf : Nat → Int32) (aWk : Nat → Int32) (aTo : Nat → UInt64) (aPo : Nat → UInt64) (aRk : Nat → Int32) (aRw : Nat → Int64) (aRr : Nat → UInt64) (aLa : Nat → Int32) (aSi : Nat → Int32) (aGo : Nat → Int32) (aWs : Nat → Int64) (aRs : Nat → UInt64) (aSo : Nat → Int32) (aWa : Nat → Int32) (aSs : Nat → Int32) (aSz : Nat → Int32) (aSh : Nat → Int32) (p1 : Int32)  : Met l yX8_isPointer wsX8_isPointer ({ frames := 1, cells := 0, slots := 0, locals := 22 }) (va_Pc [.ref m0, .int p1] (wB Dg (mT y) (mW m0 a y iR iK nW nR nS nP nT jW dR aOf aWk aTo aPo aRk aRw aRr aLa aSi aGo aWs aRs aSo aWa aSs aSz aSh) z)) (vp_Si (fun r => r = bI (fX8_isIn p1 0 (nP - 1)))) 0 0 (fun _ => False) := by
  refine Met.ofW (cc := cX8_isPointer) (maxL := 2) (ret := (some .boolean)) (by decide) rfl ?_
  intro p e s m args below meth c s₁ B hml hv
  obtain ⟨rfl, hsz, hP, hK, hD0⟩ := hv
  have hx := B.exec
  have hb := B.bytes
  have hr := B.returns
  have hts := atoms_spec (ws := wsX8_isPointer) B.pre
  have hown : s.vm.findClass RX8 = some m.cls := findClass_of_methodNamed B.named
  have hlocks := B.notSynchronized
  subst hsz
  have hl := lv_entry ([.ref m0, .int p1]) (n := 2) (Nat.le_of_ble_eq_true rfl)
  rw [lg_entry_eq]
  generalize (lg_sl ([.ref m0, .int p1]) ++ List.replicate (2 - (lg_sl ([.ref m0, .int p1])).length) Slot.unset).toArray = ls at hl ⊢
  have hl : lv_has ls 2 [(0, .ref m0), (1, .int p1)] := hl
  refine lv_iload_n hx hb dX8_isPointer_0 rfl (lv_at hl 1 rfl) ?_
  refine lv_iconst (v := 0) hx hb dX8_isPointer_1 (by decide) ?_
  refine lv_aload_n hx hb dX8_isPointer_2 rfl (lv_at hl 0 rfl) ?_
  refine va_get (D := Dg) (ci := 6) (v := .int nP) (C := RX8) (T := TX8) (N := 26) hx hb hts in_X8_isPointer hown hK hP 0 rfl rfl 19 (by decide) (hts (.fieldLink RX8 192 "OrreryWorksModel" "pointers" "I") (by decide +kernel)) (fun _ h9 => h9) rfl dX8_isPointer_3 ?_
  refine lv_iconst (v := 1) hx hb dX8_isPointer_6 (by decide) ?_
  refine lv_isub hx hb dX8_isPointer_7 ?_
  refine vp_callSi ((va_runS (As := [.int p1, .int 0, .int (nP - 1)]) (rest := []) ⟨hx, hb, hml, hown, hts⟩ (met_X8_isIn l p1 0 (nP - 1)) (va_cwS 3 hts gX8_isPointer_X8_isIn rfl rfl rfl (by decide +kernel) ⟨Nat.le_of_ble_eq_true rfl, Nat.le_of_ble_eq_true rfl⟩) ⟨fun _ _ _ _ q => q, fun U hU hW => ⟨rfl, trivial⟩⟩ rfl rfl hl.1 rfl (lv_room (Nat.le_of_ble_eq_true rfl)) dX8_isPointer_8 ⟨Nat.le_of_ble_eq_true rfl, Nat.le_of_ble_eq_true rfl⟩).run) (fun r hw => ?_)
  subst hw
  exact W.zret (v := bI (fX8_isIn p1 0 (nP - 1))) hx hb hr (nar_bI _) (fun t ht hW => ⟨_, rfl, rfl, ht⟩) (fun q hq => absurd hq List.not_mem_nil) dX8_isPointer_11

theorem in_X8_isStand : ∀ w ∈ wsX80, w ∈ wsX8_isStand := fun w h => List.mem_cons_of_mem _ (List.mem_append_right _ h)
set_option maxHeartbeats 8000000 in
set_option maxRecDepth 100000 in
theorem met_X8_isStand (l : Launch) (Dg : va_G) (m0 z : Nat) (a : Nat → Nat) (y : Nat → ClassId) (iR : Int32) (iK : Int32) (nW : Int32) (nR : Int32) (nS : Int32) (nP : Int32) (nT : Int32) (jW : Int64) (dR : UInt64) (aOf : Nat → Int32) (aWk : Nat → Int32) (aTo : Nat → UInt64) (aPo : Nat → UInt64) (aRk : Nat → Int32) (aRw : Nat → Int64) (aRr : Nat → UInt64) (aLa : Nat → Int32) (aSi : Nat → Int32) (aGo : Nat → Int32) (aWs : Nat → Int64) (aRs : Nat → UInt64) (aSo : Nat → Int32) (aWa : Nat → Int32) (aSs : Nat → Int32) (aSz : Nat → Int32) (aSh : Nat → Int32) (p1 : Int32)  : Met l yX8_isStand wsX8_isStand ({ frames := 1, cells := 0, slots := 0, locals := 22 }) (va_Pc [.ref m0, .int p1] (wB Dg (mT y) (mW m0 a y iR iK nW nR nS nP nT jW dR aOf aWk aTo aPo aRk aRw aRr aLa aSi aGo aWs aRs aSo aWa aSs aSz aSh) z)) (vp_Si (fun r => r = bI (fX8_isIn p1 0 (nT - 1)))) 0 0 (fun _ => False) := by
  refine Met.ofW (cc := cX8_isStand) (maxL := 2) (ret := (some .boolean)) (by decide) rfl ?_
  intro p e s m args below meth c s₁ B hml hv
  obtain ⟨rfl, hsz, hP, hK, hD0⟩ := hv
  have hx := B.exec
  have hb := B.bytes
  have hr := B.returns
  have hts := atoms_spec (ws := wsX8_isStand) B.pre
  have hown : s.vm.findClass RX8 = some m.cls := findClass_of_methodNamed B.named
  have hlocks := B.notSynchronized
  subst hsz
  have hl := lv_entry ([.ref m0, .int p1]) (n := 2) (Nat.le_of_ble_eq_true rfl)
  rw [lg_entry_eq]
  generalize (lg_sl ([.ref m0, .int p1]) ++ List.replicate (2 - (lg_sl ([.ref m0, .int p1])).length) Slot.unset).toArray = ls at hl ⊢
  have hl : lv_has ls 2 [(0, .ref m0), (1, .int p1)] := hl
  refine lv_iload_n hx hb dX8_isStand_0 rfl (lv_at hl 1 rfl) ?_
  refine lv_iconst (v := 0) hx hb dX8_isStand_1 (by decide) ?_
  refine lv_aload_n hx hb dX8_isStand_2 rfl (lv_at hl 0 rfl) ?_
  refine va_get (D := Dg) (ci := 6) (v := .int nT) (C := RX8) (T := TX8) (N := 26) hx hb hts in_X8_isStand hown hK hP 0 rfl rfl 22 (by decide) (hts (.fieldLink RX8 195 "OrreryWorksModel" "stands" "I") (by decide +kernel)) (fun _ h9 => h9) rfl dX8_isStand_3 ?_
  refine lv_iconst (v := 1) hx hb dX8_isStand_6 (by decide) ?_
  refine lv_isub hx hb dX8_isStand_7 ?_
  refine vp_callSi ((va_runS (As := [.int p1, .int 0, .int (nT - 1)]) (rest := []) ⟨hx, hb, hml, hown, hts⟩ (met_X8_isIn l p1 0 (nT - 1)) (va_cwS 3 hts gX8_isStand_X8_isIn rfl rfl rfl (by decide +kernel) ⟨Nat.le_of_ble_eq_true rfl, Nat.le_of_ble_eq_true rfl⟩) ⟨fun _ _ _ _ q => q, fun U hU hW => ⟨rfl, trivial⟩⟩ rfl rfl hl.1 rfl (lv_room (Nat.le_of_ble_eq_true rfl)) dX8_isStand_8 ⟨Nat.le_of_ble_eq_true rfl, Nat.le_of_ble_eq_true rfl⟩).run) (fun r hw => ?_)
  subst hw
  exact W.zret (v := bI (fX8_isIn p1 0 (nT - 1))) hx hb hr (nar_bI _) (fun t ht hW => ⟨_, rfl, rfl, ht⟩) (fun q hq => absurd hq List.not_mem_nil) dX8_isStand_11

theorem in_X8_refuse : ∀ w ∈ wsX80, w ∈ wsX8_refuse := fun w h => List.mem_cons_of_mem _ (List.mem_append_right _ h)
set_option maxHeartbeats 8000000 in
set_option maxRecDepth 100000 in
theorem met_X8_refuse (l : Launch) (Dg : va_G) (m0 z : Nat) (a : Nat → Nat) (y : Nat → ClassId) (iR : Int32) (iK : Int32) (nW : Int32) (nR : Int32) (nS : Int32) (nP : Int32) (nT : Int32) (jW : Int64) (dR : UInt64) (aOf : Nat → Int32) (aWk : Nat → Int32) (aTo : Nat → UInt64) (aPo : Nat → UInt64) (aRk : Nat → Int32) (aRw : Nat → Int64) (aRr : Nat → UInt64) (aLa : Nat → Int32) (aSi : Nat → Int32) (aGo : Nat → Int32) (aWs : Nat → Int64) (aRs : Nat → UInt64) (aSo : Nat → Int32) (aWa : Nat → Int32) (aSs : Nat → Int32) (aSz : Nat → Int32) (aSh : Nat → Int32) (p1 : Int32) (hin : ¬ (-3) < p1 → vp_in ((-3) - p1) 8) : Met l yX8_refuse wsX8_refuse ({ frames := 0, cells := 0, slots := 0, locals := 0 }) (va_Pc [.ref m0, .int p1] (wB Dg (mT y) (mW m0 a y iR iK nW nR nS nP nT jW dR aOf aWk aTo aPo aRk aRw aRr aLa aSi aGo aWs aRs aSo aWa aSs aSz aSh) z)) (va_Qi (fun (r : Int32) (u : va_W) => r = p1 ∧ u = (mW m0 a y p1 iK nW nR nS nP nT jW dR (rfO p1 aOf) aWk aTo aPo aRk aRw aRr aLa aSi aGo aWs aRs aSo aWa aSs aSz aSh)) (wE Dg (mT y) (va_A (mW m0 a y iR iK nW nR nS nP nT jW dR aOf aWk aTo aPo aRk aRw aRr aLa aSi aGo aWs aRs aSo aWa aSs aSz aSh) z)) (va_A (mW m0 a y iR iK nW nR nS nP nT jW dR aOf aWk aTo aPo aRk aRw aRr aLa aSi aGo aWs aRs aSo aWa aSs aSz aSh) z)) 0 0 (va_A (mW m0 a y iR iK nW nR nS nP nT jW dR aOf aWk aTo aPo aRk aRw aRr aLa aSi aGo aWs aRs aSo aWa aSs aSz aSh) z) := by
  refine Met.ofW (cc := cX8_refuse) (maxL := 2) (ret := (some .int)) (by decide) rfl ?_
  intro p e s m args below meth c s₁ B hml hv
  obtain ⟨rfl, hsz, hP, hK, hD0⟩ := hv
  have hx := B.exec
  have hb := B.bytes
  have hr := B.returns
  have hts := atoms_spec (ws := wsX8_refuse) B.pre
  have hown : s.vm.findClass RX8 = some m.cls := findClass_of_methodNamed B.named
  have hlocks := B.notSynchronized
  subst hsz
  have hD := hD0.self (sz := s.heap.size)
  generalize hAe : va_A (mW m0 a y iR iK nW nR nS nP nT jW dR aOf aWk aTo aPo aRk aRw aRr aLa aSi aGo aWs aRs aSo aWa aSs aSz aSh) s.heap.size = A at hD ⊢
  have hA : ∀ q : Nat, s.heap.size ≤ q → A q := fun q h => by rw [← hAe]; exact Or.inr h
  have hS : va_S A s.heap s.heap [] := va_S.rf
  have hP : va_P Dg vwCl (mW m0 a y iR iK nW nR nS nP nT jW dR aOf aWk aTo aPo aRk aRw aRr aLa aSi aGo aWs aRs aSo aWa aSs aSz aSh) s.heap := hP
  have hl := lv_entry ([.ref m0, .int p1]) (n := 2) (Nat.le_of_ble_eq_true rfl)
  rw [lg_entry_eq]
  generalize (lg_sl ([.ref m0, .int p1]) ++ List.replicate (2 - (lg_sl ([.ref m0, .int p1])).length) Slot.unset).toArray = ls at hl ⊢
  have hl : lv_has ls 2 [(0, .ref m0), (1, .int p1)] := hl
  refine lv_aload_n hx hb dX8_refuse_0 rfl (lv_at hl 0 rfl) ?_
  refine lv_iload_n hx hb dX8_refuse_1 rfl (lv_at hl 1 rfl) ?_
  refine va_put (D := Dg) (ci := 6) (v := .int p1) (ty := .int) (C := RX8) (T := TX8) (N := 26) hx hb hts in_X8_refuse tyX8 tyX8_ok nmX8 hown hK hP hD hS 0 rfl rfl 0 (by decide) (hts (.fieldLink RX8 64 "OrreryWorksModel" "refused" "I") (by decide +kernel)) (fun _ h9 => h9) rfl (by decide +kernel) rfl rfl (Nat.le_of_ble_eq_true rfl) dX8_refuse_2 (fun H locs hP hD hS => ?_)
  have hP : va_P Dg vwCl (mW m0 a y p1 iK nW nR nS nP nT jW dR aOf aWk aTo aPo aRk aRw aRr aLa aSi aGo aWs aRs aSo aWa aSs aSz aSh) H := hP
  have hD : va_D A (mW m0 a y p1 iK nW nR nS nP nT jW dR aOf aWk aTo aPo aRk aRw aRr aLa aSi aGo aWs aRs aSo aWa aSs aSz aSh) := hD
  refine lv_iload_n hx hb dX8_refuse_5 rfl (lv_at hl 1 rfl) ?_
  refine lv_bipush (v := (-3)) hx hb dX8_refuse_6 (by decide) ?_
  refine lv_icmp_gt (tgt := 24) hx hb dX8_refuse_8 (by decide) (fun c_1 => ?_) (fun c_1 => ?_)
  · refine lv_iload_n hx hb dX8_refuse_24 rfl (lv_at hl 1 rfl) ?_
    exact W.iret (v := p1) hx hb hr (fun t ht hW => ⟨⟨_, (mW m0 a y p1 iK nW nR nS nP nT jW dR aOf aWk aTo aPo aRk aRw aRr aLa aSi aGo aWs aRs aSo aWa aSs aSz aSh), rfl, ⟨rfl, by simp only [rfO, if_pos c_1]⟩, by rw [ht]; exact hP, va_K.moved hW.alike hK, hD⟩, hS.F ht⟩) hS.2.2 dX8_refuse_25
  · refine lv_aload_n hx hb dX8_refuse_11 rfl (lv_at hl 0 rfl) ?_
    refine va_get (D := Dg) (ci := 6) (v := .ref (a 0)) (C := RX8) (T := TX8) (N := 26) hx hb hts in_X8_refuse hown hK hP 0 rfl rfl 1 (by decide) (hts (.fieldLink RX8 7 "OrreryWorksModel" "often" "[I") (by decide +kernel)) (fun _ h9 => h9) rfl dX8_refuse_12 ?_
    refine lv_bipush (v := (-3)) hx hb dX8_refuse_15 (by decide) ?_
    refine lv_iload_n hx hb dX8_refuse_17 rfl (lv_at hl 1 rfl) ?_
    refine lv_isub hx hb dX8_refuse_18 ?_
    refine lv_dup2_11 hx hb dX8_refuse_19 rfl rfl ?_
    refine va_iald hx hb hK hP 1 0 rfl rfl (hin c_1) dX8_refuse_20 ?_
    refine lv_iconst (v := 1) hx hb dX8_refuse_21 (by decide) ?_
    refine lv_iadd hx hb dX8_refuse_22 ?_
    refine va_iast hx hb hK hP hD hS 1 0 rfl rfl (hin c_1) dX8_refuse_23 (fun H locs hP hD hS => ?_)
    have hP : va_P Dg vwCl (mW m0 a y p1 iK nW nR nS nP nT jW dR (upd aOf ((-3) - p1).toNatClampNeg ((aOf ((-3) - p1).toNatClampNeg) + 1)) aWk aTo aPo aRk aRw aRr aLa aSi aGo aWs aRs aSo aWa aSs aSz aSh) H := hP
    have hD : va_D A (mW m0 a y p1 iK nW nR nS nP nT jW dR (upd aOf ((-3) - p1).toNatClampNeg ((aOf ((-3) - p1).toNatClampNeg) + 1)) aWk aTo aPo aRk aRw aRr aLa aSi aGo aWs aRs aSo aWa aSs aSz aSh) := hD
    refine lv_iload_n hx hb dX8_refuse_24 rfl (lv_at hl 1 rfl) ?_
    exact W.iret (v := p1) hx hb hr (fun t ht hW => ⟨⟨_, (mW m0 a y p1 iK nW nR nS nP nT jW dR (upd aOf ((-3) - p1).toNatClampNeg ((aOf ((-3) - p1).toNatClampNeg) + 1)) aWk aTo aPo aRk aRw aRr aLa aSi aGo aWs aRs aSo aWa aSs aSz aSh), rfl, ⟨rfl, by simp only [rfO, if_neg c_1]⟩, by rw [ht]; exact hP, va_K.moved hW.alike hK, hD⟩, hS.F ht⟩) hS.2.2 dX8_refuse_25

theorem in_X8_hold : ∀ w ∈ wsX80, w ∈ wsX8_hold := fun w h => List.mem_cons_of_mem _ (List.mem_append_right _ h)
set_option maxHeartbeats 8000000 in
set_option maxRecDepth 100000 in
theorem met_X8_hold (l : Launch) (Dg : va_G) (m0 z : Nat) (a : Nat → Nat) (y : Nat → ClassId) (iR : Int32) (iK : Int32) (nW : Int32) (nR : Int32) (nS : Int32) (nP : Int32) (nT : Int32) (jW : Int64) (dR : UInt64) (aOf : Nat → Int32) (aWk : Nat → Int32) (aTo : Nat → UInt64) (aPo : Nat → UInt64) (aRk : Nat → Int32) (aRw : Nat → Int64) (aRr : Nat → UInt64) (aLa : Nat → Int32) (aSi : Nat → Int32) (aGo : Nat → Int32) (aWs : Nat → Int64) (aRs : Nat → UInt64) (aSo : Nat → Int32) (aWa : Nat → Int32) (aSs : Nat → Int32) (aSz : Nat → Int32) (aSh : Nat → Int32) (p1 : Int32) (p2 : Int64) (p3 : UInt64)  : Met l yX8_hold wsX8_hold ({ frames := 0, cells := 0, slots := 0, locals := 0 }) (va_Pc [.ref m0, .int p1, .long p2, .double p3] (wB Dg (mT y) (mW m0 a y iR iK nW nR nS nP nT jW dR aOf aWk aTo aPo aRk aRw aRr aLa aSi aGo aWs aRs aSo aWa aSs aSz aSh) z)) (va_Qv (fun (u : va_W) => u = (mW m0 a y iR p1 nW nR nS nP nT p2 p3 aOf aWk aTo aPo aRk aRw aRr aLa aSi aGo aWs aRs aSo aWa aSs aSz aSh)) (wE Dg (mT y) (va_A (mW m0 a y iR iK nW nR nS nP nT jW dR aOf aWk aTo aPo aRk aRw aRr aLa aSi aGo aWs aRs aSo aWa aSs aSz aSh) z)) (va_A (mW m0 a y iR iK nW nR nS nP nT jW dR aOf aWk aTo aPo aRk aRw aRr aLa aSi aGo aWs aRs aSo aWa aSs aSz aSh) z)) 0 0 (va_A (mW m0 a y iR iK nW nR nS nP nT jW dR aOf aWk aTo aPo aRk aRw aRr aLa aSi aGo aWs aRs aSo aWa aSs aSz aSh) z) := by
  refine Met.ofW (cc := cX8_hold) (maxL := 6) (ret := none) (by decide) rfl ?_
  intro p e s m args below meth c s₁ B hml hv
  obtain ⟨rfl, hsz, hP, hK, hD0⟩ := hv
  have hx := B.exec
  have hb := B.bytes
  have hr := B.returns
  have hts := atoms_spec (ws := wsX8_hold) B.pre
  have hown : s.vm.findClass RX8 = some m.cls := findClass_of_methodNamed B.named
  have hlocks := B.notSynchronized
  subst hsz
  have hD := hD0.self (sz := s.heap.size)
  generalize hAe : va_A (mW m0 a y iR iK nW nR nS nP nT jW dR aOf aWk aTo aPo aRk aRw aRr aLa aSi aGo aWs aRs aSo aWa aSs aSz aSh) s.heap.size = A at hD ⊢
  have hA : ∀ q : Nat, s.heap.size ≤ q → A q := fun q h => by rw [← hAe]; exact Or.inr h
  have hS : va_S A s.heap s.heap [] := va_S.rf
  have hP : va_P Dg vwCl (mW m0 a y iR iK nW nR nS nP nT jW dR aOf aWk aTo aPo aRk aRw aRr aLa aSi aGo aWs aRs aSo aWa aSs aSz aSh) s.heap := hP
  have hl := lv_entry ([.ref m0, .int p1, .long p2, .double p3]) (n := 6) (Nat.le_of_ble_eq_true rfl)
  rw [lg_entry_eq]
  generalize (lg_sl ([.ref m0, .int p1, .long p2, .double p3]) ++ List.replicate (6 - (lg_sl ([.ref m0, .int p1, .long p2, .double p3])).length) Slot.unset).toArray = ls at hl ⊢
  have hl : lv_has ls 6 [(0, .ref m0), (1, .int p1), (2, .long p2), (4, .double p3)] := hl
  refine lv_aload_n hx hb dX8_hold_0 rfl (lv_at hl 0 rfl) ?_
  refine lv_iload_n hx hb dX8_hold_1 rfl (lv_at hl 1 rfl) ?_
  refine va_put (D := Dg) (ci := 6) (v := .int p1) (ty := .int) (C := RX8) (T := TX8) (N := 26) hx hb hts in_X8_hold tyX8 tyX8_ok nmX8 hown hK hP hD hS 0 rfl rfl 2 (by decide) (hts (.fieldLink RX8 80 "OrreryWorksModel" "kind" "I") (by decide +kernel)) (fun _ h9 => h9) rfl (by decide +kernel) rfl rfl (Nat.le_of_ble_eq_true rfl) dX8_hold_2 (fun H locs hP hD hS => ?_)
  have hP : va_P Dg vwCl (mW m0 a y iR p1 nW nR nS nP nT jW dR aOf aWk aTo aPo aRk aRw aRr aLa aSi aGo aWs aRs aSo aWa aSs aSz aSh) H := hP
  have hD : va_D A (mW m0 a y iR p1 nW nR nS nP nT jW dR aOf aWk aTo aPo aRk aRw aRr aLa aSi aGo aWs aRs aSo aWa aSs aSz aSh) := hD
  refine lv_aload_n hx hb dX8_hold_5 rfl (lv_at hl 0 rfl) ?_
  refine lv_lload_n hx hb dX8_hold_6 rfl (lv_at hl 2 rfl) ?_
  refine va_put (D := Dg) (ci := 6) (v := .long p2) (ty := .long) (C := RX8) (T := TX8) (N := 26) hx hb hts in_X8_hold tyX8 tyX8_ok nmX8 hown hK hP hD hS 0 rfl rfl 3 (by decide) (hts (.fieldLink RX8 83 "OrreryWorksModel" "whole" "J") (by decide +kernel)) (fun _ h9 => h9) rfl (by decide +kernel) rfl rfl (Nat.le_of_ble_eq_true rfl) dX8_hold_7 (fun H locs hP hD hS => ?_)
  have hP : va_P Dg vwCl (mW m0 a y iR p1 nW nR nS nP nT p2 dR aOf aWk aTo aPo aRk aRw aRr aLa aSi aGo aWs aRs aSo aWa aSs aSz aSh) H := hP
  have hD : va_D A (mW m0 a y iR p1 nW nR nS nP nT p2 dR aOf aWk aTo aPo aRk aRw aRr aLa aSi aGo aWs aRs aSo aWa aSs aSz aSh) := hD
  refine lv_aload_n hx hb dX8_hold_10 rfl (lv_at hl 0 rfl) ?_
  refine lv_dload hx hb dX8_hold_11 (lv_at hl 3 rfl) ?_
  refine va_put (D := Dg) (ci := 6) (v := .double p3) (ty := .double) (C := RX8) (T := TX8) (N := 26) hx hb hts in_X8_hold tyX8 tyX8_ok nmX8 hown hK hP hD hS 0 rfl rfl 4 (by decide) (hts (.fieldLink RX8 87 "OrreryWorksModel" "real" "D") (by decide +kernel)) (fun _ h9 => h9) rfl (by decide +kernel) rfl rfl (Nat.le_of_ble_eq_true rfl) dX8_hold_13 (fun H locs hP hD hS => ?_)
  have hP : va_P Dg vwCl (mW m0 a y iR p1 nW nR nS nP nT p2 p3 aOf aWk aTo aPo aRk aRw aRr aLa aSi aGo aWs aRs aSo aWa aSs aSz aSh) H := hP
  have hD : va_D A (mW m0 a y iR p1 nW nR nS nP nT p2 p3 aOf aWk aTo aPo aRk aRw aRr aLa aSi aGo aWs aRs aSo aWa aSs aSz aSh) := hD
  exact W.vret hx hb hr (fun t ht hW => ⟨⟨(mW m0 a y iR p1 nW nR nS nP nT p2 p3 aOf aWk aTo aPo aRk aRw aRr aLa aSi aGo aWs aRs aSo aWa aSs aSz aSh), rfl, rfl, by rw [ht]; exact hP, va_K.moved hW.alike hK, hD⟩, hS.F ht⟩) hS.2.2 dX8_hold_16

theorem in_X8_cast : ∀ w ∈ wsX80, w ∈ wsX8_cast := fun w h => List.mem_cons_of_mem _ (List.mem_append_right _ h)
set_option maxHeartbeats 8000000 in
set_option maxRecDepth 100000 in
theorem met_X8_cast (l : Launch) (Dg : va_G) (m0 z : Nat) (a : Nat → Nat) (y : Nat → ClassId) (iR : Int32) (iK : Int32) (nW : Int32) (nR : Int32) (nS : Int32) (nP : Int32) (nT : Int32) (jW : Int64) (dR : UInt64) (aOf : Nat → Int32) (aWk : Nat → Int32) (aTo : Nat → UInt64) (aPo : Nat → UInt64) (aRk : Nat → Int32) (aRw : Nat → Int64) (aRr : Nat → UInt64) (aLa : Nat → Int32) (aSi : Nat → Int32) (aGo : Nat → Int32) (aWs : Nat → Int64) (aRs : Nat → UInt64) (aSo : Nat → Int32) (aWa : Nat → Int32) (aSs : Nat → Int32) (aSz : Nat → Int32) (aSh : Nat → Int32) (p1 : Int32) (hn : 2 ≤ iK → FP.Core.val64 dR ≠ .nan) : Met l yX8_cast wsX8_cast ({ frames := 0, cells := 0, slots := 0, locals := 0 }) (va_Pc [.ref m0, .int p1] (wB Dg (mT y) (mW m0 a y iR iK nW nR nS nP nT jW dR aOf aWk aTo aPo aRk aRw aRr aLa aSi aGo aWs aRs aSo aWa aSs aSz aSh) z)) (va_Qv (fun (u : va_W) => u = (mW m0 a y iR p1 nW nR nS nP nT (mcW iK jW dR p1) (mcR iK jW dR p1) aOf aWk aTo aPo aRk aRw aRr aLa aSi aGo aWs aRs aSo aWa aSs aSz aSh)) (wE Dg (mT y) (va_A (mW m0 a y iR iK nW nR nS nP nT jW dR aOf aWk aTo aPo aRk aRw aRr aLa aSi aGo aWs aRs aSo aWa aSs aSz aSh) z)) (va_A (mW m0 a y iR iK nW nR nS nP nT jW dR aOf aWk aTo aPo aRk aRw aRr aLa aSi aGo aWs aRs aSo aWa aSs aSz aSh) z)) 0 0 (va_A (mW m0 a y iR iK nW nR nS nP nT jW dR aOf aWk aTo aPo aRk aRw aRr aLa aSi aGo aWs aRs aSo aWa aSs aSz aSh) z) := by
  refine Met.ofW (cc := cX8_cast) (maxL := 4) (ret := none) (by decide) rfl ?_
  intro p e s m args below meth c s₁ B hml hv
  obtain ⟨rfl, hsz, hP, hK, hD0⟩ := hv
  have hx := B.exec
  have hb := B.bytes
  have hr := B.returns
  have hts := atoms_spec (ws := wsX8_cast) B.pre
  have hown : s.vm.findClass RX8 = some m.cls := findClass_of_methodNamed B.named
  have hlocks := B.notSynchronized
  subst hsz
  have hD := hD0.self (sz := s.heap.size)
  generalize hAe : va_A (mW m0 a y iR iK nW nR nS nP nT jW dR aOf aWk aTo aPo aRk aRw aRr aLa aSi aGo aWs aRs aSo aWa aSs aSz aSh) s.heap.size = A at hD ⊢
  have hA : ∀ q : Nat, s.heap.size ≤ q → A q := fun q h => by rw [← hAe]; exact Or.inr h
  have hS : va_S A s.heap s.heap [] := va_S.rf
  have hP : va_P Dg vwCl (mW m0 a y iR iK nW nR nS nP nT jW dR aOf aWk aTo aPo aRk aRw aRr aLa aSi aGo aWs aRs aSo aWa aSs aSz aSh) s.heap := hP
  have hl := lv_entry ([.ref m0, .int p1]) (n := 4) (Nat.le_of_ble_eq_true rfl)
  rw [lg_entry_eq]
  generalize (lg_sl ([.ref m0, .int p1]) ++ List.replicate (4 - (lg_sl ([.ref m0, .int p1])).length) Slot.unset).toArray = ls at hl ⊢
  have hl : lv_has ls 4 [(0, .ref m0), (1, .int p1)] := hl
  refine lv_iload_n hx hb dX8_cast_0 rfl (lv_at hl 1 rfl) ?_
  refine lv_iconst (v := 2) hx hb dX8_cast_1 (by decide) ?_
  refine lv_icmp_ge (tgt := 57) hx hb dX8_cast_2 (by decide) (fun c_1 => ?_) (fun c_1 => ?_)
  · refine lv_iload_n hx hb dX8_cast_57 rfl (lv_at hl 1 rfl) ?_
    refine lv_iconst (v := 2) hx hb dX8_cast_58 (by decide) ?_
    refine lv_icmp_ne (tgt := 92) hx hb dX8_cast_59 (by decide) (fun c_2 => ?_) (fun c_2 => ?_)
    · refine lv_aload_n hx hb dX8_cast_92 rfl (lv_at hl 0 rfl) ?_
      refine va_get (D := Dg) (ci := 6) (v := .int iK) (C := RX8) (T := TX8) (N := 26) hx hb hts in_X8_cast hown hK hP 0 rfl rfl 2 (by decide) (hts (.fieldLink RX8 80 "OrreryWorksModel" "kind" "I") (by decide +kernel)) (fun _ h9 => h9) rfl dX8_cast_93 ?_
      refine lv_iconst (v := 2) hx hb dX8_cast_96 (by decide) ?_
      refine lv_icmp_ge (tgt := 109) hx hb dX8_cast_97 (by decide) (fun c_3 => ?_) (fun c_3 => ?_)
      · refine lv_aload_n hx hb dX8_cast_109 rfl (lv_at hl 0 rfl) ?_
        refine lv_iload_n hx hb dX8_cast_110 rfl (lv_at hl 1 rfl) ?_
        refine va_put (D := Dg) (ci := 6) (v := .int p1) (ty := .int) (C := RX8) (T := TX8) (N := 26) hx hb hts in_X8_cast tyX8 tyX8_ok nmX8 hown hK hP hD hS 0 rfl rfl 2 (by decide) (hts (.fieldLink RX8 80 "OrreryWorksModel" "kind" "I") (by decide +kernel)) (fun _ h9 => h9) rfl (by decide +kernel) rfl rfl (Nat.le_of_ble_eq_true rfl) dX8_cast_111 (fun H locs hP hD hS => ?_)
        have hP : va_P Dg vwCl (mW m0 a y iR p1 nW nR nS nP nT jW dR aOf aWk aTo aPo aRk aRw aRr aLa aSi aGo aWs aRs aSo aWa aSs aSz aSh) H := hP
        have hD : va_D A (mW m0 a y iR p1 nW nR nS nP nT jW dR aOf aWk aTo aPo aRk aRw aRr aLa aSi aGo aWs aRs aSo aWa aSs aSz aSh) := hD
        exact W.vret hx hb hr (fun t ht hW => ⟨⟨(mW m0 a y iR p1 nW nR nS nP nT jW dR aOf aWk aTo aPo aRk aRw aRr aLa aSi aGo aWs aRs aSo aWa aSs aSz aSh), rfl, (by simp only [mcW, mcR, if_pos c_1, if_neg c_2, if_pos c_3]), by rw [ht]; exact hP, va_K.moved hW.alike hK, hD⟩, hS.F ht⟩) hS.2.2 dX8_cast_114
      · refine lv_aload_n hx hb dX8_cast_100 rfl (lv_at hl 0 rfl) ?_
        refine lv_aload_n hx hb dX8_cast_101 rfl (lv_at hl 0 rfl) ?_
        refine va_get (D := Dg) (ci := 6) (v := .long jW) (C := RX8) (T := TX8) (N := 26) hx hb hts in_X8_cast hown hK hP 0 rfl rfl 3 (by decide) (hts (.fieldLink RX8 83 "OrreryWorksModel" "whole" "J") (by decide +kernel)) (fun _ h9 => h9) rfl dX8_cast_102 ?_
        refine lv_l2d hx hb dX8_cast_105 ?_
        refine va_put (D := Dg) (ci := 6) (v := .double (FP.l2d jW)) (ty := .double) (C := RX8) (T := TX8) (N := 26) hx hb hts in_X8_cast tyX8 tyX8_ok nmX8 hown hK hP hD hS 0 rfl rfl 4 (by decide) (hts (.fieldLink RX8 87 "OrreryWorksModel" "real" "D") (by decide +kernel)) (fun _ h9 => h9) rfl (by decide +kernel) rfl rfl (Nat.le_of_ble_eq_true rfl) dX8_cast_106 (fun H locs hP hD hS => ?_)
        have hP : va_P Dg vwCl (mW m0 a y iR iK nW nR nS nP nT jW (FP.l2d jW) aOf aWk aTo aPo aRk aRw aRr aLa aSi aGo aWs aRs aSo aWa aSs aSz aSh) H := hP
        have hD : va_D A (mW m0 a y iR iK nW nR nS nP nT jW (FP.l2d jW) aOf aWk aTo aPo aRk aRw aRr aLa aSi aGo aWs aRs aSo aWa aSs aSz aSh) := hD
        refine lv_aload_n hx hb dX8_cast_109 rfl (lv_at hl 0 rfl) ?_
        refine lv_iload_n hx hb dX8_cast_110 rfl (lv_at hl 1 rfl) ?_
        refine va_put (D := Dg) (ci := 6) (v := .int p1) (ty := .int) (C := RX8) (T := TX8) (N := 26) hx hb hts in_X8_cast tyX8 tyX8_ok nmX8 hown hK hP hD hS 0 rfl rfl 2 (by decide) (hts (.fieldLink RX8 80 "OrreryWorksModel" "kind" "I") (by decide +kernel)) (fun _ h9 => h9) rfl (by decide +kernel) rfl rfl (Nat.le_of_ble_eq_true rfl) dX8_cast_111 (fun H locs hP hD hS => ?_)
        have hP : va_P Dg vwCl (mW m0 a y iR p1 nW nR nS nP nT jW (FP.l2d jW) aOf aWk aTo aPo aRk aRw aRr aLa aSi aGo aWs aRs aSo aWa aSs aSz aSh) H := hP
        have hD : va_D A (mW m0 a y iR p1 nW nR nS nP nT jW (FP.l2d jW) aOf aWk aTo aPo aRk aRw aRr aLa aSi aGo aWs aRs aSo aWa aSs aSz aSh) := hD
        exact W.vret hx hb hr (fun t ht hW => ⟨⟨(mW m0 a y iR p1 nW nR nS nP nT jW (FP.l2d jW) aOf aWk aTo aPo aRk aRw aRr aLa aSi aGo aWs aRs aSo aWa aSs aSz aSh), rfl, (by simp only [mcW, mcR, if_pos c_1, if_neg c_2, if_neg c_3]), by rw [ht]; exact hP, va_K.moved hW.alike hK, hD⟩, hS.F ht⟩) hS.2.2 dX8_cast_114
    · refine lv_aload_n hx hb dX8_cast_62 rfl (lv_at hl 0 rfl) ?_
      refine lv_aload_n hx hb dX8_cast_63 rfl (lv_at hl 0 rfl) ?_
      refine va_get (D := Dg) (ci := 6) (v := .int iK) (C := RX8) (T := TX8) (N := 26) hx hb hts in_X8_cast hown hK hP 0 rfl rfl 2 (by decide) (hts (.fieldLink RX8 80 "OrreryWorksModel" "kind" "I") (by decide +kernel)) (fun _ h9 => h9) rfl dX8_cast_64 ?_
      refine lv_iconst (v := 2) hx hb dX8_cast_67 (by decide) ?_
      refine lv_icmp_ge (tgt := 80) hx hb dX8_cast_68 (by decide) (fun c_4 => ?_) (fun c_4 => ?_)
      · refine lv_aload_n hx hb dX8_cast_80 rfl (lv_at hl 0 rfl) ?_
        refine va_get (D := Dg) (ci := 6) (v := .double dR) (C := RX8) (T := TX8) (N := 26) hx hb hts in_X8_cast hown hK hP 0 rfl rfl 4 (by decide) (hts (.fieldLink RX8 87 "OrreryWorksModel" "real" "D") (by decide +kernel)) (fun _ h9 => h9) rfl dX8_cast_81 ?_
        refine lv_d2f hx hb dX8_cast_84 (fm_n32.mpr (fm_d2fn (hn c_4))) ?_
        refine lv_f2d hx hb dX8_cast_85 (fm_n64.mpr (fm_f2dn (fm_d2fn (hn c_4)))) ?_
        refine va_put (D := Dg) (ci := 6) (v := .double (FP.f2d (FP.d2f dR))) (ty := .double) (C := RX8) (T := TX8) (N := 26) hx hb hts in_X8_cast tyX8 tyX8_ok nmX8 hown hK hP hD hS 0 rfl rfl 4 (by decide) (hts (.fieldLink RX8 87 "OrreryWorksModel" "real" "D") (by decide +kernel)) (fun _ h9 => h9) rfl (by decide +kernel) rfl rfl (Nat.le_of_ble_eq_true rfl) dX8_cast_86 (fun H locs hP hD hS => ?_)
        have hP : va_P Dg vwCl (mW m0 a y iR iK nW nR nS nP nT jW (FP.f2d (FP.d2f dR)) aOf aWk aTo aPo aRk aRw aRr aLa aSi aGo aWs aRs aSo aWa aSs aSz aSh) H := hP
        have hD : va_D A (mW m0 a y iR iK nW nR nS nP nT jW (FP.f2d (FP.d2f dR)) aOf aWk aTo aPo aRk aRw aRr aLa aSi aGo aWs aRs aSo aWa aSs aSz aSh) := hD
        refine lv_goto (tgt := 109) hx hb dX8_cast_89 (by decide) ?_
        refine lv_aload_n hx hb dX8_cast_109 rfl (lv_at hl 0 rfl) ?_
        refine lv_iload_n hx hb dX8_cast_110 rfl (lv_at hl 1 rfl) ?_
        refine va_put (D := Dg) (ci := 6) (v := .int p1) (ty := .int) (C := RX8) (T := TX8) (N := 26) hx hb hts in_X8_cast tyX8 tyX8_ok nmX8 hown hK hP hD hS 0 rfl rfl 2 (by decide) (hts (.fieldLink RX8 80 "OrreryWorksModel" "kind" "I") (by decide +kernel)) (fun _ h9 => h9) rfl (by decide +kernel) rfl rfl (Nat.le_of_ble_eq_true rfl) dX8_cast_111 (fun H locs hP hD hS => ?_)
        have hP : va_P Dg vwCl (mW m0 a y iR p1 nW nR nS nP nT jW (FP.f2d (FP.d2f dR)) aOf aWk aTo aPo aRk aRw aRr aLa aSi aGo aWs aRs aSo aWa aSs aSz aSh) H := hP
        have hD : va_D A (mW m0 a y iR p1 nW nR nS nP nT jW (FP.f2d (FP.d2f dR)) aOf aWk aTo aPo aRk aRw aRr aLa aSi aGo aWs aRs aSo aWa aSs aSz aSh) := hD
        exact W.vret hx hb hr (fun t ht hW => ⟨⟨(mW m0 a y iR p1 nW nR nS nP nT jW (FP.f2d (FP.d2f dR)) aOf aWk aTo aPo aRk aRw aRr aLa aSi aGo aWs aRs aSo aWa aSs aSz aSh), rfl, (by simp only [mcW, mcR, if_pos c_1, if_pos c_2, if_pos c_4]), by rw [ht]; exact hP, va_K.moved hW.alike hK, hD⟩, hS.F ht⟩) hS.2.2 dX8_cast_114
      · refine lv_aload_n hx hb dX8_cast_71 rfl (lv_at hl 0 rfl) ?_
        refine va_get (D := Dg) (ci := 6) (v := .long jW) (C := RX8) (T := TX8) (N := 26) hx hb hts in_X8_cast hown hK hP 0 rfl rfl 3 (by decide) (hts (.fieldLink RX8 83 "OrreryWorksModel" "whole" "J") (by decide +kernel)) (fun _ h9 => h9) rfl dX8_cast_72 ?_
        refine lv_l2f hx hb dX8_cast_75 ?_
        refine lv_f2d hx hb dX8_cast_76 (fm_n64.mpr (fm_f2dn (l2f_nn jW))) ?_
        refine lv_goto (tgt := 86) hx hb dX8_cast_77 (by decide) ?_
        refine va_put (D := Dg) (ci := 6) (v := .double (FP.f2d (FP.l2f jW))) (ty := .double) (C := RX8) (T := TX8) (N := 26) hx hb hts in_X8_cast tyX8 tyX8_ok nmX8 hown hK hP hD hS 0 rfl rfl 4 (by decide) (hts (.fieldLink RX8 87 "OrreryWorksModel" "real" "D") (by decide +kernel)) (fun _ h9 => h9) rfl (by decide +kernel) rfl rfl (Nat.le_of_ble_eq_true rfl) dX8_cast_86 (fun H locs hP hD hS => ?_)
        have hP : va_P Dg vwCl (mW m0 a y iR iK nW nR nS nP nT jW (FP.f2d (FP.l2f jW)) aOf aWk aTo aPo aRk aRw aRr aLa aSi aGo aWs aRs aSo aWa aSs aSz aSh) H := hP
        have hD : va_D A (mW m0 a y iR iK nW nR nS nP nT jW (FP.f2d (FP.l2f jW)) aOf aWk aTo aPo aRk aRw aRr aLa aSi aGo aWs aRs aSo aWa aSs aSz aSh) := hD
        refine lv_goto (tgt := 109) hx hb dX8_cast_89 (by decide) ?_
        refine lv_aload_n hx hb dX8_cast_109 rfl (lv_at hl 0 rfl) ?_
        refine lv_iload_n hx hb dX8_cast_110 rfl (lv_at hl 1 rfl) ?_
        refine va_put (D := Dg) (ci := 6) (v := .int p1) (ty := .int) (C := RX8) (T := TX8) (N := 26) hx hb hts in_X8_cast tyX8 tyX8_ok nmX8 hown hK hP hD hS 0 rfl rfl 2 (by decide) (hts (.fieldLink RX8 80 "OrreryWorksModel" "kind" "I") (by decide +kernel)) (fun _ h9 => h9) rfl (by decide +kernel) rfl rfl (Nat.le_of_ble_eq_true rfl) dX8_cast_111 (fun H locs hP hD hS => ?_)
        have hP : va_P Dg vwCl (mW m0 a y iR p1 nW nR nS nP nT jW (FP.f2d (FP.l2f jW)) aOf aWk aTo aPo aRk aRw aRr aLa aSi aGo aWs aRs aSo aWa aSs aSz aSh) H := hP
        have hD : va_D A (mW m0 a y iR p1 nW nR nS nP nT jW (FP.f2d (FP.l2f jW)) aOf aWk aTo aPo aRk aRw aRr aLa aSi aGo aWs aRs aSo aWa aSs aSz aSh) := hD
        exact W.vret hx hb hr (fun t ht hW => ⟨⟨(mW m0 a y iR p1 nW nR nS nP nT jW (FP.f2d (FP.l2f jW)) aOf aWk aTo aPo aRk aRw aRr aLa aSi aGo aWs aRs aSo aWa aSs aSz aSh), rfl, (by simp only [mcW, mcR, if_pos c_1, if_pos c_2, if_neg c_4]), by rw [ht]; exact hP, va_K.moved hW.alike hK, hD⟩, hS.F ht⟩) hS.2.2 dX8_cast_114
  · refine lv_aload_n hx hb dX8_cast_5 rfl (lv_at hl 0 rfl) ?_
    refine va_get (D := Dg) (ci := 6) (v := .int iK) (C := RX8) (T := TX8) (N := 26) hx hb hts in_X8_cast hown hK hP 0 rfl rfl 2 (by decide) (hts (.fieldLink RX8 80 "OrreryWorksModel" "kind" "I") (by decide +kernel)) (fun _ h9 => h9) rfl dX8_cast_6 ?_
    refine lv_iconst (v := 2) hx hb dX8_cast_9 (by decide) ?_
    refine lv_icmp_ge (tgt := 20) hx hb dX8_cast_10 (by decide) (fun c_5 => ?_) (fun c_5 => ?_)
    · refine lv_iload_n hx hb dX8_cast_20 rfl (lv_at hl 1 rfl) ?_
      refine lv_if_ne (tgt := 33) hx hb dX8_cast_21 (by decide) (fun c_6 => ?_) (fun c_6 => ?_)
      · refine lv_aload_n hx hb dX8_cast_33 rfl (lv_at hl 0 rfl) ?_
        refine va_get (D := Dg) (ci := 6) (v := .double dR) (C := RX8) (T := TX8) (N := 26) hx hb hts in_X8_cast hown hK hP 0 rfl rfl 4 (by decide) (hts (.fieldLink RX8 87 "OrreryWorksModel" "real" "D") (by decide +kernel)) (fun _ h9 => h9) rfl dX8_cast_34 ?_
        refine lv_d2l hx hb dX8_cast_37 ?_
        refine lv_lstore_n (lv' := [(2, .long (FP.d2l dR)), (0, .ref m0), (1, .int p1)]) hx hb dX8_cast_38 rfl hl (by decide) rfl (fun ls hl => ?_)
        refine lv_aload_n hx hb dX8_cast_39 rfl (lv_at hl 1 rfl) ?_
        refine lv_iload_n hx hb dX8_cast_40 rfl (lv_at hl 2 rfl) ?_
        refine lv_if_ne (tgt := 50) hx hb dX8_cast_41 (by decide) (fun _ => ?_) (fun h0 => absurd h0 c_6)
        refine lv_lload_n hx hb dX8_cast_50 rfl (lv_at hl 0 rfl) ?_
        refine va_put (D := Dg) (ci := 6) (v := .long (FP.d2l dR)) (ty := .long) (C := RX8) (T := TX8) (N := 26) hx hb hts in_X8_cast tyX8 tyX8_ok nmX8 hown hK hP hD hS 0 rfl rfl 3 (by decide) (hts (.fieldLink RX8 83 "OrreryWorksModel" "whole" "J") (by decide +kernel)) (fun _ h9 => h9) rfl (by decide +kernel) rfl rfl (Nat.le_of_ble_eq_true rfl) dX8_cast_51 (fun H locs hP hD hS => ?_)
        have hP : va_P Dg vwCl (mW m0 a y iR iK nW nR nS nP nT (FP.d2l dR) dR aOf aWk aTo aPo aRk aRw aRr aLa aSi aGo aWs aRs aSo aWa aSs aSz aSh) H := hP
        have hD : va_D A (mW m0 a y iR iK nW nR nS nP nT (FP.d2l dR) dR aOf aWk aTo aPo aRk aRw aRr aLa aSi aGo aWs aRs aSo aWa aSs aSz aSh) := hD
        refine lv_goto (tgt := 109) hx hb dX8_cast_54 (by decide) ?_
        refine lv_aload_n hx hb dX8_cast_109 rfl (lv_at hl 1 rfl) ?_
        refine lv_iload_n hx hb dX8_cast_110 rfl (lv_at hl 2 rfl) ?_
        refine va_put (D := Dg) (ci := 6) (v := .int p1) (ty := .int) (C := RX8) (T := TX8) (N := 26) hx hb hts in_X8_cast tyX8 tyX8_ok nmX8 hown hK hP hD hS 0 rfl rfl 2 (by decide) (hts (.fieldLink RX8 80 "OrreryWorksModel" "kind" "I") (by decide +kernel)) (fun _ h9 => h9) rfl (by decide +kernel) rfl rfl (Nat.le_of_ble_eq_true rfl) dX8_cast_111 (fun H locs hP hD hS => ?_)
        have hP : va_P Dg vwCl (mW m0 a y iR p1 nW nR nS nP nT (FP.d2l dR) dR aOf aWk aTo aPo aRk aRw aRr aLa aSi aGo aWs aRs aSo aWa aSs aSz aSh) H := hP
        have hD : va_D A (mW m0 a y iR p1 nW nR nS nP nT (FP.d2l dR) dR aOf aWk aTo aPo aRk aRw aRr aLa aSi aGo aWs aRs aSo aWa aSs aSz aSh) := hD
        exact W.vret hx hb hr (fun t ht hW => ⟨⟨(mW m0 a y iR p1 nW nR nS nP nT (FP.d2l dR) dR aOf aWk aTo aPo aRk aRw aRr aLa aSi aGo aWs aRs aSo aWa aSs aSz aSh), rfl, (by simp only [mcW, mcR, if_neg c_1, if_pos c_5, if_neg c_6]), by rw [ht]; exact hP, va_K.moved hW.alike hK, hD⟩, hS.F ht⟩) hS.2.2 dX8_cast_114
      · refine lv_aload_n hx hb dX8_cast_24 rfl (lv_at hl 0 rfl) ?_
        refine va_get (D := Dg) (ci := 6) (v := .double dR) (C := RX8) (T := TX8) (N := 26) hx hb hts in_X8_cast hown hK hP 0 rfl rfl 4 (by decide) (hts (.fieldLink RX8 87 "OrreryWorksModel" "real" "D") (by decide +kernel)) (fun _ h9 => h9) rfl dX8_cast_25 ?_
        refine lv_d2i hx hb dX8_cast_28 ?_
        refine lv_i2l hx hb dX8_cast_29 rfl ?_
        refine lv_goto (tgt := 38) hx hb dX8_cast_30 (by decide) ?_
        refine lv_lstore_n (lv' := [(2, .long ((FP.d2i dR).toInt64)), (0, .ref m0), (1, .int p1)]) hx hb dX8_cast_38 rfl hl (by decide) rfl (fun ls hl => ?_)
        refine lv_aload_n hx hb dX8_cast_39 rfl (lv_at hl 1 rfl) ?_
        refine lv_iload_n hx hb dX8_cast_40 rfl (lv_at hl 2 rfl) ?_
        refine lv_if_ne (tgt := 50) hx hb dX8_cast_41 (by decide) (fun h0 => absurd c_6 h0) (fun _ => ?_)
        refine lv_lload_n hx hb dX8_cast_44 rfl (lv_at hl 0 rfl) ?_
        refine lv_l2i hx hb dX8_cast_45 rfl ?_
        refine lv_i2l hx hb dX8_cast_46 rfl ?_
        refine lv_goto (tgt := 51) hx hb dX8_cast_47 (by decide) ?_
        refine va_put (D := Dg) (ci := 6) (v := .long ((((FP.d2i dR).toInt64).toInt32).toInt64)) (ty := .long) (C := RX8) (T := TX8) (N := 26) hx hb hts in_X8_cast tyX8 tyX8_ok nmX8 hown hK hP hD hS 0 rfl rfl 3 (by decide) (hts (.fieldLink RX8 83 "OrreryWorksModel" "whole" "J") (by decide +kernel)) (fun _ h9 => h9) rfl (by decide +kernel) rfl rfl (Nat.le_of_ble_eq_true rfl) dX8_cast_51 (fun H locs hP hD hS => ?_)
        have hP : va_P Dg vwCl (mW m0 a y iR iK nW nR nS nP nT ((((FP.d2i dR).toInt64).toInt32).toInt64) dR aOf aWk aTo aPo aRk aRw aRr aLa aSi aGo aWs aRs aSo aWa aSs aSz aSh) H := hP
        have hD : va_D A (mW m0 a y iR iK nW nR nS nP nT ((((FP.d2i dR).toInt64).toInt32).toInt64) dR aOf aWk aTo aPo aRk aRw aRr aLa aSi aGo aWs aRs aSo aWa aSs aSz aSh) := hD
        refine lv_goto (tgt := 109) hx hb dX8_cast_54 (by decide) ?_
        refine lv_aload_n hx hb dX8_cast_109 rfl (lv_at hl 1 rfl) ?_
        refine lv_iload_n hx hb dX8_cast_110 rfl (lv_at hl 2 rfl) ?_
        refine va_put (D := Dg) (ci := 6) (v := .int p1) (ty := .int) (C := RX8) (T := TX8) (N := 26) hx hb hts in_X8_cast tyX8 tyX8_ok nmX8 hown hK hP hD hS 0 rfl rfl 2 (by decide) (hts (.fieldLink RX8 80 "OrreryWorksModel" "kind" "I") (by decide +kernel)) (fun _ h9 => h9) rfl (by decide +kernel) rfl rfl (Nat.le_of_ble_eq_true rfl) dX8_cast_111 (fun H locs hP hD hS => ?_)
        have hP : va_P Dg vwCl (mW m0 a y iR p1 nW nR nS nP nT ((((FP.d2i dR).toInt64).toInt32).toInt64) dR aOf aWk aTo aPo aRk aRw aRr aLa aSi aGo aWs aRs aSo aWa aSs aSz aSh) H := hP
        have hD : va_D A (mW m0 a y iR p1 nW nR nS nP nT ((((FP.d2i dR).toInt64).toInt32).toInt64) dR aOf aWk aTo aPo aRk aRw aRr aLa aSi aGo aWs aRs aSo aWa aSs aSz aSh) := hD
        exact W.vret hx hb hr (fun t ht hW => ⟨⟨(mW m0 a y iR p1 nW nR nS nP nT ((((FP.d2i dR).toInt64).toInt32).toInt64) dR aOf aWk aTo aPo aRk aRw aRr aLa aSi aGo aWs aRs aSo aWa aSs aSz aSh), rfl, (by simp only [mcW, mcR, if_neg c_1, if_pos c_5, if_pos c_6]), by rw [ht]; exact hP, va_K.moved hW.alike hK, hD⟩, hS.F ht⟩) hS.2.2 dX8_cast_114
    · refine lv_aload_n hx hb dX8_cast_13 rfl (lv_at hl 0 rfl) ?_
      refine va_get (D := Dg) (ci := 6) (v := .long jW) (C := RX8) (T := TX8) (N := 26) hx hb hts in_X8_cast hown hK hP 0 rfl rfl 3 (by decide) (hts (.fieldLink RX8 83 "OrreryWorksModel" "whole" "J") (by decide +kernel)) (fun _ h9 => h9) rfl dX8_cast_14 ?_
      refine lv_goto (tgt := 38) hx hb dX8_cast_17 (by decide) ?_
      refine lv_lstore_n (lv' := [(2, .long jW), (0, .ref m0), (1, .int p1)]) hx hb dX8_cast_38 rfl hl (by decide) rfl (fun ls hl => ?_)
      refine lv_aload_n hx hb dX8_cast_39 rfl (lv_at hl 1 rfl) ?_
      refine lv_iload_n hx hb dX8_cast_40 rfl (lv_at hl 2 rfl) ?_
      refine lv_if_ne (tgt := 50) hx hb dX8_cast_41 (by decide) (fun c_7 => ?_) (fun c_7 => ?_)
      · refine lv_lload_n hx hb dX8_cast_50 rfl (lv_at hl 0 rfl) ?_
        refine va_put (D := Dg) (ci := 6) (v := .long jW) (ty := .long) (C := RX8) (T := TX8) (N := 26) hx hb hts in_X8_cast tyX8 tyX8_ok nmX8 hown hK hP hD hS 0 rfl rfl 3 (by decide) (hts (.fieldLink RX8 83 "OrreryWorksModel" "whole" "J") (by decide +kernel)) (fun _ h9 => h9) rfl (by decide +kernel) rfl rfl (Nat.le_of_ble_eq_true rfl) dX8_cast_51 (fun H locs hP hD hS => ?_)
        have hP : va_P Dg vwCl (mW m0 a y iR iK nW nR nS nP nT jW dR aOf aWk aTo aPo aRk aRw aRr aLa aSi aGo aWs aRs aSo aWa aSs aSz aSh) H := hP
        have hD : va_D A (mW m0 a y iR iK nW nR nS nP nT jW dR aOf aWk aTo aPo aRk aRw aRr aLa aSi aGo aWs aRs aSo aWa aSs aSz aSh) := hD
        refine lv_goto (tgt := 109) hx hb dX8_cast_54 (by decide) ?_
        refine lv_aload_n hx hb dX8_cast_109 rfl (lv_at hl 1 rfl) ?_
        refine lv_iload_n hx hb dX8_cast_110 rfl (lv_at hl 2 rfl) ?_
        refine va_put (D := Dg) (ci := 6) (v := .int p1) (ty := .int) (C := RX8) (T := TX8) (N := 26) hx hb hts in_X8_cast tyX8 tyX8_ok nmX8 hown hK hP hD hS 0 rfl rfl 2 (by decide) (hts (.fieldLink RX8 80 "OrreryWorksModel" "kind" "I") (by decide +kernel)) (fun _ h9 => h9) rfl (by decide +kernel) rfl rfl (Nat.le_of_ble_eq_true rfl) dX8_cast_111 (fun H locs hP hD hS => ?_)
        have hP : va_P Dg vwCl (mW m0 a y iR p1 nW nR nS nP nT jW dR aOf aWk aTo aPo aRk aRw aRr aLa aSi aGo aWs aRs aSo aWa aSs aSz aSh) H := hP
        have hD : va_D A (mW m0 a y iR p1 nW nR nS nP nT jW dR aOf aWk aTo aPo aRk aRw aRr aLa aSi aGo aWs aRs aSo aWa aSs aSz aSh) := hD
        exact W.vret hx hb hr (fun t ht hW => ⟨⟨(mW m0 a y iR p1 nW nR nS nP nT jW dR aOf aWk aTo aPo aRk aRw aRr aLa aSi aGo aWs aRs aSo aWa aSs aSz aSh), rfl, (by simp only [mcW, mcR, if_neg c_1, if_neg c_5, if_neg c_7]), by rw [ht]; exact hP, va_K.moved hW.alike hK, hD⟩, hS.F ht⟩) hS.2.2 dX8_cast_114
      · refine lv_lload_n hx hb dX8_cast_44 rfl (lv_at hl 0 rfl) ?_
        refine lv_l2i hx hb dX8_cast_45 rfl ?_
        refine lv_i2l hx hb dX8_cast_46 rfl ?_
        refine lv_goto (tgt := 51) hx hb dX8_cast_47 (by decide) ?_
        refine va_put (D := Dg) (ci := 6) (v := .long jW.toInt32.toInt64) (ty := .long) (C := RX8) (T := TX8) (N := 26) hx hb hts in_X8_cast tyX8 tyX8_ok nmX8 hown hK hP hD hS 0 rfl rfl 3 (by decide) (hts (.fieldLink RX8 83 "OrreryWorksModel" "whole" "J") (by decide +kernel)) (fun _ h9 => h9) rfl (by decide +kernel) rfl rfl (Nat.le_of_ble_eq_true rfl) dX8_cast_51 (fun H locs hP hD hS => ?_)
        have hP : va_P Dg vwCl (mW m0 a y iR iK nW nR nS nP nT jW.toInt32.toInt64 dR aOf aWk aTo aPo aRk aRw aRr aLa aSi aGo aWs aRs aSo aWa aSs aSz aSh) H := hP
        have hD : va_D A (mW m0 a y iR iK nW nR nS nP nT jW.toInt32.toInt64 dR aOf aWk aTo aPo aRk aRw aRr aLa aSi aGo aWs aRs aSo aWa aSs aSz aSh) := hD
        refine lv_goto (tgt := 109) hx hb dX8_cast_54 (by decide) ?_
        refine lv_aload_n hx hb dX8_cast_109 rfl (lv_at hl 1 rfl) ?_
        refine lv_iload_n hx hb dX8_cast_110 rfl (lv_at hl 2 rfl) ?_
        refine va_put (D := Dg) (ci := 6) (v := .int p1) (ty := .int) (C := RX8) (T := TX8) (N := 26) hx hb hts in_X8_cast tyX8 tyX8_ok nmX8 hown hK hP hD hS 0 rfl rfl 2 (by decide) (hts (.fieldLink RX8 80 "OrreryWorksModel" "kind" "I") (by decide +kernel)) (fun _ h9 => h9) rfl (by decide +kernel) rfl rfl (Nat.le_of_ble_eq_true rfl) dX8_cast_111 (fun H locs hP hD hS => ?_)
        have hP : va_P Dg vwCl (mW m0 a y iR p1 nW nR nS nP nT jW.toInt32.toInt64 dR aOf aWk aTo aPo aRk aRw aRr aLa aSi aGo aWs aRs aSo aWa aSs aSz aSh) H := hP
        have hD : va_D A (mW m0 a y iR p1 nW nR nS nP nT jW.toInt32.toInt64 dR aOf aWk aTo aPo aRk aRw aRr aLa aSi aGo aWs aRs aSo aWa aSs aSz aSh) := hD
        exact W.vret hx hb hr (fun t ht hW => ⟨⟨(mW m0 a y iR p1 nW nR nS nP nT jW.toInt32.toInt64 dR aOf aWk aTo aPo aRk aRw aRr aLa aSi aGo aWs aRs aSo aWa aSs aSz aSh), rfl, (by simp only [mcW, mcR, if_neg c_1, if_neg c_5, if_pos c_7]), by rw [ht]; exact hP, va_K.moved hW.alike hK, hD⟩, hS.F ht⟩) hS.2.2 dX8_cast_114

theorem in_X8_bits : ∀ w ∈ wsX80, w ∈ wsX8_bits := fun w h => List.mem_cons_of_mem _ (List.mem_append_right _ h)
set_option maxHeartbeats 8000000 in
set_option maxRecDepth 100000 in
theorem met_X8_bits (l : Launch) (Dg : va_G) (m0 z : Nat) (a : Nat → Nat) (y : Nat → ClassId) (iR : Int32) (iK : Int32) (nW : Int32) (nR : Int32) (nS : Int32) (nP : Int32) (nT : Int32) (jW : Int64) (dR : UInt64) (aOf : Nat → Int32) (aWk : Nat → Int32) (aTo : Nat → UInt64) (aPo : Nat → UInt64) (aRk : Nat → Int32) (aRw : Nat → Int64) (aRr : Nat → UInt64) (aLa : Nat → Int32) (aSi : Nat → Int32) (aGo : Nat → Int32) (aWs : Nat → Int64) (aRs : Nat → UInt64) (aSo : Nat → Int32) (aWa : Nat → Int32) (aSs : Nat → Int32) (aSz : Nat → Int32) (aSh : Nat → Int32)  (hn : 2 ≤ iK → FP.Core.val64 dR ≠ .nan) : Met l yX8_bits wsX8_bits ({ frames := 2, cells := 0, slots := 0, locals := 42 }) (va_Pc [.ref m0] (wB Dg (mT y) (mW m0 a y iR iK nW nR nS nP nT jW dR aOf aWk aTo aPo aRk aRw aRr aLa aSi aGo aWs aRs aSo aWa aSs aSz aSh) z)) (vp_Sl (fun r => r = mbt iK jW dR)) 0 0 (fun _ => False) := by
  refine Met.ofW (cc := cX8_bits) (maxL := 1) (ret := (some .long)) (by decide) rfl ?_
  intro p e s m args below meth c s₁ B hml hv
  obtain ⟨rfl, hsz, hP, hK, hD0⟩ := hv
  have hx := B.exec
  have hb := B.bytes
  have hr := B.returns
  have hts := atoms_spec (ws := wsX8_bits) B.pre
  have hown : s.vm.findClass RX8 = some m.cls := findClass_of_methodNamed B.named
  have hlocks := B.notSynchronized
  subst hsz
  have hl := lv_entry ([.ref m0]) (n := 1) (Nat.le_of_ble_eq_true rfl)
  rw [lg_entry_eq]
  generalize (lg_sl ([.ref m0]) ++ List.replicate (1 - (lg_sl ([.ref m0])).length) Slot.unset).toArray = ls at hl ⊢
  have hl : lv_has ls 1 [(0, .ref m0)] := hl
  refine lv_aload_n hx hb dX8_bits_0 rfl (lv_at hl 0 rfl) ?_
  refine va_get (D := Dg) (ci := 6) (v := .int iK) (C := RX8) (T := TX8) (N := 26) hx hb hts in_X8_bits hown hK hP 0 rfl rfl 2 (by decide) (hts (.fieldLink RX8 80 "OrreryWorksModel" "kind" "I") (by decide +kernel)) (fun _ h9 => h9) rfl dX8_bits_1 ?_
  refine lv_iconst (v := 2) hx hb dX8_bits_4 (by decide) ?_
  refine lv_icmp_ge (tgt := 15) hx hb dX8_bits_5 (by decide) (fun c_1 => ?_) (fun c_1 => ?_)
  · refine lv_aload_n hx hb dX8_bits_15 rfl (lv_at hl 0 rfl) ?_
    refine va_get (D := Dg) (ci := 6) (v := .int iK) (C := RX8) (T := TX8) (N := 26) hx hb hts in_X8_bits hown hK hP 0 rfl rfl 2 (by decide) (hts (.fieldLink RX8 80 "OrreryWorksModel" "kind" "I") (by decide +kernel)) (fun _ h9 => h9) rfl dX8_bits_16 ?_
    refine lv_iconst (v := 2) hx hb dX8_bits_19 (by decide) ?_
    refine lv_icmp_ne (tgt := 35) hx hb dX8_bits_20 (by decide) (fun c_2 => ?_) (fun c_2 => ?_)
    · refine lv_aload_n hx hb dX8_bits_35 rfl (lv_at hl 0 rfl) ?_
      refine va_get (D := Dg) (ci := 6) (v := .double dR) (C := RX8) (T := TX8) (N := 26) hx hb hts in_X8_bits hown hK hP 0 rfl rfl 4 (by decide) (hts (.fieldLink RX8 87 "OrreryWorksModel" "real" "D") (by decide +kernel)) (fun _ h9 => h9) rfl dX8_bits_36 ?_
      refine vp_callSl ((va_runS (As := [.double dR]) (rest := []) ⟨hx, hb, hml, hown, hts⟩ (met_Jxe99ae_doubleToLongBits_ccdee l dR) (va_cwS 1 hts gX8_bits_Jxe99ae_doubleToLongBits_ccdee rfl rfl rfl (by decide +kernel) ⟨Nat.le_of_ble_eq_true rfl, Nat.le_of_ble_eq_true rfl⟩) ⟨fun _ _ _ _ q => q, fun U hU hW => ⟨rfl, trivial⟩⟩ rfl rfl hl.1 rfl (lv_room (Nat.le_of_ble_eq_true rfl)) dX8_bits_39 ⟨Nat.le_of_ble_eq_true rfl, Nat.le_of_ble_eq_true rfl⟩).run) (fun r hw => ?_)
      subst hw
      exact W.lret (v := fJxe99ae_doubleToLongBits_ccdee dR) hx hb hr (fun t ht hW => ⟨_, rfl, (by simp only [mbt, if_pos c_1, if_neg c_2]), ht⟩) (fun q hq => absurd hq List.not_mem_nil) dX8_bits_42
    · refine lv_aload_n hx hb dX8_bits_23 rfl (lv_at hl 0 rfl) ?_
      refine va_get (D := Dg) (ci := 6) (v := .double dR) (C := RX8) (T := TX8) (N := 26) hx hb hts in_X8_bits hown hK hP 0 rfl rfl 4 (by decide) (hts (.fieldLink RX8 87 "OrreryWorksModel" "real" "D") (by decide +kernel)) (fun _ h9 => h9) rfl dX8_bits_24 ?_
      refine lv_d2f hx hb dX8_bits_27 (fm_n32.mpr (fm_d2fn (hn c_1))) ?_
      refine vp_callSi ((va_runS (As := [.float (FP.d2f dR)]) (rest := []) ⟨hx, hb, hml, hown, hts⟩ (met_Jxf58ca_floatToIntBits_5c35a l (FP.d2f dR)) (va_cwS 1 hts gX8_bits_Jxf58ca_floatToIntBits_5c35a rfl rfl rfl (by decide +kernel) ⟨Nat.le_of_ble_eq_true rfl, Nat.le_of_ble_eq_true rfl⟩) ⟨fun _ _ _ _ q => q, fun U hU hW => ⟨rfl, trivial⟩⟩ rfl rfl hl.1 rfl (lv_room (Nat.le_of_ble_eq_true rfl)) dX8_bits_28 ⟨Nat.le_of_ble_eq_true rfl, Nat.le_of_ble_eq_true rfl⟩).run) (fun r hw => ?_)
      subst hw
      refine lv_i2l hx hb dX8_bits_31 rfl ?_
      refine lv_goto (tgt := 42) hx hb dX8_bits_32 (by decide) ?_
      exact W.lret (v := (fJxf58ca_floatToIntBits_5c35a (FP.d2f dR)).toInt64) hx hb hr (fun t ht hW => ⟨_, rfl, (by simp only [mbt, if_pos c_1, if_pos c_2]), ht⟩) (fun q hq => absurd hq List.not_mem_nil) dX8_bits_42
  · refine lv_aload_n hx hb dX8_bits_8 rfl (lv_at hl 0 rfl) ?_
    refine va_get (D := Dg) (ci := 6) (v := .long jW) (C := RX8) (T := TX8) (N := 26) hx hb hts in_X8_bits hown hK hP 0 rfl rfl 3 (by decide) (hts (.fieldLink RX8 83 "OrreryWorksModel" "whole" "J") (by decide +kernel)) (fun _ h9 => h9) rfl dX8_bits_9 ?_
    refine lv_goto (tgt := 42) hx hb dX8_bits_12 (by decide) ?_
    exact W.lret (v := jW) hx hb hr (fun t ht hW => ⟨_, rfl, (by simp only [mbt, if_neg c_1]), ht⟩) (fun q hq => absurd hq List.not_mem_nil) dX8_bits_42

theorem in_X8_holdBits : ∀ w ∈ wsX80, w ∈ wsX8_holdBits := fun w h => List.mem_cons_of_mem _ (List.mem_append_right _ h)
set_option maxHeartbeats 8000000 in
set_option maxRecDepth 100000 in
theorem met_X8_holdBits (l : Launch) (Dg : va_G) (m0 z : Nat) (a : Nat → Nat) (y : Nat → ClassId) (iR : Int32) (iK : Int32) (nW : Int32) (nR : Int32) (nS : Int32) (nP : Int32) (nT : Int32) (jW : Int64) (dR : UInt64) (aOf : Nat → Int32) (aWk : Nat → Int32) (aTo : Nat → UInt64) (aPo : Nat → UInt64) (aRk : Nat → Int32) (aRw : Nat → Int64) (aRr : Nat → UInt64) (aLa : Nat → Int32) (aSi : Nat → Int32) (aGo : Nat → Int32) (aWs : Nat → Int64) (aRs : Nat → UInt64) (aSo : Nat → Int32) (aWa : Nat → Int32) (aSs : Nat → Int32) (aSz : Nat → Int32) (aSh : Nat → Int32) (p1 : Int32) (p2 : Int64) (h2 : p1 = 2 → vn_sni2f p2.toInt32 = false ∧ FP.Core.val32 p2.toInt32.toUInt32 ≠ .nan) (h3 : 2 ≤ p1 → ¬ p1 = 2 → vn_snl2d p2 = false) : Met l yX8_holdBits wsX8_holdBits ({ frames := 1, cells := 0, slots := 0, locals := 25 }) (va_Pc [.ref m0, .int p1, .long p2] (wB Dg (mT y) (mW m0 a y iR iK nW nR nS nP nT jW dR aOf aWk aTo aPo aRk aRw aRr aLa aSi aGo aWs aRs aSo aWa aSs aSz aSh) z)) (va_Qv (fun (u : va_W) => u = (mW m0 a y iR p1 nW nR nS nP nT (hbW p1 p2) (hbR p1 p2) aOf aWk aTo aPo aRk aRw aRr aLa aSi aGo aWs aRs aSo aWa aSs aSz aSh)) (wE Dg (mT y) (va_A (mW m0 a y iR iK nW nR nS nP nT jW dR aOf aWk aTo aPo aRk aRw aRr aLa aSi aGo aWs aRs aSo aWa aSs aSz aSh) z)) (va_A (mW m0 a y iR iK nW nR nS nP nT jW dR aOf aWk aTo aPo aRk aRw aRr aLa aSi aGo aWs aRs aSo aWa aSs aSz aSh) z)) 0 0 (va_A (mW m0 a y iR iK nW nR nS nP nT jW dR aOf aWk aTo aPo aRk aRw aRr aLa aSi aGo aWs aRs aSo aWa aSs aSz aSh) z) := by
  refine Met.ofW (cc := cX8_holdBits) (maxL := 4) (ret := none) (by decide) rfl ?_
  intro p e s m args below meth c s₁ B hml hv
  obtain ⟨rfl, hsz, hP, hK, hD0⟩ := hv
  have hx := B.exec
  have hb := B.bytes
  have hr := B.returns
  have hts := atoms_spec (ws := wsX8_holdBits) B.pre
  have hown : s.vm.findClass RX8 = some m.cls := findClass_of_methodNamed B.named
  have hlocks := B.notSynchronized
  subst hsz
  have hD := hD0.self (sz := s.heap.size)
  generalize hAe : va_A (mW m0 a y iR iK nW nR nS nP nT jW dR aOf aWk aTo aPo aRk aRw aRr aLa aSi aGo aWs aRs aSo aWa aSs aSz aSh) s.heap.size = A at hD ⊢
  have hA : ∀ q : Nat, s.heap.size ≤ q → A q := fun q h => by rw [← hAe]; exact Or.inr h
  have hS : va_S A s.heap s.heap [] := va_S.rf
  have hP : va_P Dg vwCl (mW m0 a y iR iK nW nR nS nP nT jW dR aOf aWk aTo aPo aRk aRw aRr aLa aSi aGo aWs aRs aSo aWa aSs aSz aSh) s.heap := hP
  have hl := lv_entry ([.ref m0, .int p1, .long p2]) (n := 4) (Nat.le_of_ble_eq_true rfl)
  rw [lg_entry_eq]
  generalize (lg_sl ([.ref m0, .int p1, .long p2]) ++ List.replicate (4 - (lg_sl ([.ref m0, .int p1, .long p2])).length) Slot.unset).toArray = ls at hl ⊢
  have hl : lv_has ls 4 [(0, .ref m0), (1, .int p1), (2, .long p2)] := hl
  refine lv_iload_n hx hb dX8_holdBits_0 rfl (lv_at hl 1 rfl) ?_
  refine lv_iconst (v := 2) hx hb dX8_holdBits_1 (by decide) ?_
  refine lv_icmp_ge (tgt := 25) hx hb dX8_holdBits_2 (by decide) (fun c_1 => ?_) (fun c_1 => ?_)
  · refine lv_aload_n hx hb dX8_holdBits_25 rfl (lv_at hl 0 rfl) ?_
    refine lv_iload_n hx hb dX8_holdBits_26 rfl (lv_at hl 1 rfl) ?_
    refine lv_lconst (v := 0) hx hb dX8_holdBits_27 (by decide) ?_
    refine lv_iload_n hx hb dX8_holdBits_28 rfl (lv_at hl 1 rfl) ?_
    refine lv_iconst (v := 2) hx hb dX8_holdBits_29 (by decide) ?_
    refine lv_icmp_ne (tgt := 42) hx hb dX8_holdBits_30 (by decide) (fun c_2 => ?_) (fun c_2 => ?_)
    · refine lv_lload_n hx hb dX8_holdBits_42 rfl (lv_at hl 2 rfl) ?_
      refine vn_l2d hx hb (hml.trans hl.1.symm) hown (hts (.methodLink RX8 109 ⟨"java/lang/Double", "longBitsToDouble", "(J)D"⟩) (by decide +kernel)) (hts (.native ⟨"java/lang/Double", "longBitsToDouble", "(J)D"⟩) (by decide +kernel)) (hts (.static ⟨"java/lang/Double", "longBitsToDouble", "(J)D"⟩) (by decide +kernel)) (hts (.initialized "java/lang/Double") (by decide +kernel)) (h3 c_1 c_2) (Nat.le_of_ble_eq_true rfl) (Nat.le_of_ble_eq_true rfl) dX8_holdBits_43 ?_
      have hFc := wFree hD hS hA
      refine va_callv (va_runV (As := [.int p1, .long 0, .double p2.toUInt64]) (rest := []) ⟨hx, hb, hml, hown, hts⟩ (met_X8_hold l Dg m0 s.heap.size a y iR iK nW nR nS nP nT jW dR aOf aWk aTo aPo aRk aRw aRr aLa aSi aGo aWs aRs aSo aWa aSs aSz aSh p1 0 p2.toUInt64 ) (cwV 3 hts gX8_holdBits_X8_hold rfl rfl rfl (by decide +kernel) ⟨Nat.le_of_ble_eq_true rfl, Nat.le_of_ble_eq_true rfl⟩) (wPreV hK hP (hD.weaken (fun _ _ _ _ => trivial)) (va_recv hK hP (ci := 6) (q0 := 0) rfl rfl)) rfl rfl hl.1 rfl (lv_room (Nat.le_of_ble_eq_true rfl)) dX8_holdBits_46 ⟨Nat.le_of_ble_eq_true rfl, Nat.le_of_ble_eq_true rfl⟩) hS (fun q _ h => hFc q h) hFc (fun u t H locs ht hvm hw hB _ _ hS => ?_)
      obtain ⟨hP, -, hD⟩ := hB
      rw [ht] at hP
      replace hD := hD.weaken (fun _ q _ h => hFc q.1 h)
      rw [hw] at hP hD
      clear hw hFc
      have hP : va_P Dg vwCl (mW m0 a y iR p1 nW nR nS nP nT 0 p2.toUInt64 aOf aWk aTo aPo aRk aRw aRr aLa aSi aGo aWs aRs aSo aWa aSs aSz aSh) H := hP
      have hD : va_D A (mW m0 a y iR p1 nW nR nS nP nT 0 p2.toUInt64 aOf aWk aTo aPo aRk aRw aRr aLa aSi aGo aWs aRs aSo aWa aSs aSz aSh) := hD
      exact W.vret hx hb hr (fun t ht hW => ⟨⟨(mW m0 a y iR p1 nW nR nS nP nT 0 p2.toUInt64 aOf aWk aTo aPo aRk aRw aRr aLa aSi aGo aWs aRs aSo aWa aSs aSz aSh), rfl, (by simp only [hbW, hbR, if_pos c_1, if_neg c_2]), by rw [ht]; exact hP, va_K.moved hW.alike hK, hD⟩, hS.F ht⟩) hS.2.2 dX8_holdBits_49
    · refine lv_lload_n hx hb dX8_holdBits_33 rfl (lv_at hl 2 rfl) ?_
      refine lv_l2i hx hb dX8_holdBits_34 rfl ?_
      refine vn_i2f hx hb (hml.trans hl.1.symm) hown (hts (.methodLink RX8 105 ⟨"java/lang/Float", "intBitsToFloat", "(I)F"⟩) (by decide +kernel)) (hts (.native ⟨"java/lang/Float", "intBitsToFloat", "(I)F"⟩) (by decide +kernel)) (hts (.static ⟨"java/lang/Float", "intBitsToFloat", "(I)F"⟩) (by decide +kernel)) (hts (.initialized "java/lang/Float") (by decide +kernel)) ((h2 c_2).1) (Nat.le_of_ble_eq_true rfl) (Nat.le_of_ble_eq_true rfl) dX8_holdBits_35 ?_
      refine lv_f2d hx hb dX8_holdBits_38 (fm_n64.mpr (fm_f2dn (h2 c_2).2)) ?_
      refine lv_goto (tgt := 46) hx hb dX8_holdBits_39 (by decide) ?_
      have hFc := wFree hD hS hA
      refine va_callv (va_runV (As := [.int p1, .long 0, .double (FP.f2d p2.toInt32.toUInt32)]) (rest := []) ⟨hx, hb, hml, hown, hts⟩ (met_X8_hold l Dg m0 s.heap.size a y iR iK nW nR nS nP nT jW dR aOf aWk aTo aPo aRk aRw aRr aLa aSi aGo aWs aRs aSo aWa aSs aSz aSh p1 0 (FP.f2d p2.toInt32.toUInt32) ) (cwV 3 hts gX8_holdBits_X8_hold rfl rfl rfl (by decide +kernel) ⟨Nat.le_of_ble_eq_true rfl, Nat.le_of_ble_eq_true rfl⟩) (wPreV hK hP (hD.weaken (fun _ _ _ _ => trivial)) (va_recv hK hP (ci := 6) (q0 := 0) rfl rfl)) rfl rfl hl.1 rfl (lv_room (Nat.le_of_ble_eq_true rfl)) dX8_holdBits_46 ⟨Nat.le_of_ble_eq_true rfl, Nat.le_of_ble_eq_true rfl⟩) hS (fun q _ h => hFc q h) hFc (fun u t H locs ht hvm hw hB _ _ hS => ?_)
      obtain ⟨hP, -, hD⟩ := hB
      rw [ht] at hP
      replace hD := hD.weaken (fun _ q _ h => hFc q.1 h)
      rw [hw] at hP hD
      clear hw hFc
      have hP : va_P Dg vwCl (mW m0 a y iR p1 nW nR nS nP nT 0 (FP.f2d p2.toInt32.toUInt32) aOf aWk aTo aPo aRk aRw aRr aLa aSi aGo aWs aRs aSo aWa aSs aSz aSh) H := hP
      have hD : va_D A (mW m0 a y iR p1 nW nR nS nP nT 0 (FP.f2d p2.toInt32.toUInt32) aOf aWk aTo aPo aRk aRw aRr aLa aSi aGo aWs aRs aSo aWa aSs aSz aSh) := hD
      exact W.vret hx hb hr (fun t ht hW => ⟨⟨(mW m0 a y iR p1 nW nR nS nP nT 0 (FP.f2d p2.toInt32.toUInt32) aOf aWk aTo aPo aRk aRw aRr aLa aSi aGo aWs aRs aSo aWa aSs aSz aSh), rfl, (by simp only [hbW, hbR, if_pos c_1, if_pos c_2]), by rw [ht]; exact hP, va_K.moved hW.alike hK, hD⟩, hS.F ht⟩) hS.2.2 dX8_holdBits_49
  · refine lv_aload_n hx hb dX8_holdBits_5 rfl (lv_at hl 0 rfl) ?_
    refine lv_iload_n hx hb dX8_holdBits_6 rfl (lv_at hl 1 rfl) ?_
    refine lv_iload_n hx hb dX8_holdBits_7 rfl (lv_at hl 1 rfl) ?_
    refine lv_if_ne (tgt := 17) hx hb dX8_holdBits_8 (by decide) (fun c_3 => ?_) (fun c_3 => ?_)
    · refine lv_lload_n hx hb dX8_holdBits_17 rfl (lv_at hl 2 rfl) ?_
      refine lv_dconst0 hx hb dX8_holdBits_18 ?_
      have hFc := wFree hD hS hA
      refine va_callv (va_runV (As := [.int p1, .long p2, .double FP.dconst0]) (rest := []) ⟨hx, hb, hml, hown, hts⟩ (met_X8_hold l Dg m0 s.heap.size a y iR iK nW nR nS nP nT jW dR aOf aWk aTo aPo aRk aRw aRr aLa aSi aGo aWs aRs aSo aWa aSs aSz aSh p1 p2 FP.dconst0 ) (cwV 3 hts gX8_holdBits_X8_hold rfl rfl rfl (by decide +kernel) ⟨Nat.le_of_ble_eq_true rfl, Nat.le_of_ble_eq_true rfl⟩) (wPreV hK hP (hD.weaken (fun _ _ _ _ => trivial)) (va_recv hK hP (ci := 6) (q0 := 0) rfl rfl)) rfl rfl hl.1 rfl (lv_room (Nat.le_of_ble_eq_true rfl)) dX8_holdBits_19 ⟨Nat.le_of_ble_eq_true rfl, Nat.le_of_ble_eq_true rfl⟩) hS (fun q _ h => hFc q h) hFc (fun u t H locs ht hvm hw hB _ _ hS => ?_)
      obtain ⟨hP, -, hD⟩ := hB
      rw [ht] at hP
      replace hD := hD.weaken (fun _ q _ h => hFc q.1 h)
      rw [hw] at hP hD
      clear hw hFc
      have hP : va_P Dg vwCl (mW m0 a y iR p1 nW nR nS nP nT p2 FP.dconst0 aOf aWk aTo aPo aRk aRw aRr aLa aSi aGo aWs aRs aSo aWa aSs aSz aSh) H := hP
      have hD : va_D A (mW m0 a y iR p1 nW nR nS nP nT p2 FP.dconst0 aOf aWk aTo aPo aRk aRw aRr aLa aSi aGo aWs aRs aSo aWa aSs aSz aSh) := hD
      refine lv_goto (tgt := 49) hx hb dX8_holdBits_22 (by decide) ?_
      exact W.vret hx hb hr (fun t ht hW => ⟨⟨(mW m0 a y iR p1 nW nR nS nP nT p2 FP.dconst0 aOf aWk aTo aPo aRk aRw aRr aLa aSi aGo aWs aRs aSo aWa aSs aSz aSh), rfl, (by simp only [hbW, hbR, if_neg c_1, if_neg c_3]), by rw [ht]; exact hP, va_K.moved hW.alike hK, hD⟩, hS.F ht⟩) hS.2.2 dX8_holdBits_49
    · refine lv_lload_n hx hb dX8_holdBits_11 rfl (lv_at hl 2 rfl) ?_
      refine lv_l2i hx hb dX8_holdBits_12 rfl ?_
      refine lv_i2l hx hb dX8_holdBits_13 rfl ?_
      refine lv_goto (tgt := 18) hx hb dX8_holdBits_14 (by decide) ?_
      refine lv_dconst0 hx hb dX8_holdBits_18 ?_
      have hFc := wFree hD hS hA
      refine va_callv (va_runV (As := [.int p1, .long p2.toInt32.toInt64, .double FP.dconst0]) (rest := []) ⟨hx, hb, hml, hown, hts⟩ (met_X8_hold l Dg m0 s.heap.size a y iR iK nW nR nS nP nT jW dR aOf aWk aTo aPo aRk aRw aRr aLa aSi aGo aWs aRs aSo aWa aSs aSz aSh p1 p2.toInt32.toInt64 FP.dconst0 ) (cwV 3 hts gX8_holdBits_X8_hold rfl rfl rfl (by decide +kernel) ⟨Nat.le_of_ble_eq_true rfl, Nat.le_of_ble_eq_true rfl⟩) (wPreV hK hP (hD.weaken (fun _ _ _ _ => trivial)) (va_recv hK hP (ci := 6) (q0 := 0) rfl rfl)) rfl rfl hl.1 rfl (lv_room (Nat.le_of_ble_eq_true rfl)) dX8_holdBits_19 ⟨Nat.le_of_ble_eq_true rfl, Nat.le_of_ble_eq_true rfl⟩) hS (fun q _ h => hFc q h) hFc (fun u t H locs ht hvm hw hB _ _ hS => ?_)
      obtain ⟨hP, -, hD⟩ := hB
      rw [ht] at hP
      replace hD := hD.weaken (fun _ q _ h => hFc q.1 h)
      rw [hw] at hP hD
      clear hw hFc
      have hP : va_P Dg vwCl (mW m0 a y iR p1 nW nR nS nP nT p2.toInt32.toInt64 FP.dconst0 aOf aWk aTo aPo aRk aRw aRr aLa aSi aGo aWs aRs aSo aWa aSs aSz aSh) H := hP
      have hD : va_D A (mW m0 a y iR p1 nW nR nS nP nT p2.toInt32.toInt64 FP.dconst0 aOf aWk aTo aPo aRk aRw aRr aLa aSi aGo aWs aRs aSo aWa aSs aSz aSh) := hD
      refine lv_goto (tgt := 49) hx hb dX8_holdBits_22 (by decide) ?_
      exact W.vret hx hb hr (fun t ht hW => ⟨⟨(mW m0 a y iR p1 nW nR nS nP nT p2.toInt32.toInt64 FP.dconst0 aOf aWk aTo aPo aRk aRw aRr aLa aSi aGo aWs aRs aSo aWa aSs aSz aSh), rfl, (by simp only [hbW, hbR, if_neg c_1, if_pos c_3]), by rw [ht]; exact hP, va_K.moved hW.alike hK, hD⟩, hS.F ht⟩) hS.2.2 dX8_holdBits_49

theorem in_X8_open : ∀ w ∈ wsX80, w ∈ wsX8_open := fun w h => List.mem_cons_of_mem _ (List.mem_append_right _ h)
set_option maxHeartbeats 8000000 in
set_option maxRecDepth 100000 in
theorem met_X8_open (l : Launch) (Dg : va_G) (m0 z : Nat) (a : Nat → Nat) (y : Nat → ClassId) (iR : Int32) (iK : Int32) (nW : Int32) (nR : Int32) (nS : Int32) (nP : Int32) (nT : Int32) (jW : Int64) (dR : UInt64) (aOf : Nat → Int32) (aWk : Nat → Int32) (aTo : Nat → UInt64) (aPo : Nat → UInt64) (aRk : Nat → Int32) (aRw : Nat → Int64) (aRr : Nat → UInt64) (aLa : Nat → Int32) (aSi : Nat → Int32) (aGo : Nat → Int32) (aWs : Nat → Int64) (aRs : Nat → UInt64) (aSo : Nat → Int32) (aWa : Nat → Int32) (aSs : Nat → Int32) (aSz : Nat → Int32) (aSh : Nat → Int32) (p1 : Int32) (hin : vp_in p1 16) : Met l yX8_open wsX8_open ({ frames := 1, cells := 0, slots := 0, locals := 25 }) (va_Pc [.ref m0, .int p1] (wB Dg (mT y) (mW m0 a y iR iK nW nR nS nP nT jW dR aOf aWk aTo aPo aRk aRw aRr aLa aSi aGo aWs aRs aSo aWa aSs aSz aSh) z)) (va_Qv (fun (u : va_W) => u = (mW m0 a y iR (aRk p1.toNatClampNeg) nW nR nS nP nT (aRw p1.toNatClampNeg) (aRr p1.toNatClampNeg) aOf aWk aTo aPo aRk aRw aRr aLa aSi aGo aWs aRs aSo aWa aSs aSz aSh)) (wE Dg (mT y) (va_A (mW m0 a y iR iK nW nR nS nP nT jW dR aOf aWk aTo aPo aRk aRw aRr aLa aSi aGo aWs aRs aSo aWa aSs aSz aSh) z)) (va_A (mW m0 a y iR iK nW nR nS nP nT jW dR aOf aWk aTo aPo aRk aRw aRr aLa aSi aGo aWs aRs aSo aWa aSs aSz aSh) z)) 0 0 (va_A (mW m0 a y iR iK nW nR nS nP nT jW dR aOf aWk aTo aPo aRk aRw aRr aLa aSi aGo aWs aRs aSo aWa aSs aSz aSh) z) := by
  refine Met.ofW (cc := cX8_open) (maxL := 2) (ret := none) (by decide) rfl ?_
  intro p e s m args below meth c s₁ B hml hv
  obtain ⟨rfl, hsz, hP, hK, hD0⟩ := hv
  have hx := B.exec
  have hb := B.bytes
  have hr := B.returns
  have hts := atoms_spec (ws := wsX8_open) B.pre
  have hown : s.vm.findClass RX8 = some m.cls := findClass_of_methodNamed B.named
  have hlocks := B.notSynchronized
  subst hsz
  have hD := hD0.self (sz := s.heap.size)
  generalize hAe : va_A (mW m0 a y iR iK nW nR nS nP nT jW dR aOf aWk aTo aPo aRk aRw aRr aLa aSi aGo aWs aRs aSo aWa aSs aSz aSh) s.heap.size = A at hD ⊢
  have hA : ∀ q : Nat, s.heap.size ≤ q → A q := fun q h => by rw [← hAe]; exact Or.inr h
  have hS : va_S A s.heap s.heap [] := va_S.rf
  have hP : va_P Dg vwCl (mW m0 a y iR iK nW nR nS nP nT jW dR aOf aWk aTo aPo aRk aRw aRr aLa aSi aGo aWs aRs aSo aWa aSs aSz aSh) s.heap := hP
  have hl := lv_entry ([.ref m0, .int p1]) (n := 2) (Nat.le_of_ble_eq_true rfl)
  rw [lg_entry_eq]
  generalize (lg_sl ([.ref m0, .int p1]) ++ List.replicate (2 - (lg_sl ([.ref m0, .int p1])).length) Slot.unset).toArray = ls at hl ⊢
  have hl : lv_has ls 2 [(0, .ref m0), (1, .int p1)] := hl
  refine lv_aload_n hx hb dX8_open_0 rfl (lv_at hl 0 rfl) ?_
  refine lv_aload_n hx hb dX8_open_1 rfl (lv_at hl 0 rfl) ?_
  refine va_get (D := Dg) (ci := 6) (v := .ref (a 4)) (C := RX8) (T := TX8) (N := 26) hx hb hts in_X8_open hown hK hP 0 rfl rfl 10 (by decide) (hts (.fieldLink RX8 23 "OrreryWorksModel" "regKind" "[I") (by decide +kernel)) (fun _ h9 => h9) rfl dX8_open_2 ?_
  refine lv_iload_n hx hb dX8_open_5 rfl (lv_at hl 1 rfl) ?_
  refine va_iald hx hb hK hP 5 4 rfl rfl hin dX8_open_6 ?_
  refine lv_aload_n hx hb dX8_open_7 rfl (lv_at hl 0 rfl) ?_
  refine va_get (D := Dg) (ci := 6) (v := .ref (a 5)) (C := RX8) (T := TX8) (N := 26) hx hb hts in_X8_open hown hK hP 0 rfl rfl 11 (by decide) (hts (.fieldLink RX8 26 "OrreryWorksModel" "regWhole" "[J") (by decide +kernel)) (fun _ h9 => h9) rfl dX8_open_8 ?_
  refine lv_iload_n hx hb dX8_open_11 rfl (lv_at hl 1 rfl) ?_
  refine va_lald hx hb hK hP 6 5 rfl rfl hin dX8_open_12 ?_
  refine lv_aload_n hx hb dX8_open_13 rfl (lv_at hl 0 rfl) ?_
  refine va_get (D := Dg) (ci := 6) (v := .ref (a 6)) (C := RX8) (T := TX8) (N := 26) hx hb hts in_X8_open hown hK hP 0 rfl rfl 12 (by decide) (hts (.fieldLink RX8 30 "OrreryWorksModel" "regReal" "[D") (by decide +kernel)) (fun _ h9 => h9) rfl dX8_open_14 ?_
  refine lv_iload_n hx hb dX8_open_17 rfl (lv_at hl 1 rfl) ?_
  refine va_dald hx hb hK hP 7 6 rfl rfl hin dX8_open_18 ?_
  have hFc := wFree hD hS hA
  refine va_callv (va_runV (As := [.int (aRk p1.toNatClampNeg), .long (aRw p1.toNatClampNeg), .double (aRr p1.toNatClampNeg)]) (rest := []) ⟨hx, hb, hml, hown, hts⟩ (met_X8_hold l Dg m0 s.heap.size a y iR iK nW nR nS nP nT jW dR aOf aWk aTo aPo aRk aRw aRr aLa aSi aGo aWs aRs aSo aWa aSs aSz aSh (aRk p1.toNatClampNeg) (aRw p1.toNatClampNeg) (aRr p1.toNatClampNeg) ) (cwV 3 hts gX8_open_X8_hold rfl rfl rfl (by decide +kernel) ⟨Nat.le_of_ble_eq_true rfl, Nat.le_of_ble_eq_true rfl⟩) (wPreV hK hP (hD.weaken (fun _ _ _ _ => trivial)) (va_recv hK hP (ci := 6) (q0 := 0) rfl rfl)) rfl rfl hl.1 rfl (lv_room (Nat.le_of_ble_eq_true rfl)) dX8_open_19 ⟨Nat.le_of_ble_eq_true rfl, Nat.le_of_ble_eq_true rfl⟩) hS (fun q _ h => hFc q h) hFc (fun u t H locs ht hvm hw hB _ _ hS => ?_)
  obtain ⟨hP, -, hD⟩ := hB
  rw [ht] at hP
  replace hD := hD.weaken (fun _ q _ h => hFc q.1 h)
  rw [hw] at hP hD
  clear hw hFc
  have hP : va_P Dg vwCl (mW m0 a y iR (aRk p1.toNatClampNeg) nW nR nS nP nT (aRw p1.toNatClampNeg) (aRr p1.toNatClampNeg) aOf aWk aTo aPo aRk aRw aRr aLa aSi aGo aWs aRs aSo aWa aSs aSz aSh) H := hP
  have hD : va_D A (mW m0 a y iR (aRk p1.toNatClampNeg) nW nR nS nP nT (aRw p1.toNatClampNeg) (aRr p1.toNatClampNeg) aOf aWk aTo aPo aRk aRw aRr aLa aSi aGo aWs aRs aSo aWa aSs aSz aSh) := hD
  exact W.vret hx hb hr (fun t ht hW => ⟨⟨(mW m0 a y iR (aRk p1.toNatClampNeg) nW nR nS nP nT (aRw p1.toNatClampNeg) (aRr p1.toNatClampNeg) aOf aWk aTo aPo aRk aRw aRr aLa aSi aGo aWs aRs aSo aWa aSs aSz aSh), rfl, rfl, by rw [ht]; exact hP, va_K.moved hW.alike hK, hD⟩, hS.F ht⟩) hS.2.2 dX8_open_22

theorem in_X8_store : ∀ w ∈ wsX80, w ∈ wsX8_store := fun w h => List.mem_cons_of_mem _ (List.mem_append_right _ h)
set_option maxHeartbeats 8000000 in
set_option maxRecDepth 100000 in
theorem met_X8_store (l : Launch) (Dg : va_G) (m0 z : Nat) (a : Nat → Nat) (y : Nat → ClassId) (iR : Int32) (iK : Int32) (nW : Int32) (nR : Int32) (nS : Int32) (nP : Int32) (nT : Int32) (jW : Int64) (dR : UInt64) (aOf : Nat → Int32) (aWk : Nat → Int32) (aTo : Nat → UInt64) (aPo : Nat → UInt64) (aRk : Nat → Int32) (aRw : Nat → Int64) (aRr : Nat → UInt64) (aLa : Nat → Int32) (aSi : Nat → Int32) (aGo : Nat → Int32) (aWs : Nat → Int64) (aRs : Nat → UInt64) (aSo : Nat → Int32) (aWa : Nat → Int32) (aSs : Nat → Int32) (aSz : Nat → Int32) (aSh : Nat → Int32) (p1 : Int32) (hin : vp_in p1 16) (hn : 2 ≤ iK → FP.Core.val64 dR ≠ .nan) : Met l yX8_store wsX8_store ({ frames := 1, cells := 0, slots := 0, locals := 23 }) (va_Pc [.ref m0, .int p1] (wB Dg (mT y) (mW m0 a y iR iK nW nR nS nP nT jW dR aOf aWk aTo aPo aRk aRw aRr aLa aSi aGo aWs aRs aSo aWa aSs aSz aSh) z)) (va_Qv (fun (u : va_W) => u = (mW m0 a y iR (aRk p1.toNatClampNeg) nW nR nS nP nT (mcW iK jW dR (aRk p1.toNatClampNeg)) (mcR iK jW dR (aRk p1.toNatClampNeg)) aOf aWk aTo aPo aRk (vp_updL aRw p1.toNatClampNeg (mcW iK jW dR (aRk p1.toNatClampNeg))) (vf_upd aRr p1.toNatClampNeg (mcR iK jW dR (aRk p1.toNatClampNeg))) aLa aSi aGo aWs aRs aSo aWa aSs aSz aSh)) (wE Dg (mT y) (va_A (mW m0 a y iR iK nW nR nS nP nT jW dR aOf aWk aTo aPo aRk aRw aRr aLa aSi aGo aWs aRs aSo aWa aSs aSz aSh) z)) (va_A (mW m0 a y iR iK nW nR nS nP nT jW dR aOf aWk aTo aPo aRk aRw aRr aLa aSi aGo aWs aRs aSo aWa aSs aSz aSh) z)) 0 0 (va_A (mW m0 a y iR iK nW nR nS nP nT jW dR aOf aWk aTo aPo aRk aRw aRr aLa aSi aGo aWs aRs aSo aWa aSs aSz aSh) z) := by
  refine Met.ofW (cc := cX8_store) (maxL := 2) (ret := none) (by decide) rfl ?_
  intro p e s m args below meth c s₁ B hml hv
  obtain ⟨rfl, hsz, hP, hK, hD0⟩ := hv
  have hx := B.exec
  have hb := B.bytes
  have hr := B.returns
  have hts := atoms_spec (ws := wsX8_store) B.pre
  have hown : s.vm.findClass RX8 = some m.cls := findClass_of_methodNamed B.named
  have hlocks := B.notSynchronized
  subst hsz
  have hD := hD0.self (sz := s.heap.size)
  generalize hAe : va_A (mW m0 a y iR iK nW nR nS nP nT jW dR aOf aWk aTo aPo aRk aRw aRr aLa aSi aGo aWs aRs aSo aWa aSs aSz aSh) s.heap.size = A at hD ⊢
  have hA : ∀ q : Nat, s.heap.size ≤ q → A q := fun q h => by rw [← hAe]; exact Or.inr h
  have hS : va_S A s.heap s.heap [] := va_S.rf
  have hP : va_P Dg vwCl (mW m0 a y iR iK nW nR nS nP nT jW dR aOf aWk aTo aPo aRk aRw aRr aLa aSi aGo aWs aRs aSo aWa aSs aSz aSh) s.heap := hP
  have hl := lv_entry ([.ref m0, .int p1]) (n := 2) (Nat.le_of_ble_eq_true rfl)
  rw [lg_entry_eq]
  generalize (lg_sl ([.ref m0, .int p1]) ++ List.replicate (2 - (lg_sl ([.ref m0, .int p1])).length) Slot.unset).toArray = ls at hl ⊢
  have hl : lv_has ls 2 [(0, .ref m0), (1, .int p1)] := hl
  refine lv_aload_n hx hb dX8_store_0 rfl (lv_at hl 0 rfl) ?_
  refine lv_aload_n hx hb dX8_store_1 rfl (lv_at hl 0 rfl) ?_
  refine va_get (D := Dg) (ci := 6) (v := .ref (a 4)) (C := RX8) (T := TX8) (N := 26) hx hb hts in_X8_store hown hK hP 0 rfl rfl 10 (by decide) (hts (.fieldLink RX8 23 "OrreryWorksModel" "regKind" "[I") (by decide +kernel)) (fun _ h9 => h9) rfl dX8_store_2 ?_
  refine lv_iload_n hx hb dX8_store_5 rfl (lv_at hl 1 rfl) ?_
  refine va_iald hx hb hK hP 5 4 rfl rfl hin dX8_store_6 ?_
  have hFc := wFree hD hS hA
  refine va_callv (va_runV (As := [.int (aRk p1.toNatClampNeg)]) (rest := []) ⟨hx, hb, hml, hown, hts⟩ (met_X8_cast l Dg m0 s.heap.size a y iR iK nW nR nS nP nT jW dR aOf aWk aTo aPo aRk aRw aRr aLa aSi aGo aWs aRs aSo aWa aSs aSz aSh (aRk p1.toNatClampNeg) hn) (cwV 1 hts gX8_store_X8_cast rfl rfl rfl (by decide +kernel) ⟨Nat.le_of_ble_eq_true rfl, Nat.le_of_ble_eq_true rfl⟩) (wPreV hK hP (hD.weaken (fun _ _ _ _ => trivial)) (va_recv hK hP (ci := 6) (q0 := 0) rfl rfl)) rfl rfl hl.1 rfl (lv_room (Nat.le_of_ble_eq_true rfl)) dX8_store_7 ⟨Nat.le_of_ble_eq_true rfl, Nat.le_of_ble_eq_true rfl⟩) hS (fun q _ h => hFc q h) hFc (fun u t H locs ht hvm hw hB _ _ hS => ?_)
  obtain ⟨hP, -, hD⟩ := hB
  rw [ht] at hP
  replace hD := hD.weaken (fun _ q _ h => hFc q.1 h)
  rw [hw] at hP hD
  clear hw hFc
  have hP : va_P Dg vwCl (mW m0 a y iR (aRk p1.toNatClampNeg) nW nR nS nP nT (mcW iK jW dR (aRk p1.toNatClampNeg)) (mcR iK jW dR (aRk p1.toNatClampNeg)) aOf aWk aTo aPo aRk aRw aRr aLa aSi aGo aWs aRs aSo aWa aSs aSz aSh) H := hP
  have hD : va_D A (mW m0 a y iR (aRk p1.toNatClampNeg) nW nR nS nP nT (mcW iK jW dR (aRk p1.toNatClampNeg)) (mcR iK jW dR (aRk p1.toNatClampNeg)) aOf aWk aTo aPo aRk aRw aRr aLa aSi aGo aWs aRs aSo aWa aSs aSz aSh) := hD
  refine lv_aload_n hx hb dX8_store_10 rfl (lv_at hl 0 rfl) ?_
  refine va_get (D := Dg) (ci := 6) (v := .ref (a 5)) (C := RX8) (T := TX8) (N := 26) hx hb hts in_X8_store hown hK hP 0 rfl rfl 11 (by decide) (hts (.fieldLink RX8 26 "OrreryWorksModel" "regWhole" "[J") (by decide +kernel)) (fun _ h9 => h9) rfl dX8_store_11 ?_
  refine lv_iload_n hx hb dX8_store_14 rfl (lv_at hl 1 rfl) ?_
  refine lv_aload_n hx hb dX8_store_15 rfl (lv_at hl 0 rfl) ?_
  refine va_get (D := Dg) (ci := 6) (v := .long (mcW iK jW dR (aRk p1.toNatClampNeg))) (C := RX8) (T := TX8) (N := 26) hx hb hts in_X8_store hown hK hP 0 rfl rfl 3 (by decide) (hts (.fieldLink RX8 83 "OrreryWorksModel" "whole" "J") (by decide +kernel)) (fun _ h9 => h9) rfl dX8_store_16 ?_
  refine va_last hx hb hK hP hD hS 6 5 rfl rfl hin dX8_store_19 (fun H locs hP hD hS => ?_)
  have hP : va_P Dg vwCl (mW m0 a y iR (aRk p1.toNatClampNeg) nW nR nS nP nT (mcW iK jW dR (aRk p1.toNatClampNeg)) (mcR iK jW dR (aRk p1.toNatClampNeg)) aOf aWk aTo aPo aRk (vp_updL aRw p1.toNatClampNeg (mcW iK jW dR (aRk p1.toNatClampNeg))) aRr aLa aSi aGo aWs aRs aSo aWa aSs aSz aSh) H := hP
  have hD : va_D A (mW m0 a y iR (aRk p1.toNatClampNeg) nW nR nS nP nT (mcW iK jW dR (aRk p1.toNatClampNeg)) (mcR iK jW dR (aRk p1.toNatClampNeg)) aOf aWk aTo aPo aRk (vp_updL aRw p1.toNatClampNeg (mcW iK jW dR (aRk p1.toNatClampNeg))) aRr aLa aSi aGo aWs aRs aSo aWa aSs aSz aSh) := hD
  refine lv_aload_n hx hb dX8_store_20 rfl (lv_at hl 0 rfl) ?_
  refine va_get (D := Dg) (ci := 6) (v := .ref (a 6)) (C := RX8) (T := TX8) (N := 26) hx hb hts in_X8_store hown hK hP 0 rfl rfl 12 (by decide) (hts (.fieldLink RX8 30 "OrreryWorksModel" "regReal" "[D") (by decide +kernel)) (fun _ h9 => h9) rfl dX8_store_21 ?_
  refine lv_iload_n hx hb dX8_store_24 rfl (lv_at hl 1 rfl) ?_
  refine lv_aload_n hx hb dX8_store_25 rfl (lv_at hl 0 rfl) ?_
  refine va_get (D := Dg) (ci := 6) (v := .double (mcR iK jW dR (aRk p1.toNatClampNeg))) (C := RX8) (T := TX8) (N := 26) hx hb hts in_X8_store hown hK hP 0 rfl rfl 4 (by decide) (hts (.fieldLink RX8 87 "OrreryWorksModel" "real" "D") (by decide +kernel)) (fun _ h9 => h9) rfl dX8_store_26 ?_
  refine va_dast hx hb hK hP hD hS 7 6 rfl rfl hin dX8_store_29 (fun H locs hP hD hS => ?_)
  have hP : va_P Dg vwCl (mW m0 a y iR (aRk p1.toNatClampNeg) nW nR nS nP nT (mcW iK jW dR (aRk p1.toNatClampNeg)) (mcR iK jW dR (aRk p1.toNatClampNeg)) aOf aWk aTo aPo aRk (vp_updL aRw p1.toNatClampNeg (mcW iK jW dR (aRk p1.toNatClampNeg))) (vf_upd aRr p1.toNatClampNeg (mcR iK jW dR (aRk p1.toNatClampNeg))) aLa aSi aGo aWs aRs aSo aWa aSs aSz aSh) H := hP
  have hD : va_D A (mW m0 a y iR (aRk p1.toNatClampNeg) nW nR nS nP nT (mcW iK jW dR (aRk p1.toNatClampNeg)) (mcR iK jW dR (aRk p1.toNatClampNeg)) aOf aWk aTo aPo aRk (vp_updL aRw p1.toNatClampNeg (mcW iK jW dR (aRk p1.toNatClampNeg))) (vf_upd aRr p1.toNatClampNeg (mcR iK jW dR (aRk p1.toNatClampNeg))) aLa aSi aGo aWs aRs aSo aWa aSs aSz aSh) := hD
  exact W.vret hx hb hr (fun t ht hW => ⟨⟨(mW m0 a y iR (aRk p1.toNatClampNeg) nW nR nS nP nT (mcW iK jW dR (aRk p1.toNatClampNeg)) (mcR iK jW dR (aRk p1.toNatClampNeg)) aOf aWk aTo aPo aRk (vp_updL aRw p1.toNatClampNeg (mcW iK jW dR (aRk p1.toNatClampNeg))) (vf_upd aRr p1.toNatClampNeg (mcR iK jW dR (aRk p1.toNatClampNeg))) aLa aSi aGo aWs aRs aSo aWa aSs aSz aSh), rfl, rfl, by rw [ht]; exact hP, va_K.moved hW.alike hK, hD⟩, hS.F ht⟩) hS.2.2 dX8_store_30

theorem in_X8_against : ∀ w ∈ wsX80, w ∈ wsX8_against := fun w h => List.mem_cons_of_mem _ (List.mem_append_right _ h)
set_option maxHeartbeats 8000000 in
set_option maxRecDepth 100000 in
theorem met_X8_against (l : Launch) (Dg : va_G) (m0 z : Nat) (a : Nat → Nat) (y : Nat → ClassId) (iR : Int32) (iK : Int32) (nW : Int32) (nR : Int32) (nS : Int32) (nP : Int32) (nT : Int32) (jW : Int64) (dR : UInt64) (aOf : Nat → Int32) (aWk : Nat → Int32) (aTo : Nat → UInt64) (aPo : Nat → UInt64) (aRk : Nat → Int32) (aRw : Nat → Int64) (aRr : Nat → UInt64) (aLa : Nat → Int32) (aSi : Nat → Int32) (aGo : Nat → Int32) (aWs : Nat → Int64) (aRs : Nat → UInt64) (aSo : Nat → Int32) (aWa : Nat → Int32) (aSs : Nat → Int32) (aSz : Nat → Int32) (aSh : Nat → Int32) (p1 : Int32) (p2 : Int32) (p3 : Int32) (hin : vp_in p1 8) : Met l yX8_against wsX8_against ({ frames := 1, cells := 0, slots := 0, locals := 22 }) (va_Pc [.ref m0, .int p1, .int p2, .int p3] (wB Dg (mT y) (mW m0 a y iR iK nW nR nS nP nT jW dR aOf aWk aTo aPo aRk aRw aRr aLa aSi aGo aWs aRs aSo aWa aSs aSz aSh) z)) (vp_Si (fun r => r = agn (aGo p1.toNatClampNeg) (aLa p1.toNatClampNeg) (aSi p1.toNatClampNeg) p2 p3)) 0 0 (fun _ => False) := by
  refine Met.ofW (cc := cX8_against) (maxL := 4) (ret := (some .int)) (by decide) rfl ?_
  intro p e s m args below meth c s₁ B hml hv
  obtain ⟨rfl, hsz, hP, hK, hD0⟩ := hv
  have hx := B.exec
  have hb := B.bytes
  have hr := B.returns
  have hts := atoms_spec (ws := wsX8_against) B.pre
  have hown : s.vm.findClass RX8 = some m.cls := findClass_of_methodNamed B.named
  have hlocks := B.notSynchronized
  subst hsz
  have hl := lv_entry ([.ref m0, .int p1, .int p2, .int p3]) (n := 4) (Nat.le_of_ble_eq_true rfl)
  rw [lg_entry_eq]
  generalize (lg_sl ([.ref m0, .int p1, .int p2, .int p3]) ++ List.replicate (4 - (lg_sl ([.ref m0, .int p1, .int p2, .int p3])).length) Slot.unset).toArray = ls at hl ⊢
  have hl : lv_has ls 4 [(0, .ref m0), (1, .int p1), (2, .int p2), (3, .int p3)] := hl
  refine lv_aload_n hx hb dX8_against_0 rfl (lv_at hl 0 rfl) ?_
  refine va_get (D := Dg) (ci := 6) (v := .ref (a 9)) (C := RX8) (T := TX8) (N := 26) hx hb hts in_X8_against hown hK hP 0 rfl rfl 16 (by decide) (hts (.fieldLink RX8 39 "OrreryWorksModel" "isGone" "[Z") (by decide +kernel)) (fun _ h9 => h9) rfl dX8_against_1 ?_
  refine lv_iload_n hx hb dX8_against_4 rfl (lv_at hl 1 rfl) ?_
  refine va_zald hx hb hK hP 10 9 rfl rfl hin dX8_against_5 ?_
  refine lv_if_eq (tgt := 14) hx hb dX8_against_6 (by decide) (fun c_1 => ?_) (fun c_1 => ?_)
  · refine lv_aload_n hx hb dX8_against_14 rfl (lv_at hl 0 rfl) ?_
    refine va_get (D := Dg) (ci := 6) (v := .ref (a 7)) (C := RX8) (T := TX8) (N := 26) hx hb hts in_X8_against hown hK hP 0 rfl rfl 14 (by decide) (hts (.fieldLink RX8 33 "OrreryWorksModel" "lane" "[I") (by decide +kernel)) (fun _ h9 => h9) rfl dX8_against_15 ?_
    refine lv_iload_n hx hb dX8_against_18 rfl (lv_at hl 1 rfl) ?_
    refine va_iald hx hb hK hP 8 7 rfl rfl hin dX8_against_19 ?_
    refine lv_iload_n hx hb dX8_against_20 rfl (lv_at hl 2 rfl) ?_
    refine lv_icmp_eq (tgt := 29) hx hb dX8_against_21 (by decide) (fun c_2 => ?_) (fun c_2 => ?_)
    · refine lv_iload_n hx hb dX8_against_29 rfl (lv_at hl 3 rfl) ?_
      refine lv_iconst (v := 0) hx hb dX8_against_30 (by decide) ?_
      refine lv_aload_n hx hb dX8_against_31 rfl (lv_at hl 0 rfl) ?_
      refine va_get (D := Dg) (ci := 6) (v := .ref (a 8)) (C := RX8) (T := TX8) (N := 26) hx hb hts in_X8_against hown hK hP 0 rfl rfl 15 (by decide) (hts (.fieldLink RX8 36 "OrreryWorksModel" "size" "[I") (by decide +kernel)) (fun _ h9 => h9) rfl dX8_against_32 ?_
      refine lv_iload_n hx hb dX8_against_35 rfl (lv_at hl 1 rfl) ?_
      refine va_iald hx hb hK hP 9 8 rfl rfl hin dX8_against_36 ?_
      refine lv_iconst (v := 1) hx hb dX8_against_37 (by decide) ?_
      refine lv_isub hx hb dX8_against_38 ?_
      refine vp_callSi ((va_runS (As := [.int p3, .int 0, .int ((aSi p1.toNatClampNeg) - 1)]) (rest := []) ⟨hx, hb, hml, hown, hts⟩ (met_X8_isIn l p3 0 ((aSi p1.toNatClampNeg) - 1)) (va_cwS 3 hts gX8_against_X8_isIn rfl rfl rfl (by decide +kernel) ⟨Nat.le_of_ble_eq_true rfl, Nat.le_of_ble_eq_true rfl⟩) ⟨fun _ _ _ _ q => q, fun U hU hW => ⟨rfl, trivial⟩⟩ rfl rfl hl.1 rfl (lv_room (Nat.le_of_ble_eq_true rfl)) dX8_against_39 ⟨Nat.le_of_ble_eq_true rfl, Nat.le_of_ble_eq_true rfl⟩).run) (fun r hw => ?_)
      subst hw
      refine lv_if_ne (tgt := 50) hx hb dX8_against_42 (by decide) (fun c_3 => ?_) (fun c_3 => ?_)
      · replace c_3 := bI_ne c_3
        refine lv_iconst (v := 0) hx hb dX8_against_50 (by decide) ?_
        exact W.iret (v := 0) hx hb hr (fun t ht hW => ⟨_, rfl, (by simp only [agn, if_pos c_1, if_pos c_2, if_pos c_3]), ht⟩) (fun q hq => absurd hq List.not_mem_nil) dX8_against_51
      · replace c_3 := bI_eq c_3
        refine lv_bipush (v := (-8)) hx hb dX8_against_45 (by decide) ?_
        refine lv_goto (tgt := 51) hx hb dX8_against_47 (by decide) ?_
        exact W.iret (v := (-8)) hx hb hr (fun t ht hW => ⟨_, rfl, (by simp only [agn, if_pos c_1, if_pos c_2, if_neg c_3]), ht⟩) (fun q hq => absurd hq List.not_mem_nil) dX8_against_51
    · refine lv_bipush (v := (-7)) hx hb dX8_against_24 (by decide) ?_
      refine lv_goto (tgt := 51) hx hb dX8_against_26 (by decide) ?_
      exact W.iret (v := (-7)) hx hb hr (fun t ht hW => ⟨_, rfl, (by simp only [agn, if_pos c_1, if_neg c_2]), ht⟩) (fun q hq => absurd hq List.not_mem_nil) dX8_against_51
  · refine lv_bipush (v := (-10)) hx hb dX8_against_9 (by decide) ?_
    refine lv_goto (tgt := 51) hx hb dX8_against_11 (by decide) ?_
    exact W.iret (v := (-10)) hx hb hr (fun t ht hW => ⟨_, rfl, (by simp only [agn, if_neg c_1]), ht⟩) (fun q hq => absurd hq List.not_mem_nil) dX8_against_51
