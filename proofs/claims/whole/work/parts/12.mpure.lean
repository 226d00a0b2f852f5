/-! worlds as lists of cells: what a method finds, what it leaves -/
abbrev wB (Dg : va_G) (ty : List (ClassId × FieldType)) (w : va_W) (z : Nat) (U : State) : Prop := U.heap.size = z ∧ va_P Dg vwCl w U.heap ∧ va_K Dg vwCl ty U ∧ va_D (fun _ => True) w
abbrev wE (Dg : va_G) (ty : List (ClassId × FieldType)) (A : Nat → Prop) (w : va_W) (t : State) : Prop := va_P Dg vwCl w t.heap ∧ va_K Dg vwCl ty t ∧ va_D A w
theorem wFree {A : Nat → Prop} {ws : va_W} {H0 H : Heap} {locs : List Loc} (hD : va_D A ws) (hS : va_S A H0 H locs) (hA : ∀ q, H0.size ≤ q → A q) : ∀ q, va_A ws H.size q → A q :=
  fun q h => h.elim (fun ⟨k, e, hk⟩ => hD.2 k (q, e) hk) (fun h => hA q (Nat.le_trans hS.1 h))
theorem wBlind {Dg : va_G} {ty : List (ClassId × FieldType)} {w : va_W} {z : Nat} {av : List Value} : FrameBlind (va_Pc av (wB Dg ty w z)) := by
  intro a U g mk q
  obtain ⟨q0, q1, qP, qK, qD⟩ := q
  exact ⟨q0, q1, qP, va_K.moved (u := U) (U := U.calling g mk a) (Vm.Alike.refl U.vm) qK, qD⟩
theorem wPreV {s : State} {H : Heap} {C : String} {b : Addr} {As : List Value} {Dg : va_G} {ty : List (ClassId × FieldType)} {w : va_W} (hK : va_K Dg vwCl ty s) (hP : va_P Dg vwCl w H) (hD : va_D (fun _ => True) w) (hr : ∃ cell : Cell, H[b]? = some cell ∧ cell.vm.isStatics = false ∧ s.vm.findClass C = some cell.cls) : PreV s H C b (va_Pc (.ref b :: As) (wB Dg ty w H.size)) As :=
  ⟨wBlind, hr, fun U hU hW => ⟨rfl, by rw [hU], by rw [hU]; exact hP, va_K.moved hW.alike hK, hD⟩⟩
/-- a contract of a method that no native row stands for, though its class has some -/
theorem metF_ofW {l : Launch} {y : MethodName} {ws ws' : List Cond} {rm : Room} {Pc : Array Value → State → Prop} {Qc : Array Value → State → Outcome → State → Prop} {mc ms : Nat} {free : Addr → Prop} {cc : ByteArray} {maxL : Nat} {ret : Option FieldType}
    (hy : plainFor y = true) (hw : ws = Cond.code y cc maxL ret :: ws')
    (body : ∀ p e s m args below meth c s₁, BodyLoose p l y (headSpec ws rm) cc maxL ret e s m args below meth c s₁ → c.maxLocals = maxL → Pc args s →
      W p l e (headSpec ws rm).room s m args below meth c s.heap [] 0 0 (MQ below Qc args s mc ms free) (entryFrame m args maxL)) : Met l y ws rm Pc Qc mc ms free := by
  refine MetFree.of_bodySF (code := cc) (maxLocals := maxL) (ret := ret) hy ?_ ?_
  · intro args s m h hn
    obtain ⟨meth, c, h1, h2, h3, h4, h5, h6, -, -⟩ := Cond.code_spec hn (atoms_spec (ws := ws) h _ (by rw [hw]; exact List.mem_cons_self))
    exact ⟨meth, c, h1, h2, h3, h4, h5, h6⟩
  · intro p e s m args below meth c s₁ B hml hP _
    have hh0 : s₁.heap = s.heap := by rw [B.state]; rfl
    obtain ⟨t, a1, o, b1, b2, b3⟩ := body p e s m args below meth c s₁ B hml hP s₁ hh0 (Stand.of_body B)
    exact ⟨t, o, a1, b1, b2, ⟨b3.1, b3.2⟩⟩

abbrev mW (m0 : Nat) (a : Nat → Nat) (y : Nat → ClassId) (iR : Int32) (iK : Int32) (nW : Int32) (nR : Int32) (nS : Int32) (nP : Int32) (nT : Int32) (jW : Int64) (dR : UInt64) (aOf : Nat → Int32) (aWk : Nat → Int32) (aTo : Nat → UInt64) (aPo : Nat → UInt64) (aRk : Nat → Int32) (aRw : Nat → Int64) (aRr : Nat → UInt64) (aLa : Nat → Int32) (aSi : Nat → Int32) (aGo : Nat → Int32) (aWs : Nat → Int64) (aRs : Nat → UInt64) (aSo : Nat → Int32) (aWa : Nat → Int32) (aSs : Nat → Int32) (aSz : Nat → Int32) (aSh : Nat → Int32) : va_W := [(m0, .inr (6, [.int iR, .ref (a 0), .int iK, .long jW, .double dR, .int nW, .ref (a 1), .ref (a 2), .ref (a 3), .int nR, .ref (a 4), .ref (a 5), .ref (a 6), .int nS, .ref (a 7), .ref (a 8), .ref (a 9), .ref (a 10), .ref (a 11), .int nP, .ref (a 12), .ref (a 13), .int nT, .ref (a 14), .ref (a 15), .ref (a 16)])), (a 0, .inl (y 0, 8, .inl aOf)), (a 1, .inl (y 1, 10, .inl aWk)), (a 2, .inl (y 2, 10, .inr (.inr (.inr (.inl aTo))))), (a 3, .inl (y 3, 10, .inr (.inr (.inr (.inl aPo))))), (a 4, .inl (y 4, 16, .inl aRk)), (a 5, .inl (y 5, 16, .inr (.inl aRw))), (a 6, .inl (y 6, 16, .inr (.inr (.inr (.inl aRr))))), (a 7, .inl (y 7, 8, .inl aLa)), (a 8, .inl (y 8, 8, .inl aSi)), (a 9, .inl (y 9, 8, .inl aGo)), (a 10, .inl (y 10, 128, .inr (.inl aWs))), (a 11, .inl (y 11, 128, .inr (.inr (.inr (.inl aRs))))), (a 12, .inl (y 12, 12, .inl aSo)), (a 13, .inl (y 13, 12, .inl aWa)), (a 14, .inl (y 14, 8, .inl aSs)), (a 15, .inl (y 15, 8, .inl aSz)), (a 16, .inl (y 16, 48, .inl aSh))]
abbrev mT (y : Nat → ClassId) : List (ClassId × FieldType) := [(y 0, .int), (y 1, .int), (y 2, .double), (y 3, .double), (y 4, .int), (y 5, .long), (y 6, .double), (y 7, .int), (y 8, .int), (y 9, .boolean), (y 10, .long), (y 11, .double), (y 12, .int), (y 13, .int), (y 14, .int), (y 15, .int), (y 16, .int)]

def fX8_isIn (a0 : Int32) (a1 : Int32) (a2 : Int32) : Bool := if a0 < a1 then false else (if a2 < a0 then false else true)
set_option maxHeartbeats 4000000 in
set_option maxRecDepth 100000 in
theorem met_X8_isIn (l : Launch) (a0 : Int32) (a1 : Int32) (a2 : Int32) : Met l yX8_isIn wsX8_isIn ({ frames := 0, cells := 0, slots := 0, locals := 0 }) (va_Pc [.int a0, .int a1, .int a2] (fun _ => True)) (vp_Si (fun r => r = bI (fX8_isIn a0 a1 a2))) 0 0 (fun _ => False) := by
  refine Met.ofW (cc := cX8_isIn) (maxL := 3) (ret := (some .boolean)) (by decide) rfl ?_
  intro p e s m args below meth c s₁ B hml hv
  obtain ⟨rfl, -⟩ := hv
  have hx := B.exec
  have hb := B.bytes
  have hr := B.returns
  have hts := atoms_spec (ws := wsX8_isIn) B.pre
  have hown : s.vm.findClass RX8 = some m.cls := findClass_of_methodNamed B.named
  have hlocks := B.notSynchronized
  have hl := lv_entry ([.int a0, .int a1, .int a2]) (n := 3) (Nat.le_of_ble_eq_true rfl)
  rw [lg_entry_eq]
  generalize (lg_sl ([.int a0, .int a1, .int a2]) ++ List.replicate (3 - (lg_sl ([.int a0, .int a1, .int a2])).length) Slot.unset).toArray = ls at hl ⊢
  have hl : lv_has ls 3 [(0, .int a0), (1, .int a1), (2, .int a2)] := hl
  refine lv_iload_n hx hb dX8_isIn_0 rfl (lv_at hl 0 rfl) ?_
  refine lv_iload_n hx hb dX8_isIn_1 rfl (lv_at hl 1 rfl) ?_
  refine lv_icmp_lt (tgt := 14) hx hb dX8_isIn_2 (by decide) (fun c_1 => ?_) (fun c_1 => ?_)
  · refine lv_iconst (v := 0) hx hb dX8_isIn_14 (by decide) ?_
    exact W.zret hx hb hr (by decide) (fun t ht hW => ⟨_, rfl, (congrArg bI (show fX8_isIn a0 a1 a2 = false from by simp only [fX8_isIn, if_pos c_1])).symm, ht⟩) (fun q hq => absurd hq List.not_mem_nil) dX8_isIn_15
  · refine lv_iload_n hx hb dX8_isIn_5 rfl (lv_at hl 0 rfl) ?_
    refine lv_iload_n hx hb dX8_isIn_6 rfl (lv_at hl 2 rfl) ?_
    refine lv_icmp_gt (tgt := 14) hx hb dX8_isIn_7 (by decide) (fun c_2 => ?_) (fun c_2 => ?_)
    · refine lv_iconst (v := 0) hx hb dX8_isIn_14 (by decide) ?_
      exact W.zret hx hb hr (by decide) (fun t ht hW => ⟨_, rfl, (congrArg bI (show fX8_isIn a0 a1 a2 = false from by simp only [fX8_isIn, if_neg c_1, if_pos c_2])).symm, ht⟩) (fun q hq => absurd hq List.not_mem_nil) dX8_isIn_15
    · refine lv_iconst (v := 1) hx hb dX8_isIn_10 (by decide) ?_
      refine lv_goto (tgt := 15) hx hb dX8_isIn_11 (by decide) ?_
      exact W.zret hx hb hr (by decide) (fun t ht hW => ⟨_, rfl, (congrArg bI (show fX8_isIn a0 a1 a2 = true from by simp only [fX8_isIn, if_neg c_1, if_neg c_2])).symm, ht⟩) (fun q hq => absurd hq List.not_mem_nil) dX8_isIn_15

def fX8_isNumber (a0 : Int64) : Bool := if 0 < (lg_cmp (a0 &&& 9223372036854775807) 9218868437227405312) then false else true
set_option maxHeartbeats 4000000 in
set_option maxRecDepth 100000 in
theorem met_X8_isNumber (l : Launch) (a0 : Int64) : Met l yX8_isNumber wsX8_isNumber ({ frames := 0, cells := 0, slots := 0, locals := 0 }) (va_Pc [.long a0] (fun _ => True)) (vp_Si (fun r => r = bI (fX8_isNumber a0))) 0 0 (fun _ => False) := by
  refine Met.ofW (cc := cX8_isNumber) (maxL := 2) (ret := (some .boolean)) (by decide) rfl ?_
  intro p e s m args below meth c s₁ B hml hv
  obtain ⟨rfl, -⟩ := hv
  have hx := B.exec
  have hb := B.bytes
  have hr := B.returns
  have hts := atoms_spec (ws := wsX8_isNumber) B.pre
  have hown : s.vm.findClass RX8 = some m.cls := findClass_of_methodNamed B.named
  have hlocks := B.notSynchronized
  have hl := lv_entry ([.long a0]) (n := 2) (Nat.le_of_ble_eq_true rfl)
  rw [lg_entry_eq]
  generalize (lg_sl ([.long a0]) ++ List.replicate (2 - (lg_sl ([.long a0])).length) Slot.unset).toArray = ls at hl ⊢
  have hl : lv_has ls 2 [(0, .long a0)] := hl
  refine lv_lload_n hx hb dX8_isNumber_0 rfl (lv_at hl 0 rfl) ?_
  refine lv_ldc2 hx hb hown (hts (.constantLong RX8 68 (9223372036854775807)) (by decide +kernel)) dX8_isNumber_1 ?_
  refine lv_land hx hb dX8_isNumber_4 ?_
  refine lv_ldc2 hx hb hown (hts (.constantLong RX8 70 (9218868437227405312)) (by decide +kernel)) dX8_isNumber_5 ?_
  refine W.lcmp hx hb dX8_isNumber_8 ?_
  refine lv_if_gt (tgt := 16) hx hb dX8_isNumber_9 (by decide) (fun c_1 => ?_) (fun c_1 => ?_)
  · refine lv_iconst (v := 0) hx hb dX8_isNumber_16 (by decide) ?_
    exact W.zret hx hb hr (by decide) (fun t ht hW => ⟨_, rfl, (congrArg bI (show fX8_isNumber a0 = false from by simp only [fX8_isNumber, if_pos c_1])).symm, ht⟩) (fun q hq => absurd hq List.not_mem_nil) dX8_isNumber_17
  · refine lv_iconst (v := 1) hx hb dX8_isNumber_12 (by decide) ?_
    refine lv_goto (tgt := 17) hx hb dX8_isNumber_13 (by decide) ?_
    exact W.zret hx hb hr (by decide) (fun t ht hW => ⟨_, rfl, (congrArg bI (show fX8_isNumber a0 = true from by simp only [fX8_isNumber, if_neg c_1])).symm, ht⟩) (fun q hq => absurd hq List.not_mem_nil) dX8_isNumber_17

def fX8_isFloat (a0 : Int32) : Bool := if 2139095040 < (a0 &&& 2147483647) then false else true
set_option maxHeartbeats 4000000 in
set_option maxRecDepth 100000 in
theorem met_X8_isFloat (l : Launch) (a0 : Int32) : Met l yX8_isFloat wsX8_isFloat ({ frames := 0, cells := 0, slots := 0, locals := 0 }) (va_Pc [.int a0] (fun _ => True)) (vp_Si (fun r => r = bI (fX8_isFloat a0))) 0 0 (fun _ => False) := by
  refine Met.ofW (cc := cX8_isFloat) (maxL := 1) (ret := (some .boolean)) (by decide) rfl ?_
  intro p e s m args below meth c s₁ B hml hv
  obtain ⟨rfl, -⟩ := hv
  have hx := B.exec
  have hb := B.bytes
  have hr := B.returns
  have hts := atoms_spec (ws := wsX8_isFloat) B.pre
  have hown : s.vm.findClass RX8 = some m.cls := findClass_of_methodNamed B.named
  have hlocks := B.notSynchronized
  have hl := lv_entry ([.int a0]) (n := 1) (Nat.le_of_ble_eq_true rfl)
  rw [lg_entry_eq]
  generalize (lg_sl ([.int a0]) ++ List.replicate (1 - (lg_sl ([.int a0])).length) Slot.unset).toArray = ls at hl ⊢
  have hl : lv_has ls 1 [(0, .int a0)] := hl
  refine lv_iload_n hx hb dX8_isFloat_0 rfl (lv_at hl 0 rfl) ?_
  refine lv_ldc hx hb hown (hts (.constant RX8 72 (2147483647)) (by decide +kernel)) dX8_isFloat_1 ?_
  refine lv_iand hx hb dX8_isFloat_3 ?_
  refine lv_ldc hx hb hown (hts (.constant RX8 73 (2139095040)) (by decide +kernel)) dX8_isFloat_4 ?_
  refine lv_icmp_gt (tgt := 13) hx hb dX8_isFloat_6 (by decide) (fun c_1 => ?_) (fun c_1 => ?_)
  · refine lv_iconst (v := 0) hx hb dX8_isFloat_13 (by decide) ?_
    exact W.zret hx hb hr (by decide) (fun t ht hW => ⟨_, rfl, (congrArg bI (show fX8_isFloat a0 = false from by simp only [fX8_isFloat, if_pos c_1])).symm, ht⟩) (fun q hq => absurd hq List.not_mem_nil) dX8_isFloat_14
  · refine lv_iconst (v := 1) hx hb dX8_isFloat_9 (by decide) ?_
    refine lv_goto (tgt := 14) hx hb dX8_isFloat_10 (by decide) ?_
    exact W.zret hx hb hr (by decide) (fun t ht hW => ⟨_, rfl, (congrArg bI (show fX8_isFloat a0 = true from by simp only [fX8_isFloat, if_neg c_1])).symm, ht⟩) (fun q hq => absurd hq List.not_mem_nil) dX8_isFloat_14

def fX8_isEndless (a0 : UInt64) : Bool := if (Op.cmpValue (FP.dcmp a0 9218868437227405312) CmpOp.l) = 0 then true else (if (Op.cmpValue (FP.dcmp a0 18442240474082181120) CmpOp.l) = 0 then true else false)
set_option maxHeartbeats 4000000 in
set_option maxRecDepth 100000 in
theorem met_X8_isEndless (l : Launch) (a0 : UInt64) : Met l yX8_isEndless wsX8_isEndless ({ frames := 0, cells := 0, slots := 0, locals := 0 }) (va_Pc [.double a0] (fun _ => True)) (vp_Si (fun r => r = bI (fX8_isEndless a0))) 0 0 (fun _ => False) := by
  refine Met.ofW (cc := cX8_isEndless) (maxL := 2) (ret := (some .boolean)) (by decide) rfl ?_
  intro p e s m args below meth c s₁ B hml hv
  obtain ⟨rfl, -⟩ := hv
  have hx := B.exec
  have hb := B.bytes
  have hr := B.returns
  have hts := atoms_spec (ws := wsX8_isEndless) B.pre
  have hown : s.vm.findClass RX8 = some m.cls := findClass_of_methodNamed B.named
  have hlocks := B.notSynchronized
  have hl := lv_entry ([.double a0]) (n := 2) (Nat.le_of_ble_eq_true rfl)
  rw [lg_entry_eq]
  generalize (lg_sl ([.double a0]) ++ List.replicate (2 - (lg_sl ([.double a0])).length) Slot.unset).toArray = ls at hl ⊢
  have hl : lv_has ls 2 [(0, .double a0)] := hl
  refine lv_dload_n hx hb dX8_isEndless_0 rfl (lv_at hl 0 rfl) ?_
  refine lv_ldc2d hx hb hown (hts (.constantDouble RX8 76 (9218868437227405312)) (by decide +kernel)) dX8_isEndless_1 ?_
  refine lv_dcmp hx hb dX8_isEndless_4 ?_
  refine lv_if_eq (tgt := 16) hx hb dX8_isEndless_5 (by decide) (fun c_1 => ?_) (fun c_1 => ?_)
  · refine lv_iconst (v := 1) hx hb dX8_isEndless_16 (by decide) ?_
    refine lv_goto (tgt := 21) hx hb dX8_isEndless_17 (by decide) ?_
    exact W.zret hx hb hr (by decide) (fun t ht hW => ⟨_, rfl, (congrArg bI (show fX8_isEndless a0 = true from by simp only [fX8_isEndless, if_pos c_1])).symm, ht⟩) (fun q hq => absurd hq List.not_mem_nil) dX8_isEndless_21
  · refine lv_dload_n hx hb dX8_isEndless_8 rfl (lv_at hl 0 rfl) ?_
    refine lv_ldc2d hx hb hown (hts (.constantDouble RX8 78 (18442240474082181120)) (by decide +kernel)) dX8_isEndless_9 ?_
    refine lv_dcmp hx hb dX8_isEndless_12 ?_
    refine lv_if_ne (tgt := 20) hx hb dX8_isEndless_13 (by decide) (fun c_2 => ?_) (fun c_2 => ?_)
    · refine lv_iconst (v := 0) hx hb dX8_isEndless_20 (by decide) ?_
      exact W.zret hx hb hr (by decide) (fun t ht hW => ⟨_, rfl, (congrArg bI (show fX8_isEndless a0 = false from by simp only [fX8_isEndless, if_neg c_1, if_neg c_2])).symm, ht⟩) (fun q hq => absurd hq List.not_mem_nil) dX8_isEndless_21
    · refine lv_iconst (v := 1) hx hb dX8_isEndless_16 (by decide) ?_
      refine lv_goto (tgt := 21) hx hb dX8_isEndless_17 (by decide) ?_
      exact W.zret hx hb hr (by decide) (fun t ht hW => ⟨_, rfl, (congrArg bI (show fX8_isEndless a0 = true from by simp only [fX8_isEndless, if_neg c_1, if_pos c_2])).symm, ht⟩) (fun q hq => absurd hq List.not_mem_nil) dX8_isEndless_21

def fX8_isKind (a0 : Int32) : Bool := (fX8_isIn a0 0 3)
set_option maxHeartbeats 4000000 in
set_option maxRecDepth 100000 in
theorem met_X8_isKind (l : Launch) (a0 : Int32) : Met l yX8_isKind wsX8_isKind ({ frames := 1, cells := 0, slots := 0, locals := 22 }) (va_Pc [.int a0] (fun _ => True)) (vp_Si (fun r => r = bI (fX8_isKind a0))) 0 0 (fun _ => False) := by
  refine Met.ofW (cc := cX8_isKind) (maxL := 1) (ret := (some .boolean)) (by decide) rfl ?_
  intro p e s m args below meth c s₁ B hml hv
  obtain ⟨rfl, -⟩ := hv
  have hx := B.exec
  have hb := B.bytes
  have hr := B.returns
  have hts := atoms_spec (ws := wsX8_isKind) B.pre
  have hown : s.vm.findClass RX8 = some m.cls := findClass_of_methodNamed B.named
  have hlocks := B.notSynchronized
  have hl := lv_entry ([.int a0]) (n := 1) (Nat.le_of_ble_eq_true rfl)
  rw [lg_entry_eq]
  generalize (lg_sl ([.int a0]) ++ List.replicate (1 - (lg_sl ([.int a0])).length) Slot.unset).toArray = ls at hl ⊢
  have hl : lv_has ls 1 [(0, .int a0)] := hl
  refine lv_iload_n hx hb dX8_isKind_0 rfl (lv_at hl 0 rfl) ?_
  refine lv_iconst (v := 0) hx hb dX8_isKind_1 (by decide) ?_
  refine lv_iconst (v := 3) hx hb dX8_isKind_2 (by decide) ?_
  refine vp_callSi ((va_runS (As := [.int a0, .int 0, .int 3]) (rest := []) ⟨hx, hb, hml, hown, hts⟩ (met_X8_isIn l a0 0 3) (va_cwS 3 hts gX8_isKind_X8_isIn rfl rfl rfl (by decide +kernel) ⟨Nat.le_of_ble_eq_true rfl, Nat.le_of_ble_eq_true rfl⟩) ⟨fun _ _ _ _ q => q, fun U hU hW => ⟨rfl, trivial⟩⟩ rfl rfl hl.1 rfl (lv_room (Nat.le_of_ble_eq_true rfl)) dX8_isKind_3 ⟨Nat.le_of_ble_eq_true rfl, Nat.le_of_ble_eq_true rfl⟩).run) (fun r hw => ?_)
  subst hw
  exact W.zret hx hb hr (nar_bI _) (fun t ht hW => ⟨_, rfl, (congrArg bI (show fX8_isKind a0 = (fX8_isIn a0 0 3) from by simp only [fX8_isKind])).symm, ht⟩) (fun q hq => absurd hq List.not_mem_nil) dX8_isKind_6

def fX8_isVoid (a0 : Int32) (a1 : UInt64) (a2 : UInt64) : Bool := if (fX8_isEndless a1) = true then (if (fX8_isEndless a2) = true then (if a0 = 0 then (if (Op.cmpValue (FP.dcmp a1 a2) CmpOp.l) = 0 then false else true) else (if a0 = 1 then (if (Op.cmpValue (FP.dcmp a1 a2) CmpOp.l) = 0 then true else false) else (if a0 = 2 then (if (Op.cmpValue (FP.dcmp a1 FP.dconst0) CmpOp.l) = 0 then true else (if (Op.cmpValue (FP.dcmp a2 FP.dconst0) CmpOp.l) = 0 then true else false)) else (if a0 = 3 then true else true)))) else (if a0 = 0 then false else (if a0 = 1 then false else (if a0 = 2 then (if (Op.cmpValue (FP.dcmp a1 FP.dconst0) CmpOp.l) = 0 then (if (Op.cmpValue (FP.dcmp a2 FP.dconst0) CmpOp.l) = 0 then true else false) else (if (Op.cmpValue (FP.dcmp a2 FP.dconst0) CmpOp.l) = 0 then true else false)) else (if a0 = 3 then (if (Op.cmpValue (FP.dcmp a1 FP.dconst0) CmpOp.l) = 0 then (if (Op.cmpValue (FP.dcmp a2 FP.dconst0) CmpOp.l) = 0 then true else false) else false) else true))))) else (if a0 = 0 then false else (if a0 = 1 then false else (if a0 = 2 then (if (Op.cmpValue (FP.dcmp a1 FP.dconst0) CmpOp.l) = 0 then (if (fX8_isEndless a2) = true then true else false) else false) else (if a0 = 3 then (if (Op.cmpValue (FP.dcmp a1 FP.dconst0) CmpOp.l) = 0 then (if (Op.cmpValue (FP.dcmp a2 FP.dconst0) CmpOp.l) = 0 then true else false) else false) else (if (Op.cmpValue (FP.dcmp a2 FP.dconst0) CmpOp.l) = 0 then true else false)))))
set_option maxHeartbeats 4000000 in
set_option maxRecDepth 100000 in
theorem met_X8_isVoid (l : Launch) (a0 : Int32) (a1 : UInt64) (a2 : UInt64) : Met l yX8_isVoid wsX8_isVoid ({ frames := 1, cells := 0, slots := 0, locals := 21 }) (va_Pc [.int a0, .double a1, .double a2] (fun _ => True)) (vp_Si (fun r => r = bI (fX8_isVoid a0 a1 a2))) 0 0 (fun _ => False) := by
  refine Met.ofW (cc := cX8_isVoid) (maxL := 6) (ret := (some .boolean)) (by decide) rfl ?_
  intro p e s m args below meth c s₁ B hml hv
  obtain ⟨rfl, -⟩ := hv
  have hx := B.exec
  have hb := B.bytes
  have hr := B.returns
  have hts := atoms_spec (ws := wsX8_isVoid) B.pre
  have hown : s.vm.findClass RX8 = some m.cls := findClass_of_methodNamed B.named
  have hlocks := B.notSynchronized
  have hl := lv_entry ([.int a0, .double a1, .double a2]) (n := 6) (Nat.le_of_ble_eq_true rfl)
  rw [lg_entry_eq]
  generalize (lg_sl ([.int a0, .double a1, .double a2]) ++ List.replicate (6 - (lg_sl ([.int a0, .double a1, .double a2])).length) Slot.unset).toArray = ls at hl ⊢
  have hl : lv_has ls 6 [(0, .int a0), (1, .double a1), (3, .double a2)] := hl
  refine lv_dload_n hx hb dX8_isVoid_0 rfl (lv_at hl 1 rfl) ?_
  refine vp_callSi ((va_runS (As := [.double a1]) (rest := []) ⟨hx, hb, hml, hown, hts⟩ (met_X8_isEndless l a1) (va_cwS 1 hts gX8_isVoid_X8_isEndless rfl rfl rfl (by decide +kernel) ⟨Nat.le_of_ble_eq_true rfl, Nat.le_of_ble_eq_true rfl⟩) ⟨fun _ _ _ _ q => q, fun U hU hW => ⟨rfl, trivial⟩⟩ rfl rfl hl.1 rfl (lv_room (Nat.le_of_ble_eq_true rfl)) dX8_isVoid_1 ⟨Nat.le_of_ble_eq_true rfl, Nat.le_of_ble_eq_true rfl⟩).run) (fun r hw => ?_)
  subst hw
  refine lv_if_eq (tgt := 18) hx hb dX8_isVoid_4 (by decide) (fun c_1 => ?_) (fun c_1 => ?_)
  · replace c_1 := bI_eq c_1
    refine lv_iconst (v := 0) hx hb dX8_isVoid_18 (by decide) ?_
    refine lv_istore (lv' := [(5, .int 0), (0, .int a0), (1, .double a1), (3, .double a2)]) hx hb dX8_isVoid_19 hl (by decide) rfl (fun ls hl => ?_)
    refine lv_iload_n hx hb dX8_isVoid_21 rfl (lv_at hl 1 rfl) ?_
    rcases Decidable.em (a0 = 0) with c_2 | c_2
    · refine lv_tableIn (x := a0) (off := 30) (tgt := 52) hx hb dX8_isVoid_22 (by rw [c_2]; decide) (by rw [c_2]; decide) (by rw [c_2]; rfl) (by decide) ?_
      refine lv_iload hx hb dX8_isVoid_52 (lv_at hl 0 rfl) ?_
      refine lv_if_eq (tgt := 67) hx hb dX8_isVoid_54 (by decide) (fun _ => ?_) (fun h0 => absurd (by decide) h0)
      refine lv_iconst (v := 0) hx hb dX8_isVoid_67 (by decide) ?_
      exact W.zret hx hb hr (by decide) (fun t ht hW => ⟨_, rfl, (congrArg bI (show fX8_isVoid a0 a1 a2 = false from by simp only [fX8_isVoid, if_neg c_1, if_pos c_2])).symm, ht⟩) (fun q hq => absurd hq List.not_mem_nil) dX8_isVoid_68
    rcases Decidable.em (a0 = 1) with c_3 | c_3
    · refine lv_tableIn (x := a0) (off := 47) (tgt := 69) hx hb dX8_isVoid_22 (by rw [c_3]; decide) (by rw [c_3]; decide) (by rw [c_3]; rfl) (by decide) ?_
      refine lv_iload hx hb dX8_isVoid_69 (lv_at hl 0 rfl) ?_
      refine lv_if_eq (tgt := 84) hx hb dX8_isVoid_71 (by decide) (fun _ => ?_) (fun h0 => absurd (by decide) h0)
      refine lv_iconst (v := 0) hx hb dX8_isVoid_84 (by decide) ?_
      exact W.zret hx hb hr (by decide) (fun t ht hW => ⟨_, rfl, (congrArg bI (show fX8_isVoid a0 a1 a2 = false from by simp only [fX8_isVoid, if_neg c_1, if_neg c_2, if_pos c_3])).symm, ht⟩) (fun q hq => absurd hq List.not_mem_nil) dX8_isVoid_85
    rcases Decidable.em (a0 = 2) with c_4 | c_4
    · refine lv_tableIn (x := a0) (off := 64) (tgt := 86) hx hb dX8_isVoid_22 (by rw [c_4]; decide) (by rw [c_4]; decide) (by rw [c_4]; rfl) (by decide) ?_
      refine lv_dload_n hx hb dX8_isVoid_86 rfl (lv_at hl 2 rfl) ?_
      refine lv_dconst0 hx hb dX8_isVoid_87 ?_
      refine lv_dcmp hx hb dX8_isVoid_88 ?_
      refine lv_if_ne (tgt := 99) hx hb dX8_isVoid_89 (by decide) (fun c_5 => ?_) (fun c_5 => ?_)
      · refine lv_dload_n hx hb dX8_isVoid_99 rfl (lv_at hl 2 rfl) ?_
        refine vp_callSi ((va_runS (As := [.double a1]) (rest := []) ⟨hx, hb, hml, hown, hts⟩ (met_X8_isEndless l a1) (va_cwS 1 hts gX8_isVoid_X8_isEndless rfl rfl rfl (by decide +kernel) ⟨Nat.le_of_ble_eq_true rfl, Nat.le_of_ble_eq_true rfl⟩) ⟨fun _ _ _ _ q => q, fun U hU hW => ⟨rfl, trivial⟩⟩ rfl rfl hl.1 rfl (lv_room (Nat.le_of_ble_eq_true rfl)) dX8_isVoid_100 ⟨Nat.le_of_ble_eq_true rfl, Nat.le_of_ble_eq_true rfl⟩).run) (fun r hw => ?_)
        subst hw
        refine lv_if_eq (tgt := 116) hx hb dX8_isVoid_103 (by decide) (fun _ => ?_) (fun h0 => absurd (bI_ne h0) c_1)
        refine lv_iconst (v := 0) hx hb dX8_isVoid_116 (by decide) ?_
        exact W.zret hx hb hr (by decide) (fun t ht hW => ⟨_, rfl, (congrArg bI (show fX8_isVoid a0 a1 a2 = false from by simp only [fX8_isVoid, if_neg c_1, if_neg c_2, if_neg c_3, if_pos c_4, if_neg c_5])).symm, ht⟩) (fun q hq => absurd hq List.not_mem_nil) dX8_isVoid_117
      · refine lv_dload_n hx hb dX8_isVoid_92 rfl (lv_at hl 3 rfl) ?_
        refine vp_callSi ((va_runS (As := [.double a2]) (rest := []) ⟨hx, hb, hml, hown, hts⟩ (met_X8_isEndless l a2) (va_cwS 1 hts gX8_isVoid_X8_isEndless rfl rfl rfl (by decide +kernel) ⟨Nat.le_of_ble_eq_true rfl, Nat.le_of_ble_eq_true rfl⟩) ⟨fun _ _ _ _ q => q, fun U hU hW => ⟨rfl, trivial⟩⟩ rfl rfl hl.1 rfl (lv_room (Nat.le_of_ble_eq_true rfl)) dX8_isVoid_93 ⟨Nat.le_of_ble_eq_true rfl, Nat.le_of_ble_eq_true rfl⟩).run) (fun r hw => ?_)
        subst hw
        refine lv_if_ne (tgt := 112) hx hb dX8_isVoid_96 (by decide) (fun c_6 => ?_) (fun c_6 => ?_)
        · replace c_6 := bI_ne c_6
          refine lv_iconst (v := 1) hx hb dX8_isVoid_112 (by decide) ?_
          refine lv_goto (tgt := 117) hx hb dX8_isVoid_113 (by decide) ?_
          exact W.zret hx hb hr (by decide) (fun t ht hW => ⟨_, rfl, (congrArg bI (show fX8_isVoid a0 a1 a2 = true from by simp only [fX8_isVoid, if_neg c_1, if_neg c_2, if_neg c_3, if_pos c_4, if_pos c_5, if_pos c_6])).symm, ht⟩) (fun q hq => absurd hq List.not_mem_nil) dX8_isVoid_117
        · replace c_6 := bI_eq c_6
          refine lv_dload_n hx hb dX8_isVoid_99 rfl (lv_at hl 2 rfl) ?_
          refine vp_callSi ((va_runS (As := [.double a1]) (rest := []) ⟨hx, hb, hml, hown, hts⟩ (met_X8_isEndless l a1) (va_cwS 1 hts gX8_isVoid_X8_isEndless rfl rfl rfl (by decide +kernel) ⟨Nat.le_of_ble_eq_true rfl, Nat.le_of_ble_eq_true rfl⟩) ⟨fun _ _ _ _ q => q, fun U hU hW => ⟨rfl, trivial⟩⟩ rfl rfl hl.1 rfl (lv_room (Nat.le_of_ble_eq_true rfl)) dX8_isVoid_100 ⟨Nat.le_of_ble_eq_true rfl, Nat.le_of_ble_eq_true rfl⟩).run) (fun r hw => ?_)
          subst hw
          refine lv_if_eq (tgt := 116) hx hb dX8_isVoid_103 (by decide) (fun _ => ?_) (fun h0 => absurd (bI_ne h0) c_1)
          refine lv_iconst (v := 0) hx hb dX8_isVoid_116 (by decide) ?_
          exact W.zret hx hb hr (by decide) (fun t ht hW => ⟨_, rfl, (congrArg bI (show fX8_isVoid a0 a1 a2 = false from by simp only [fX8_isVoid, if_neg c_1, if_neg c_2, if_neg c_3, if_pos c_4, if_pos c_5, if_neg c_6])).symm, ht⟩) (fun q hq => absurd hq List.not_mem_nil) dX8_isVoid_117
    rcases Decidable.em (a0 = 3) with c_7 | c_7
    · refine lv_tableIn (x := a0) (off := 96) (tgt := 118) hx hb dX8_isVoid_22 (by rw [c_7]; decide) (by rw [c_7]; decide) (by rw [c_7]; rfl) (by decide) ?_
      refine lv_iload hx hb dX8_isVoid_118 (lv_at hl 0 rfl) ?_
      refine lv_if_ne (tgt := 135) hx hb dX8_isVoid_120 (by decide) (fun h0 => absurd (by decide) h0) (fun _ => ?_)
      refine lv_dload_n hx hb dX8_isVoid_123 rfl (lv_at hl 2 rfl) ?_
      refine lv_dconst0 hx hb dX8_isVoid_124 ?_
      refine lv_dcmp hx hb dX8_isVoid_125 ?_
      refine lv_if_ne (tgt := 139) hx hb dX8_isVoid_126 (by decide) (fun c_8 => ?_) (fun c_8 => ?_)
      · refine lv_iconst (v := 0) hx hb dX8_isVoid_139 (by decide) ?_
        exact W.zret hx hb hr (by decide) (fun t ht hW => ⟨_, rfl, (congrArg bI (show fX8_isVoid a0 a1 a2 = false from by simp only [fX8_isVoid, if_neg c_1, if_neg c_2, if_neg c_3, if_neg c_4, if_pos c_7, if_neg c_8])).symm, ht⟩) (fun q hq => absurd hq List.not_mem_nil) dX8_isVoid_140
      · refine lv_dload_n hx hb dX8_isVoid_129 rfl (lv_at hl 3 rfl) ?_
        refine lv_dconst0 hx hb dX8_isVoid_130 ?_
        refine lv_dcmp hx hb dX8_isVoid_131 ?_
        refine lv_if_ne (tgt := 139) hx hb dX8_isVoid_132 (by decide) (fun c_9 => ?_) (fun c_9 => ?_)
        · refine lv_iconst (v := 0) hx hb dX8_isVoid_139 (by decide) ?_
          exact W.zret hx hb hr (by decide) (fun t ht hW => ⟨_, rfl, (congrArg bI (show fX8_isVoid a0 a1 a2 = false from by simp only [fX8_isVoid, if_neg c_1, if_neg c_2, if_neg c_3, if_neg c_4, if_pos c_7, if_pos c_8, if_neg c_9])).symm, ht⟩) (fun q hq => absurd hq List.not_mem_nil) dX8_isVoid_140
        · refine lv_iconst (v := 1) hx hb dX8_isVoid_135 (by decide) ?_
          refine lv_goto (tgt := 140) hx hb dX8_isVoid_136 (by decide) ?_
          exact W.zret hx hb hr (by decide) (fun t ht hW => ⟨_, rfl, (congrArg bI (show fX8_isVoid a0 a1 a2 = true from by simp only [fX8_isVoid, if_neg c_1, if_neg c_2, if_neg c_3, if_neg c_4, if_pos c_7, if_pos c_8, if_pos c_9])).symm, ht⟩) (fun q hq => absurd hq List.not_mem_nil) dX8_isVoid_140
    refine lv_tableOut (tgt := 141) hx hb dX8_isVoid_22 (sw_out3 c_2 c_3 c_4 c_7) (by decide) ?_
    refine lv_dload_n hx hb dX8_isVoid_141 rfl (lv_at hl 2 rfl) ?_
    refine vp_callSi ((va_runS (As := [.double a1]) (rest := []) ⟨hx, hb, hml, hown, hts⟩ (met_X8_isEndless l a1) (va_cwS 1 hts gX8_isVoid_X8_isEndless rfl rfl rfl (by decide +kernel) ⟨Nat.le_of_ble_eq_true rfl, Nat.le_of_ble_eq_true rfl⟩) ⟨fun _ _ _ _ q => q, fun U hU hW => ⟨rfl, trivial⟩⟩ rfl rfl hl.1 rfl (lv_room (Nat.le_of_ble_eq_true rfl)) dX8_isVoid_142 ⟨Nat.le_of_ble_eq_true rfl, Nat.le_of_ble_eq_true rfl⟩).run) (fun r hw => ?_)
    subst hw
    refine lv_if_ne (tgt := 154) hx hb dX8_isVoid_145 (by decide) (fun h0 => absurd (bI_ne h0) c_1) (fun _ => ?_)
    refine lv_dload_n hx hb dX8_isVoid_148 rfl (lv_at hl 3 rfl) ?_
    refine lv_dconst0 hx hb dX8_isVoid_149 ?_
    refine lv_dcmp hx hb dX8_isVoid_150 ?_
    refine lv_if_ne (tgt := 158) hx hb dX8_isVoid_151 (by decide) (fun c_10 => ?_) (fun c_10 => ?_)
    · refine lv_iconst (v := 0) hx hb dX8_isVoid_158 (by decide) ?_
      exact W.zret hx hb hr (by decide) (fun t ht hW => ⟨_, rfl, (congrArg bI (show fX8_isVoid a0 a1 a2 = false from by simp only [fX8_isVoid, if_neg c_1, if_neg c_2, if_neg c_3, if_neg c_4, if_neg c_7, if_neg c_10])).symm, ht⟩) (fun q hq => absurd hq List.not_mem_nil) dX8_isVoid_159
    · refine lv_iconst (v := 1) hx hb dX8_isVoid_154 (by decide) ?_
      refine lv_goto (tgt := 159) hx hb dX8_isVoid_155 (by decide) ?_
      exact W.zret hx hb hr (by decide) (fun t ht hW => ⟨_, rfl, (congrArg bI (show fX8_isVoid a0 a1 a2 = true from by simp only [fX8_isVoid, if_neg c_1, if_neg c_2, if_neg c_3, if_neg c_4, if_neg c_7, if_pos c_10])).symm, ht⟩) (fun q hq => absurd hq List.not_mem_nil) dX8_isVoid_159
  · replace c_1 := bI_ne c_1
    refine lv_dload_n hx hb dX8_isVoid_7 rfl (lv_at hl 2 rfl) ?_
    refine vp_callSi ((va_runS (As := [.double a2]) (rest := []) ⟨hx, hb, hml, hown, hts⟩ (met_X8_isEndless l a2) (va_cwS 1 hts gX8_isVoid_X8_isEndless rfl rfl rfl (by decide +kernel) ⟨Nat.le_of_ble_eq_true rfl, Nat.le_of_ble_eq_true rfl⟩) ⟨fun _ _ _ _ q => q, fun U hU hW => ⟨rfl, trivial⟩⟩ rfl rfl hl.1 rfl (lv_room (Nat.le_of_ble_eq_true rfl)) dX8_isVoid_8 ⟨Nat.le_of_ble_eq_true rfl, Nat.le_of_ble_eq_true rfl⟩).run) (fun r hw => ?_)
    subst hw
    refine lv_if_eq (tgt := 18) hx hb dX8_isVoid_11 (by decide) (fun c_11 => ?_) (fun c_11 => ?_)
    · replace c_11 := bI_eq c_11
      refine lv_iconst (v := 0) hx hb dX8_isVoid_18 (by decide) ?_
      refine lv_istore (lv' := [(5, .int 0), (0, .int a0), (1, .double a1), (3, .double a2)]) hx hb dX8_isVoid_19 hl (by decide) rfl (fun ls hl => ?_)
      refine lv_iload_n hx hb dX8_isVoid_21 rfl (lv_at hl 1 rfl) ?_
      rcases Decidable.em (a0 = 0) with c_12 | c_12
      · refine lv_tableIn (x := a0) (off := 30) (tgt := 52) hx hb dX8_isVoid_22 (by rw [c_12]; decide) (by rw [c_12]; decide) (by rw [c_12]; rfl) (by decide) ?_
        refine lv_iload hx hb dX8_isVoid_52 (lv_at hl 0 rfl) ?_
        refine lv_if_eq (tgt := 67) hx hb dX8_isVoid_54 (by decide) (fun _ => ?_) (fun h0 => absurd (by decide) h0)
        refine lv_iconst (v := 0) hx hb dX8_isVoid_67 (by decide) ?_
        exact W.zret hx hb hr (by decide) (fun t ht hW => ⟨_, rfl, (congrArg bI (show fX8_isVoid a0 a1 a2 = false from by simp only [fX8_isVoid, if_pos c_1, if_neg c_11, if_pos c_12])).symm, ht⟩) (fun q hq => absurd hq List.not_mem_nil) dX8_isVoid_68
      rcases Decidable.em (a0 = 1) with c_13 | c_13
      · refine lv_tableIn (x := a0) (off := 47) (tgt := 69) hx hb dX8_isVoid_22 (by rw [c_13]; decide) (by rw [c_13]; decide) (by rw [c_13]; rfl) (by decide) ?_
        refine lv_iload hx hb dX8_isVoid_69 (lv_at hl 0 rfl) ?_
        refine lv_if_eq (tgt := 84) hx hb dX8_isVoid_71 (by decide) (fun _ => ?_) (fun h0 => absurd (by decide) h0)
        refine lv_iconst (v := 0) hx hb dX8_isVoid_84 (by decide) ?_
        exact W.zret hx hb hr (by decide) (fun t ht hW => ⟨_, rfl, (congrArg bI (show fX8_isVoid a0 a1 a2 = false from by simp only [fX8_isVoid, if_pos c_1, if_neg c_11, if_neg c_12, if_pos c_13])).symm, ht⟩) (fun q hq => absurd hq List.not_mem_nil) dX8_isVoid_85
      rcases Decidable.em (a0 = 2) with c_14 | c_14
      · refine lv_tableIn (x := a0) (off := 64) (tgt := 86) hx hb dX8_isVoid_22 (by rw [c_14]; decide) (by rw [c_14]; decide) (by rw [c_14]; rfl) (by decide) ?_
        refine lv_dload_n hx hb dX8_isVoid_86 rfl (lv_at hl 2 rfl) ?_
        refine lv_dconst0 hx hb dX8_isVoid_87 ?_
        refine lv_dcmp hx hb dX8_isVoid_88 ?_
        refine lv_if_ne (tgt := 99) hx hb dX8_isVoid_89 (by decide) (fun c_15 => ?_) (fun c_15 => ?_)
        · refine lv_dload_n hx hb dX8_isVoid_99 rfl (lv_at hl 2 rfl) ?_
          refine vp_callSi ((va_runS (As := [.double a1]) (rest := []) ⟨hx, hb, hml, hown, hts⟩ (met_X8_isEndless l a1) (va_cwS 1 hts gX8_isVoid_X8_isEndless rfl rfl rfl (by decide +kernel) ⟨Nat.le_of_ble_eq_true rfl, Nat.le_of_ble_eq_true rfl⟩) ⟨fun _ _ _ _ q => q, fun U hU hW => ⟨rfl, trivial⟩⟩ rfl rfl hl.1 rfl (lv_room (Nat.le_of_ble_eq_true rfl)) dX8_isVoid_100 ⟨Nat.le_of_ble_eq_true rfl, Nat.le_of_ble_eq_true rfl⟩).run) (fun r hw => ?_)
          subst hw
          refine lv_if_eq (tgt := 116) hx hb dX8_isVoid_103 (by decide) (fun h0 => absurd c_1 (bI_eq h0)) (fun _ => ?_)
          refine lv_dload_n hx hb dX8_isVoid_106 rfl (lv_at hl 3 rfl) ?_
          refine lv_dconst0 hx hb dX8_isVoid_107 ?_
          refine lv_dcmp hx hb dX8_isVoid_108 ?_
          refine lv_if_ne (tgt := 116) hx hb dX8_isVoid_109 (by decide) (fun c_16 => ?_) (fun c_16 => ?_)
          · refine lv_iconst (v := 0) hx hb dX8_isVoid_116 (by decide) ?_
            exact W.zret hx hb hr (by decide) (fun t ht hW => ⟨_, rfl, (congrArg bI (show fX8_isVoid a0 a1 a2 = false from by simp only [fX8_isVoid, if_pos c_1, if_neg c_11, if_neg c_12, if_neg c_13, if_pos c_14, if_neg c_15, if_neg c_16])).symm, ht⟩) (fun q hq => absurd hq List.not_mem_nil) dX8_isVoid_117
          · refine lv_iconst (v := 1) hx hb dX8_isVoid_112 (by decide) ?_
            refine lv_goto (tgt := 117) hx hb dX8_isVoid_113 (by decide) ?_
            exact W.zret hx hb hr (by decide) (fun t ht hW => ⟨_, rfl, (congrArg bI (show fX8_isVoid a0 a1 a2 = true from by simp only [fX8_isVoid, if_pos c_1, if_neg c_11, if_neg c_12, if_neg c_13, if_pos c_14, if_neg c_15, if_pos c_16])).symm, ht⟩) (fun q hq => absurd hq List.not_mem_nil) dX8_isVoid_117
        · refine lv_dload_n hx hb dX8_isVoid_92 rfl (lv_at hl 3 rfl) ?_
          refine vp_callSi ((va_runS (As := [.double a2]) (rest := []) ⟨hx, hb, hml, hown, hts⟩ (met_X8_isEndless l a2) (va_cwS 1 hts gX8_isVoid_X8_isEndless rfl rfl rfl (by decide +kernel) ⟨Nat.le_of_ble_eq_true rfl, Nat.le_of_ble_eq_true rfl⟩) ⟨fun _ _ _ _ q => q, fun U hU hW => ⟨rfl, trivial⟩⟩ rfl rfl hl.1 rfl (lv_room (Nat.le_of_ble_eq_true rfl)) dX8_isVoid_93 ⟨Nat.le_of_ble_eq_true rfl, Nat.le_of_ble_eq_true rfl⟩).run) (fun r hw => ?_)
          subst hw
          refine lv_if_ne (tgt := 112) hx hb dX8_isVoid_96 (by decide) (fun h0 => absurd (bI_ne h0) c_11) (fun _ => ?_)
          refine lv_dload_n hx hb dX8_isVoid_99 rfl (lv_at hl 2 rfl) ?_
          refine vp_callSi ((va_runS (As := [.double a1]) (rest := []) ⟨hx, hb, hml, hown, hts⟩ (met_X8_isEndless l a1) (va_cwS 1 hts gX8_isVoid_X8_isEndless rfl rfl rfl (by decide +kernel) ⟨Nat.le_of_ble_eq_true rfl, Nat.le_of_ble_eq_true rfl⟩) ⟨fun _ _ _ _ q => q, fun U hU hW => ⟨rfl, trivial⟩⟩ rfl rfl hl.1 rfl (lv_room (Nat.le_of_ble_eq_true rfl)) dX8_isVoid_100 ⟨Nat.le_of_ble_eq_true rfl, Nat.le_of_ble_eq_true rfl⟩).run) (fun r hw => ?_)
          subst hw
          refine lv_if_eq (tgt := 116) hx hb dX8_isVoid_103 (by decide) (fun h0 => absurd c_1 (bI_eq h0)) (fun _ => ?_)
          refine lv_dload_n hx hb dX8_isVoid_106 rfl (lv_at hl 3 rfl) ?_
          refine lv_dconst0 hx hb dX8_isVoid_107 ?_
          refine lv_dcmp hx hb dX8_isVoid_108 ?_
          refine lv_if_ne (tgt := 116) hx hb dX8_isVoid_109 (by decide) (fun c_17 => ?_) (fun c_17 => ?_)
          · refine lv_iconst (v := 0) hx hb dX8_isVoid_116 (by decide) ?_
            exact W.zret hx hb hr (by decide) (fun t ht hW => ⟨_, rfl, (congrArg bI (show fX8_isVoid a0 a1 a2 = false from by simp only [fX8_isVoid, if_pos c_1, if_neg c_11, if_neg c_12, if_neg c_13, if_pos c_14, if_pos c_15, if_neg c_17])).symm, ht⟩) (fun q hq => absurd hq List.not_mem_nil) dX8_isVoid_117
          · refine lv_iconst (v := 1) hx hb dX8_isVoid_112 (by decide) ?_
            refine lv_goto (tgt := 117) hx hb dX8_isVoid_113 (by decide) ?_
            exact W.zret hx hb hr (by decide) (fun t ht hW => ⟨_, rfl, (congrArg bI (show fX8_isVoid a0 a1 a2 = true from by simp only [fX8_isVoid, if_pos c_1, if_neg c_11, if_neg c_12, if_neg c_13, if_pos c_14, if_pos c_15, if_pos c_17])).symm, ht⟩) (fun q hq => absurd hq List.not_mem_nil) dX8_isVoid_117
      rcases Decidable.em (a0 = 3) with c_18 | c_18
      · refine lv_tableIn (x := a0) (off := 96) (tgt := 118) hx hb dX8_isVoid_22 (by rw [c_18]; decide) (by rw [c_18]; decide) (by rw [c_18]; rfl) (by decide) ?_
        refine lv_iload hx hb dX8_isVoid_118 (lv_at hl 0 rfl) ?_
        refine lv_if_ne (tgt := 135) hx hb dX8_isVoid_120 (by decide) (fun h0 => absurd (by decide) h0) (fun _ => ?_)
        refine lv_dload_n hx hb dX8_isVoid_123 rfl (lv_at hl 2 rfl) ?_
        refine lv_dconst0 hx hb dX8_isVoid_124 ?_
        refine lv_dcmp hx hb dX8_isVoid_125 ?_
        refine lv_if_ne (tgt := 139) hx hb dX8_isVoid_126 (by decide) (fun c_19 => ?_) (fun c_19 => ?_)
        · refine lv_iconst (v := 0) hx hb dX8_isVoid_139 (by decide) ?_
          exact W.zret hx hb hr (by decide) (fun t ht hW => ⟨_, rfl, (congrArg bI (show fX8_isVoid a0 a1 a2 = false from by simp only [fX8_isVoid, if_pos c_1, if_neg c_11, if_neg c_12, if_neg c_13, if_neg c_14, if_pos c_18, if_neg c_19])).symm, ht⟩) (fun q hq => absurd hq List.not_mem_nil) dX8_isVoid_140
        · refine lv_dload_n hx hb dX8_isVoid_129 rfl (lv_at hl 3 rfl) ?_
          refine lv_dconst0 hx hb dX8_isVoid_130 ?_
          refine lv_dcmp hx hb dX8_isVoid_131 ?_
          refine lv_if_ne (tgt := 139) hx hb dX8_isVoid_132 (by decide) (fun c_20 => ?_) (fun c_20 => ?_)
          · refine lv_iconst (v := 0) hx hb dX8_isVoid_139 (by decide) ?_
            exact W.zret hx hb hr (by decide) (fun t ht hW => ⟨_, rfl, (congrArg bI (show fX8_isVoid a0 a1 a2 = false from by simp only [fX8_isVoid, if_pos c_1, if_neg c_11, if_neg c_12, if_neg c_13, if_neg c_14, if_pos c_18, if_pos c_19, if_neg c_20])).symm, ht⟩) (fun q hq => absurd hq List.not_mem_nil) dX8_isVoid_140
          · refine lv_iconst (v := 1) hx hb dX8_isVoid_135 (by decide) ?_
            refine lv_goto (tgt := 140) hx hb dX8_isVoid_136 (by decide) ?_
            exact W.zret hx hb hr (by decide) (fun t ht hW => ⟨_, rfl, (congrArg bI (show fX8_isVoid a0 a1 a2 = true from by simp only [fX8_isVoid, if_pos c_1, if_neg c_11, if_neg c_12, if_neg c_13, if_neg c_14, if_pos c_18, if_pos c_19, if_pos c_20])).symm, ht⟩) (fun q hq => absurd hq List.not_mem_nil) dX8_isVoid_140
      refine lv_tableOut (tgt := 141) hx hb dX8_isVoid_22 (sw_out3 c_12 c_13 c_14 c_18) (by decide) ?_
      refine lv_dload_n hx hb dX8_isVoid_141 rfl (lv_at hl 2 rfl) ?_
      refine vp_callSi ((va_runS (As := [.double a1]) (rest := []) ⟨hx, hb, hml, hown, hts⟩ (met_X8_isEndless l a1) (va_cwS 1 hts gX8_isVoid_X8_isEndless rfl rfl rfl (by decide +kernel) ⟨Nat.le_of_ble_eq_true rfl, Nat.le_of_ble_eq_true rfl⟩) ⟨fun _ _ _ _ q => q, fun U hU hW => ⟨rfl, trivial⟩⟩ rfl rfl hl.1 rfl (lv_room (Nat.le_of_ble_eq_true rfl)) dX8_isVoid_142 ⟨Nat.le_of_ble_eq_true rfl, Nat.le_of_ble_eq_true rfl⟩).run) (fun r hw => ?_)
      subst hw
      refine lv_if_ne (tgt := 154) hx hb dX8_isVoid_145 (by decide) (fun _ => ?_) (fun h0 => absurd c_1 (bI_eq h0))
      refine lv_iconst (v := 1) hx hb dX8_isVoid_154 (by decide) ?_
      refine lv_goto (tgt := 159) hx hb dX8_isVoid_155 (by decide) ?_
      exact W.zret hx hb hr (by decide) (fun t ht hW => ⟨_, rfl, (congrArg bI (show fX8_isVoid a0 a1 a2 = true from by simp only [fX8_isVoid, if_pos c_1, if_neg c_11, if_neg c_12, if_neg c_13, if_neg c_14, if_neg c_18])).symm, ht⟩) (fun q hq => absurd hq List.not_mem_nil) dX8_isVoid_159
    · replace c_11 := bI_ne c_11
      refine lv_iconst (v := 1) hx hb dX8_isVoid_14 (by decide) ?_
      refine lv_goto (tgt := 19) hx hb dX8_isVoid_15 (by decide) ?_
      refine lv_istore (lv' := [(5, .int 1), (0, .int a0), (1, .double a1), (3, .double a2)]) hx hb dX8_isVoid_19 hl (by decide) rfl (fun ls hl => ?_)
      refine lv_iload_n hx hb dX8_isVoid_21 rfl (lv_at hl 1 rfl) ?_
      rcases Decidable.em (a0 = 0) with c_21 | c_21
      · refine lv_tableIn (x := a0) (off := 30) (tgt := 52) hx hb dX8_isVoid_22 (by rw [c_21]; decide) (by rw [c_21]; decide) (by rw [c_21]; rfl) (by decide) ?_
        refine lv_iload hx hb dX8_isVoid_52 (lv_at hl 0 rfl) ?_
        refine lv_if_eq (tgt := 67) hx hb dX8_isVoid_54 (by decide) (fun h0 => absurd h0 (by decide)) (fun _ => ?_)
        refine lv_dload_n hx hb dX8_isVoid_57 rfl (lv_at hl 2 rfl) ?_
        refine lv_dload_n hx hb dX8_isVoid_58 rfl (lv_at hl 3 rfl) ?_
        refine lv_dcmp hx hb dX8_isVoid_59 ?_
        refine lv_if_eq (tgt := 67) hx hb dX8_isVoid_60 (by decide) (fun c_22 => ?_) (fun c_22 => ?_)
        · refine lv_iconst (v := 0) hx hb dX8_isVoid_67 (by decide) ?_
          exact W.zret hx hb hr (by decide) (fun t ht hW => ⟨_, rfl, (congrArg bI (show fX8_isVoid a0 a1 a2 = false from by simp only [fX8_isVoid, if_pos c_1, if_pos c_11, if_pos c_21, if_pos c_22])).symm, ht⟩) (fun q hq => absurd hq List.not_mem_nil) dX8_isVoid_68
        · refine lv_iconst (v := 1) hx hb dX8_isVoid_63 (by decide) ?_
          refine lv_goto (tgt := 68) hx hb dX8_isVoid_64 (by decide) ?_
          exact W.zret hx hb hr (by decide) (fun t ht hW => ⟨_, rfl, (congrArg bI (show fX8_isVoid a0 a1 a2 = true from by simp only [fX8_isVoid, if_pos c_1, if_pos c_11, if_pos c_21, if_neg c_22])).symm, ht⟩) (fun q hq => absurd hq List.not_mem_nil) dX8_isVoid_68
      rcases Decidable.em (a0 = 1) with c_23 | c_23
      · refine lv_tableIn (x := a0) (off := 47) (tgt := 69) hx hb dX8_isVoid_22 (by rw [c_23]; decide) (by rw [c_23]; decide) (by rw [c_23]; rfl) (by decide) ?_
        refine lv_iload hx hb dX8_isVoid_69 (lv_at hl 0 rfl) ?_
        refine lv_if_eq (tgt := 84) hx hb dX8_isVoid_71 (by decide) (fun h0 => absurd h0 (by decide)) (fun _ => ?_)
        refine lv_dload_n hx hb dX8_isVoid_74 rfl (lv_at hl 2 rfl) ?_
        refine lv_dload_n hx hb dX8_isVoid_75 rfl (lv_at hl 3 rfl) ?_
        refine lv_dcmp hx hb dX8_isVoid_76 ?_
        refine lv_if_ne (tgt := 84) hx hb dX8_isVoid_77 (by decide) (fun c_24 => ?_) (fun c_24 => ?_)
        · refine lv_iconst (v := 0) hx hb dX8_isVoid_84 (by decide) ?_
          exact W.zret hx hb hr (by decide) (fun t ht hW => ⟨_, rfl, (congrArg bI (show fX8_isVoid a0 a1 a2 = false from by simp only [fX8_isVoid, if_pos c_1, if_pos c_11, if_neg c_21, if_pos c_23, if_neg c_24])).symm, ht⟩) (fun q hq => absurd hq List.not_mem_nil) dX8_isVoid_85
        · refine lv_iconst (v := 1) hx hb dX8_isVoid_80 (by decide) ?_
          refine lv_goto (tgt := 85) hx hb dX8_isVoid_81 (by decide) ?_
          exact W.zret hx hb hr (by decide) (fun t ht hW => ⟨_, rfl, (congrArg bI (show fX8_isVoid a0 a1 a2 = true from by simp only [fX8_isVoid, if_pos c_1, if_pos c_11, if_neg c_21, if_pos c_23, if_pos c_24])).symm, ht⟩) (fun q hq => absurd hq List.not_mem_nil) dX8_isVoid_85
      rcases Decidable.em (a0 = 2) with c_25 | c_25
      · refine lv_tableIn (x := a0) (off := 64) (tgt := 86) hx hb dX8_isVoid_22 (by rw [c_25]; decide) (by rw [c_25]; decide) (by rw [c_25]; rfl) (by decide) ?_
        refine lv_dload_n hx hb dX8_isVoid_86 rfl (lv_at hl 2 rfl) ?_
        refine lv_dconst0 hx hb dX8_isVoid_87 ?_
        refine lv_dcmp hx hb dX8_isVoid_88 ?_
        refine lv_if_ne (tgt := 99) hx hb dX8_isVoid_89 (by decide) (fun c_26 => ?_) (fun c_26 => ?_)
        · refine lv_dload_n hx hb dX8_isVoid_99 rfl (lv_at hl 2 rfl) ?_
          refine vp_callSi ((va_runS (As := [.double a1]) (rest := []) ⟨hx, hb, hml, hown, hts⟩ (met_X8_isEndless l a1) (va_cwS 1 hts gX8_isVoid_X8_isEndless rfl rfl rfl (by decide +kernel) ⟨Nat.le_of_ble_eq_true rfl, Nat.le_of_ble_eq_true rfl⟩) ⟨fun _ _ _ _ q => q, fun U hU hW => ⟨rfl, trivial⟩⟩ rfl rfl hl.1 rfl (lv_room (Nat.le_of_ble_eq_true rfl)) dX8_isVoid_100 ⟨Nat.le_of_ble_eq_true rfl, Nat.le_of_ble_eq_true rfl⟩).run) (fun r hw => ?_)
          subst hw
          refine lv_if_eq (tgt := 116) hx hb dX8_isVoid_103 (by decide) (fun h0 => absurd c_1 (bI_eq h0)) (fun _ => ?_)
          refine lv_dload_n hx hb dX8_isVoid_106 rfl (lv_at hl 3 rfl) ?_
          refine lv_dconst0 hx hb dX8_isVoid_107 ?_
          refine lv_dcmp hx hb dX8_isVoid_108 ?_
          refine lv_if_ne (tgt := 116) hx hb dX8_isVoid_109 (by decide) (fun c_27 => ?_) (fun c_27 => ?_)
          · refine lv_iconst (v := 0) hx hb dX8_isVoid_116 (by decide) ?_
            exact W.zret hx hb hr (by decide) (fun t ht hW => ⟨_, rfl, (congrArg bI (show fX8_isVoid a0 a1 a2 = false from by simp only [fX8_isVoid, if_pos c_1, if_pos c_11, if_neg c_21, if_neg c_23, if_pos c_25, if_neg c_26, if_neg c_27])).symm, ht⟩) (fun q hq => absurd hq List.not_mem_nil) dX8_isVoid_117
          · refine lv_iconst (v := 1) hx hb dX8_isVoid_112 (by decide) ?_
            refine lv_goto (tgt := 117) hx hb dX8_isVoid_113 (by decide) ?_
            exact W.zret hx hb hr (by decide) (fun t ht hW => ⟨_, rfl, (congrArg bI (show fX8_isVoid a0 a1 a2 = true from by simp only [fX8_isVoid, if_pos c_1, if_pos c_11, if_neg c_21, if_neg c_23, if_pos c_25, if_neg c_26, if_pos c_27])).symm, ht⟩) (fun q hq => absurd hq List.not_mem_nil) dX8_isVoid_117
        · refine lv_dload_n hx hb dX8_isVoid_92 rfl (lv_at hl 3 rfl) ?_
          refine vp_callSi ((va_runS (As := [.double a2]) (rest := []) ⟨hx, hb, hml, hown, hts⟩ (met_X8_isEndless l a2) (va_cwS 1 hts gX8_isVoid_X8_isEndless rfl rfl rfl (by decide +kernel) ⟨Nat.le_of_ble_eq_true rfl, Nat.le_of_ble_eq_true rfl⟩) ⟨fun _ _ _ _ q => q, fun U hU hW => ⟨rfl, trivial⟩⟩ rfl rfl hl.1 rfl (lv_room (Nat.le_of_ble_eq_true rfl)) dX8_isVoid_93 ⟨Nat.le_of_ble_eq_true rfl, Nat.le_of_ble_eq_true rfl⟩).run) (fun r hw => ?_)
          subst hw
          refine lv_if_ne (tgt := 112) hx hb dX8_isVoid_96 (by decide) (fun _ => ?_) (fun h0 => absurd c_11 (bI_eq h0))
          refine lv_iconst (v := 1) hx hb dX8_isVoid_112 (by decide) ?_
          refine lv_goto (tgt := 117) hx hb dX8_isVoid_113 (by decide) ?_
          exact W.zret hx hb hr (by decide) (fun t ht hW => ⟨_, rfl, (congrArg bI (show fX8_isVoid a0 a1 a2 = true from by simp only [fX8_isVoid, if_pos c_1, if_pos c_11, if_neg c_21, if_neg c_23, if_pos c_25, if_pos c_26])).symm, ht⟩) (fun q hq => absurd hq List.not_mem_nil) dX8_isVoid_117
      rcases Decidable.em (a0 = 3) with c_28 | c_28
      · refine lv_tableIn (x := a0) (off := 96) (tgt := 118) hx hb dX8_isVoid_22 (by rw [c_28]; decide) (by rw [c_28]; decide) (by rw [c_28]; rfl) (by decide) ?_
        refine lv_iload hx hb dX8_isVoid_118 (lv_at hl 0 rfl) ?_
        refine lv_if_ne (tgt := 135) hx hb dX8_isVoid_120 (by decide) (fun _ => ?_) (fun h0 => absurd h0 (by decide))
        refine lv_iconst (v := 1) hx hb dX8_isVoid_135 (by decide) ?_
        refine lv_goto (tgt := 140) hx hb dX8_isVoid_136 (by decide) ?_
        exact W.zret hx hb hr (by decide) (fun t ht hW => ⟨_, rfl, (congrArg bI (show fX8_isVoid a0 a1 a2 = true from by simp only [fX8_isVoid, if_pos c_1, if_pos c_11, if_neg c_21, if_neg c_23, if_neg c_25, if_pos c_28])).symm, ht⟩) (fun q hq => absurd hq List.not_mem_nil) dX8_isVoid_140
      refine lv_tableOut (tgt := 141) hx hb dX8_isVoid_22 (sw_out3 c_21 c_23 c_25 c_28) (by decide) ?_
      refine lv_dload_n hx hb dX8_isVoid_141 rfl (lv_at hl 2 rfl) ?_
      refine vp_callSi ((va_runS (As := [.double a1]) (rest := []) ⟨hx, hb, hml, hown, hts⟩ (met_X8_isEndless l a1) (va_cwS 1 hts gX8_isVoid_X8_isEndless rfl rfl rfl (by decide +kernel) ⟨Nat.le_of_ble_eq_true rfl, Nat.le_of_ble_eq_true rfl⟩) ⟨fun _ _ _ _ q => q, fun U hU hW => ⟨rfl, trivial⟩⟩ rfl rfl hl.1 rfl (lv_room (Nat.le_of_ble_eq_true rfl)) dX8_isVoid_142 ⟨Nat.le_of_ble_eq_true rfl, Nat.le_of_ble_eq_true rfl⟩).run) (fun r hw => ?_)
      subst hw
      refine lv_if_ne (tgt := 154) hx hb dX8_isVoid_145 (by decide) (fun _ => ?_) (fun h0 => absurd c_1 (bI_eq h0))
      refine lv_iconst (v := 1) hx hb dX8_isVoid_154 (by decide) ?_
      refine lv_goto (tgt := 159) hx hb dX8_isVoid_155 (by decide) ?_
      exact W.zret hx hb hr (by decide) (fun t ht hW => ⟨_, rfl, (congrArg bI (show fX8_isVoid a0 a1 a2 = true from by simp only [fX8_isVoid, if_pos c_1, if_pos c_11, if_neg c_21, if_neg c_23, if_neg c_25, if_neg c_28])).symm, ht⟩) (fun q hq => absurd hq List.not_mem_nil) dX8_isVoid_159

def fX8_holds (a0 : Int32) (a1 : Int32) : Bool := if a0 = 3 then true else (if a0 = 0 then (if a1 < 3 then true else (if a0 = 1 then (if (fX8_isIn a1 1 2) = true then true else (if a0 = 2 then (if a1 = 2 then true else false) else false)) else (if a0 = 2 then (if a1 = 2 then true else false) else false))) else (if a0 = 1 then (if (fX8_isIn a1 1 2) = true then true else (if a0 = 2 then (if a1 = 2 then true else false) else false)) else (if a0 = 2 then (if a1 = 2 then true else false) else false)))
set_option maxHeartbeats 4000000 in
set_option maxRecDepth 100000 in
theorem met_X8_holds (l : Launch) (a0 : Int32) (a1 : Int32) : Met l yX8_holds wsX8_holds ({ frames := 1, cells := 0, slots := 0, locals := 22 }) (va_Pc [.int a0, .int a1] (fun _ => True)) (vp_Si (fun r => r = bI (fX8_holds a0 a1))) 0 0 (fun _ => False) := by
  refine Met.ofW (cc := cX8_holds) (maxL := 2) (ret := (some .boolean)) (by decide) rfl ?_
  intro p e s m args below meth c s₁ B hml hv
  obtain ⟨rfl, -⟩ := hv
  have hx := B.exec
  have hb := B.bytes
  have hr := B.returns
  have hts := atoms_spec (ws := wsX8_holds) B.pre
  have hown : s.vm.findClass RX8 = some m.cls := findClass_of_methodNamed B.named
  have hlocks := B.notSynchronized
  have hl := lv_entry ([.int a0, .int a1]) (n := 2) (Nat.le_of_ble_eq_true rfl)
  rw [lg_entry_eq]
  generalize (lg_sl ([.int a0, .int a1]) ++ List.replicate (2 - (lg_sl ([.int a0, .int a1])).length) Slot.unset).toArray = ls at hl ⊢
  have hl : lv_has ls 2 [(0, .int a0), (1, .int a1)] := hl
  refine lv_iload_n hx hb dX8_holds_0 rfl (lv_at hl 0 rfl) ?_
  refine lv_iconst (v := 3) hx hb dX8_holds_1 (by decide) ?_
  refine lv_icmp_eq (tgt := 38) hx hb dX8_holds_2 (by decide) (fun c_1 => ?_) (fun c_1 => ?_)
  · refine lv_iconst (v := 1) hx hb dX8_holds_38 (by decide) ?_
    refine lv_goto (tgt := 43) hx hb dX8_holds_39 (by decide) ?_
    exact W.zret hx hb hr (by decide) (fun t ht hW => ⟨_, rfl, (congrArg bI (show fX8_holds a0 a1 = true from by simp only [fX8_holds, if_pos c_1])).symm, ht⟩) (fun q hq => absurd hq List.not_mem_nil) dX8_holds_43
  · refine lv_iload_n hx hb dX8_holds_5 rfl (lv_at hl 0 rfl) ?_
    refine lv_if_ne (tgt := 14) hx hb dX8_holds_6 (by decide) (fun c_2 => ?_) (fun c_2 => ?_)
    · refine lv_iload_n hx hb dX8_holds_14 rfl (lv_at hl 0 rfl) ?_
      refine lv_iconst (v := 1) hx hb dX8_holds_15 (by decide) ?_
      refine lv_icmp_ne (tgt := 28) hx hb dX8_holds_16 (by decide) (fun c_3 => ?_) (fun c_3 => ?_)
      · refine lv_iload_n hx hb dX8_holds_28 rfl (lv_at hl 0 rfl) ?_
        refine lv_iconst (v := 2) hx hb dX8_holds_29 (by decide) ?_
        refine lv_icmp_ne (tgt := 42) hx hb dX8_holds_30 (by decide) (fun c_4 => ?_) (fun c_4 => ?_)
        · refine lv_iconst (v := 0) hx hb dX8_holds_42 (by decide) ?_
          exact W.zret hx hb hr (by decide) (fun t ht hW => ⟨_, rfl, (congrArg bI (show fX8_holds a0 a1 = false from by simp only [fX8_holds, if_neg c_1, if_neg c_2, if_neg c_3, if_neg c_4])).symm, ht⟩) (fun q hq => absurd hq List.not_mem_nil) dX8_holds_43
        · refine lv_iload_n hx hb dX8_holds_33 rfl (lv_at hl 1 rfl) ?_
          refine lv_iconst (v := 2) hx hb dX8_holds_34 (by decide) ?_
          refine lv_icmp_ne (tgt := 42) hx hb dX8_holds_35 (by decide) (fun c_5 => ?_) (fun c_5 => ?_)
          · refine lv_iconst (v := 0) hx hb dX8_holds_42 (by decide) ?_
            exact W.zret hx hb hr (by decide) (fun t ht hW => ⟨_, rfl, (congrArg bI (show fX8_holds a0 a1 = false from by simp only [fX8_holds, if_neg c_1, if_neg c_2, if_neg c_3, if_pos c_4, if_neg c_5])).symm, ht⟩) (fun q hq => absurd hq List.not_mem_nil) dX8_holds_43
          · refine lv_iconst (v := 1) hx hb dX8_holds_38 (by decide) ?_
            refine lv_goto (tgt := 43) hx hb dX8_holds_39 (by decide) ?_
            exact W.zret hx hb hr (by decide) (fun t ht hW => ⟨_, rfl, (congrArg bI (show fX8_holds a0 a1 = true from by simp only [fX8_holds, if_neg c_1, if_neg c_2, if_neg c_3, if_pos c_4, if_pos c_5])).symm, ht⟩) (fun q hq => absurd hq List.not_mem_nil) dX8_holds_43
      · refine lv_iload_n hx hb dX8_holds_19 rfl (lv_at hl 1 rfl) ?_
        refine lv_iconst (v := 1) hx hb dX8_holds_20 (by decide) ?_
        refine lv_iconst (v := 2) hx hb dX8_holds_21 (by decide) ?_
        refine vp_callSi ((va_runS (As := [.int a1, .int 1, .int 2]) (rest := []) ⟨hx, hb, hml, hown, hts⟩ (met_X8_isIn l a1 1 2) (va_cwS 3 hts gX8_holds_X8_isIn rfl rfl rfl (by decide +kernel) ⟨Nat.le_of_ble_eq_true rfl, Nat.le_of_ble_eq_true rfl⟩) ⟨fun _ _ _ _ q => q, fun U hU hW => ⟨rfl, trivial⟩⟩ rfl rfl hl.1 rfl (lv_room (Nat.le_of_ble_eq_true rfl)) dX8_holds_22 ⟨Nat.le_of_ble_eq_true rfl, Nat.le_of_ble_eq_true rfl⟩).run) (fun r hw => ?_)
        subst hw
        refine lv_if_ne (tgt := 38) hx hb dX8_holds_25 (by decide) (fun c_6 => ?_) (fun c_6 => ?_)
        · replace c_6 := bI_ne c_6
          refine lv_iconst (v := 1) hx hb dX8_holds_38 (by decide) ?_
          refine lv_goto (tgt := 43) hx hb dX8_holds_39 (by decide) ?_
          exact W.zret hx hb hr (by decide) (fun t ht hW => ⟨_, rfl, (congrArg bI (show fX8_holds a0 a1 = true from by simp only [fX8_holds, if_neg c_1, if_neg c_2, if_pos c_3, if_pos c_6])).symm, ht⟩) (fun q hq => absurd hq List.not_mem_nil) dX8_holds_43
        · replace c_6 := bI_eq c_6
          refine lv_iload_n hx hb dX8_holds_28 rfl (lv_at hl 0 rfl) ?_
          refine lv_iconst (v := 2) hx hb dX8_holds_29 (by decide) ?_
          refine lv_icmp_ne (tgt := 42) hx hb dX8_holds_30 (by decide) (fun c_7 => ?_) (fun c_7 => ?_)
          · refine lv_iconst (v := 0) hx hb dX8_holds_42 (by decide) ?_
            exact W.zret hx hb hr (by decide) (fun t ht hW => ⟨_, rfl, (congrArg bI (show fX8_holds a0 a1 = false from by simp only [fX8_holds, if_neg c_1, if_neg c_2, if_pos c_3, if_neg c_6, if_neg c_7])).symm, ht⟩) (fun q hq => absurd hq List.not_mem_nil) dX8_holds_43
          · refine lv_iload_n hx hb dX8_holds_33 rfl (lv_at hl 1 rfl) ?_
            refine lv_iconst (v := 2) hx hb dX8_holds_34 (by decide) ?_
            refine lv_icmp_ne (tgt := 42) hx hb dX8_holds_35 (by decide) (fun c_8 => ?_) (fun c_8 => ?_)
            · refine lv_iconst (v := 0) hx hb dX8_holds_42 (by decide) ?_
              exact W.zret hx hb hr (by decide) (fun t ht hW => ⟨_, rfl, (congrArg bI (show fX8_holds a0 a1 = false from by simp only [fX8_holds, if_neg c_1, if_neg c_2, if_pos c_3, if_neg c_6, if_pos c_7, if_neg c_8])).symm, ht⟩) (fun q hq => absurd hq List.not_mem_nil) dX8_holds_43
            · refine lv_iconst (v := 1) hx hb dX8_holds_38 (by decide) ?_
              refine lv_goto (tgt := 43) hx hb dX8_holds_39 (by decide) ?_
              exact W.zret hx hb hr (by decide) (fun t ht hW => ⟨_, rfl, (congrArg bI (show fX8_holds a0 a1 = true from by simp only [fX8_holds, if_neg c_1, if_neg c_2, if_pos c_3, if_neg c_6, if_pos c_7, if_pos c_8])).symm, ht⟩) (fun q hq => absurd hq List.not_mem_nil) dX8_holds_43
    · refine lv_iload_n hx hb dX8_holds_9 rfl (lv_at hl 1 rfl) ?_
      refine lv_iconst (v := 3) hx hb dX8_holds_10 (by decide) ?_
      refine lv_icmp_lt (tgt := 38) hx hb dX8_holds_11 (by decide) (fun c_9 => ?_) (fun c_9 => ?_)
      · refine lv_iconst (v := 1) hx hb dX8_holds_38 (by decide) ?_
        refine lv_goto (tgt := 43) hx hb dX8_holds_39 (by decide) ?_
        exact W.zret hx hb hr (by decide) (fun t ht hW => ⟨_, rfl, (congrArg bI (show fX8_holds a0 a1 = true from by simp only [fX8_holds, if_neg c_1, if_pos c_2, if_pos c_9])).symm, ht⟩) (fun q hq => absurd hq List.not_mem_nil) dX8_holds_43
      · refine lv_iload_n hx hb dX8_holds_14 rfl (lv_at hl 0 rfl) ?_
        refine lv_iconst (v := 1) hx hb dX8_holds_15 (by decide) ?_
        refine lv_icmp_ne (tgt := 28) hx hb dX8_holds_16 (by decide) (fun c_10 => ?_) (fun c_10 => ?_)
        · refine lv_iload_n hx hb dX8_holds_28 rfl (lv_at hl 0 rfl) ?_
          refine lv_iconst (v := 2) hx hb dX8_holds_29 (by decide) ?_
          refine lv_icmp_ne (tgt := 42) hx hb dX8_holds_30 (by decide) (fun c_11 => ?_) (fun c_11 => ?_)
          · refine lv_iconst (v := 0) hx hb dX8_holds_42 (by decide) ?_
            exact W.zret hx hb hr (by decide) (fun t ht hW => ⟨_, rfl, (congrArg bI (show fX8_holds a0 a1 = false from by simp only [fX8_holds, if_neg c_1, if_pos c_2, if_neg c_9, if_neg c_10, if_neg c_11])).symm, ht⟩) (fun q hq => absurd hq List.not_mem_nil) dX8_holds_43
          · refine lv_iload_n hx hb dX8_holds_33 rfl (lv_at hl 1 rfl) ?_
            refine lv_iconst (v := 2) hx hb dX8_holds_34 (by decide) ?_
            refine lv_icmp_ne (tgt := 42) hx hb dX8_holds_35 (by decide) (fun c_12 => ?_) (fun c_12 => ?_)
            · refine lv_iconst (v := 0) hx hb dX8_holds_42 (by decide) ?_
              exact W.zret hx hb hr (by decide) (fun t ht hW => ⟨_, rfl, (congrArg bI (show fX8_holds a0 a1 = false from by simp only [fX8_holds, if_neg c_1, if_pos c_2, if_neg c_9, if_neg c_10, if_pos c_11, if_neg c_12])).symm, ht⟩) (fun q hq => absurd hq List.not_mem_nil) dX8_holds_43
            · refine lv_iconst (v := 1) hx hb dX8_holds_38 (by decide) ?_
              refine lv_goto (tgt := 43) hx hb dX8_holds_39 (by decide) ?_
              exact W.zret hx hb hr (by decide) (fun t ht hW => ⟨_, rfl, (congrArg bI (show fX8_holds a0 a1 = true from by simp only [fX8_holds, if_neg c_1, if_pos c_2, if_neg c_9, if_neg c_10, if_pos c_11, if_pos c_12])).symm, ht⟩) (fun q hq => absurd hq List.not_mem_nil) dX8_holds_43
        · refine lv_iload_n hx hb dX8_holds_19 rfl (lv_at hl 1 rfl) ?_
          refine lv_iconst (v := 1) hx hb dX8_holds_20 (by decide) ?_
          refine lv_iconst (v := 2) hx hb dX8_holds_21 (by decide) ?_
          refine vp_callSi ((va_runS (As := [.int a1, .int 1, .int 2]) (rest := []) ⟨hx, hb, hml, hown, hts⟩ (met_X8_isIn l a1 1 2) (va_cwS 3 hts gX8_holds_X8_isIn rfl rfl rfl (by decide +kernel) ⟨Nat.le_of_ble_eq_true rfl, Nat.le_of_ble_eq_true rfl⟩) ⟨fun _ _ _ _ q => q, fun U hU hW => ⟨rfl, trivial⟩⟩ rfl rfl hl.1 rfl (lv_room (Nat.le_of_ble_eq_true rfl)) dX8_holds_22 ⟨Nat.le_of_ble_eq_true rfl, Nat.le_of_ble_eq_true rfl⟩).run) (fun r hw => ?_)
          subst hw
          refine lv_if_ne (tgt := 38) hx hb dX8_holds_25 (by decide) (fun c_13 => ?_) (fun c_13 => ?_)
          · replace c_13 := bI_ne c_13
            refine lv_iconst (v := 1) hx hb dX8_holds_38 (by decide) ?_
            refine lv_goto (tgt := 43) hx hb dX8_holds_39 (by decide) ?_
            exact W.zret hx hb hr (by decide) (fun t ht hW => ⟨_, rfl, (congrArg bI (show fX8_holds a0 a1 = true from by simp only [fX8_holds, if_neg c_1, if_pos c_2, if_neg c_9, if_pos c_10, if_pos c_13])).symm, ht⟩) (fun q hq => absurd hq List.not_mem_nil) dX8_holds_43
          · replace c_13 := bI_eq c_13
            refine lv_iload_n hx hb dX8_holds_28 rfl (lv_at hl 0 rfl) ?_
            refine lv_iconst (v := 2) hx hb dX8_holds_29 (by decide) ?_
            refine lv_icmp_ne (tgt := 42) hx hb dX8_holds_30 (by decide) (fun c_14 => ?_) (fun c_14 => ?_)
            · refine lv_iconst (v := 0) hx hb dX8_holds_42 (by decide) ?_
              exact W.zret hx hb hr (by decide) (fun t ht hW => ⟨_, rfl, (congrArg bI (show fX8_holds a0 a1 = false from by simp only [fX8_holds, if_neg c_1, if_pos c_2, if_neg c_9, if_pos c_10, if_neg c_13, if_neg c_14])).symm, ht⟩) (fun q hq => absurd hq List.not_mem_nil) dX8_holds_43
            · refine lv_iload_n hx hb dX8_holds_33 rfl (lv_at hl 1 rfl) ?_
              refine lv_iconst (v := 2) hx hb dX8_holds_34 (by decide) ?_
              refine lv_icmp_ne (tgt := 42) hx hb dX8_holds_35 (by decide) (fun c_15 => ?_) (fun c_15 => ?_)
              · refine lv_iconst (v := 0) hx hb dX8_holds_42 (by decide) ?_
                exact W.zret hx hb hr (by decide) (fun t ht hW => ⟨_, rfl, (congrArg bI (show fX8_holds a0 a1 = false from by simp only [fX8_holds, if_neg c_1, if_pos c_2, if_neg c_9, if_pos c_10, if_neg c_13, if_pos c_14, if_neg c_15])).symm, ht⟩) (fun q hq => absurd hq List.not_mem_nil) dX8_holds_43
              · refine lv_iconst (v := 1) hx hb dX8_holds_38 (by decide) ?_
                refine lv_goto (tgt := 43) hx hb dX8_holds_39 (by decide) ?_
                exact W.zret hx hb hr (by decide) (fun t ht hW => ⟨_, rfl, (congrArg bI (show fX8_holds a0 a1 = true from by simp only [fX8_holds, if_neg c_1, if_pos c_2, if_neg c_9, if_pos c_10, if_neg c_13, if_pos c_14, if_pos c_15])).symm, ht⟩) (fun q hq => absurd hq List.not_mem_nil) dX8_holds_43

def fJxe99ae_isNaN_b9ae7 (a0 : UInt64) : Bool := if (Op.cmpValue (FP.dcmp a0 a0) CmpOp.l) = 0 then false else true
set_option maxHeartbeats 4000000 in
set_option maxRecDepth 100000 in
theorem met_Jxe99ae_isNaN_b9ae7 (l : Launch) (a0 : UInt64) : Met l yJxe99ae_isNaN_b9ae7 wsJxe99ae_isNaN_b9ae7 ({ frames := 0, cells := 0, slots := 0, locals := 0 }) (va_Pc [.double a0] (fun _ => True)) (vp_Si (fun r => r = bI (fJxe99ae_isNaN_b9ae7 a0))) 0 0 (fun _ => False) := by
  refine Met.ofW (cc := cJxe99ae_isNaN_b9ae7) (maxL := 2) (ret := (some .boolean)) (by decide) rfl ?_
  intro p e s m args below meth c s₁ B hml hv
  obtain ⟨rfl, -⟩ := hv
  have hx := B.exec
  have hb := B.bytes
  have hr := B.returns
  have hts := atoms_spec (ws := wsJxe99ae_isNaN_b9ae7) B.pre
  have hown : s.vm.findClass RJxe99ae = some m.cls := findClass_of_methodNamed B.named
  have hlocks := B.notSynchronized
  have hl := lv_entry ([.double a0]) (n := 2) (Nat.le_of_ble_eq_true rfl)
  rw [lg_entry_eq]
  generalize (lg_sl ([.double a0]) ++ List.replicate (2 - (lg_sl ([.double a0])).length) Slot.unset).toArray = ls at hl ⊢
  have hl : lv_has ls 2 [(0, .double a0)] := hl
  refine lv_dload_n hx hb dJxe99ae_isNaN_b9ae7_0 rfl (lv_at hl 0 rfl) ?_
  refine lv_dload_n hx hb dJxe99ae_isNaN_b9ae7_1 rfl (lv_at hl 0 rfl) ?_
  refine lv_dcmp hx hb dJxe99ae_isNaN_b9ae7_2 ?_
  refine lv_if_eq (tgt := 10) hx hb dJxe99ae_isNaN_b9ae7_3 (by decide) (fun c_1 => ?_) (fun c_1 => ?_)
  · refine lv_iconst (v := 0) hx hb dJxe99ae_isNaN_b9ae7_10 (by decide) ?_
    exact W.zret hx hb hr (by decide) (fun t ht hW => ⟨_, rfl, (congrArg bI (show fJxe99ae_isNaN_b9ae7 a0 = false from by simp only [fJxe99ae_isNaN_b9ae7, if_pos c_1])).symm, ht⟩) (fun q hq => absurd hq List.not_mem_nil) dJxe99ae_isNaN_b9ae7_11
  · refine lv_iconst (v := 1) hx hb dJxe99ae_isNaN_b9ae7_6 (by decide) ?_
    refine lv_goto (tgt := 11) hx hb dJxe99ae_isNaN_b9ae7_7 (by decide) ?_
    exact W.zret hx hb hr (by decide) (fun t ht hW => ⟨_, rfl, (congrArg bI (show fJxe99ae_isNaN_b9ae7 a0 = true from by simp only [fJxe99ae_isNaN_b9ae7, if_neg c_1])).symm, ht⟩) (fun q hq => absurd hq List.not_mem_nil) dJxe99ae_isNaN_b9ae7_11

def fJxe99ae_doubleToLongBits_ccdee (a0 : UInt64) : Int64 := if (fJxe99ae_isNaN_b9ae7 a0) = true then 9221120237041090560 else a0.toInt64
set_option maxHeartbeats 4000000 in
set_option maxRecDepth 100000 in
theorem met_Jxe99ae_doubleToLongBits_ccdee (l : Launch) (a0 : UInt64) : Met l yJxe99ae_doubleToLongBits_ccdee wsJxe99ae_doubleToLongBits_ccdee ({ frames := 1, cells := 0, slots := 0, locals := 21 }) (va_Pc [.double a0] (fun _ => True)) (vp_Sl (fun r => r = fJxe99ae_doubleToLongBits_ccdee a0)) 0 0 (fun _ => False) := by
  refine Met.ofW (cc := cJxe99ae_doubleToLongBits_ccdee) (maxL := 2) (ret := (some .long)) (by decide) rfl ?_
  intro p e s m args below meth c s₁ B hml hv
  obtain ⟨rfl, -⟩ := hv
  have hx := B.exec
  have hb := B.bytes
  have hr := B.returns
  have hts := atoms_spec (ws := wsJxe99ae_doubleToLongBits_ccdee) B.pre
  have hown : s.vm.findClass RJxe99ae = some m.cls := findClass_of_methodNamed B.named
  have hlocks := B.notSynchronized
  have hl := lv_entry ([.double a0]) (n := 2) (Nat.le_of_ble_eq_true rfl)
  rw [lg_entry_eq]
  generalize (lg_sl ([.double a0]) ++ List.replicate (2 - (lg_sl ([.double a0])).length) Slot.unset).toArray = ls at hl ⊢
  have hl : lv_has ls 2 [(0, .double a0)] := hl
  refine lv_dload_n hx hb dJxe99ae_doubleToLongBits_ccdee_0 rfl (lv_at hl 0 rfl) ?_
  refine vp_callSi ((va_runS (As := [.double a0]) (rest := []) ⟨hx, hb, hml, hown, hts⟩ (met_Jxe99ae_isNaN_b9ae7 l a0) (va_cwS 1 hts gJxe99ae_doubleToLongBits_ccdee_Jxe99ae_isNaN_b9ae7 rfl rfl rfl (by decide +kernel) ⟨Nat.le_of_ble_eq_true rfl, Nat.le_of_ble_eq_true rfl⟩) ⟨fun _ _ _ _ q => q, fun U hU hW => ⟨rfl, trivial⟩⟩ rfl rfl hl.1 rfl (lv_room (Nat.le_of_ble_eq_true rfl)) dJxe99ae_doubleToLongBits_ccdee_1 ⟨Nat.le_of_ble_eq_true rfl, Nat.le_of_ble_eq_true rfl⟩).run) (fun r hw => ?_)
  subst hw
  refine lv_if_ne (tgt := 12) hx hb dJxe99ae_doubleToLongBits_ccdee_4 (by decide) (fun c_1 => ?_) (fun c_1 => ?_)
  · replace c_1 := bI_ne c_1
    refine lv_ldc2 hx hb hown (hts (.constantLong RJxe99ae 137 (9221120237041090560)) (by decide +kernel)) dJxe99ae_doubleToLongBits_ccdee_12 ?_
    exact W.lret (v := 9221120237041090560) hx hb hr (fun t ht hW => ⟨_, rfl, by simp only [fJxe99ae_doubleToLongBits_ccdee, if_pos c_1], ht⟩) (fun q hq => absurd hq List.not_mem_nil) dJxe99ae_doubleToLongBits_ccdee_15
  · replace c_1 := bI_eq c_1
    refine lv_dload_n hx hb dJxe99ae_doubleToLongBits_ccdee_7 rfl (lv_at hl 0 rfl) ?_
    refine vn_d2l hx hb (hml.trans hl.1.symm) hown (hts (.methodLink RJxe99ae 134 ⟨"java/lang/Double", "doubleToRawLongBits", "(D)J"⟩) (by decide +kernel)) (hts (.native ⟨"java/lang/Double", "doubleToRawLongBits", "(D)J"⟩) (by decide +kernel)) (hts (.static ⟨"java/lang/Double", "doubleToRawLongBits", "(D)J"⟩) (by decide +kernel)) (hts (.initialized "java/lang/Double") (by decide +kernel)) (Nat.le_of_ble_eq_true rfl) (Nat.le_of_ble_eq_true rfl) dJxe99ae_doubleToLongBits_ccdee_8 ?_
    exact W.lret (v := a0.toInt64) hx hb hr (fun t ht hW => ⟨_, rfl, by simp only [fJxe99ae_doubleToLongBits_ccdee, if_neg c_1], ht⟩) (fun q hq => absurd hq List.not_mem_nil) dJxe99ae_doubleToLongBits_ccdee_11

def fJxf58ca_isNaN_12338 (a0 : UInt32) : Bool := if (Op.cmpValue (FP.fcmp a0 a0) CmpOp.l) = 0 then false else true
set_option maxHeartbeats 4000000 in
set_option maxRecDepth 100000 in
theorem met_Jxf58ca_isNaN_12338 (l : Launch) (a0 : UInt32) : Met l yJxf58ca_isNaN_12338 wsJxf58ca_isNaN_12338 ({ frames := 0, cells := 0, slots := 0, locals := 0 }) (va_Pc [.float a0] (fun _ => True)) (vp_Si (fun r => r = bI (fJxf58ca_isNaN_12338 a0))) 0 0 (fun _ => False) := by
  refine metF_ofW (cc := cJxf58ca_isNaN_12338) (maxL := 1) (ret := (some .boolean)) (by decide +kernel) rfl ?_
  intro p e s m args below meth c s₁ B hml hv
  obtain ⟨rfl, -⟩ := hv
  have hx := B.exec
  have hb := B.bytes
  have hr := B.returns
  have hts := atoms_spec (ws := wsJxf58ca_isNaN_12338) B.pre
  have hown : s.vm.findClass RJxf58ca = some m.cls := findClass_of_methodNamed B.named
  have hlocks := B.notSynchronized
  have hl := lv_entry ([.float a0]) (n := 1) (Nat.le_of_ble_eq_true rfl)
  rw [lg_entry_eq]
  generalize (lg_sl ([.float a0]) ++ List.replicate (1 - (lg_sl ([.float a0])).length) Slot.unset).toArray = ls at hl ⊢
  have hl : lv_has ls 1 [(0, .float a0)] := hl
  refine lv_fload_n hx hb dJxf58ca_isNaN_12338_0 rfl (lv_at hl 0 rfl) ?_
  refine lv_fload_n hx hb dJxf58ca_isNaN_12338_1 rfl (lv_at hl 0 rfl) ?_
  refine lv_fcmp hx hb dJxf58ca_isNaN_12338_2 ?_
  refine lv_if_eq (tgt := 10) hx hb dJxf58ca_isNaN_12338_3 (by decide) (fun c_1 => ?_) (fun c_1 => ?_)
  · refine lv_iconst (v := 0) hx hb dJxf58ca_isNaN_12338_10 (by decide) ?_
    exact W.zret hx hb hr (by decide) (fun t ht hW => ⟨_, rfl, (congrArg bI (show fJxf58ca_isNaN_12338 a0 = false from by simp only [fJxf58ca_isNaN_12338, if_pos c_1])).symm, ht⟩) (fun q hq => absurd hq List.not_mem_nil) dJxf58ca_isNaN_12338_11
  · refine lv_iconst (v := 1) hx hb dJxf58ca_isNaN_12338_6 (by decide) ?_
    refine lv_goto (tgt := 11) hx hb dJxf58ca_isNaN_12338_7 (by decide) ?_
    exact W.zret hx hb hr (by decide) (fun t ht hW => ⟨_, rfl, (congrArg bI (show fJxf58ca_isNaN_12338 a0 = true from by simp only [fJxf58ca_isNaN_12338, if_neg c_1])).symm, ht⟩) (fun q hq => absurd hq List.not_mem_nil) dJxf58ca_isNaN_12338_11

def fJxf58ca_floatToIntBits_5c35a (a0 : UInt32) : Int32 := if (fJxf58ca_isNaN_12338 a0) = true then 2143289344 else a0.toInt32
set_option maxHeartbeats 4000000 in
set_option maxRecDepth 100000 in
theorem met_Jxf58ca_floatToIntBits_5c35a (l : Launch) (a0 : UInt32) : Met l yJxf58ca_floatToIntBits_5c35a wsJxf58ca_floatToIntBits_5c35a ({ frames := 1, cells := 0, slots := 0, locals := 20 }) (va_Pc [.float a0] (fun _ => True)) (vp_Si (fun r => r = fJxf58ca_floatToIntBits_5c35a a0)) 0 0 (fun _ => False) := by
  refine metF_ofW (cc := cJxf58ca_floatToIntBits_5c35a) (maxL := 1) (ret := (some .int)) (by decide +kernel) rfl ?_
  intro p e s m args below meth c s₁ B hml hv
  obtain ⟨rfl, -⟩ := hv
  have hx := B.exec
  have hb := B.bytes
  have hr := B.returns
  have hts := atoms_spec (ws := wsJxf58ca_floatToIntBits_5c35a) B.pre
  have hown : s.vm.findClass RJxf58ca = some m.cls := findClass_of_methodNamed B.named
  have hlocks := B.notSynchronized
  have hl := lv_entry ([.float a0]) (n := 1) (Nat.le_of_ble_eq_true rfl)
  rw [lg_entry_eq]
  generalize (lg_sl ([.float a0]) ++ List.replicate (1 - (lg_sl ([.float a0])).length) Slot.unset).toArray = ls at hl ⊢
  have hl : lv_has ls 1 [(0, .float a0)] := hl
  refine lv_fload_n hx hb dJxf58ca_floatToIntBits_5c35a_0 rfl (lv_at hl 0 rfl) ?_
  refine vp_callSi ((va_runS (As := [.float a0]) (rest := []) ⟨hx, hb, hml, hown, hts⟩ (met_Jxf58ca_isNaN_12338 l a0) (va_cwS 1 hts gJxf58ca_floatToIntBits_5c35a_Jxf58ca_isNaN_12338 rfl rfl rfl (by decide +kernel) ⟨Nat.le_of_ble_eq_true rfl, Nat.le_of_ble_eq_true rfl⟩) ⟨fun _ _ _ _ q => q, fun U hU hW => ⟨rfl, trivial⟩⟩ rfl rfl hl.1 rfl (lv_room (Nat.le_of_ble_eq_true rfl)) dJxf58ca_floatToIntBits_5c35a_1 ⟨Nat.le_of_ble_eq_true rfl, Nat.le_of_ble_eq_true rfl⟩).run) (fun r hw => ?_)
  subst hw
  refine lv_if_ne (tgt := 12) hx hb dJxf58ca_floatToIntBits_5c35a_4 (by decide) (fun c_1 => ?_) (fun c_1 => ?_)
  · replace c_1 := bI_ne c_1
    refine lv_ldc hx hb hown (hts (.constant RJxf58ca 77 (2143289344)) (by decide +kernel)) dJxf58ca_floatToIntBits_5c35a_12 ?_
    exact W.iret (v := 2143289344) hx hb hr (fun t ht hW => ⟨_, rfl, by simp only [fJxf58ca_floatToIntBits_5c35a, if_pos c_1], ht⟩) (fun q hq => absurd hq List.not_mem_nil) dJxf58ca_floatToIntBits_5c35a_14
  · replace c_1 := bI_eq c_1
    refine lv_fload_n hx hb dJxf58ca_floatToIntBits_5c35a_7 rfl (lv_at hl 0 rfl) ?_
    refine vn_f2i hx hb (hml.trans hl.1.symm) hown (hts (.methodLink RJxf58ca 74 ⟨"java/lang/Float", "floatToRawIntBits", "(F)I"⟩) (by decide +kernel)) (hts (.native ⟨"java/lang/Float", "floatToRawIntBits", "(F)I"⟩) (by decide +kernel)) (hts (.static ⟨"java/lang/Float", "floatToRawIntBits", "(F)I"⟩) (by decide +kernel)) (hts (.initialized "java/lang/Float") (by decide +kernel)) (Nat.le_of_ble_eq_true rfl) (Nat.le_of_ble_eq_true rfl) dJxf58ca_floatToIntBits_5c35a_8 ?_
    exact W.iret (v := a0.toInt32) hx hb hr (fun t ht hW => ⟨_, rfl, by simp only [fJxf58ca_floatToIntBits_5c35a, if_neg c_1], ht⟩) (fun q hq => absurd hq List.not_mem_nil) dJxf58ca_floatToIntBits_5c35a_11

def wrR (w : Int32) (x y : UInt64) : UInt64 := if w = 0 then FP.dadd x y else if w = 1 then FP.dsub x y else if w = 2 then FP.dmul x y else if w = 3 then FP.ddiv x y else FP.drem x y

set_option maxHeartbeats 4000000 in
set_option maxRecDepth 100000 in
theorem met_X8_workReal (l : Launch) (a0 : Int32) (a1 : UInt64) (a2 : UInt64) (hn : FP.Core.val64 (wrR a0 a1 a2) ≠ .nan) : Met l yX8_workReal wsX8_workReal ({ frames := 0, cells := 0, slots := 0, locals := 0 }) (va_Pc [.int a0, .double a1, .double a2] (fun _ => True)) (vp_Sd (fun r => r = wrR a0 a1 a2)) 0 0 (fun _ => False) := by
  refine Met.ofW (cc := cX8_workReal) (maxL := 5) (ret := (some .double)) (by decide) rfl ?_
  intro p e s m args below meth c s₁ B hml hv
  obtain ⟨rfl, -⟩ := hv
  have hx := B.exec
  have hb := B.bytes
  have hr := B.returns
  have hts := atoms_spec (ws := wsX8_workReal) B.pre
  have hown : s.vm.findClass RX8 = some m.cls := findClass_of_methodNamed B.named
  have hlocks := B.notSynchronized
  have hl := lv_entry ([.int a0, .double a1, .double a2]) (n := 5) (Nat.le_of_ble_eq_true rfl)
  rw [lg_entry_eq]
  generalize (lg_sl ([.int a0, .double a1, .double a2]) ++ List.replicate (5 - (lg_sl ([.int a0, .double a1, .double a2])).length) Slot.unset).toArray = ls at hl ⊢
  have hl : lv_has ls 5 [(0, .int a0), (1, .double a1), (3, .double a2)] := hl
  refine lv_iload_n hx hb dX8_workReal_0 rfl (lv_at hl 0 rfl) ?_
  refine lv_if_ne (tgt := 10) hx hb dX8_workReal_1 (by decide) (fun c_1 => ?_) (fun c_1 => ?_)
  · refine lv_iload_n hx hb dX8_workReal_10 rfl (lv_at hl 0 rfl) ?_
    refine lv_iconst (v := 1) hx hb dX8_workReal_11 (by decide) ?_
    refine lv_icmp_ne (tgt := 21) hx hb dX8_workReal_12 (by decide) (fun c_2 => ?_) (fun c_2 => ?_)
    · refine lv_iload_n hx hb dX8_workReal_21 rfl (lv_at hl 0 rfl) ?_
      refine lv_iconst (v := 2) hx hb dX8_workReal_22 (by decide) ?_
      refine lv_icmp_ne (tgt := 32) hx hb dX8_workReal_23 (by decide) (fun c_3 => ?_) (fun c_3 => ?_)
      · refine lv_iload_n hx hb dX8_workReal_32 rfl (lv_at hl 0 rfl) ?_
        refine lv_iconst (v := 3) hx hb dX8_workReal_33 (by decide) ?_
        refine lv_icmp_ne (tgt := 43) hx hb dX8_workReal_34 (by decide) (fun c_4 => ?_) (fun c_4 => ?_)
        · refine lv_dload_n hx hb dX8_workReal_43 rfl (lv_at hl 1 rfl) ?_
          refine lv_dload_n hx hb dX8_workReal_44 rfl (lv_at hl 2 rfl) ?_
          refine lv_drem hx hb dX8_workReal_45 (fm_n64.mpr (by have h := hn; simp only [wrR, if_neg c_1, if_neg c_2, if_neg c_3, if_neg c_4] at h; exact h)) ?_
          exact W.dret (v := FP.drem a1 a2) hx hb hr (fun t ht hW => ⟨_, rfl, (by simp only [wrR, if_neg c_1, if_neg c_2, if_neg c_3, if_neg c_4]), ht⟩) (fun q hq => absurd hq List.not_mem_nil) dX8_workReal_46
        · refine lv_dload_n hx hb dX8_workReal_37 rfl (lv_at hl 1 rfl) ?_
          refine lv_dload_n hx hb dX8_workReal_38 rfl (lv_at hl 2 rfl) ?_
          refine lv_ddiv hx hb dX8_workReal_39 (fm_n64.mpr (by have h := hn; simp only [wrR, if_neg c_1, if_neg c_2, if_neg c_3, if_pos c_4] at h; exact h)) ?_
          refine lv_goto (tgt := 46) hx hb dX8_workReal_40 (by decide) ?_
          exact W.dret (v := FP.ddiv a1 a2) hx hb hr (fun t ht hW => ⟨_, rfl, (by simp only [wrR, if_neg c_1, if_neg c_2, if_neg c_3, if_pos c_4]), ht⟩) (fun q hq => absurd hq List.not_mem_nil) dX8_workReal_46
      · refine lv_dload_n hx hb dX8_workReal_26 rfl (lv_at hl 1 rfl) ?_
        refine lv_dload_n hx hb dX8_workReal_27 rfl (lv_at hl 2 rfl) ?_
        refine lv_dmul hx hb dX8_workReal_28 (fm_n64.mpr (by have h := hn; simp only [wrR, if_neg c_1, if_neg c_2, if_pos c_3] at h; exact h)) ?_
        refine lv_goto (tgt := 46) hx hb dX8_workReal_29 (by decide) ?_
        exact W.dret (v := FP.dmul a1 a2) hx hb hr (fun t ht hW => ⟨_, rfl, (by simp only [wrR, if_neg c_1, if_neg c_2, if_pos c_3]), ht⟩) (fun q hq => absurd hq List.not_mem_nil) dX8_workReal_46
    · refine lv_dload_n hx hb dX8_workReal_15 rfl (lv_at hl 1 rfl) ?_
      refine lv_dload_n hx hb dX8_workReal_16 rfl (lv_at hl 2 rfl) ?_
      refine lv_dsub hx hb dX8_workReal_17 (fm_n64.mpr (by have h := hn; simp only [wrR, if_neg c_1, if_pos c_2] at h; exact h)) ?_
      refine lv_goto (tgt := 46) hx hb dX8_workReal_18 (by decide) ?_
      exact W.dret (v := FP.dsub a1 a2) hx hb hr (fun t ht hW => ⟨_, rfl, (by simp only [wrR, if_neg c_1, if_pos c_2]), ht⟩) (fun q hq => absurd hq List.not_mem_nil) dX8_workReal_46
  · refine lv_dload_n hx hb dX8_workReal_4 rfl (lv_at hl 1 rfl) ?_
    refine lv_dload_n hx hb dX8_workReal_5 rfl (lv_at hl 2 rfl) ?_
    refine lv_dadd hx hb dX8_workReal_6 (fm_n64.mpr (by have h := hn; simp only [wrR, if_pos c_1] at h; exact h)) ?_
    refine lv_goto (tgt := 46) hx hb dX8_workReal_7 (by decide) ?_
    exact W.dret (v := FP.dadd a1 a2) hx hb hr (fun t ht hW => ⟨_, rfl, (by simp only [wrR, if_pos c_1]), ht⟩) (fun q hq => absurd hq List.not_mem_nil) dX8_workReal_46

def fX8_workWhole (a0 : Int32) (a1 : Int64) (a2 : Int64) : Int64 := if a0 = 0 then (a1 + a2) else (if a0 = 1 then (a1 - a2) else (if a0 = 2 then (a1 * a2) else (if a0 = 3 then (a1 / a2) else (a1 - a1 / a2 * a2))))
set_option maxHeartbeats 4000000 in
set_option maxRecDepth 100000 in
theorem met_X8_workWhole (l : Launch) (a0 : Int32) (a1 : Int64) (a2 : Int64) (hz : ¬ a0 = 0 → ¬ a0 = 1 → ¬ a0 = 2 → ¬ a2 = 0) : Met l yX8_workWhole wsX8_workWhole ({ frames := 0, cells := 0, slots := 0, locals := 0 }) (va_Pc [.int a0, .long a1, .long a2] (fun _ => True)) (vp_Sl (fun r => r = fX8_workWhole a0 a1 a2)) 0 0 (fun _ => False) := by
  refine Met.ofW (cc := cX8_workWhole) (maxL := 5) (ret := (some .long)) (by decide) rfl ?_
  intro p e s m args below meth c s₁ B hml hv
  obtain ⟨rfl, -⟩ := hv
  have hx := B.exec
  have hb := B.bytes
  have hr := B.returns
  have hts := atoms_spec (ws := wsX8_workWhole) B.pre
  have hown : s.vm.findClass RX8 = some m.cls := findClass_of_methodNamed B.named
  have hlocks := B.notSynchronized
  have hl := lv_entry ([.int a0, .long a1, .long a2]) (n := 5) (Nat.le_of_ble_eq_true rfl)
  rw [lg_entry_eq]
  generalize (lg_sl ([.int a0, .long a1, .long a2]) ++ List.replicate (5 - (lg_sl ([.int a0, .long a1, .long a2])).length) Slot.unset).toArray = ls at hl ⊢
  have hl : lv_has ls 5 [(0, .int a0), (1, .long a1), (3, .long a2)] := hl
  refine lv_iload_n hx hb dX8_workWhole_0 rfl (lv_at hl 0 rfl) ?_
  refine lv_if_ne (tgt := 10) hx hb dX8_workWhole_1 (by decide) (fun c_1 => ?_) (fun c_1 => ?_)
  · refine lv_iload_n hx hb dX8_workWhole_10 rfl (lv_at hl 0 rfl) ?_
    refine lv_iconst (v := 1) hx hb dX8_workWhole_11 (by decide) ?_
    refine lv_icmp_ne (tgt := 21) hx hb dX8_workWhole_12 (by decide) (fun c_2 => ?_) (fun c_2 => ?_)
    · refine lv_iload_n hx hb dX8_workWhole_21 rfl (lv_at hl 0 rfl) ?_
      refine lv_iconst (v := 2) hx hb dX8_workWhole_22 (by decide) ?_
      refine lv_icmp_ne (tgt := 32) hx hb dX8_workWhole_23 (by decide) (fun c_3 => ?_) (fun c_3 => ?_)
      · refine lv_iload_n hx hb dX8_workWhole_32 rfl (lv_at hl 0 rfl) ?_
        refine lv_iconst (v := 3) hx hb dX8_workWhole_33 (by decide) ?_
        refine lv_icmp_ne (tgt := 43) hx hb dX8_workWhole_34 (by decide) (fun c_4 => ?_) (fun c_4 => ?_)
        · refine lv_lload_n hx hb dX8_workWhole_43 rfl (lv_at hl 1 rfl) ?_
          refine lv_lload_n hx hb dX8_workWhole_44 rfl (lv_at hl 2 rfl) ?_
          refine lv_lrem hx hb dX8_workWhole_45 (hz c_1 c_2 c_3) ?_
          exact W.lret (v := a1 - a1 / a2 * a2) hx hb hr (fun t ht hW => ⟨_, rfl, by simp only [fX8_workWhole, if_neg c_1, if_neg c_2, if_neg c_3, if_neg c_4], ht⟩) (fun q hq => absurd hq List.not_mem_nil) dX8_workWhole_46
        · refine lv_lload_n hx hb dX8_workWhole_37 rfl (lv_at hl 1 rfl) ?_
          refine lv_lload_n hx hb dX8_workWhole_38 rfl (lv_at hl 2 rfl) ?_
          refine lv_ldiv hx hb dX8_workWhole_39 (hz c_1 c_2 c_3) ?_
          refine lv_goto (tgt := 46) hx hb dX8_workWhole_40 (by decide) ?_
          exact W.lret (v := a1 / a2) hx hb hr (fun t ht hW => ⟨_, rfl, by simp only [fX8_workWhole, if_neg c_1, if_neg c_2, if_neg c_3, if_pos c_4], ht⟩) (fun q hq => absurd hq List.not_mem_nil) dX8_workWhole_46
      · refine lv_lload_n hx hb dX8_workWhole_26 rfl (lv_at hl 1 rfl) ?_
        refine lv_lload_n hx hb dX8_workWhole_27 rfl (lv_at hl 2 rfl) ?_
        refine lv_lmul hx hb dX8_workWhole_28 ?_
        refine lv_goto (tgt := 46) hx hb dX8_workWhole_29 (by decide) ?_
        exact W.lret (v := a1 * a2) hx hb hr (fun t ht hW => ⟨_, rfl, by simp only [fX8_workWhole, if_neg c_1, if_neg c_2, if_pos c_3], ht⟩) (fun q hq => absurd hq List.not_mem_nil) dX8_workWhole_46
    · refine lv_lload_n hx hb dX8_workWhole_15 rfl (lv_at hl 1 rfl) ?_
      refine lv_lload_n hx hb dX8_workWhole_16 rfl (lv_at hl 2 rfl) ?_
      refine lv_lsub hx hb dX8_workWhole_17 ?_
      refine lv_goto (tgt := 46) hx hb dX8_workWhole_18 (by decide) ?_
      exact W.lret (v := a1 - a2) hx hb hr (fun t ht hW => ⟨_, rfl, by simp only [fX8_workWhole, if_neg c_1, if_pos c_2], ht⟩) (fun q hq => absurd hq List.not_mem_nil) dX8_workWhole_46
  · refine lv_lload_n hx hb dX8_workWhole_4 rfl (lv_at hl 1 rfl) ?_
    refine lv_lload_n hx hb dX8_workWhole_5 rfl (lv_at hl 2 rfl) ?_
    refine lv_ladd hx hb dX8_workWhole_6 ?_
    refine lv_goto (tgt := 46) hx hb dX8_workWhole_7 (by decide) ?_
    exact W.lret (v := a1 + a2) hx hb hr (fun t ht hW => ⟨_, rfl, by simp only [fX8_workWhole, if_pos c_1], ht⟩) (fun q hq => absurd hq List.not_mem_nil) dX8_workWhole_46

def nrw (k : Int32) (d : UInt64) : UInt64 := if k = 2 then FP.f2d (FP.d2f d) else d

set_option maxHeartbeats 4000000 in
set_option maxRecDepth 100000 in
theorem met_X8_narrowed (l : Launch) (a0 : Int32) (a1 : UInt64) (hn : FP.Core.val64 a1 ≠ .nan) : Met l yX8_narrowed wsX8_narrowed ({ frames := 0, cells := 0, slots := 0, locals := 0 }) (va_Pc [.int a0, .double a1] (fun _ => True)) (vp_Sd (fun r => r = nrw a0 a1)) 0 0 (fun _ => False) := by
  refine Met.ofW (cc := cX8_narrowed) (maxL := 3) (ret := (some .double)) (by decide) rfl ?_
  intro p e s m args below meth c s₁ B hml hv
  obtain ⟨rfl, -⟩ := hv
  have hx := B.exec
  have hb := B.bytes
  have hr := B.returns
  have hts := atoms_spec (ws := wsX8_narrowed) B.pre
  have hown : s.vm.findClass RX8 = some m.cls := findClass_of_methodNamed B.named
  have hlocks := B.notSynchronized
  have hl := lv_entry ([.int a0, .double a1]) (n := 3) (Nat.le_of_ble_eq_true rfl)
  rw [lg_entry_eq]
  generalize (lg_sl ([.int a0, .double a1]) ++ List.replicate (3 - (lg_sl ([.int a0, .double a1])).length) Slot.unset).toArray = ls at hl ⊢
  have hl : lv_has ls 3 [(0, .int a0), (1, .double a1)] := hl
  refine lv_iload_n hx hb dX8_narrowed_0 rfl (lv_at hl 0 rfl) ?_
  refine lv_iconst (v := 2) hx hb dX8_narrowed_1 (by decide) ?_
  refine lv_icmp_ne (tgt := 11) hx hb dX8_narrowed_2 (by decide) (fun c_1 => ?_) (fun c_1 => ?_)
  · refine lv_dload_n hx hb dX8_narrowed_11 rfl (lv_at hl 1 rfl) ?_
    exact W.dret (v := a1) hx hb hr (fun t ht hW => ⟨_, rfl, (by simp only [nrw, if_neg c_1]), ht⟩) (fun q hq => absurd hq List.not_mem_nil) dX8_narrowed_12
  · refine lv_dload_n hx hb dX8_narrowed_5 rfl (lv_at hl 1 rfl) ?_
    refine lv_d2f hx hb dX8_narrowed_6 (fm_n32.mpr (fm_d2fn hn)) ?_
    refine lv_f2d hx hb dX8_narrowed_7 (fm_n64.mpr (fm_f2dn (fm_d2fn hn))) ?_
    refine lv_goto (tgt := 12) hx hb dX8_narrowed_8 (by decide) ?_
    exact W.dret (v := FP.f2d (FP.d2f a1)) hx hb hr (fun t ht hW => ⟨_, rfl, (by simp only [nrw, if_pos c_1]), ht⟩) (fun q hq => absurd hq List.not_mem_nil) dX8_narrowed_12
