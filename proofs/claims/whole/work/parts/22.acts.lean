/-! the class's own acts -/
theorem kind_eq {k : Int32} : fX0_isKind k = true ↔ fX8_isKind k = true := by
  unfold fX0_isKind fX8_isKind fX8_isIn
  exact Iff.rfl
theorem num2_eq {t : Int64} : fX2_isNumber 3 t = true ↔ fX8_isNumber t = true := by
  rw [isNumber_eq, num_eq, okR_3]; exact decide_eq_true_iff
theorem at_y {i c : Int32} (h1 : ¬ i < 0) (h2 : ¬ c ≤ i) : 0 ≤ i.toInt ∧ i.toInt < c.toInt := by
  rw [Int32.lt_iff_toInt_lt] at h1; rw [Int32.le_iff_toInt_le] at h2
  have e0 : (0 : Int32).toInt = 0 := rfl
  omega
theorem at_n {i c : Int32} (h : 0 ≤ i.toInt ∧ i.toInt < c.toInt) (g : i < 0 ∨ c ≤ i) : False := by
  rw [Int32.lt_iff_toInt_lt, Int32.le_iff_toInt_le] at g
  have e0 : (0 : Int32).toInt = 0 := rfl
  omega
theorem at_in {i c : Int32} {n : Nat} (hb : bnd c n) (h1 : ¬ i < 0) (h2 : ¬ c ≤ i) : vp_in i n := by
  have := at_y h1 h2; have := hb.2
  rw [vp_in_iff]; omega
theorem P_last {D : va_G} {cl : List vw_C} {W w : va_W} {H : Heap} (h : va_P D cl (W ++ w) H) : va_P D cl w H := fun k q hk => h (W.length + k) q (by rw [List.getElem?_append_right (by omega), Nat.add_sub_cancel_left]; exact hk)
theorem D_last {A : Nat → Prop} {W w : va_W} (h : va_D A (W ++ w)) : va_D A w := by
  have g : ∀ (k : Nat) (q : Nat × va_E), w[k]? = some q → (W ++ w)[W.length + k]? = some q := fun k q hk => by rw [List.getElem?_append_right (by omega), Nat.add_sub_cancel_left]; exact hk
  exact ⟨fun i j p q hi hj e => by have := h.1 _ _ p q (g i p hi) (g j q hj) e; omega, fun k q hk => h.2 _ q (g k q hk)⟩
theorem wPreI {s : State} {H : Heap} {b : Addr} {As : List Value} {Dg : va_G} {ty : List (ClassId × FieldType)} {w : va_W} (hK : va_K Dg vwCl ty s) (hP : va_P Dg vwCl w H) (hD : va_D (fun _ => True) w) : PreS s H (va_Pc (.ref b :: As) (wB Dg ty w H.size)) (.ref b :: As) :=
  ⟨wBlind, fun U hU hW => ⟨rfl, by rw [hU], by rw [hU]; exact hP, va_K.moved hW.alike hK, hD⟩⟩
theorem wBlindO {C : String} {Dg : va_G} {ty : List (ClassId × FieldType)} {w : va_W} {z : Nat} {av : List Value} : FrameBlind (va_Pc av (wBO C Dg ty w z)) := by
  intro a U g mk q
  obtain ⟨q0, qa, q1, qP, qK, qD⟩ := q
  exact ⟨q0, va_AO.moved (u := U) (U := U.calling g mk a) (Vm.Alike.refl U.vm) qa, q1, qP, va_K.moved (u := U) (U := U.calling g mk a) (Vm.Alike.refl U.vm) qK, qD⟩
theorem wPreIO {s : State} {H : Heap} {b : Addr} {As : List Value} {C : String} {Dg : va_G} {ty : List (ClassId × FieldType)} {w : va_W} (ha : va_AO C s) (hK : va_K Dg vwCl ty s) (hP : va_P Dg vwCl w H) (hD : va_D (fun _ => True) w) : PreS s H (va_Pc (.ref b :: As) (wBO C Dg ty w H.size)) (.ref b :: As) :=
  ⟨wBlindO, fun U hU hW => ⟨rfl, va_AO.moved hW.alike ha, by rw [hU], by rw [hU]; exact hP, va_K.moved hW.alike hK, hD⟩⟩
theorem wPreVO {s : State} {H : Heap} {C : String} {b : Addr} {As : List Value} {C2 : String} {Dg : va_G} {ty : List (ClassId × FieldType)} {w : va_W} (ha : va_AO C2 s) (hK : va_K Dg vwCl ty s) (hP : va_P Dg vwCl w H) (hD : va_D (fun _ => True) w) (hr : ∃ cell : Cell, H[b]? = some cell ∧ cell.vm.isStatics = false ∧ s.vm.findClass C = some cell.cls) : PreV s H C b (va_Pc (.ref b :: As) (wBO C2 Dg ty w H.size)) As :=
  ⟨wBlindO, hr, fun U hU hW => ⟨rfl, va_AO.moved hW.alike ha, by rw [hU], by rw [hU]; exact hP, va_K.moved hW.alike hK, hD⟩⟩
/-- behind a constructor of a new cell -/
theorem ct_join {A0 : Nat → Prop} {D : va_G} {cl : List vw_C} {W w1 : va_W} {q : Nat} {e : va_E} {H H1 : Heap} (hP : va_P D cl (W ++ [(q, e)]) H) (hD : va_D A0 (W ++ [(q, e)])) (hk : ∀ x : Nat, x < H.size → ¬ va_A [(q, e)] H.size x → H1[x]? = H[x]?) (hF : ∀ x, va_A [(q, e)] H.size x → A0 x) (hP1 : va_P D cl w1 H1) (hD1 : va_D (va_A [(q, e)] H.size) w1) : va_P D cl (W ++ w1) H1 ∧ va_D A0 (W ++ w1) := by
  have hP' : va_P D cl ([(q, e)] ++ W) H := va_P.swap (a := []) (b := W) (c := [(q, e)]) hP
  have hD' : va_D A0 ([(q, e)] ++ W) := va_D.swap (a := []) (b := W) (c := [(q, e)]) hD
  have j := va_joinQ (X := [(q, e)]) (cx := [(q, e)]) (wr := []) (w1 := w1) (pl := W) hP' hD' [0] [] rfl rfl rfl (fun i h => by cases h) hk hF hP1 hD1
  exact ⟨va_P.swap (a := []) (b := w1) (c := W) j.1, va_D.swap (a := []) (b := w1) (c := W) j.2⟩
theorem pl_push1 {X : va_W} {L : List Nat} {f : Nat → va_E} {q : Nat} {e : va_E} (h : q ∉ L) : (X ++ va_pl L f) ++ [(q, e)] = X ++ va_pl (L ++ [q]) (va_up f q e) := by rw [List.append_assoc, va_pl_push h]
theorem pl_push2 {X : va_W} {L : List Nat} {f : Nat → va_E} {q r : Nat} {e e2 : va_E} (h : q ∉ L) (h2 : r ∉ L ++ [q]) : (X ++ va_pl L f) ++ [(q, e), (r, e2)] = X ++ va_pl ((L ++ [q]) ++ [r]) (va_up (va_up f q e) r e2) := by
  rw [show [(q, e), (r, e2)] = [(q, e)] ++ [(r, e2)] from rfl, ← List.append_assoc, pl_push1 h, pl_push1 h2]
theorem pl_fr2 {A : Nat → Prop} {X : va_W} {L : List Nat} {f : Nat → va_E} {q r : Nat} {e e2 : va_E} (h : q ∉ L) (hD : va_D A ((X ++ va_pl L f) ++ [(q, e), (r, e2)])) : r ∉ L ++ [q] := by
  rw [show [(q, e), (r, e2)] = [(q, e)] ++ [(r, e2)] from rfl, ← List.append_assoc, pl_push1 h] at hD
  exact va_pl_fresh2 hD

theorem in_X7_X7_answer : ∀ w ∈ wsX70, w ∈ wsX7_answer := fun w h => List.mem_cons_of_mem _ (List.mem_append_right _ h)
set_option maxHeartbeats 4000000 in
set_option maxRecDepth 100000 in
theorem met_X7_answer (l : Launch) (Dg : va_G) (x0 sz : Nat) (b : Nat → Nat) (z : Nat → ClassId) (lat : Int32) (cW : Int32) (cR : Int32) (cS : Int32) (cP : Int32) (cD : Int32) (oft : Nat → Int32) (g0 : Nat → Option Nat) (g1 : Nat → Option Nat) (g2 : Nat → Option Nat) (g3 : Nat → Option Nat) (g4 : Nat → Option Nat) (L : List Nat) (f : Nat → va_E) (p1 : Int32)  : Met l yX7_answer wsX7_answer ({ frames := 0, cells := 0, slots := 0, locals := 0 }) (va_Pc [.ref x0, .int p1] (wB Dg (cT z) (cX x0 b z lat cW cR cS cP cD oft g0 g1 g2 g3 g4 ++ va_pl L f) sz)) (va_Qi (fun (r : Int32) (u : va_W) => r = p1 ∧ u = (cX x0 b z 0 cW cR cS cP cD oft g0 g1 g2 g3 g4 ++ va_pl L f)) (wE Dg (cT z) (va_A (cX x0 b z lat cW cR cS cP cD oft g0 g1 g2 g3 g4 ++ va_pl L f) sz)) (va_A (cX x0 b z lat cW cR cS cP cD oft g0 g1 g2 g3 g4 ++ va_pl L f) sz)) 0 0 (va_A (cX x0 b z lat cW cR cS cP cD oft g0 g1 g2 g3 g4 ++ va_pl L f) sz) := by
  refine Met.ofW (cc := cX7_answer) (maxL := 2) (ret := (some .int)) (by decide) rfl ?_
  intro p e s m args below meth c s₁ B hml hv
  obtain ⟨rfl, hsz, hP, hK, hD0⟩ := hv
  have hx := B.exec
  have hb := B.bytes
  have hr := B.returns
  have hts := atoms_spec (ws := wsX7_answer) B.pre
  have hown : s.vm.findClass RX7 = some m.cls := findClass_of_methodNamed B.named
  have hlocks := B.notSynchronized
  subst hsz
  have hD := hD0.self (sz := s.heap.size)
  generalize hAe : va_A (cX x0 b z lat cW cR cS cP cD oft g0 g1 g2 g3 g4 ++ va_pl L f) s.heap.size = A at hD ⊢
  have hA : ∀ q : Nat, s.heap.size ≤ q → A q := fun q h => by rw [← hAe]; exact Or.inr h
  have hS : va_S A s.heap s.heap [] := va_S.rf
  have hP : va_P Dg vwCl (cX x0 b z lat cW cR cS cP cD oft g0 g1 g2 g3 g4 ++ va_pl L f) s.heap := hP
  have hl := lv_entry ([.ref x0, .int p1]) (n := 2) (Nat.le_of_ble_eq_true rfl)
  rw [lg_entry_eq]
  generalize (lg_sl ([.ref x0, .int p1]) ++ List.replicate (2 - (lg_sl ([.ref x0, .int p1])).length) Slot.unset).toArray = ls at hl ⊢
  have hl : lv_has ls 2 [(0, .ref x0), (1, .int p1)] := hl
  refine lv_aload_n hx hb dX7_answer_0 rfl (lv_at hl 0 rfl) ?_
  refine lv_iconst (v := 0) hx hb dX7_answer_1 (by decide) ?_
  refine va_put (D := Dg) (ci := 5) (v := .int 0) (ty := .int) (C := RX7) (T := TX7) (N := 12) hx hb hts in_X7_X7_answer tyX7 tyX7_ok nmX7 hown hK hP hD hS 0 rfl rfl 11 (by decide) (hts (.fieldLink RX7 59 "OrreryWorks" "latest" "I") (by decide +kernel)) (fun _ h9 => h9) rfl (by decide +kernel) rfl rfl (Nat.le_of_ble_eq_true rfl) dX7_answer_2 (fun H locs hP hD hS => ?_)
  have hP : va_P Dg vwCl (cX x0 b z 0 cW cR cS cP cD oft g0 g1 g2 g3 g4 ++ va_pl L f) H := hP
  have hD : va_D A (cX x0 b z 0 cW cR cS cP cD oft g0 g1 g2 g3 g4 ++ va_pl L f) := hD
  refine lv_iload_n hx hb dX7_answer_5 rfl (lv_at hl 1 rfl) ?_
  exact W.iret (v := p1) hx hb hr (fun t ht hW => ⟨⟨_, (cX x0 b z 0 cW cR cS cP cD oft g0 g1 g2 g3 g4 ++ va_pl L f), rfl, ⟨rfl, rfl⟩, by rw [ht]; exact hP, va_K.moved hW.alike hK, hD⟩, hS.F ht⟩) hS.2.2 dX7_answer_6

theorem in_X7_X7_answerLong : ∀ w ∈ wsX70, w ∈ wsX7_answerLong := fun w h => List.mem_cons_of_mem _ (List.mem_append_right _ h)
set_option maxHeartbeats 4000000 in
set_option maxRecDepth 100000 in
theorem met_X7_answerLong (l : Launch) (Dg : va_G) (x0 sz : Nat) (b : Nat → Nat) (z : Nat → ClassId) (lat : Int32) (cW : Int32) (cR : Int32) (cS : Int32) (cP : Int32) (cD : Int32) (oft : Nat → Int32) (g0 : Nat → Option Nat) (g1 : Nat → Option Nat) (g2 : Nat → Option Nat) (g3 : Nat → Option Nat) (g4 : Nat → Option Nat) (L : List Nat) (f : Nat → va_E) (p1 : Int64)  : Met l yX7_answerLong wsX7_answerLong ({ frames := 0, cells := 0, slots := 0, locals := 0 }) (va_Pc [.ref x0, .long p1] (wB Dg (cT z) (cX x0 b z lat cW cR cS cP cD oft g0 g1 g2 g3 g4 ++ va_pl L f) sz)) (va_Ql (fun (r : Int64) (u : va_W) => r = p1 ∧ u = (cX x0 b z 0 cW cR cS cP cD oft g0 g1 g2 g3 g4 ++ va_pl L f)) (wE Dg (cT z) (va_A (cX x0 b z lat cW cR cS cP cD oft g0 g1 g2 g3 g4 ++ va_pl L f) sz)) (va_A (cX x0 b z lat cW cR cS cP cD oft g0 g1 g2 g3 g4 ++ va_pl L f) sz)) 0 0 (va_A (cX x0 b z lat cW cR cS cP cD oft g0 g1 g2 g3 g4 ++ va_pl L f) sz) := by
  refine Met.ofW (cc := cX7_answerLong) (maxL := 3) (ret := (some .long)) (by decide) rfl ?_
  intro p e s m args below meth c s₁ B hml hv
  obtain ⟨rfl, hsz, hP, hK, hD0⟩ := hv
  have hx := B.exec
  have hb := B.bytes
  have hr := B.returns
  have hts := atoms_spec (ws := wsX7_answerLong) B.pre
  have hown : s.vm.findClass RX7 = some m.cls := findClass_of_methodNamed B.named
  have hlocks := B.notSynchronized
  subst hsz
  have hD := hD0.self (sz := s.heap.size)
  generalize hAe : va_A (cX x0 b z lat cW cR cS cP cD oft g0 g1 g2 g3 g4 ++ va_pl L f) s.heap.size = A at hD ⊢
  have hA : ∀ q : Nat, s.heap.size ≤ q → A q := fun q h => by rw [← hAe]; exact Or.inr h
  have hS : va_S A s.heap s.heap [] := va_S.rf
  have hP : va_P Dg vwCl (cX x0 b z lat cW cR cS cP cD oft g0 g1 g2 g3 g4 ++ va_pl L f) s.heap := hP
  have hl := lv_entry ([.ref x0, .long p1]) (n := 3) (Nat.le_of_ble_eq_true rfl)
  rw [lg_entry_eq]
  generalize (lg_sl ([.ref x0, .long p1]) ++ List.replicate (3 - (lg_sl ([.ref x0, .long p1])).length) Slot.unset).toArray = ls at hl ⊢
  have hl : lv_has ls 3 [(0, .ref x0), (1, .long p1)] := hl
  refine lv_aload_n hx hb dX7_answerLong_0 rfl (lv_at hl 0 rfl) ?_
  refine lv_iconst (v := 0) hx hb dX7_answerLong_1 (by decide) ?_
  refine va_put (D := Dg) (ci := 5) (v := .int 0) (ty := .int) (C := RX7) (T := TX7) (N := 12) hx hb hts in_X7_X7_answerLong tyX7 tyX7_ok nmX7 hown hK hP hD hS 0 rfl rfl 11 (by decide) (hts (.fieldLink RX7 59 "OrreryWorks" "latest" "I") (by decide +kernel)) (fun _ h9 => h9) rfl (by decide +kernel) rfl rfl (Nat.le_of_ble_eq_true rfl) dX7_answerLong_2 (fun H locs hP hD hS => ?_)
  have hP : va_P Dg vwCl (cX x0 b z 0 cW cR cS cP cD oft g0 g1 g2 g3 g4 ++ va_pl L f) H := hP
  have hD : va_D A (cX x0 b z 0 cW cR cS cP cD oft g0 g1 g2 g3 g4 ++ va_pl L f) := hD
  refine lv_lload_n hx hb dX7_answerLong_5 rfl (lv_at hl 1 rfl) ?_
  exact W.lret (v := p1) hx hb hr (fun t ht hW => ⟨⟨_, (cX x0 b z 0 cW cR cS cP cD oft g0 g1 g2 g3 g4 ++ va_pl L f), rfl, ⟨rfl, rfl⟩, by rw [ht]; exact hP, va_K.moved hW.alike hK, hD⟩, hS.F ht⟩) hS.2.2 dX7_answerLong_6

theorem in_X7_X7_refuse : ∀ w ∈ wsX70, w ∈ wsX7_refuse := fun w h => List.mem_cons_of_mem _ (List.mem_append_right _ h)
set_option maxHeartbeats 4000000 in
set_option maxRecDepth 100000 in
theorem met_X7_refuse (l : Launch) (Dg : va_G) (x0 sz : Nat) (b : Nat → Nat) (z : Nat → ClassId) (lat : Int32) (cW : Int32) (cR : Int32) (cS : Int32) (cP : Int32) (cD : Int32) (oft : Nat → Int32) (g0 : Nat → Option Nat) (g1 : Nat → Option Nat) (g2 : Nat → Option Nat) (g3 : Nat → Option Nat) (g4 : Nat → Option Nat) (L : List Nat) (f : Nat → va_E) (p1 : Int32) (hlo : ¬ p1 < (-10)) (hin : ¬ (-3) < p1 → vp_in ((-3) - p1) 8) : Met l yX7_refuse wsX7_refuse ({ frames := 0, cells := 0, slots := 0, locals := 0 }) (va_Pc [.ref x0, .int p1] (wB Dg (cT z) (cX x0 b z lat cW cR cS cP cD oft g0 g1 g2 g3 g4 ++ va_pl L f) sz)) (va_Qi (fun (r : Int32) (u : va_W) => r = p1 ∧ u = (cX x0 b z p1 cW cR cS cP cD (rfO p1 oft) g0 g1 g2 g3 g4 ++ va_pl L f)) (wE Dg (cT z) (va_A (cX x0 b z lat cW cR cS cP cD oft g0 g1 g2 g3 g4 ++ va_pl L f) sz)) (va_A (cX x0 b z lat cW cR cS cP cD oft g0 g1 g2 g3 g4 ++ va_pl L f) sz)) 0 0 (va_A (cX x0 b z lat cW cR cS cP cD oft g0 g1 g2 g3 g4 ++ va_pl L f) sz) := by
  refine Met.ofW (cc := cX7_refuse) (maxL := 2) (ret := (some .int)) (by decide) rfl ?_
  intro p e s m args below meth c s₁ B hml hv
  obtain ⟨rfl, hsz, hP, hK, hD0⟩ := hv
  have hx := B.exec
  have hb := B.bytes
  have hr := B.returns
  have hts := atoms_spec (ws := wsX7_refuse) B.pre
  have hown : s.vm.findClass RX7 = some m.cls := findClass_of_methodNamed B.named
  have hlocks := B.notSynchronized
  subst hsz
  have hD := hD0.self (sz := s.heap.size)
  generalize hAe : va_A (cX x0 b z lat cW cR cS cP cD oft g0 g1 g2 g3 g4 ++ va_pl L f) s.heap.size = A at hD ⊢
  have hA : ∀ q : Nat, s.heap.size ≤ q → A q := fun q h => by rw [← hAe]; exact Or.inr h
  have hS : va_S A s.heap s.heap [] := va_S.rf
  have hP : va_P Dg vwCl (cX x0 b z lat cW cR cS cP cD oft g0 g1 g2 g3 g4 ++ va_pl L f) s.heap := hP
  have hl := lv_entry ([.ref x0, .int p1]) (n := 2) (Nat.le_of_ble_eq_true rfl)
  rw [lg_entry_eq]
  generalize (lg_sl ([.ref x0, .int p1]) ++ List.replicate (2 - (lg_sl ([.ref x0, .int p1])).length) Slot.unset).toArray = ls at hl ⊢
  have hl : lv_has ls 2 [(0, .ref x0), (1, .int p1)] := hl
  refine lv_aload_n hx hb dX7_refuse_0 rfl (lv_at hl 0 rfl) ?_
  refine lv_iload_n hx hb dX7_refuse_1 rfl (lv_at hl 1 rfl) ?_
  refine va_put (D := Dg) (ci := 5) (v := .int p1) (ty := .int) (C := RX7) (T := TX7) (N := 12) hx hb hts in_X7_X7_refuse tyX7 tyX7_ok nmX7 hown hK hP hD hS 0 rfl rfl 11 (by decide) (hts (.fieldLink RX7 59 "OrreryWorks" "latest" "I") (by decide +kernel)) (fun _ h9 => h9) rfl (by decide +kernel) rfl rfl (Nat.le_of_ble_eq_true rfl) dX7_refuse_2 (fun H locs hP hD hS => ?_)
  have hP : va_P Dg vwCl (cX x0 b z p1 cW cR cS cP cD oft g0 g1 g2 g3 g4 ++ va_pl L f) H := hP
  have hD : va_D A (cX x0 b z p1 cW cR cS cP cD oft g0 g1 g2 g3 g4 ++ va_pl L f) := hD
  refine lv_iload_n hx hb dX7_refuse_5 rfl (lv_at hl 1 rfl) ?_
  refine lv_bipush (v := (-3)) hx hb dX7_refuse_6 (by decide) ?_
  refine lv_icmp_gt (tgt := 30) hx hb dX7_refuse_8 (by decide) (fun c_1 => ?_) (fun c_1 => ?_)
  · refine lv_iload_n hx hb dX7_refuse_30 rfl (lv_at hl 1 rfl) ?_
    exact W.iret (v := p1) hx hb hr (fun t ht hW => ⟨⟨_, (cX x0 b z p1 cW cR cS cP cD oft g0 g1 g2 g3 g4 ++ va_pl L f), rfl, ⟨rfl, by simp only [rfO, if_pos c_1]⟩, by rw [ht]; exact hP, va_K.moved hW.alike hK, hD⟩, hS.F ht⟩) hS.2.2 dX7_refuse_31
  · refine lv_iload_n hx hb dX7_refuse_11 rfl (lv_at hl 1 rfl) ?_
    refine lv_bipush (v := (-10)) hx hb dX7_refuse_12 (by decide) ?_
    refine lv_icmp_lt (tgt := 30) hx hb dX7_refuse_14 (by decide) (fun h0 => absurd h0 hlo) (fun _ => ?_)
    refine lv_aload_n hx hb dX7_refuse_17 rfl (lv_at hl 0 rfl) ?_
    refine va_get (D := Dg) (ci := 5) (v := .ref (b 5)) (C := RX7) (T := TX7) (N := 12) hx hb hts in_X7_X7_refuse hown hK hP 0 rfl rfl 10 (by decide) (hts (.fieldLink RX7 55 "OrreryWorks" "refusals" "[I") (by decide +kernel)) (fun _ h9 => h9) rfl dX7_refuse_18 ?_
    refine lv_bipush (v := (-3)) hx hb dX7_refuse_21 (by decide) ?_
    refine lv_iload_n hx hb dX7_refuse_23 rfl (lv_at hl 1 rfl) ?_
    refine lv_isub hx hb dX7_refuse_24 ?_
    refine lv_dup2_11 hx hb dX7_refuse_25 rfl rfl ?_
    refine va_iald hx hb hK hP 6 5 rfl rfl (hin c_1) dX7_refuse_26 ?_
    refine lv_iconst (v := 1) hx hb dX7_refuse_27 (by decide) ?_
    refine lv_iadd hx hb dX7_refuse_28 ?_
    refine va_iast hx hb hK hP hD hS 6 5 rfl rfl (hin c_1) dX7_refuse_29 (fun H locs hP hD hS => ?_)
    have hP : va_P Dg vwCl (cX x0 b z p1 cW cR cS cP cD (upd oft ((-3) - p1).toNatClampNeg ((oft ((-3) - p1).toNatClampNeg) + 1)) g0 g1 g2 g3 g4 ++ va_pl L f) H := hP
    have hD : va_D A (cX x0 b z p1 cW cR cS cP cD (upd oft ((-3) - p1).toNatClampNeg ((oft ((-3) - p1).toNatClampNeg) + 1)) g0 g1 g2 g3 g4 ++ va_pl L f) := hD
    refine lv_iload_n hx hb dX7_refuse_30 rfl (lv_at hl 1 rfl) ?_
    exact W.iret (v := p1) hx hb hr (fun t ht hW => ⟨⟨_, (cX x0 b z p1 cW cR cS cP cD (upd oft ((-3) - p1).toNatClampNeg ((oft ((-3) - p1).toNatClampNeg) + 1)) g0 g1 g2 g3 g4 ++ va_pl L f), rfl, ⟨rfl, by simp only [rfO, if_neg c_1]⟩, by rw [ht]; exact hP, va_K.moved hW.alike hK, hD⟩, hS.F ht⟩) hS.2.2 dX7_refuse_31

theorem in_X7_X7_refuseAnyNumber : ∀ w ∈ wsX70, w ∈ wsX7_refuseAnyNumber := fun w h => List.mem_cons_of_mem _ (List.mem_append_right _ h)
set_option maxHeartbeats 4000000 in
set_option maxRecDepth 100000 in
theorem met_X7_refuseAnyNumber (l : Launch) (Dg : va_G) (x0 sz : Nat) (b : Nat → Nat) (z : Nat → ClassId) (lat : Int32) (cW : Int32) (cR : Int32) (cS : Int32) (cP : Int32) (cD : Int32) (oft : Nat → Int32) (g0 : Nat → Option Nat) (g1 : Nat → Option Nat) (g2 : Nat → Option Nat) (g3 : Nat → Option Nat) (g4 : Nat → Option Nat) (L : List Nat) (f : Nat → va_E) (p1 : Int32) (hlo : ¬ p1 < (-10)) (hin : ¬ (-3) < p1 → vp_in ((-3) - p1) 8) : Met l yX7_refuseAnyNumber wsX7_refuseAnyNumber ({ frames := 1, cells := 0, slots := 0, locals := 21 }) (va_Pc [.ref x0, .int p1] (wB Dg (cT z) (cX x0 b z lat cW cR cS cP cD oft g0 g1 g2 g3 g4 ++ va_pl L f) sz)) (va_Qi (fun (r : Int32) (u : va_W) => r = 0 ∧ u = (cX x0 b z p1 cW cR cS cP cD (rfO p1 oft) g0 g1 g2 g3 g4 ++ va_pl L f)) (wE Dg (cT z) (va_A (cX x0 b z lat cW cR cS cP cD oft g0 g1 g2 g3 g4 ++ va_pl L f) sz)) (va_A (cX x0 b z lat cW cR cS cP cD oft g0 g1 g2 g3 g4 ++ va_pl L f) sz)) 0 0 (va_A (cX x0 b z lat cW cR cS cP cD oft g0 g1 g2 g3 g4 ++ va_pl L f) sz) := by
  refine Met.ofW (cc := cX7_refuseAnyNumber) (maxL := 2) (ret := (some .int)) (by decide) rfl ?_
  intro p e s m args below meth c s₁ B hml hv
  obtain ⟨rfl, hsz, hP, hK, hD0⟩ := hv
  have hx := B.exec
  have hb := B.bytes
  have hr := B.returns
  have hts := atoms_spec (ws := wsX7_refuseAnyNumber) B.pre
  have hown : s.vm.findClass RX7 = some m.cls := findClass_of_methodNamed B.named
  have hlocks := B.notSynchronized
  subst hsz
  have hD := hD0.self (sz := s.heap.size)
  generalize hAe : va_A (cX x0 b z lat cW cR cS cP cD oft g0 g1 g2 g3 g4 ++ va_pl L f) s.heap.size = A at hD ⊢
  have hA : ∀ q : Nat, s.heap.size ≤ q → A q := fun q h => by rw [← hAe]; exact Or.inr h
  have hS : va_S A s.heap s.heap [] := va_S.rf
  have hP : va_P Dg vwCl (cX x0 b z lat cW cR cS cP cD oft g0 g1 g2 g3 g4 ++ va_pl L f) s.heap := hP
  have hl := lv_entry ([.ref x0, .int p1]) (n := 2) (Nat.le_of_ble_eq_true rfl)
  rw [lg_entry_eq]
  generalize (lg_sl ([.ref x0, .int p1]) ++ List.replicate (2 - (lg_sl ([.ref x0, .int p1])).length) Slot.unset).toArray = ls at hl ⊢
  have hl : lv_has ls 2 [(0, .ref x0), (1, .int p1)] := hl
  refine lv_aload_n hx hb dX7_refuseAnyNumber_0 rfl (lv_at hl 0 rfl) ?_
  refine lv_iload_n hx hb dX7_refuseAnyNumber_1 rfl (lv_at hl 1 rfl) ?_
  have hFc := wFree hD hS hA
  refine va_calli (va_runV (As := [.int p1]) (rest := []) ⟨hx, hb, hml, hown, hts⟩ (met_X7_refuse l Dg x0 s.heap.size b z lat cW cR cS cP cD oft g0 g1 g2 g3 g4 L f p1 hlo hin) (cwV 1 hts gX7_refuseAnyNumber_X7_refuse rfl rfl rfl (by decide +kernel) ⟨Nat.le_of_ble_eq_true rfl, Nat.le_of_ble_eq_true rfl⟩) (wPreV hK hP (hD.weaken (fun _ _ _ _ => trivial)) (va_recv hK hP (ci := 5) (q0 := 0) rfl rfl)) rfl rfl hl.1 rfl (lv_room (Nat.le_of_ble_eq_true rfl)) dX7_refuseAnyNumber_2 ⟨Nat.le_of_ble_eq_true rfl, Nat.le_of_ble_eq_true rfl⟩) hS (fun q _ h => hFc q h) hFc (fun r u t H locs ht hvm hw hB _ _ hS => ?_)
  obtain ⟨hP, -, hD⟩ := hB
  rw [ht] at hP
  replace hD := hD.weaken (fun _ q _ h => hFc q.1 h)
  rw [hw.2] at hP hD
  rw [hw.1]
  clear hw hFc
  have hP : va_P Dg vwCl (cX x0 b z p1 cW cR cS cP cD (rfO p1 oft) g0 g1 g2 g3 g4 ++ va_pl L f) H := hP
  have hD : va_D A (cX x0 b z p1 cW cR cS cP cD (rfO p1 oft) g0 g1 g2 g3 g4 ++ va_pl L f) := hD
  refine lv_pop hx hb dX7_refuseAnyNumber_5 rfl ?_
  refine lv_iconst (v := 0) hx hb dX7_refuseAnyNumber_6 (by decide) ?_
  exact W.iret (v := 0) hx hb hr (fun t ht hW => ⟨⟨_, (cX x0 b z p1 cW cR cS cP cD (rfO p1 oft) g0 g1 g2 g3 g4 ++ va_pl L f), rfl, ⟨rfl, rfl⟩, by rw [ht]; exact hP, va_K.moved hW.alike hK, hD⟩, hS.F ht⟩) hS.2.2 dX7_refuseAnyNumber_7

theorem in_X7_X7_wheelAt : ∀ w ∈ wsX70, w ∈ wsX7_wheelAt := fun w h => List.mem_cons_of_mem _ (List.mem_append_right _ h)
set_option maxHeartbeats 4000000 in
set_option maxRecDepth 100000 in
theorem met_X7_wheelAt (l : Launch) (Dg : va_G) (x0 : Nat) (b : Nat → Nat) (z : Nat → ClassId) (lat : Int32) (cW : Int32) (cR : Int32) (cS : Int32) (cP : Int32) (cD : Int32) (oft : Nat → Int32) (g0 : Nat → Option Nat) (g1 : Nat → Option Nat) (g2 : Nat → Option Nat) (g3 : Nat → Option Nat) (g4 : Nat → Option Nat) (L : List Nat) (f : Nat → va_E) (p1 : Int32) (hbd : bnd cW 10) : Met l yX7_wheelAt wsX7_wheelAt ({ frames := 0, cells := 0, slots := 0, locals := 0 }) (va_Pc [.ref x0, .int p1] (rB Dg (cT z) (cX x0 b z lat cW cR cS cP cD oft g0 g1 g2 g3 g4 ++ va_pl L f))) (va_Sq (fun r => r = if fX8_isIn p1 0 (cW - 1) = true then g0 p1.toNatClampNeg else none)) 0 0 (fun _ => False) := by
  refine Met.ofW (cc := cX7_wheelAt) (maxL := 2) (ret := (some (.object "OrreryWorks$Wheel"))) (by decide) rfl ?_
  intro p e s m args below meth c s₁ B hml hv
  obtain ⟨rfl, hP, hK⟩ := hv
  have hx := B.exec
  have hb := B.bytes
  have hr := B.returns
  have hts := atoms_spec (ws := wsX7_wheelAt) B.pre
  have hown : s.vm.findClass RX7 = some m.cls := findClass_of_methodNamed B.named
  have hlocks := B.notSynchronized
  have hl := lv_entry ([.ref x0, .int p1]) (n := 2) (Nat.le_of_ble_eq_true rfl)
  rw [lg_entry_eq]
  generalize (lg_sl ([.ref x0, .int p1]) ++ List.replicate (2 - (lg_sl ([.ref x0, .int p1])).length) Slot.unset).toArray = ls at hl ⊢
  have hl : lv_has ls 2 [(0, .ref x0), (1, .int p1)] := hl
  refine lv_iload_n hx hb dX7_wheelAt_0 rfl (lv_at hl 1 rfl) ?_
  refine lv_if_lt (tgt := 21) hx hb dX7_wheelAt_1 (by decide) (fun c_1 => ?_) (fun c_1 => ?_)
  · refine lv_null hx hb dX7_wheelAt_21 ?_
    exact W.aret (v := .null) hx hb hr (Or.inl ⟨_, rfl⟩) (Or.inl rfl) (fun t ht hW => ⟨none, rfl, (by rw [if_neg (fun g => at_n ((inC_iff hbd).mp g) (Or.inl c_1))]), ht⟩) (fun q hq => absurd hq List.not_mem_nil) dX7_wheelAt_22
  · refine lv_iload_n hx hb dX7_wheelAt_4 rfl (lv_at hl 1 rfl) ?_
    refine lv_aload_n hx hb dX7_wheelAt_5 rfl (lv_at hl 0 rfl) ?_
    refine va_get (D := Dg) (ci := 5) (v := .int cW) (C := RX7) (T := TX7) (N := 12) hx hb hts in_X7_X7_wheelAt hown hK hP 0 rfl rfl 5 (by decide) (hts (.fieldLink RX7 39 "OrreryWorks" "wheelCount" "I") (by decide +kernel)) (fun _ h9 => h9) rfl dX7_wheelAt_6 ?_
    refine lv_icmp_ge (tgt := 21) hx hb dX7_wheelAt_9 (by decide) (fun c_2 => ?_) (fun c_2 => ?_)
    · refine lv_null hx hb dX7_wheelAt_21 ?_
      exact W.aret (v := .null) hx hb hr (Or.inl ⟨_, rfl⟩) (Or.inl rfl) (fun t ht hW => ⟨none, rfl, (by rw [if_neg (fun g => at_n ((inC_iff hbd).mp g) (Or.inr c_2))]), ht⟩) (fun q hq => absurd hq List.not_mem_nil) dX7_wheelAt_22
    · refine lv_aload_n hx hb dX7_wheelAt_12 rfl (lv_at hl 0 rfl) ?_
      refine va_get (D := Dg) (ci := 5) (v := .ref (b 0)) (C := RX7) (T := TX7) (N := 12) hx hb hts in_X7_X7_wheelAt hown hK hP 0 rfl rfl 0 (by decide) (hts (.fieldLink RX7 11 "OrreryWorks" "wheels" "[LOrreryWorks$Wheel;") (by decide +kernel)) (fun _ h9 => h9) rfl dX7_wheelAt_13 ?_
      refine lv_iload_n hx hb dX7_wheelAt_16 rfl (lv_at hl 1 rfl) ?_
      refine va_aldq hx hb hK hP 1 0 rfl rfl (at_in hbd c_1 c_2) dX7_wheelAt_17 ?_
      refine lv_goto (tgt := 22) hx hb dX7_wheelAt_18 (by decide) ?_
      exact W.aret (v := va_rf (g0 p1.toNatClampNeg)) hx hb hr (Or.inl ⟨_, rfl⟩) (va_rf_or _) (fun t ht hW => ⟨(g0 p1.toNatClampNeg), rfl, (by rw [if_pos ((inC_iff hbd).mpr (at_y c_1 c_2))]), ht⟩) (fun q hq => absurd hq List.not_mem_nil) dX7_wheelAt_22

theorem in_X7_X7_registerAt : ∀ w ∈ wsX70, w ∈ wsX7_registerAt := fun w h => List.mem_cons_of_mem _ (List.mem_append_right _ h)
set_option maxHeartbeats 4000000 in
set_option maxRecDepth 100000 in
theorem met_X7_registerAt (l : Launch) (Dg : va_G) (x0 : Nat) (b : Nat → Nat) (z : Nat → ClassId) (lat : Int32) (cW : Int32) (cR : Int32) (cS : Int32) (cP : Int32) (cD : Int32) (oft : Nat → Int32) (g0 : Nat → Option Nat) (g1 : Nat → Option Nat) (g2 : Nat → Option Nat) (g3 : Nat → Option Nat) (g4 : Nat → Option Nat) (L : List Nat) (f : Nat → va_E) (p1 : Int32) (hbd : bnd cR 16) : Met l yX7_registerAt wsX7_registerAt ({ frames := 0, cells := 0, slots := 0, locals := 0 }) (va_Pc [.ref x0, .int p1] (rB Dg (cT z) (cX x0 b z lat cW cR cS cP cD oft g0 g1 g2 g3 g4 ++ va_pl L f))) (va_Sq (fun r => r = if fX8_isIn p1 0 (cR - 1) = true then g1 p1.toNatClampNeg else none)) 0 0 (fun _ => False) := by
  refine Met.ofW (cc := cX7_registerAt) (maxL := 2) (ret := (some (.object "OrreryWorks$Register"))) (by decide) rfl ?_
  intro p e s m args below meth c s₁ B hml hv
  obtain ⟨rfl, hP, hK⟩ := hv
  have hx := B.exec
  have hb := B.bytes
  have hr := B.returns
  have hts := atoms_spec (ws := wsX7_registerAt) B.pre
  have hown : s.vm.findClass RX7 = some m.cls := findClass_of_methodNamed B.named
  have hlocks := B.notSynchronized
  have hl := lv_entry ([.ref x0, .int p1]) (n := 2) (Nat.le_of_ble_eq_true rfl)
  rw [lg_entry_eq]
  generalize (lg_sl ([.ref x0, .int p1]) ++ List.replicate (2 - (lg_sl ([.ref x0, .int p1])).length) Slot.unset).toArray = ls at hl ⊢
  have hl : lv_has ls 2 [(0, .ref x0), (1, .int p1)] := hl
  refine lv_iload_n hx hb dX7_registerAt_0 rfl (lv_at hl 1 rfl) ?_
  refine lv_if_lt (tgt := 21) hx hb dX7_registerAt_1 (by decide) (fun c_1 => ?_) (fun c_1 => ?_)
  · refine lv_null hx hb dX7_registerAt_21 ?_
    exact W.aret (v := .null) hx hb hr (Or.inl ⟨_, rfl⟩) (Or.inl rfl) (fun t ht hW => ⟨none, rfl, (by rw [if_neg (fun g => at_n ((inC_iff hbd).mp g) (Or.inl c_1))]), ht⟩) (fun q hq => absurd hq List.not_mem_nil) dX7_registerAt_22
  · refine lv_iload_n hx hb dX7_registerAt_4 rfl (lv_at hl 1 rfl) ?_
    refine lv_aload_n hx hb dX7_registerAt_5 rfl (lv_at hl 0 rfl) ?_
    refine va_get (D := Dg) (ci := 5) (v := .int cR) (C := RX7) (T := TX7) (N := 12) hx hb hts in_X7_X7_registerAt hown hK hP 0 rfl rfl 6 (by decide) (hts (.fieldLink RX7 43 "OrreryWorks" "registerCount" "I") (by decide +kernel)) (fun _ h9 => h9) rfl dX7_registerAt_6 ?_
    refine lv_icmp_ge (tgt := 21) hx hb dX7_registerAt_9 (by decide) (fun c_2 => ?_) (fun c_2 => ?_)
    · refine lv_null hx hb dX7_registerAt_21 ?_
      exact W.aret (v := .null) hx hb hr (Or.inl ⟨_, rfl⟩) (Or.inl rfl) (fun t ht hW => ⟨none, rfl, (by rw [if_neg (fun g => at_n ((inC_iff hbd).mp g) (Or.inr c_2))]), ht⟩) (fun q hq => absurd hq List.not_mem_nil) dX7_registerAt_22
    · refine lv_aload_n hx hb dX7_registerAt_12 rfl (lv_at hl 0 rfl) ?_
      refine va_get (D := Dg) (ci := 5) (v := .ref (b 1)) (C := RX7) (T := TX7) (N := 12) hx hb hts in_X7_X7_registerAt hown hK hP 0 rfl rfl 1 (by decide) (hts (.fieldLink RX7 17 "OrreryWorks" "registers" "[LOrreryWorks$Register;") (by decide +kernel)) (fun _ h9 => h9) rfl dX7_registerAt_13 ?_
      refine lv_iload_n hx hb dX7_registerAt_16 rfl (lv_at hl 1 rfl) ?_
      refine va_aldq hx hb hK hP 2 1 rfl rfl (at_in hbd c_1 c_2) dX7_registerAt_17 ?_
      refine lv_goto (tgt := 22) hx hb dX7_registerAt_18 (by decide) ?_
      exact W.aret (v := va_rf (g1 p1.toNatClampNeg)) hx hb hr (Or.inl ⟨_, rfl⟩) (va_rf_or _) (fun t ht hW => ⟨(g1 p1.toNatClampNeg), rfl, (by rw [if_pos ((inC_iff hbd).mpr (at_y c_1 c_2))]), ht⟩) (fun q hq => absurd hq List.not_mem_nil) dX7_registerAt_22

theorem in_X7_X7_stripAt : ∀ w ∈ wsX70, w ∈ wsX7_stripAt := fun w h => List.mem_cons_of_mem _ (List.mem_append_right _ h)
set_option maxHeartbeats 4000000 in
set_option maxRecDepth 100000 in
theorem met_X7_stripAt (l : Launch) (Dg : va_G) (x0 : Nat) (b : Nat → Nat) (z : Nat → ClassId) (lat : Int32) (cW : Int32) (cR : Int32) (cS : Int32) (cP : Int32) (cD : Int32) (oft : Nat → Int32) (g0 : Nat → Option Nat) (g1 : Nat → Option Nat) (g2 : Nat → Option Nat) (g3 : Nat → Option Nat) (g4 : Nat → Option Nat) (L : List Nat) (f : Nat → va_E) (p1 : Int32) (hbd : bnd cS 8) : Met l yX7_stripAt wsX7_stripAt ({ frames := 0, cells := 0, slots := 0, locals := 0 }) (va_Pc [.ref x0, .int p1] (rB Dg (cT z) (cX x0 b z lat cW cR cS cP cD oft g0 g1 g2 g3 g4 ++ va_pl L f))) (va_Sq (fun r => r = if fX8_isIn p1 0 (cS - 1) = true then g2 p1.toNatClampNeg else none)) 0 0 (fun _ => False) := by
  refine Met.ofW (cc := cX7_stripAt) (maxL := 2) (ret := (some (.object "OrreryWorks$Strip"))) (by decide) rfl ?_
  intro p e s m args below meth c s₁ B hml hv
  obtain ⟨rfl, hP, hK⟩ := hv
  have hx := B.exec
  have hb := B.bytes
  have hr := B.returns
  have hts := atoms_spec (ws := wsX7_stripAt) B.pre
  have hown : s.vm.findClass RX7 = some m.cls := findClass_of_methodNamed B.named
  have hlocks := B.notSynchronized
  have hl := lv_entry ([.ref x0, .int p1]) (n := 2) (Nat.le_of_ble_eq_true rfl)
  rw [lg_entry_eq]
  generalize (lg_sl ([.ref x0, .int p1]) ++ List.replicate (2 - (lg_sl ([.ref x0, .int p1])).length) Slot.unset).toArray = ls at hl ⊢
  have hl : lv_has ls 2 [(0, .ref x0), (1, .int p1)] := hl
  refine lv_iload_n hx hb dX7_stripAt_0 rfl (lv_at hl 1 rfl) ?_
  refine lv_if_lt (tgt := 21) hx hb dX7_stripAt_1 (by decide) (fun c_1 => ?_) (fun c_1 => ?_)
  · refine lv_null hx hb dX7_stripAt_21 ?_
    exact W.aret (v := .null) hx hb hr (Or.inl ⟨_, rfl⟩) (Or.inl rfl) (fun t ht hW => ⟨none, rfl, (by rw [if_neg (fun g => at_n ((inC_iff hbd).mp g) (Or.inl c_1))]), ht⟩) (fun q hq => absurd hq List.not_mem_nil) dX7_stripAt_22
  · refine lv_iload_n hx hb dX7_stripAt_4 rfl (lv_at hl 1 rfl) ?_
    refine lv_aload_n hx hb dX7_stripAt_5 rfl (lv_at hl 0 rfl) ?_
    refine va_get (D := Dg) (ci := 5) (v := .int cS) (C := RX7) (T := TX7) (N := 12) hx hb hts in_X7_X7_stripAt hown hK hP 0 rfl rfl 7 (by decide) (hts (.fieldLink RX7 46 "OrreryWorks" "stripCount" "I") (by decide +kernel)) (fun _ h9 => h9) rfl dX7_stripAt_6 ?_
    refine lv_icmp_ge (tgt := 21) hx hb dX7_stripAt_9 (by decide) (fun c_2 => ?_) (fun c_2 => ?_)
    · refine lv_null hx hb dX7_stripAt_21 ?_
      exact W.aret (v := .null) hx hb hr (Or.inl ⟨_, rfl⟩) (Or.inl rfl) (fun t ht hW => ⟨none, rfl, (by rw [if_neg (fun g => at_n ((inC_iff hbd).mp g) (Or.inr c_2))]), ht⟩) (fun q hq => absurd hq List.not_mem_nil) dX7_stripAt_22
    · refine lv_aload_n hx hb dX7_stripAt_12 rfl (lv_at hl 0 rfl) ?_
      refine va_get (D := Dg) (ci := 5) (v := .ref (b 2)) (C := RX7) (T := TX7) (N := 12) hx hb hts in_X7_X7_stripAt hown hK hP 0 rfl rfl 2 (by decide) (hts (.fieldLink RX7 23 "OrreryWorks" "strips" "[LOrreryWorks$Strip;") (by decide +kernel)) (fun _ h9 => h9) rfl dX7_stripAt_13 ?_
      refine lv_iload_n hx hb dX7_stripAt_16 rfl (lv_at hl 1 rfl) ?_
      refine va_aldq hx hb hK hP 3 2 rfl rfl (at_in hbd c_1 c_2) dX7_stripAt_17 ?_
      refine lv_goto (tgt := 22) hx hb dX7_stripAt_18 (by decide) ?_
      exact W.aret (v := va_rf (g2 p1.toNatClampNeg)) hx hb hr (Or.inl ⟨_, rfl⟩) (va_rf_or _) (fun t ht hW => ⟨(g2 p1.toNatClampNeg), rfl, (by rw [if_pos ((inC_iff hbd).mpr (at_y c_1 c_2))]), ht⟩) (fun q hq => absurd hq List.not_mem_nil) dX7_stripAt_22

theorem in_X7_X7_pointerAt : ∀ w ∈ wsX70, w ∈ wsX7_pointerAt := fun w h => List.mem_cons_of_mem _ (List.mem_append_right _ h)
set_option maxHeartbeats 4000000 in
set_option maxRecDepth 100000 in
theorem met_X7_pointerAt (l : Launch) (Dg : va_G) (x0 : Nat) (b : Nat → Nat) (z : Nat → ClassId) (lat : Int32) (cW : Int32) (cR : Int32) (cS : Int32) (cP : Int32) (cD : Int32) (oft : Nat → Int32) (g0 : Nat → Option Nat) (g1 : Nat → Option Nat) (g2 : Nat → Option Nat) (g3 : Nat → Option Nat) (g4 : Nat → Option Nat) (L : List Nat) (f : Nat → va_E) (p1 : Int32) (hbd : bnd cP 12) : Met l yX7_pointerAt wsX7_pointerAt ({ frames := 0, cells := 0, slots := 0, locals := 0 }) (va_Pc [.ref x0, .int p1] (rB Dg (cT z) (cX x0 b z lat cW cR cS cP cD oft g0 g1 g2 g3 g4 ++ va_pl L f))) (va_Sq (fun r => r = if fX8_isIn p1 0 (cP - 1) = true then g3 p1.toNatClampNeg else none)) 0 0 (fun _ => False) := by
  refine Met.ofW (cc := cX7_pointerAt) (maxL := 2) (ret := (some (.object "OrreryWorks$Pointer"))) (by decide) rfl ?_
  intro p e s m args below meth c s₁ B hml hv
  obtain ⟨rfl, hP, hK⟩ := hv
  have hx := B.exec
  have hb := B.bytes
  have hr := B.returns
  have hts := atoms_spec (ws := wsX7_pointerAt) B.pre
  have hown : s.vm.findClass RX7 = some m.cls := findClass_of_methodNamed B.named
  have hlocks := B.notSynchronized
  have hl := lv_entry ([.ref x0, .int p1]) (n := 2) (Nat.le_of_ble_eq_true rfl)
  rw [lg_entry_eq]
  generalize (lg_sl ([.ref x0, .int p1]) ++ List.replicate (2 - (lg_sl ([.ref x0, .int p1])).length) Slot.unset).toArray = ls at hl ⊢
  have hl : lv_has ls 2 [(0, .ref x0), (1, .int p1)] := hl
  refine lv_iload_n hx hb dX7_pointerAt_0 rfl (lv_at hl 1 rfl) ?_
  refine lv_if_lt (tgt := 21) hx hb dX7_pointerAt_1 (by decide) (fun c_1 => ?_) (fun c_1 => ?_)
  · refine lv_null hx hb dX7_pointerAt_21 ?_
    exact W.aret (v := .null) hx hb hr (Or.inl ⟨_, rfl⟩) (Or.inl rfl) (fun t ht hW => ⟨none, rfl, (by rw [if_neg (fun g => at_n ((inC_iff hbd).mp g) (Or.inl c_1))]), ht⟩) (fun q hq => absurd hq List.not_mem_nil) dX7_pointerAt_22
  · refine lv_iload_n hx hb dX7_pointerAt_4 rfl (lv_at hl 1 rfl) ?_
    refine lv_aload_n hx hb dX7_pointerAt_5 rfl (lv_at hl 0 rfl) ?_
    refine va_get (D := Dg) (ci := 5) (v := .int cP) (C := RX7) (T := TX7) (N := 12) hx hb hts in_X7_X7_pointerAt hown hK hP 0 rfl rfl 8 (by decide) (hts (.fieldLink RX7 49 "OrreryWorks" "pointerCount" "I") (by decide +kernel)) (fun _ h9 => h9) rfl dX7_pointerAt_6 ?_
    refine lv_icmp_ge (tgt := 21) hx hb dX7_pointerAt_9 (by decide) (fun c_2 => ?_) (fun c_2 => ?_)
    · refine lv_null hx hb dX7_pointerAt_21 ?_
      exact W.aret (v := .null) hx hb hr (Or.inl ⟨_, rfl⟩) (Or.inl rfl) (fun t ht hW => ⟨none, rfl, (by rw [if_neg (fun g => at_n ((inC_iff hbd).mp g) (Or.inr c_2))]), ht⟩) (fun q hq => absurd hq List.not_mem_nil) dX7_pointerAt_22
    · refine lv_aload_n hx hb dX7_pointerAt_12 rfl (lv_at hl 0 rfl) ?_
      refine va_get (D := Dg) (ci := 5) (v := .ref (b 3)) (C := RX7) (T := TX7) (N := 12) hx hb hts in_X7_X7_pointerAt hown hK hP 0 rfl rfl 3 (by decide) (hts (.fieldLink RX7 29 "OrreryWorks" "pointers" "[LOrreryWorks$Pointer;") (by decide +kernel)) (fun _ h9 => h9) rfl dX7_pointerAt_13 ?_
      refine lv_iload_n hx hb dX7_pointerAt_16 rfl (lv_at hl 1 rfl) ?_
      refine va_aldq hx hb hK hP 4 3 rfl rfl (at_in hbd c_1 c_2) dX7_pointerAt_17 ?_
      refine lv_goto (tgt := 22) hx hb dX7_pointerAt_18 (by decide) ?_
      exact W.aret (v := va_rf (g3 p1.toNatClampNeg)) hx hb hr (Or.inl ⟨_, rfl⟩) (va_rf_or _) (fun t ht hW => ⟨(g3 p1.toNatClampNeg), rfl, (by rw [if_pos ((inC_iff hbd).mpr (at_y c_1 c_2))]), ht⟩) (fun q hq => absurd hq List.not_mem_nil) dX7_pointerAt_22

theorem in_X7_X7_standAt : ∀ w ∈ wsX70, w ∈ wsX7_standAt := fun w h => List.mem_cons_of_mem _ (List.mem_append_right _ h)
set_option maxHeartbeats 4000000 in
set_option maxRecDepth 100000 in
theorem met_X7_standAt (l : Launch) (Dg : va_G) (x0 : Nat) (b : Nat → Nat) (z : Nat → ClassId) (lat : Int32) (cW : Int32) (cR : Int32) (cS : Int32) (cP : Int32) (cD : Int32) (oft : Nat → Int32) (g0 : Nat → Option Nat) (g1 : Nat → Option Nat) (g2 : Nat → Option Nat) (g3 : Nat → Option Nat) (g4 : Nat → Option Nat) (L : List Nat) (f : Nat → va_E) (p1 : Int32) (hbd : bnd cD 8) : Met l yX7_standAt wsX7_standAt ({ frames := 0, cells := 0, slots := 0, locals := 0 }) (va_Pc [.ref x0, .int p1] (rB Dg (cT z) (cX x0 b z lat cW cR cS cP cD oft g0 g1 g2 g3 g4 ++ va_pl L f))) (va_Sq (fun r => r = if fX8_isIn p1 0 (cD - 1) = true then g4 p1.toNatClampNeg else none)) 0 0 (fun _ => False) := by
  refine Met.ofW (cc := cX7_standAt) (maxL := 2) (ret := (some (.object "OrreryWorks$Stand"))) (by decide) rfl ?_
  intro p e s m args below meth c s₁ B hml hv
  obtain ⟨rfl, hP, hK⟩ := hv
  have hx := B.exec
  have hb := B.bytes
  have hr := B.returns
  have hts := atoms_spec (ws := wsX7_standAt) B.pre
  have hown : s.vm.findClass RX7 = some m.cls := findClass_of_methodNamed B.named
  have hlocks := B.notSynchronized
  have hl := lv_entry ([.ref x0, .int p1]) (n := 2) (Nat.le_of_ble_eq_true rfl)
  rw [lg_entry_eq]
  generalize (lg_sl ([.ref x0, .int p1]) ++ List.replicate (2 - (lg_sl ([.ref x0, .int p1])).length) Slot.unset).toArray = ls at hl ⊢
  have hl : lv_has ls 2 [(0, .ref x0), (1, .int p1)] := hl
  refine lv_iload_n hx hb dX7_standAt_0 rfl (lv_at hl 1 rfl) ?_
  refine lv_if_lt (tgt := 21) hx hb dX7_standAt_1 (by decide) (fun c_1 => ?_) (fun c_1 => ?_)
  · refine lv_null hx hb dX7_standAt_21 ?_
    exact W.aret (v := .null) hx hb hr (Or.inl ⟨_, rfl⟩) (Or.inl rfl) (fun t ht hW => ⟨none, rfl, (by rw [if_neg (fun g => at_n ((inC_iff hbd).mp g) (Or.inl c_1))]), ht⟩) (fun q hq => absurd hq List.not_mem_nil) dX7_standAt_22
  · refine lv_iload_n hx hb dX7_standAt_4 rfl (lv_at hl 1 rfl) ?_
    refine lv_aload_n hx hb dX7_standAt_5 rfl (lv_at hl 0 rfl) ?_
    refine va_get (D := Dg) (ci := 5) (v := .int cD) (C := RX7) (T := TX7) (N := 12) hx hb hts in_X7_X7_standAt hown hK hP 0 rfl rfl 9 (by decide) (hts (.fieldLink RX7 52 "OrreryWorks" "standCount" "I") (by decide +kernel)) (fun _ h9 => h9) rfl dX7_standAt_6 ?_
    refine lv_icmp_ge (tgt := 21) hx hb dX7_standAt_9 (by decide) (fun c_2 => ?_) (fun c_2 => ?_)
    · refine lv_null hx hb dX7_standAt_21 ?_
      exact W.aret (v := .null) hx hb hr (Or.inl ⟨_, rfl⟩) (Or.inl rfl) (fun t ht hW => ⟨none, rfl, (by rw [if_neg (fun g => at_n ((inC_iff hbd).mp g) (Or.inr c_2))]), ht⟩) (fun q hq => absurd hq List.not_mem_nil) dX7_standAt_22
    · refine lv_aload_n hx hb dX7_standAt_12 rfl (lv_at hl 0 rfl) ?_
      refine va_get (D := Dg) (ci := 5) (v := .ref (b 4)) (C := RX7) (T := TX7) (N := 12) hx hb hts in_X7_X7_standAt hown hK hP 0 rfl rfl 4 (by decide) (hts (.fieldLink RX7 35 "OrreryWorks" "stands" "[LOrreryWorks$Stand;") (by decide +kernel)) (fun _ h9 => h9) rfl dX7_standAt_13 ?_
      refine lv_iload_n hx hb dX7_standAt_16 rfl (lv_at hl 1 rfl) ?_
      refine va_aldq hx hb hK hP 5 4 rfl rfl (at_in hbd c_1 c_2) dX7_standAt_17 ?_
      refine lv_goto (tgt := 22) hx hb dX7_standAt_18 (by decide) ?_
      exact W.aret (v := va_rf (g4 p1.toNatClampNeg)) hx hb hr (Or.inl ⟨_, rfl⟩) (va_rf_or _) (fun t ht hW => ⟨(g4 p1.toNatClampNeg), rfl, (by rw [if_pos ((inC_iff hbd).mpr (at_y c_1 c_2))]), ht⟩) (fun q hq => absurd hq List.not_mem_nil) dX7_standAt_22
