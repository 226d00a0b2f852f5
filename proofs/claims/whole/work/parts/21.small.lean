/-! small worlds, and rows over a pool -/
abbrev rB (Dg : va_G) (ty : List (ClassId × FieldType)) (w : va_W) (U : State) : Prop := va_P Dg vwCl w U.heap ∧ va_K Dg vwCl ty U
abbrev wBO (C : String) (Dg : va_G) (ty : List (ClassId × FieldType)) (w : va_W) (z : Nat) (U : State) : Prop := va_AO C U ∧ wB Dg ty w z U
theorem rPreV {s : State} {H : Heap} {C : String} {b : Addr} {As : List Value} {Dg : va_G} {ty : List (ClassId × FieldType)} {w : va_W} (hK : va_K Dg vwCl ty s) (hP : va_P Dg vwCl w H) (hr : ∃ cell : Cell, H[b]? = some cell ∧ cell.vm.isStatics = false ∧ s.vm.findClass C = some cell.cls) : PreV s H C b (va_Pc (.ref b :: As) (rB Dg ty w)) As :=
  ⟨fun a U g mk q => by obtain ⟨q0, qP, qK⟩ := q; exact ⟨q0, qP, va_K.moved (u := U) (U := U.calling g mk a) (Vm.Alike.refl U.vm) qK⟩, hr, fun U hU hW => ⟨rfl, by rw [hU]; exact hP, va_K.moved hW.alike hK⟩⟩
theorem len_eq {n : Int32} (h : 1 ≤ n.toInt ∧ n.toInt ≤ 6) : Int32.ofNat (ix n) = n := by
  apply Int32.toInt_inj.1
  show (nI (ix n)).toInt = _
  rw [nI_toInt (by show n.toInt.toNat < _; omega)]
  show ((n.toInt.toNat : Nat) : Int) = _
  omega
theorem has_eq {n i : Int32} (h : 1 ≤ n.toInt ∧ n.toInt ≤ 6) : (if i < 0 then false else if n ≤ i then false else true) = fX8_isIn i 0 (n - 1) := by
  have b : bnd n 6 := ⟨by omega, h.2⟩
  have e := inC_iff (i := i) b
  have e0 : (0 : Int32).toInt = 0 := rfl
  by_cases h1 : i < 0
  · rw [if_pos h1]; rw [Int32.lt_iff_toInt_lt] at h1
    exact (Bool.eq_false_iff.mpr (fun g => by have := e.mp g; omega)).symm
  · rw [if_neg h1]; rw [Int32.lt_iff_toInt_lt] at h1
    by_cases h2 : n ≤ i
    · rw [if_pos h2]; rw [Int32.le_iff_toInt_le] at h2
      exact (Bool.eq_false_iff.mpr (fun g => by have := e.mp g; omega)).symm
    · rw [if_neg h2]; rw [Int32.le_iff_toInt_le] at h2
      exact (e.mpr ⟨by omega, by omega⟩).symm
theorem wide_eq {k o : Int32} (hk : isK k) (ho : isK o) : (if k = 3 then true else if o = 3 then false else if o < k then false else true) = fX8_holds k o := by
  rcases hk with rfl | rfl | rfl | rfl <;> rcases ho with rfl | rfl | rfl | rfl <;> decide
theorem cst_R {k : Int32} {b : Int64} (hk : k = 2 ∨ k = 3) : cst k b 0 = (FP.d2i (vl k b)).toInt64 := by
  rcases hk with rfl | rfl <;> rfl
theorem shB_0 {k : Int32} {b : Int64} : shB 0 k b = (FP.d2i (vl k b)).toInt64 := by unfold shB; rw [if_pos rfl]
theorem shB_1 {k : Int32} {b : Int64} : shB 1 k b = fiB k b := by unfold shB; rw [if_neg (by decide), if_neg (by decide), if_pos rfl]
theorem shB_2 {k : Int32} {b : Int64} : shB 2 k b = fB (FP.l2f (fiB k b)) := by unfold shB; rw [if_neg (by decide), if_neg (by decide), if_neg (by decide)]
theorem shB_3 {k : Int32} {b : Int64} : shB 3 k b = if b < 0 then 1 else 0 := by unfold shB; rw [if_neg (by decide), if_pos rfl]
theorem cst_12 {x : Int64} : cst 1 x 2 = fB (FP.l2f x) := by unfold cst csW; rw [if_neg (by decide), if_pos (by decide), if_neg (by decide), if_neg (by decide), if_pos rfl]
theorem ra_long {U : State} {cA cB : ClassId} (h1 : va_RA U cA .long) (h2 : va_RA U cB .long) : cB = cA := by
  unfold va_RA at h1 h2
  exact Option.some.inj (h2.symm.trans h1)
theorem ra_obj {U : State} {cA cB : ClassId} {C : String} (h1 : va_RA U cA (.object C)) (h2 : va_RA U cB (.object C)) : cB = cA := by
  obtain ⟨_, _, _, _, _, a1⟩ := h1
  obtain ⟨_, _, _, _, _, a2⟩ := h2
  exact Option.some.inj (a2.symm.trans a1)
theorem cell_J (cA : ClassId) (n : Nat) : vp_cell cA (n, .inr (.inl (fun _ => 0))) = arrV cA n (fun _ => defaultValue .long) := vp_cell_l ..

theorem vg_get {p : Program} {l : Launch} {e : Env} {R : Room} {s : State} {m : MethodId} {args : Array Value} {below : List Frame} {meth : Method} {c : Code} {H : Heap} {locs : List Loc} {cells slots : Nat} {Q : State → Prop} {cc : ByteArray} {pc : Nat} {ls : Array Slot} {rest : List Value} {D : va_G} {cl : List vw_C} {a : Nat} {tys : List (ClassId × FieldType)} {X : va_W} {L : List Nat} {f : Nat → va_E} (hexec : p.tables.exec = Jvm.exec) (hb : c.code = cc) {own ref C : String} {T : u_T} {N ci index : Nat} {Ts : List Cond} (hts : ∀ w ∈ Ts, w.before args s = true) (hin : ∀ w ∈ u_ws C T N, w ∈ Ts) (hown : s.vm.findClass own = some m.cls) (hK : va_K D cl tys s) (hP : va_P D cl (X ++ va_pl L f) H) (ha : a ∈ L) {fs : List Value} (hf : f a = .inr (ci, fs)) (hc : cl[ci]? = some (C, T, N)) (k : Nat) (hk : k < N) (hlink : (Cond.fieldLink own index ref (T k).2.1 (T k).2.2.1).before args s = true) (hsame : ∀ x, s.fieldFound? (T k).1 (T k).2.1 (T k).2.2.1 = some x → s.fieldFound? ref (T k).2.1 (T k).2.2.1 = some x) {v : Value} (hv : fs[k]? = some v) (hdg : decode cc pc = .ok (.getfield index, 3)) (kk : W p l e R s m args below meth c H locs cells slots Q (F0 m (pc + 3) ls (v :: rest))) : W p l e R s m args below meth c H locs cells slots Q (F0 m pc ls (.ref a :: rest)) := by
  obtain ⟨q0, h0⟩ := va_pl_get (X := X) (f := f) ha
  have h9 := h0
  rw [hf] at h9
  exact va_get hexec hb hts hin hown hK hP q0 h9 hc k hk hlink hsame hv hdg kk

theorem vg_put {p : Program} {l : Launch} {e : Env} {R : Room} {s : State} {m : MethodId} {args : Array Value} {below : List Frame} {meth : Method} {c : Code} {H : Heap} {locs : List Loc} {cells slots : Nat} {Q : State → Prop} {cc : ByteArray} {pc : Nat} {ls : Array Slot} {rest : List Value} {D : va_G} {cl : List vw_C} {A : Nat → Prop} {a : Nat} {tys : List (ClassId × FieldType)} {H0 : Heap} {X : va_W} {L : List Nat} {f : Nat → va_E} (hexec : p.tables.exec = Jvm.exec) (hb : c.code = cc) {own ref C : String} {T : u_T} {N ci index : Nat} {Ts : List Cond} (hts : ∀ w ∈ Ts, w.before args s = true) (hin : ∀ w ∈ u_ws C T N, w ∈ Ts) (ty0 : Nat → FieldType) (hty : ∀ k, k < N → parseFieldDescriptor (T k).2.2.1 = some (ty0 k)) (hnm : ∀ a, a < N → ∀ b, b < N → a ≠ b → (T a).2.1 ≠ (T b).2.1) (hown : s.vm.findClass own = some m.cls) (hK : va_K D cl tys s) (hP : va_P D cl (X ++ va_pl L f) H) (hD : va_D A (X ++ va_pl L f)) (hS0 : va_S A H0 H locs) (ha : a ∈ L) {fs : List Value} (hf : f a = .inr (ci, fs)) (hc : cl[ci]? = some (C, T, N)) (k : Nat) (hk : k < N) (hlink : (Cond.fieldLink own index ref (T k).2.1 (T k).2.2.1).before args s = true) (hsame : ∀ x, s.fieldFound? (T k).1 (T k).2.1 (T k).2.2.1 = some x → s.fieldFound? ref (T k).2.1 (T k).2.2.1 = some x) (hfin : (T k).2.2.2 = false) {ty : FieldType} {v : Value} (hd : parseFieldDescriptor (T k).2.2.1 = some ty) (hn : narrow ty v = v) (hfit : fits ty v = true) (hl : k < fs.length) (hdg : decode cc pc = .ok (.putfield index, 3)) (kk : ∀ (H1 : Heap) (locs1 : List Loc), va_P D cl (X ++ va_pl L (va_up f a (.inr (ci, fs.set k v)))) H1 → va_D A (X ++ va_pl L (va_up f a (.inr (ci, fs.set k v)))) → va_S A H0 H1 locs1 → W p l e R s m args below meth c H1 locs1 cells slots Q (F0 m (pc + 3) ls rest)) : W p l e R s m args below meth c H locs cells slots Q (F0 m pc ls (v :: .ref a :: rest)) := by
  obtain ⟨q0, h0⟩ := va_pl_get (X := X) (f := f) ha
  have h9 := h0
  rw [hf] at h9
  exact va_put hexec hb hts hin ty0 hty hnm hown hK hP hD hS0 q0 h9 hc k hk hlink hsame hfin hd hn hfit hl hdg (fun H1 locs1 h1 h2 h3 => kk H1 locs1 (by rw [va_pl_set hD ha h0] at h1; exact h1) (by rw [va_pl_set hD ha h0] at h2; exact h2) h3)

theorem vg_lald {p : Program} {l : Launch} {e : Env} {R : Room} {s : State} {m : MethodId} {args : Array Value} {below : List Frame} {meth : Method} {c : Code} {H : Heap} {locs : List Loc} {cells slots : Nat} {Q : State → Prop} {cc : ByteArray} {pc : Nat} {ls : Array Slot} {rest : List Value} {D : va_G} {cl : List vw_C} {a : Nat} {tys : List (ClassId × FieldType)} {X : va_W} {L : List Nat} {f : Nat → va_E} (hexec : p.tables.exec = Jvm.exec) (hb : c.code = cc) (hK : va_K D cl tys s) (hP : va_P D cl (X ++ va_pl L f) H) (t0 : Nat) {cA : ClassId} {n : Nat} {g : Nat → Int64} (ha : a ∈ L) (hf : f a = .inl (cA, n, .inr (.inl g))) (ht : tys[t0]? = some (cA, .long)) {i : Int32} (hin : vp_in i n) (hdg : decode cc pc = .ok (.laload, 1)) (kk : W p l e R s m args below meth c H locs cells slots Q (F0 m (pc + 1) ls (.long (g i.toNatClampNeg) :: rest))) : W p l e R s m args below meth c H locs cells slots Q (F0 m pc ls (.int i :: .ref a :: rest)) := by
  obtain ⟨q0, h0⟩ := va_pl_get (X := X) (f := f) ha
  have h9 := h0
  rw [hf] at h9
  exact va_lald hexec hb hK hP q0 t0 h9 ht hin hdg kk

theorem vg_last {p : Program} {l : Launch} {e : Env} {R : Room} {s : State} {m : MethodId} {args : Array Value} {below : List Frame} {meth : Method} {c : Code} {H : Heap} {locs : List Loc} {cells slots : Nat} {Q : State → Prop} {cc : ByteArray} {pc : Nat} {ls : Array Slot} {rest : List Value} {D : va_G} {cl : List vw_C} {A : Nat → Prop} {a : Nat} {tys : List (ClassId × FieldType)} {H0 : Heap} {X : va_W} {L : List Nat} {f : Nat → va_E} (hexec : p.tables.exec = Jvm.exec) (hb : c.code = cc) (hK : va_K D cl tys s) (hP : va_P D cl (X ++ va_pl L f) H) (hD : va_D A (X ++ va_pl L f)) (hS : va_S A H0 H locs) (t0 : Nat) {cA : ClassId} {n : Nat} {g : Nat → Int64} (ha : a ∈ L) (hf : f a = .inl (cA, n, .inr (.inl g))) (ht : tys[t0]? = some (cA, .long)) {i : Int32} {x : Int64} (hin : vp_in i n) (hdg : decode cc pc = .ok (.lastore, 1)) (kk : ∀ (H1 : Heap) (locs1 : List Loc), va_P D cl (X ++ va_pl L (va_up f a (.inl (cA, n, .inr (.inl (vp_updL g i.toNatClampNeg x)))))) H1 → va_D A (X ++ va_pl L (va_up f a (.inl (cA, n, .inr (.inl (vp_updL g i.toNatClampNeg x)))))) → va_S A H0 H1 locs1 → W p l e R s m args below meth c H1 locs1 cells slots Q (F0 m (pc + 1) ls rest)) : W p l e R s m args below meth c H locs cells slots Q (F0 m pc ls (.long x :: .int i :: .ref a :: rest)) := by
  obtain ⟨q0, h0⟩ := va_pl_get (X := X) (f := f) ha
  have h9 := h0
  rw [hf] at h9
  exact va_last hexec hb hK hP hD hS q0 t0 h9 ht hin hdg (fun H1 locs1 h1 h2 h3 => kk H1 locs1 (by rw [va_pl_set hD ha h0] at h1; exact h1) (by rw [va_pl_set hD ha h0] at h2; exact h2) h3)

theorem vg_alen {p : Program} {l : Launch} {e : Env} {R : Room} {s : State} {m : MethodId} {args : Array Value} {below : List Frame} {meth : Method} {c : Code} {H : Heap} {locs : List Loc} {cells slots : Nat} {Q : State → Prop} {cc : ByteArray} {pc : Nat} {ls : Array Slot} {rest : List Value} {D : va_G} {cl : List vw_C} {a : Nat} {tys : List (ClassId × FieldType)} {X : va_W} {L : List Nat} {f : Nat → va_E} (hexec : p.tables.exec = Jvm.exec) (hb : c.code = cc) (hK : va_K D cl tys s) (hP : va_P D cl (X ++ va_pl L f) H) (t0 : Nat) {cA : ClassId} {x : vp_A} (ha : a ∈ L) (hf : f a = .inl (cA, x)) {ty : FieldType} (ht : tys[t0]? = some (cA, ty)) {v : Int32} (hv : Int32.ofNat x.1 = v) (hdg : decode cc pc = .ok (.arraylength, 1)) (kk : W p l e R s m args below meth c H locs cells slots Q (F0 m (pc + 1) ls (.int v :: rest))) : W p l e R s m args below meth c H locs cells slots Q (F0 m pc ls (.ref a :: rest)) := by
  obtain ⟨q0, h0⟩ := va_pl_get (X := X) (f := f) ha
  have h9 := h0
  rw [hf] at h9
  exact va_alen hexec hb hK hP q0 t0 h9 ht hv hdg kk

theorem vg_aldq {p : Program} {l : Launch} {e : Env} {R : Room} {s : State} {m : MethodId} {args : Array Value} {below : List Frame} {meth : Method} {c : Code} {H : Heap} {locs : List Loc} {cells slots : Nat} {Q : State → Prop} {cc : ByteArray} {pc : Nat} {ls : Array Slot} {rest : List Value} {D : va_G} {cl : List vw_C} {a : Nat} {tys : List (ClassId × FieldType)} {X : va_W} {L : List Nat} {f : Nat → va_E} (hexec : p.tables.exec = Jvm.exec) (hb : c.code = cc) (hK : va_K D cl tys s) (hP : va_P D cl (X ++ va_pl L f) H) (t0 : Nat) {cA : ClassId} {C : String} {n : Nat} {g : Nat → Option Nat} (ha : a ∈ L) (hf : f a = .inl (cA, n, .inr (.inr (.inr (.inr g))))) (ht : tys[t0]? = some (cA, .object C)) {i : Int32} (hin : vp_in i n) (hdg : decode cc pc = .ok (.aaload, 1)) (kk : W p l e R s m args below meth c H locs cells slots Q (F0 m (pc + 1) ls (va_rf (g i.toNatClampNeg) :: rest))) : W p l e R s m args below meth c H locs cells slots Q (F0 m pc ls (.int i :: .ref a :: rest)) := by
  obtain ⟨q0, h0⟩ := va_pl_get (X := X) (f := f) ha
  have h9 := h0
  rw [hf] at h9
  exact va_aldq hexec hb hK hP q0 t0 h9 ht hin hdg kk

theorem vg_astq {p : Program} {l : Launch} {e : Env} {R : Room} {s : State} {m : MethodId} {args : Array Value} {below : List Frame} {meth : Method} {c : Code} {H : Heap} {locs : List Loc} {cells slots : Nat} {Q : State → Prop} {cc : ByteArray} {pc : Nat} {ls : Array Slot} {rest : List Value} {D : va_G} {cl : List vw_C} {A : Nat → Prop} {a : Nat} {tys : List (ClassId × FieldType)} {H0 : Heap} {X : va_W} {L : List Nat} {f : Nat → va_E} (hexec : p.tables.exec = Jvm.exec) (hb : c.code = cc) (hK : va_K D cl tys s) (hP : va_P D cl (X ++ va_pl L f) H) (hD : va_D A (X ++ va_pl L f)) (hS : va_S A H0 H locs) (t0 ci : Nat) {cA : ClassId} {r : vw_C} {n v : Nat} {vs : List Value} {g : Nat → Option Nat} (ha : a ∈ L) (hf : f a = .inl (cA, n, .inr (.inr (.inr (.inr g))))) (ht : tys[t0]? = some (cA, .object r.1)) (hv : v ∈ L) (hvf : f v = .inr (ci, vs)) (hc : cl[ci]? = some r) {i : Int32} (hin : vp_in i n) (hdg : decode cc pc = .ok (.aastore, 1)) (kk : ∀ (H1 : Heap) (locs1 : List Loc), va_P D cl (X ++ va_pl L (va_up f a (.inl (cA, n, .inr (.inr (.inr (.inr (va_up g i.toNatClampNeg (some v))))))))) H1 → va_D A (X ++ va_pl L (va_up f a (.inl (cA, n, .inr (.inr (.inr (.inr (va_up g i.toNatClampNeg (some v))))))))) → va_S A H0 H1 locs1 → W p l e R s m args below meth c H1 locs1 cells slots Q (F0 m (pc + 1) ls rest)) : W p l e R s m args below meth c H locs cells slots Q (F0 m pc ls (.ref v :: .int i :: .ref a :: rest)) := by
  obtain ⟨q0, h0⟩ := va_pl_get (X := X) (f := f) ha
  have h9 := h0
  rw [hf] at h9
  obtain ⟨q1, h8⟩ := va_pl_get (X := X) (f := f) hv
  rw [hvf] at h8
  exact va_astq hexec hb hK hP hD hS q0 t0 q1 ci h9 ht h8 hc hin hdg (fun H1 locs1 h1 h2 h3 => kk H1 locs1 (by rw [va_pl_set hD ha h0] at h1; exact h1) (by rw [va_pl_set hD ha h0] at h2; exact h2) h3)

theorem vg_astqN {p : Program} {l : Launch} {e : Env} {R : Room} {s : State} {m : MethodId} {args : Array Value} {below : List Frame} {meth : Method} {c : Code} {H : Heap} {locs : List Loc} {cells slots : Nat} {Q : State → Prop} {cc : ByteArray} {pc : Nat} {ls : Array Slot} {rest : List Value} {D : va_G} {cl : List vw_C} {A : Nat → Prop} {a : Nat} {tys : List (ClassId × FieldType)} {H0 : Heap} {X : va_W} {L : List Nat} {f : Nat → va_E} (hexec : p.tables.exec = Jvm.exec) (hb : c.code = cc) (hK : va_K D cl tys s) (hP : va_P D cl (X ++ va_pl L f) H) (hD : va_D A (X ++ va_pl L f)) (hS : va_S A H0 H locs) (t0 : Nat) {cA : ClassId} {C : String} {n : Nat} {g : Nat → Option Nat} (ha : a ∈ L) (hf : f a = .inl (cA, n, .inr (.inr (.inr (.inr g))))) (ht : tys[t0]? = some (cA, .object C)) {i : Int32} (hin : vp_in i n) (hdg : decode cc pc = .ok (.aastore, 1)) (kk : ∀ (H1 : Heap) (locs1 : List Loc), va_P D cl (X ++ va_pl L (va_up f a (.inl (cA, n, .inr (.inr (.inr (.inr (va_up g i.toNatClampNeg none)))))))) H1 → va_D A (X ++ va_pl L (va_up f a (.inl (cA, n, .inr (.inr (.inr (.inr (va_up g i.toNatClampNeg none)))))))) → va_S A H0 H1 locs1 → W p l e R s m args below meth c H1 locs1 cells slots Q (F0 m (pc + 1) ls rest)) : W p l e R s m args below meth c H locs cells slots Q (F0 m pc ls (.null :: .int i :: .ref a :: rest)) := by
  obtain ⟨q0, h0⟩ := va_pl_get (X := X) (f := f) ha
  have h9 := h0
  rw [hf] at h9
  exact va_astqN hexec hb hK hP hD hS q0 t0 h9 ht hin hdg (fun H1 locs1 h1 h2 h3 => kk H1 locs1 (by rw [va_pl_set hD ha h0] at h1; exact h1) (by rw [va_pl_set hD ha h0] at h2; exact h2) h3)

theorem in_X6_X6_init : ∀ w ∈ wsX60, w ∈ wsX6_init := fun w h => List.mem_cons_of_mem _ (List.mem_append_right _ h)
set_option maxHeartbeats 1000000 in
set_option maxRecDepth 100000 in
theorem met_X6_init (l : Launch) (Dg : va_G) (h0 z : Nat) (p1 : Int32) (p2 : Int64)  : Met l yX6_init wsX6_init ({ frames := 1, cells := 0, slots := 0, locals := 12 }) (va_Pc [.ref h0, .int p1, .long p2] (wB Dg [] [(h0, .inr (4, [.int 0, .long 0, .long 0]))] z)) (va_Qv (fun u : va_W => u = [(h0, .inr (4, [.int p1, .long p2, .long 0]))]) (wE Dg [] (va_A [(h0, .inr (4, [.int 0, .long 0, .long 0]))] z)) (va_A [(h0, .inr (4, [.int 0, .long 0, .long 0]))] z)) 0 0 (va_A [(h0, .inr (4, [.int 0, .long 0, .long 0]))] z) := by
  refine Met.ofW (cc := cX6_init) (maxL := 4) (ret := none) (by decide) rfl ?_
  intro p e s m args below meth c s₁ B hml hv
  obtain ⟨rfl, hsz, hP, hK, hD0⟩ := hv
  have hx := B.exec
  have hb := B.bytes
  have hr := B.returns
  have hts := atoms_spec (ws := wsX6_init) B.pre
  have hown : s.vm.findClass RX6 = some m.cls := findClass_of_methodNamed B.named
  have hlocks := B.notSynchronized
  have hinit : meth.name = "<init>" := (name_of_methodNamed B.named B.method).1
  subst hsz
  have hD := hD0.self (sz := s.heap.size)
  generalize hAe : va_A [(h0, .inr (4, [.int 0, .long 0, .long 0]))] s.heap.size = A at hD ⊢
  have hA : ∀ q : Nat, s.heap.size ≤ q → A q := fun q h => by rw [← hAe]; exact Or.inr h
  have hS : va_S A s.heap s.heap [] := va_S.rf
  have hP : va_P Dg vwCl [(h0, .inr (4, [.int 0, .long 0, .long 0]))] s.heap := hP
  have hl := lv_entry ([.ref h0, .int p1, .long p2]) (n := 4) (Nat.le_of_ble_eq_true rfl)
  rw [lg_entry_eq]
  generalize (lg_sl ([.ref h0, .int p1, .long p2]) ++ List.replicate (4 - (lg_sl ([.ref h0, .int p1, .long p2])).length) Slot.unset).toArray = ls at hl ⊢
  have hl : lv_has ls 4 [(0, .ref h0), (1, .int p1), (2, .long p2)] := hl
  refine lv_aload_n hx hb dX6_init_0 rfl (lv_at hl 0 rfl) ?_
  refine W.objInit hx hb hown (hts (.methodLink RX6 1 objectInit) (by decide +kernel)) (hts (.instanceMethod objectInit) (by decide +kernel)) (hts _ (List.mem_cons_of_mem _ (List.mem_append_left _ (List.mem_of_getElem? (i := 2) rfl)))) rfl (by rw [hml]; exact hl.1) rfl dX6_init_1 (Nat.le_of_ble_eq_true rfl) (Nat.le_of_ble_eq_true rfl) ?_
  refine W.eq (g2 := F0 m 4 ls []) rfl ?_
  refine lv_aload_n hx hb dX6_init_4 rfl (lv_at hl 0 rfl) ?_
  refine lv_lconst (v := 0) hx hb dX6_init_5 (by decide) ?_
  refine va_put (D := Dg) (ci := 4) (v := .long 0) (ty := .long) (C := RX6) (T := TX6) (N := 3) hx hb hts in_X6_X6_init tyX6 tyX6_ok nmX6 hown hK hP hD hS 0 rfl rfl 2 (by decide) (hts (.fieldLink RX6 7 "OrreryWorks$Wheel" "position" "J") (by decide +kernel)) (fun _ h9 => h9) rfl (by decide +kernel) rfl rfl (Nat.le_of_ble_eq_true rfl) dX6_init_6 (fun H locs hP hD hS => ?_)
  have hP : va_P Dg vwCl [(h0, .inr (4, [.int 0, .long 0, .long 0]))] H := hP
  have hD : va_D A [(h0, .inr (4, [.int 0, .long 0, .long 0]))] := hD
  refine lv_aload_n hx hb dX6_init_9 rfl (lv_at hl 0 rfl) ?_
  refine lv_iload_n hx hb dX6_init_10 rfl (lv_at hl 1 rfl) ?_
  refine va_putF (D := Dg) (ci := 4) (v := .int p1) (ty := .int) (C := RX6) (T := TX6) (N := 3) hx hb hts in_X6_X6_init tyX6 tyX6_ok nmX6 hown hK hP hD hS 0 rfl rfl 0 (by decide) (hts (.fieldLink RX6 13 "OrreryWorks$Wheel" "kind" "I") (by decide +kernel)) (fun _ h9 => h9) rfl hinit rfl (by decide +kernel) rfl rfl (Nat.le_of_ble_eq_true rfl) dX6_init_11 (fun H locs hP hD hS => ?_)
  have hP : va_P Dg vwCl [(h0, .inr (4, [.int p1, .long 0, .long 0]))] H := hP
  have hD : va_D A [(h0, .inr (4, [.int p1, .long 0, .long 0]))] := hD
  refine lv_aload_n hx hb dX6_init_14 rfl (lv_at hl 0 rfl) ?_
  refine lv_lload_n hx hb dX6_init_15 rfl (lv_at hl 2 rfl) ?_
  refine va_putF (D := Dg) (ci := 4) (v := .long p2) (ty := .long) (C := RX6) (T := TX6) (N := 3) hx hb hts in_X6_X6_init tyX6 tyX6_ok nmX6 hown hK hP hD hS 0 rfl rfl 1 (by decide) (hts (.fieldLink RX6 17 "OrreryWorks$Wheel" "turn" "J") (by decide +kernel)) (fun _ h9 => h9) rfl hinit rfl (by decide +kernel) rfl rfl (Nat.le_of_ble_eq_true rfl) dX6_init_16 (fun H locs hP hD hS => ?_)
  have hP : va_P Dg vwCl [(h0, .inr (4, [.int p1, .long p2, .long 0]))] H := hP
  have hD : va_D A [(h0, .inr (4, [.int p1, .long p2, .long 0]))] := hD
  exact W.vret hx hb hr (fun t ht hW => ⟨⟨[(h0, .inr (4, [.int p1, .long p2, .long 0]))], rfl, rfl, by rw [ht]; exact hP, va_K.moved hW.alike (hK.sub (tys' := []) [] rfl), hD⟩, hS.F ht⟩) hS.2.2 dX6_init_19

theorem in_X3_X3_init : ∀ w ∈ wsX30, w ∈ wsX3_init := fun w h => List.mem_cons_of_mem _ (List.mem_append_right _ h)
set_option maxHeartbeats 1000000 in
set_option maxRecDepth 100000 in
theorem met_X3_init (l : Launch) (Dg : va_G) (h0 z : Nat) (p1 : Int32)  : Met l yX3_init wsX3_init ({ frames := 1, cells := 0, slots := 0, locals := 12 }) (va_Pc [.ref h0, .int p1] (wB Dg [] [(h0, .inr (1, [.int 0, .long 0]))] z)) (va_Qv (fun u : va_W => u = [(h0, .inr (1, [.int p1, .long 0]))]) (wE Dg [] (va_A [(h0, .inr (1, [.int 0, .long 0]))] z)) (va_A [(h0, .inr (1, [.int 0, .long 0]))] z)) 0 0 (va_A [(h0, .inr (1, [.int 0, .long 0]))] z) := by
  refine Met.ofW (cc := cX3_init) (maxL := 2) (ret := none) (by decide) rfl ?_
  intro p e s m args below meth c s₁ B hml hv
  obtain ⟨rfl, hsz, hP, hK, hD0⟩ := hv
  have hx := B.exec
  have hb := B.bytes
  have hr := B.returns
  have hts := atoms_spec (ws := wsX3_init) B.pre
  have hown : s.vm.findClass RX3 = some m.cls := findClass_of_methodNamed B.named
  have hlocks := B.notSynchronized
  have hinit : meth.name = "<init>" := (name_of_methodNamed B.named B.method).1
  subst hsz
  have hD := hD0.self (sz := s.heap.size)
  generalize hAe : va_A [(h0, .inr (1, [.int 0, .long 0]))] s.heap.size = A at hD ⊢
  have hA : ∀ q : Nat, s.heap.size ≤ q → A q := fun q h => by rw [← hAe]; exact Or.inr h
  have hS : va_S A s.heap s.heap [] := va_S.rf
  have hP : va_P Dg vwCl [(h0, .inr (1, [.int 0, .long 0]))] s.heap := hP
  have hl := lv_entry ([.ref h0, .int p1]) (n := 2) (Nat.le_of_ble_eq_true rfl)
  rw [lg_entry_eq]
  generalize (lg_sl ([.ref h0, .int p1]) ++ List.replicate (2 - (lg_sl ([.ref h0, .int p1])).length) Slot.unset).toArray = ls at hl ⊢
  have hl : lv_has ls 2 [(0, .ref h0), (1, .int p1)] := hl
  refine lv_aload_n hx hb dX3_init_0 rfl (lv_at hl 0 rfl) ?_
  refine W.objInit hx hb hown (hts (.methodLink RX3 1 objectInit) (by decide +kernel)) (hts (.instanceMethod objectInit) (by decide +kernel)) (hts _ (List.mem_cons_of_mem _ (List.mem_append_left _ (List.mem_of_getElem? (i := 2) rfl)))) rfl (by rw [hml]; exact hl.1) rfl dX3_init_1 (Nat.le_of_ble_eq_true rfl) (Nat.le_of_ble_eq_true rfl) ?_
  refine W.eq (g2 := F0 m 4 ls []) rfl ?_
  refine lv_aload_n hx hb dX3_init_4 rfl (lv_at hl 0 rfl) ?_
  refine lv_lconst (v := 0) hx hb dX3_init_5 (by decide) ?_
  refine va_put (D := Dg) (ci := 1) (v := .long 0) (ty := .long) (C := RX3) (T := TX3) (N := 2) hx hb hts in_X3_X3_init tyX3 tyX3_ok nmX3 hown hK hP hD hS 0 rfl rfl 1 (by decide) (hts (.fieldLink RX3 7 "OrreryWorks$Register" "bits" "J") (by decide +kernel)) (fun _ h9 => h9) rfl (by decide +kernel) rfl rfl (Nat.le_of_ble_eq_true rfl) dX3_init_6 (fun H locs hP hD hS => ?_)
  have hP : va_P Dg vwCl [(h0, .inr (1, [.int 0, .long 0]))] H := hP
  have hD : va_D A [(h0, .inr (1, [.int 0, .long 0]))] := hD
  refine lv_aload_n hx hb dX3_init_9 rfl (lv_at hl 0 rfl) ?_
  refine lv_iload_n hx hb dX3_init_10 rfl (lv_at hl 1 rfl) ?_
  refine va_putF (D := Dg) (ci := 1) (v := .int p1) (ty := .int) (C := RX3) (T := TX3) (N := 2) hx hb hts in_X3_X3_init tyX3 tyX3_ok nmX3 hown hK hP hD hS 0 rfl rfl 0 (by decide) (hts (.fieldLink RX3 13 "OrreryWorks$Register" "kind" "I") (by decide +kernel)) (fun _ h9 => h9) rfl hinit rfl (by decide +kernel) rfl rfl (Nat.le_of_ble_eq_true rfl) dX3_init_11 (fun H locs hP hD hS => ?_)
  have hP : va_P Dg vwCl [(h0, .inr (1, [.int p1, .long 0]))] H := hP
  have hD : va_D A [(h0, .inr (1, [.int p1, .long 0]))] := hD
  exact W.vret hx hb hr (fun t ht hW => ⟨⟨[(h0, .inr (1, [.int p1, .long 0]))], rfl, rfl, by rw [ht]; exact hP, va_K.moved hW.alike (hK.sub (tys' := []) [] rfl), hD⟩, hS.F ht⟩) hS.2.2 dX3_init_14

theorem in_X1_X1_init : ∀ w ∈ wsX10, w ∈ wsX1_init := fun w h => List.mem_cons_of_mem _ (List.mem_append_right _ h)
set_option maxHeartbeats 1000000 in
set_option maxRecDepth 100000 in
theorem met_X1_init (l : Launch) (Dg : va_G) (h0 z w0 : Nat) (p1 : Int32)  : Met l yX1_init wsX1_init ({ frames := 1, cells := 0, slots := 0, locals := 12 }) (va_Pc [.ref h0, .int p1, .ref w0] (wB Dg [] [(h0, .inr (0, [.int 0, .null]))] z)) (va_Qv (fun u : va_W => u = [(h0, .inr (0, [.int p1, .ref w0]))]) (wE Dg [] (va_A [(h0, .inr (0, [.int 0, .null]))] z)) (va_A [(h0, .inr (0, [.int 0, .null]))] z)) 0 0 (va_A [(h0, .inr (0, [.int 0, .null]))] z) := by
  refine Met.ofW (cc := cX1_init) (maxL := 3) (ret := none) (by decide) rfl ?_
  intro p e s m args below meth c s₁ B hml hv
  obtain ⟨rfl, hsz, hP, hK, hD0⟩ := hv
  have hx := B.exec
  have hb := B.bytes
  have hr := B.returns
  have hts := atoms_spec (ws := wsX1_init) B.pre
  have hown : s.vm.findClass RX1 = some m.cls := findClass_of_methodNamed B.named
  have hlocks := B.notSynchronized
  have hinit : meth.name = "<init>" := (name_of_methodNamed B.named B.method).1
  subst hsz
  have hD := hD0.self (sz := s.heap.size)
  generalize hAe : va_A [(h0, .inr (0, [.int 0, .null]))] s.heap.size = A at hD ⊢
  have hA : ∀ q : Nat, s.heap.size ≤ q → A q := fun q h => by rw [← hAe]; exact Or.inr h
  have hS : va_S A s.heap s.heap [] := va_S.rf
  have hP : va_P Dg vwCl [(h0, .inr (0, [.int 0, .null]))] s.heap := hP
  have hl := lv_entry ([.ref h0, .int p1, .ref w0]) (n := 3) (Nat.le_of_ble_eq_true rfl)
  rw [lg_entry_eq]
  generalize (lg_sl ([.ref h0, .int p1, .ref w0]) ++ List.replicate (3 - (lg_sl ([.ref h0, .int p1, .ref w0])).length) Slot.unset).toArray = ls at hl ⊢
  have hl : lv_has ls 3 [(0, .ref h0), (1, .int p1), (2, .ref w0)] := hl
  refine lv_aload_n hx hb dX1_init_0 rfl (lv_at hl 0 rfl) ?_
  refine W.objInit hx hb hown (hts (.methodLink RX1 3 objectInit) (by decide +kernel)) (hts (.instanceMethod objectInit) (by decide +kernel)) (hts _ (List.mem_cons_of_mem _ (List.mem_append_left _ (List.mem_of_getElem? (i := 2) rfl)))) rfl (by rw [hml]; exact hl.1) rfl dX1_init_1 (Nat.le_of_ble_eq_true rfl) (Nat.le_of_ble_eq_true rfl) ?_
  refine W.eq (g2 := F0 m 4 ls []) rfl ?_
  refine lv_aload_n hx hb dX1_init_4 rfl (lv_at hl 0 rfl) ?_
  refine lv_iload_n hx hb dX1_init_5 rfl (lv_at hl 1 rfl) ?_
  refine va_putF (D := Dg) (ci := 0) (v := .int p1) (ty := .int) (C := RX1) (T := TX1) (N := 2) hx hb hts in_X1_X1_init tyX1 tyX1_ok nmX1 hown hK hP hD hS 0 rfl rfl 0 (by decide) (hts (.fieldLink RX1 9 "OrreryWorks$Pointer" "sort" "I") (by decide +kernel)) (fun _ h9 => h9) rfl hinit rfl (by decide +kernel) rfl rfl (Nat.le_of_ble_eq_true rfl) dX1_init_6 (fun H locs hP hD hS => ?_)
  have hP : va_P Dg vwCl [(h0, .inr (0, [.int p1, .null]))] H := hP
  have hD : va_D A [(h0, .inr (0, [.int p1, .null]))] := hD
  refine lv_aload_n hx hb dX1_init_9 rfl (lv_at hl 0 rfl) ?_
  refine lv_aload_n hx hb dX1_init_10 rfl (lv_at hl 2 rfl) ?_
  refine va_putF (D := Dg) (ci := 0) (v := .ref w0) (ty := .object "OrreryWorks$Wheel") (C := RX1) (T := TX1) (N := 2) hx hb hts in_X1_X1_init tyX1 tyX1_ok nmX1 hown hK hP hD hS 0 rfl rfl 1 (by decide) (hts (.fieldLink RX1 15 "OrreryWorks$Pointer" "wheel" "LOrreryWorks$Wheel;") (by decide +kernel)) (fun _ h9 => h9) rfl hinit rfl (by decide +kernel) rfl rfl (Nat.le_of_ble_eq_true rfl) dX1_init_11 (fun H locs hP hD hS => ?_)
  have hP : va_P Dg vwCl [(h0, .inr (0, [.int p1, .ref w0]))] H := hP
  have hD : va_D A [(h0, .inr (0, [.int p1, .ref w0]))] := hD
  exact W.vret hx hb hr (fun t ht hW => ⟨⟨[(h0, .inr (0, [.int p1, .ref w0]))], rfl, rfl, by rw [ht]; exact hP, va_K.moved hW.alike (hK.sub (tys' := []) [] rfl), hD⟩, hS.F ht⟩) hS.2.2 dX1_init_14

theorem in_X5_X5_init : ∀ w ∈ wsX50, w ∈ wsX5_init := fun w h => List.mem_cons_of_mem _ (List.mem_append_right _ h)
set_option maxHeartbeats 1000000 in
set_option maxRecDepth 100000 in
theorem met_X5_init (l : Launch) (Dg : va_G) (h0 z : Nat) (zl : ClassId) (p1 : Int32) (p2 : Int32) (hb2 : bnd p2 16) : Met l yX5_init wsX5_init ({ frames := 1, cells := 1, slots := 16, locals := 12 }) (va_Pc [.ref h0, .int p1, .int p2] (wB Dg [(zl, .long)] [(h0, .inr (3, [.int 0, .null]))] z)) (va_Qv (fun u : va_W => ∃ q, u = [(h0, .inr (3, [.int p1, .ref q])), (q, .inl (zl, ix p2, .inr (.inl (fun _ => 0))))]) (wE Dg [(zl, .long)] (va_A [(h0, .inr (3, [.int 0, .null]))] z)) (va_A [(h0, .inr (3, [.int 0, .null]))] z)) 1 16 (va_A [(h0, .inr (3, [.int 0, .null]))] z) := by
  refine Met.ofW (cc := cX5_init) (maxL := 3) (ret := none) (by decide) rfl ?_
  intro p e s m args below meth c s₁ B hml hv
  obtain ⟨rfl, hsz, hP, hK, hD0⟩ := hv
  have hx := B.exec
  have hb := B.bytes
  have hr := B.returns
  have hts := atoms_spec (ws := wsX5_init) B.pre
  have hown : s.vm.findClass RX5 = some m.cls := findClass_of_methodNamed B.named
  have hlocks := B.notSynchronized
  have hinit : meth.name = "<init>" := (name_of_methodNamed B.named B.method).1
  subst hsz
  have hD := hD0.self (sz := s.heap.size)
  generalize hAe : va_A [(h0, .inr (3, [.int 0, .null]))] s.heap.size = A at hD ⊢
  have hA : ∀ q : Nat, s.heap.size ≤ q → A q := fun q h => by rw [← hAe]; exact Or.inr h
  have hS : va_S A s.heap s.heap [] := va_S.rf
  have hP : va_P Dg vwCl [(h0, .inr (3, [.int 0, .null]))] s.heap := hP
  have hl := lv_entry ([.ref h0, .int p1, .int p2]) (n := 3) (Nat.le_of_ble_eq_true rfl)
  rw [lg_entry_eq]
  generalize (lg_sl ([.ref h0, .int p1, .int p2]) ++ List.replicate (3 - (lg_sl ([.ref h0, .int p1, .int p2])).length) Slot.unset).toArray = ls at hl ⊢
  have hl : lv_has ls 3 [(0, .ref h0), (1, .int p1), (2, .int p2)] := hl
  have hn0 : ¬ p2 < 0 := fun g => by rw [Int32.lt_iff_toInt_lt] at g; have : (0 : Int32).toInt = 0 := rfl; have := hb2.1; omega
  have hn1 : ix p2 ≤ 16 := by have := hb2.2; show p2.toInt.toNat ≤ 16; omega
  have hn2 : ix p2 * componentBytes .long ≤ 536870912 := by have e8 : componentBytes .long = 8 := rfl; rw [e8]; omega
  refine lv_aload_n hx hb dX5_init_0 rfl (lv_at hl 0 rfl) ?_
  refine W.objInit hx hb hown (hts (.methodLink RX5 1 objectInit) (by decide +kernel)) (hts (.instanceMethod objectInit) (by decide +kernel)) (hts _ (List.mem_cons_of_mem _ (List.mem_append_left _ (List.mem_of_getElem? (i := 2) rfl)))) rfl (by rw [hml]; exact hl.1) rfl dX5_init_1 (Nat.le_of_ble_eq_true rfl) (Nat.le_of_ble_eq_true rfl) ?_
  refine W.eq (g2 := F0 m 4 ls []) rfl ?_
  refine lv_aload_n hx hb dX5_init_4 rfl (lv_at hl 0 rfl) ?_
  refine lv_iload_n hx hb dX5_init_5 rfl (lv_at hl 1 rfl) ?_
  refine va_putF (D := Dg) (ci := 3) (v := .int p1) (ty := .int) (C := RX5) (T := TX5) (N := 2) hx hb hts in_X5_X5_init tyX5 tyX5_ok nmX5 hown hK hP hD hS 0 rfl rfl 0 (by decide) (hts (.fieldLink RX5 7 "OrreryWorks$Strip" "lane" "I") (by decide +kernel)) (fun _ h9 => h9) rfl hinit rfl (by decide +kernel) rfl rfl (Nat.le_of_ble_eq_true rfl) dX5_init_6 (fun H locs hP hD hS => ?_)
  have hP : va_P Dg vwCl [(h0, .inr (3, [.int p1, .null]))] H := hP
  have hD : va_D A [(h0, .inr (3, [.int p1, .null]))] := hD
  refine lv_aload_n hx hb dX5_init_9 rfl (lv_at hl 0 rfl) ?_
  refine lv_iload_n hx hb dX5_init_10 rfl (lv_at hl 2 rfl) ?_
  refine va_newa (atype := .long) (tys := [(zl, .long)]) (ty := .long) (N' := ix p2) (a0 := (ix p2, .inr (.inl (fun _ => 0)))) hx hb (hts (.arrayClass .long) (by decide +kernel)) rfl hK hP hD hS hA (fun _ => cell_J _ _) hn0 rfl hn2 (Nat.le_refl _) (by show 0 + ix p2 ≤ 16; omega) dX5_init_11 (fun q cA H hK hP hD hS => ?_)
  obtain rfl : zl = cA := ra_long (hK.2 1 (cA, .long) rfl).2 (hK.2 0 (zl, .long) rfl).2
  have hP : va_P Dg vwCl [(h0, .inr (3, [.int p1, .null])), (q, .inl (zl, ix p2, .inr (.inl (fun _ => 0))))] H := hP
  have hD : va_D A [(h0, .inr (3, [.int p1, .null])), (q, .inl (zl, ix p2, .inr (.inl (fun _ => 0))))] := hD
  refine va_put (D := Dg) (ci := 3) (v := .ref q) (ty := .array .long) (C := RX5) (T := TX5) (N := 2) hx hb hts in_X5_X5_init tyX5 tyX5_ok nmX5 hown hK hP hD hS 0 rfl rfl 1 (by decide) (hts (.fieldLink RX5 13 "OrreryWorks$Strip" "places" "[J") (by decide +kernel)) (fun _ h9 => h9) rfl (by decide +kernel) rfl rfl (Nat.le_of_ble_eq_true rfl) dX5_init_13 (fun H locs hP hD hS => ?_)
  have hP : va_P Dg vwCl [(h0, .inr (3, [.int p1, .ref q])), (q, .inl (zl, ix p2, .inr (.inl (fun _ => 0))))] H := hP
  have hD : va_D A [(h0, .inr (3, [.int p1, .ref q])), (q, .inl (zl, ix p2, .inr (.inl (fun _ => 0))))] := hD
  refine W.widen (k := 1) (n := 16) (Nat.le_refl _) (by show 0 + ix p2 ≤ 16; omega) ?_
  exact W.vret hx hb hr (fun t ht hW => ⟨⟨[(h0, .inr (3, [.int p1, .ref q])), (q, .inl (zl, ix p2, .inr (.inl (fun _ => 0))))], rfl, ⟨q, rfl⟩, by rw [ht]; exact hP, va_K.moved hW.alike (hK.sub (tys' := [(zl, .long)]) [0] rfl), hD⟩, hS.F ht⟩) hS.2.2 dX5_init_16

theorem in_X4_X4_init : ∀ w ∈ wsX40, w ∈ wsX4_init := fun w h => List.mem_cons_of_mem _ (List.mem_append_right _ h)
set_option maxHeartbeats 1000000 in
set_option maxRecDepth 100000 in
theorem met_X4_init (l : Launch) (Dg : va_G) (h0 z : Nat) (zl : ClassId) (p1 : Int32) (p2 : Int32) (hb2 : bnd p2 6) : Met l yX4_init wsX4_init ({ frames := 1, cells := 1, slots := 6, locals := 12 }) (va_Pc [.ref h0, .int p1, .int p2] (wBO RX1 Dg [(zl, .object RX1)] [(h0, .inr (2, [.int 0, .null]))] z)) (va_Qv (fun u : va_W => ∃ q, u = [(h0, .inr (2, [.int p1, .ref q])), (q, .inl (zl, ix p2, .inr (.inr (.inr (.inr (fun _ => none))))))]) (wE Dg [(zl, .object RX1)] (va_A [(h0, .inr (2, [.int 0, .null]))] z)) (va_A [(h0, .inr (2, [.int 0, .null]))] z)) 1 6 (va_A [(h0, .inr (2, [.int 0, .null]))] z) := by
  refine Met.ofW (cc := cX4_init) (maxL := 3) (ret := none) (by decide) rfl ?_
  intro p e s m args below meth c s₁ B hml hv
  obtain ⟨rfl, hao, hsz, hP, hK, hD0⟩ := hv
  have hx := B.exec
  have hb := B.bytes
  have hr := B.returns
  have hts := atoms_spec (ws := wsX4_init) B.pre
  have hown : s.vm.findClass RX4 = some m.cls := findClass_of_methodNamed B.named
  have hlocks := B.notSynchronized
  have hinit : meth.name = "<init>" := (name_of_methodNamed B.named B.method).1
  subst hsz
  have hD := hD0.self (sz := s.heap.size)
  generalize hAe : va_A [(h0, .inr (2, [.int 0, .null]))] s.heap.size = A at hD ⊢
  have hA : ∀ q : Nat, s.heap.size ≤ q → A q := fun q h => by rw [← hAe]; exact Or.inr h
  have hS : va_S A s.heap s.heap [] := va_S.rf
  have hP : va_P Dg vwCl [(h0, .inr (2, [.int 0, .null]))] s.heap := hP
  have hl := lv_entry ([.ref h0, .int p1, .int p2]) (n := 3) (Nat.le_of_ble_eq_true rfl)
  rw [lg_entry_eq]
  generalize (lg_sl ([.ref h0, .int p1, .int p2]) ++ List.replicate (3 - (lg_sl ([.ref h0, .int p1, .int p2])).length) Slot.unset).toArray = ls at hl ⊢
  have hl : lv_has ls 3 [(0, .ref h0), (1, .int p1), (2, .int p2)] := hl
  have hn0 : ¬ p2 < 0 := fun g => by rw [Int32.lt_iff_toInt_lt] at g; have : (0 : Int32).toInt = 0 := rfl; have := hb2.1; omega
  have hn1 : ix p2 ≤ 6 := by have := hb2.2; show p2.toInt.toNat ≤ 6; omega
  have hn2 : ix p2 * 4 ≤ 536870912 := by omega
  refine lv_aload_n hx hb dX4_init_0 rfl (lv_at hl 0 rfl) ?_
  refine W.objInit hx hb hown (hts (.methodLink RX4 3 objectInit) (by decide +kernel)) (hts (.instanceMethod objectInit) (by decide +kernel)) (hts _ (List.mem_cons_of_mem _ (List.mem_append_left _ (List.mem_of_getElem? (i := 2) rfl)))) rfl (by rw [hml]; exact hl.1) rfl dX4_init_1 (Nat.le_of_ble_eq_true rfl) (Nat.le_of_ble_eq_true rfl) ?_
  refine W.eq (g2 := F0 m 4 ls []) rfl ?_
  refine lv_aload_n hx hb dX4_init_4 rfl (lv_at hl 0 rfl) ?_
  refine lv_iload_n hx hb dX4_init_5 rfl (lv_at hl 1 rfl) ?_
  refine va_putF (D := Dg) (ci := 2) (v := .int p1) (ty := .int) (C := RX4) (T := TX4) (N := 2) hx hb hts in_X4_X4_init tyX4 tyX4_ok nmX4 hown hK hP hD hS 0 rfl rfl 0 (by decide) (hts (.fieldLink RX4 9 "OrreryWorks$Stand" "sort" "I") (by decide +kernel)) (fun _ h9 => h9) rfl hinit rfl (by decide +kernel) rfl rfl (Nat.le_of_ble_eq_true rfl) dX4_init_6 (fun H locs hP hD hS => ?_)
  have hP : va_P Dg vwCl [(h0, .inr (2, [.int p1, .null]))] H := hP
  have hD : va_D A [(h0, .inr (2, [.int p1, .null]))] := hD
  refine lv_aload_n hx hb dX4_init_9 rfl (lv_at hl 0 rfl) ?_
  refine lv_iload_n hx hb dX4_init_10 rfl (lv_at hl 2 rfl) ?_
  refine va_newq (tys := [(zl, .object RX1)]) (N' := ix p2) hx hb hown (hts (.classLink RX4 15 RX1) (by decide +kernel)) hao hK hP hD hS hA hn0 rfl hn2 (Nat.le_refl _) (by show 0 + ix p2 ≤ 6; omega) dX4_init_11 (fun q cA H hK hP hD hS => ?_)
  obtain rfl : zl = cA := ra_obj (hK.2 1 (cA, .object RX1) rfl).2 (hK.2 0 (zl, .object RX1) rfl).2
  have hP : va_P Dg vwCl [(h0, .inr (2, [.int p1, .null])), (q, .inl (zl, ix p2, .inr (.inr (.inr (.inr (fun _ => none))))))] H := hP
  have hD : va_D A [(h0, .inr (2, [.int p1, .null])), (q, .inl (zl, ix p2, .inr (.inr (.inr (.inr (fun _ => none))))))] := hD
  refine va_putF (D := Dg) (ci := 2) (v := .ref q) (ty := .array (.object "OrreryWorks$Pointer")) (C := RX4) (T := TX4) (N := 2) hx hb hts in_X4_X4_init tyX4 tyX4_ok nmX4 hown hK hP hD hS 0 rfl rfl 1 (by decide) (hts (.fieldLink RX4 17 "OrreryWorks$Stand" "places" "[LOrreryWorks$Pointer;") (by decide +kernel)) (fun _ h9 => h9) rfl hinit rfl (by decide +kernel) rfl rfl (Nat.le_of_ble_eq_true rfl) dX4_init_14 (fun H locs hP hD hS => ?_)
  have hP : va_P Dg vwCl [(h0, .inr (2, [.int p1, .ref q])), (q, .inl (zl, ix p2, .inr (.inr (.inr (.inr (fun _ => none))))))] H := hP
  have hD : va_D A [(h0, .inr (2, [.int p1, .ref q])), (q, .inl (zl, ix p2, .inr (.inr (.inr (.inr (fun _ => none))))))] := hD
  refine W.widen (k := 1) (n := 6) (Nat.le_refl _) (by show 0 + ix p2 ≤ 6; omega) ?_
  exact W.vret hx hb hr (fun t ht hW => ⟨⟨[(h0, .inr (2, [.int p1, .ref q])), (q, .inl (zl, ix p2, .inr (.inr (.inr (.inr (fun _ => none))))))], rfl, ⟨q, rfl⟩, by rw [ht]; exact hP, va_K.moved hW.alike (hK.sub (tys' := [(zl, .object RX1)]) [0] rfl), hD⟩, hS.F ht⟩) hS.2.2 dX4_init_17

theorem in_X4_X4_hasPlace : ∀ w ∈ wsX40, w ∈ wsX4_hasPlace := fun w h => List.mem_cons_of_mem _ (List.mem_append_right _ h)
set_option maxHeartbeats 1000000 in
set_option maxRecDepth 100000 in
theorem met_X4_hasPlace (l : Launch) (Dg : va_G) (h0 u0 : Nat) (zl : ClassId) (k n : Int32) (g : Nat → Option Nat) (p1 : Int32) (hN : 1 ≤ n.toInt ∧ n.toInt ≤ 6) : Met l yX4_hasPlace wsX4_hasPlace ({ frames := 0, cells := 0, slots := 0, locals := 0 }) (va_Pc [.ref h0, .int p1] (rB Dg [(zl, .object RX1)] [(h0, .inr (2, [.int k, .ref u0])), (u0, .inl (zl, ix n, .inr (.inr (.inr (.inr g)))))])) (vp_Si (fun r => r = bI (fX8_isIn p1 0 (n - 1)))) 0 0 (fun _ => False) := by
  refine Met.ofW (cc := cX4_hasPlace) (maxL := 2) (ret := (some .boolean)) (by decide) rfl ?_
  intro p e s m args below meth c s₁ B hml hv
  obtain ⟨rfl, hP, hK⟩ := hv
  have hx := B.exec
  have hb := B.bytes
  have hr := B.returns
  have hts := atoms_spec (ws := wsX4_hasPlace) B.pre
  have hown : s.vm.findClass RX4 = some m.cls := findClass_of_methodNamed B.named
  have hlocks := B.notSynchronized
  have hl := lv_entry ([.ref h0, .int p1]) (n := 2) (Nat.le_of_ble_eq_true rfl)
  rw [lg_entry_eq]
  generalize (lg_sl ([.ref h0, .int p1]) ++ List.replicate (2 - (lg_sl ([.ref h0, .int p1])).length) Slot.unset).toArray = ls at hl ⊢
  have hl : lv_has ls 2 [(0, .ref h0), (1, .int p1)] := hl
  refine lv_iload_n hx hb dX4_hasPlace_0 rfl (lv_at hl 1 rfl) ?_
  refine lv_if_lt (tgt := 17) hx hb dX4_hasPlace_1 (by decide) (fun c_1 => ?_) (fun c_1 => ?_)
  · refine lv_iconst (v := 0) hx hb dX4_hasPlace_17 (by decide) ?_
    exact W.zret (v := 0) hx hb hr (by decide) (fun t ht hW => ⟨_, rfl, (by have hh := has_eq (i := p1) hN; simp only [if_pos c_1] at hh; rw [← hh]; rfl), ht⟩) (fun q hq => absurd hq List.not_mem_nil) dX4_hasPlace_18
  · refine lv_iload_n hx hb dX4_hasPlace_4 rfl (lv_at hl 1 rfl) ?_
    refine lv_aload_n hx hb dX4_hasPlace_5 rfl (lv_at hl 0 rfl) ?_
    refine va_get (D := Dg) (ci := 2) (v := .ref u0) (C := RX4) (T := TX4) (N := 2) hx hb hts in_X4_X4_hasPlace hown hK hP 0 rfl rfl 1 (by decide) (hts (.fieldLink RX4 17 "OrreryWorks$Stand" "places" "[LOrreryWorks$Pointer;") (by decide +kernel)) (fun _ h9 => h9) rfl dX4_hasPlace_6 ?_
    refine va_alen hx hb hK hP 1 0 rfl rfl (v := n) (len_eq hN) dX4_hasPlace_9 ?_
    refine lv_icmp_ge (tgt := 17) hx hb dX4_hasPlace_10 (by decide) (fun c_2 => ?_) (fun c_2 => ?_)
    · refine lv_iconst (v := 0) hx hb dX4_hasPlace_17 (by decide) ?_
      exact W.zret (v := 0) hx hb hr (by decide) (fun t ht hW => ⟨_, rfl, (by have hh := has_eq (i := p1) hN; simp only [if_neg c_1, if_pos c_2] at hh; rw [← hh]; rfl), ht⟩) (fun q hq => absurd hq List.not_mem_nil) dX4_hasPlace_18
    · refine lv_iconst (v := 1) hx hb dX4_hasPlace_13 (by decide) ?_
      refine lv_goto (tgt := 18) hx hb dX4_hasPlace_14 (by decide) ?_
      exact W.zret (v := 1) hx hb hr (by decide) (fun t ht hW => ⟨_, rfl, (by have hh := has_eq (i := p1) hN; simp only [if_neg c_1, if_neg c_2] at hh; rw [← hh]; rfl), ht⟩) (fun q hq => absurd hq List.not_mem_nil) dX4_hasPlace_18

theorem in_X4_X4_isWideFor : ∀ w ∈ wsX40, w ∈ wsX4_isWideFor := fun w h => List.mem_cons_of_mem _ (List.mem_append_right _ h)
set_option maxHeartbeats 1000000 in
set_option maxRecDepth 100000 in
theorem met_X4_isWideFor (l : Launch) (Dg : va_G) (h0 u0 : Nat) (k : Int32) (p1 : Int32) (hk : isK k) (hp : isK p1) : Met l yX4_isWideFor wsX4_isWideFor ({ frames := 0, cells := 0, slots := 0, locals := 0 }) (va_Pc [.ref h0, .int p1] (rB Dg [] [(h0, .inr (2, [.int k, .ref u0]))])) (vp_Si (fun r => r = bI (fX8_holds k p1))) 0 0 (fun _ => False) := by
  refine Met.ofW (cc := cX4_isWideFor) (maxL := 2) (ret := (some .boolean)) (by decide) rfl ?_
  intro p e s m args below meth c s₁ B hml hv
  obtain ⟨rfl, hP, hK⟩ := hv
  have hx := B.exec
  have hb := B.bytes
  have hr := B.returns
  have hts := atoms_spec (ws := wsX4_isWideFor) B.pre
  have hown : s.vm.findClass RX4 = some m.cls := findClass_of_methodNamed B.named
  have hlocks := B.notSynchronized
  have hl := lv_entry ([.ref h0, .int p1]) (n := 2) (Nat.le_of_ble_eq_true rfl)
  rw [lg_entry_eq]
  generalize (lg_sl ([.ref h0, .int p1]) ++ List.replicate (2 - (lg_sl ([.ref h0, .int p1])).length) Slot.unset).toArray = ls at hl ⊢
  have hl : lv_has ls 2 [(0, .ref h0), (1, .int p1)] := hl
  refine lv_aload_n hx hb dX4_isWideFor_0 rfl (lv_at hl 0 rfl) ?_
  refine va_get (D := Dg) (ci := 2) (v := .int k) (C := RX4) (T := TX4) (N := 2) hx hb hts in_X4_X4_isWideFor hown hK hP 0 rfl rfl 0 (by decide) (hts (.fieldLink RX4 9 "OrreryWorks$Stand" "sort" "I") (by decide +kernel)) (fun _ h9 => h9) rfl dX4_isWideFor_1 ?_
  refine lv_iconst (v := 3) hx hb dX4_isWideFor_4 (by decide) ?_
  refine lv_icmp_eq (tgt := 21) hx hb dX4_isWideFor_5 (by decide) (fun c_1 => ?_) (fun c_1 => ?_)
  · refine lv_iconst (v := 1) hx hb dX4_isWideFor_21 (by decide) ?_
    refine lv_goto (tgt := 26) hx hb dX4_isWideFor_22 (by decide) ?_
    exact W.zret (v := 1) hx hb hr (by decide) (fun t ht hW => ⟨_, rfl, (by have hh := wide_eq hk hp; simp only [if_pos c_1] at hh; rw [← hh]; rfl), ht⟩) (fun q hq => absurd hq List.not_mem_nil) dX4_isWideFor_26
  · refine lv_iload_n hx hb dX4_isWideFor_8 rfl (lv_at hl 1 rfl) ?_
    refine lv_iconst (v := 3) hx hb dX4_isWideFor_9 (by decide) ?_
    refine lv_icmp_eq (tgt := 25) hx hb dX4_isWideFor_10 (by decide) (fun c_2 => ?_) (fun c_2 => ?_)
    · refine lv_iconst (v := 0) hx hb dX4_isWideFor_25 (by decide) ?_
      exact W.zret (v := 0) hx hb hr (by decide) (fun t ht hW => ⟨_, rfl, (by have hh := wide_eq hk hp; simp only [if_neg c_1, if_pos c_2] at hh; rw [← hh]; rfl), ht⟩) (fun q hq => absurd hq List.not_mem_nil) dX4_isWideFor_26
    · refine lv_iload_n hx hb dX4_isWideFor_13 rfl (lv_at hl 1 rfl) ?_
      refine lv_aload_n hx hb dX4_isWideFor_14 rfl (lv_at hl 0 rfl) ?_
      refine va_get (D := Dg) (ci := 2) (v := .int k) (C := RX4) (T := TX4) (N := 2) hx hb hts in_X4_X4_isWideFor hown hK hP 0 rfl rfl 0 (by decide) (hts (.fieldLink RX4 9 "OrreryWorks$Stand" "sort" "I") (by decide +kernel)) (fun _ h9 => h9) rfl dX4_isWideFor_15 ?_
      refine lv_icmp_lt (tgt := 25) hx hb dX4_isWideFor_18 (by decide) (fun c_3 => ?_) (fun c_3 => ?_)
      · refine lv_iconst (v := 0) hx hb dX4_isWideFor_25 (by decide) ?_
        exact W.zret (v := 0) hx hb hr (by decide) (fun t ht hW => ⟨_, rfl, (by have hh := wide_eq hk hp; simp only [if_neg c_1, if_neg c_2, if_pos c_3] at hh; rw [← hh]; rfl), ht⟩) (fun q hq => absurd hq List.not_mem_nil) dX4_isWideFor_26
      · refine lv_iconst (v := 1) hx hb dX4_isWideFor_21 (by decide) ?_
        refine lv_goto (tgt := 26) hx hb dX4_isWideFor_22 (by decide) ?_
        exact W.zret (v := 1) hx hb hr (by decide) (fun t ht hW => ⟨_, rfl, (by have hh := wide_eq hk hp; simp only [if_neg c_1, if_neg c_2, if_neg c_3] at hh; rw [← hh]; rfl), ht⟩) (fun q hq => absurd hq List.not_mem_nil) dX4_isWideFor_26

theorem in_X1_X1_thousandths : ∀ w ∈ wsX10, w ∈ wsX1_thousandths := fun w h => List.mem_cons_of_mem _ (List.mem_append_left _ (List.mem_append_right _ h))
theorem in_X6_X1_thousandths : ∀ w ∈ wsX60, w ∈ wsX1_thousandths := fun w h => List.mem_cons_of_mem _ (List.mem_append_right _ h)
set_option maxHeartbeats 1000000 in
set_option maxRecDepth 100000 in
theorem met_X1_thousandths (l : Launch) (Dg : va_G) (h0 w0 : Nat) (o k : Int32) (t0 b : Int64)  (hok : okR k b) : Met l yX1_thousandths wsX1_thousandths ({ frames := 3, cells := 0, slots := 0, locals := 70 }) (va_Pc [.ref h0] (rB Dg [] [(h0, .inr (0, [.int o, .ref w0])), (w0, .inr (4, [.int k, .long t0, .long b]))])) (vp_Sl (fun r => r = fiB k b)) 0 0 (fun _ => False) := by
  refine Met.ofW (cc := cX1_thousandths) (maxL := 1) (ret := (some .long)) (by decide) rfl ?_
  intro p e s m args below meth c s₁ B hml hv
  obtain ⟨rfl, hP, hK⟩ := hv
  have hx := B.exec
  have hb := B.bytes
  have hr := B.returns
  have hts := atoms_spec (ws := wsX1_thousandths) B.pre
  have hown : s.vm.findClass RX1 = some m.cls := findClass_of_methodNamed B.named
  have hlocks := B.notSynchronized
  have hl := lv_entry ([.ref h0]) (n := 1) (Nat.le_of_ble_eq_true rfl)
  rw [lg_entry_eq]
  generalize (lg_sl ([.ref h0]) ++ List.replicate (1 - (lg_sl ([.ref h0])).length) Slot.unset).toArray = ls at hl ⊢
  have hl : lv_has ls 1 [(0, .ref h0)] := hl
  refine lv_aload_n hx hb dX1_thousandths_0 rfl (lv_at hl 0 rfl) ?_
  refine va_get (D := Dg) (ci := 0) (v := .ref w0) (C := RX1) (T := TX1) (N := 2) hx hb hts in_X1_X1_thousandths hown hK hP 0 rfl rfl 1 (by decide) (hts (.fieldLink RX1 15 "OrreryWorks$Pointer" "wheel" "LOrreryWorks$Wheel;") (by decide +kernel)) (fun _ h9 => h9) rfl dX1_thousandths_1 ?_
  refine va_get (D := Dg) (ci := 4) (v := .int k) (C := RX6) (T := TX6) (N := 3) hx hb hts in_X6_X1_thousandths hown hK hP 1 rfl rfl 0 (by decide) (hts (.fieldLink RX1 19 "OrreryWorks$Wheel" "kind" "I") (by decide +kernel)) (fun _ h9 => h9) rfl dX1_thousandths_4 ?_
  refine lv_aload_n hx hb dX1_thousandths_7 rfl (lv_at hl 0 rfl) ?_
  refine va_get (D := Dg) (ci := 0) (v := .ref w0) (C := RX1) (T := TX1) (N := 2) hx hb hts in_X1_X1_thousandths hown hK hP 0 rfl rfl 1 (by decide) (hts (.fieldLink RX1 15 "OrreryWorks$Pointer" "wheel" "LOrreryWorks$Wheel;") (by decide +kernel)) (fun _ h9 => h9) rfl dX1_thousandths_8 ?_
  refine va_get (D := Dg) (ci := 4) (v := .long b) (C := RX6) (T := TX6) (N := 3) hx hb hts in_X6_X1_thousandths hown hK hP 1 rfl rfl 2 (by decide) (hts (.fieldLink RX1 24 "OrreryWorks$Wheel" "position" "J") (by decide +kernel)) (fun _ h9 => h9) rfl dX1_thousandths_11 ?_
  refine vp_callSd ((va_runS (As := [.int k, .long b]) (rest := []) ⟨hx, hb, hml, hown, hts⟩ (met_X2_valueOf l k b hok) (va_cwS 2 hts gX1_thousandths_X2_valueOf rfl rfl rfl (by decide +kernel) ⟨Nat.le_of_ble_eq_true rfl, Nat.le_of_ble_eq_true rfl⟩) ⟨fun _ _ _ _ q => q, fun U hU hW => ⟨rfl, trivial⟩⟩ rfl rfl hl.1 rfl (lv_room (Nat.le_of_ble_eq_true rfl)) dX1_thousandths_14 ⟨Nat.le_of_ble_eq_true rfl, Nat.le_of_ble_eq_true rfl⟩).run) (fun r_1 h_1 => ?_)
  subst h_1
  refine lv_ldc2d hx hb hown (hts (.constantDouble RX1 44 (4652007308841189376)) (by decide +kernel)) dX1_thousandths_17 ?_
  refine lv_dmul hx hb dX1_thousandths_20 (fm_n64.mpr (big_nn (vl_nn hok))) ?_
  refine lv_d2l hx hb dX1_thousandths_21 ?_
  exact W.lret (v := FP.d2l (FP.dmul (vl k b) 4652007308841189376)) hx hb hr (fun t ht hW => ⟨_, rfl, rfl, ht⟩) (fun q hq => absurd hq List.not_mem_nil) dX1_thousandths_22

theorem in_X1_X1_shown : ∀ w ∈ wsX10, w ∈ wsX1_shown := fun w h => List.mem_cons_of_mem _ (List.mem_append_left _ (List.mem_append_right _ h))
theorem in_X6_X1_shown : ∀ w ∈ wsX60, w ∈ wsX1_shown := fun w h => List.mem_cons_of_mem _ (List.mem_append_right _ h)
set_option maxHeartbeats 1000000 in
set_option maxRecDepth 100000 in
theorem met_X1_shown (l : Launch) (Dg : va_G) (h0 w0 : Nat) (o k : Int32) (t0 b : Int64)  (hkR : k = 2 ∨ k = 3) (hok : okR k b) (ho : isK o) : Met l yX1_shown wsX1_shown ({ frames := 6, cells := 0, slots := 0, locals := 141 }) (va_Pc [.ref h0] (rB Dg [] [(h0, .inr (0, [.int o, .ref w0])), (w0, .inr (4, [.int k, .long t0, .long b]))])) (vp_Sl (fun r => r = shB o k b)) 0 0 (fun _ => False) := by
  refine Met.ofW (cc := cX1_shown) (maxL := 1) (ret := (some .long)) (by decide) rfl ?_
  intro p e s m args below meth c s₁ B hml hv
  obtain ⟨rfl, hP, hK⟩ := hv
  have hx := B.exec
  have hb := B.bytes
  have hr := B.returns
  have hts := atoms_spec (ws := wsX1_shown) B.pre
  have hown : s.vm.findClass RX1 = some m.cls := findClass_of_methodNamed B.named
  have hlocks := B.notSynchronized
  have hl := lv_entry ([.ref h0]) (n := 1) (Nat.le_of_ble_eq_true rfl)
  rw [lg_entry_eq]
  generalize (lg_sl ([.ref h0]) ++ List.replicate (1 - (lg_sl ([.ref h0])).length) Slot.unset).toArray = ls at hl ⊢
  have hl : lv_has ls 1 [(0, .ref h0)] := hl
  refine lv_aload_n hx hb dX1_shown_0 rfl (lv_at hl 0 rfl) ?_
  refine va_get (D := Dg) (ci := 0) (v := .int o) (C := RX1) (T := TX1) (N := 2) hx hb hts in_X1_X1_shown hown hK hP 0 rfl rfl 0 (by decide) (hts (.fieldLink RX1 9 "OrreryWorks$Pointer" "sort" "I") (by decide +kernel)) (fun _ h9 => h9) rfl dX1_shown_1 ?_
  rcases Decidable.em (o = 0) with c_1 | c_1
  · refine lv_tableIn (x := o) (off := 28) (tgt := 32) hx hb dX1_shown_4 (by rw [c_1]; decide) (by rw [c_1]; decide) (by rw [c_1]; rfl) (by decide) ?_
    refine lv_aload_n hx hb dX1_shown_32 rfl (lv_at hl 0 rfl) ?_
    refine va_get (D := Dg) (ci := 0) (v := .ref w0) (C := RX1) (T := TX1) (N := 2) hx hb hts in_X1_X1_shown hown hK hP 0 rfl rfl 1 (by decide) (hts (.fieldLink RX1 15 "OrreryWorks$Pointer" "wheel" "LOrreryWorks$Wheel;") (by decide +kernel)) (fun _ h9 => h9) rfl dX1_shown_33 ?_
    refine va_get (D := Dg) (ci := 4) (v := .int k) (C := RX6) (T := TX6) (N := 3) hx hb hts in_X6_X1_shown hown hK hP 1 rfl rfl 0 (by decide) (hts (.fieldLink RX1 19 "OrreryWorks$Wheel" "kind" "I") (by decide +kernel)) (fun _ h9 => h9) rfl dX1_shown_36 ?_
    refine lv_aload_n hx hb dX1_shown_39 rfl (lv_at hl 0 rfl) ?_
    refine va_get (D := Dg) (ci := 0) (v := .ref w0) (C := RX1) (T := TX1) (N := 2) hx hb hts in_X1_X1_shown hown hK hP 0 rfl rfl 1 (by decide) (hts (.fieldLink RX1 15 "OrreryWorks$Pointer" "wheel" "LOrreryWorks$Wheel;") (by decide +kernel)) (fun _ h9 => h9) rfl dX1_shown_40 ?_
    refine va_get (D := Dg) (ci := 4) (v := .long b) (C := RX6) (T := TX6) (N := 3) hx hb hts in_X6_X1_shown hown hK hP 1 rfl rfl 2 (by decide) (hts (.fieldLink RX1 24 "OrreryWorks$Wheel" "position" "J") (by decide +kernel)) (fun _ h9 => h9) rfl dX1_shown_43 ?_
    refine lv_iconst (v := 0) hx hb dX1_shown_46 (by decide) ?_
    refine vp_callSl ((va_runS (As := [.int k, .long b, .int 0]) (rest := []) ⟨hx, hb, hml, hown, hts⟩ (met_X0_cast l k b 0 (Or.inr hok)) (va_cwS 3 hts gX1_shown_X0_cast rfl rfl rfl (by decide +kernel) ⟨Nat.le_of_ble_eq_true rfl, Nat.le_of_ble_eq_true rfl⟩) ⟨fun _ _ _ _ q => q, fun U hU hW => ⟨rfl, trivial⟩⟩ rfl rfl hl.1 rfl (lv_room (Nat.le_of_ble_eq_true rfl)) dX1_shown_47 ⟨Nat.le_of_ble_eq_true rfl, Nat.le_of_ble_eq_true rfl⟩).run) (fun r_1 h_1 => ?_)
    subst h_1
    exact W.lret (v := cst k b 0) hx hb hr (fun t ht hW => ⟨_, rfl, (by rw [c_1, shB_0]; exact cst_R hkR), ht⟩) (fun q hq => absurd hq List.not_mem_nil) dX1_shown_50
  rcases Decidable.em (o = 1) with c_2 | c_2
  · refine lv_tableIn (x := o) (off := 47) (tgt := 51) hx hb dX1_shown_4 (by rw [c_2]; decide) (by rw [c_2]; decide) (by rw [c_2]; rfl) (by decide) ?_
    refine lv_aload_n hx hb dX1_shown_51 rfl (lv_at hl 0 rfl) ?_
    refine vp_callSl ((va_runV (As := []) (rest := []) ⟨hx, hb, hml, hown, hts⟩ (met_X1_thousandths l Dg h0 w0 o k t0 b hok) (cwV 0 hts gX1_shown_X1_thousandths rfl rfl rfl (by decide +kernel) ⟨Nat.le_of_ble_eq_true rfl, Nat.le_of_ble_eq_true rfl⟩) (rPreV hK hP (va_recv hK hP (ci := 0) (q0 := 0) rfl rfl)) rfl rfl hl.1 rfl (lv_room (Nat.le_of_ble_eq_true rfl)) dX1_shown_52 ⟨Nat.le_of_ble_eq_true rfl, Nat.le_of_ble_eq_true rfl⟩).run) (fun r hw => ?_)
    rw [hw]
    exact W.lret (v := fiB k b) hx hb hr (fun t ht hW => ⟨_, rfl, (by rw [c_2, shB_1]), ht⟩) (fun q hq => absurd hq List.not_mem_nil) dX1_shown_55
  rcases Decidable.em (o = 2) with c_3 | c_3
  · refine lv_tableIn (x := o) (off := 52) (tgt := 56) hx hb dX1_shown_4 (by rw [c_3]; decide) (by rw [c_3]; decide) (by rw [c_3]; rfl) (by decide) ?_
    refine lv_iconst (v := 1) hx hb dX1_shown_56 (by decide) ?_
    refine lv_aload_n hx hb dX1_shown_57 rfl (lv_at hl 0 rfl) ?_
    refine vp_callSl ((va_runV (As := []) (rest := [.int 1]) ⟨hx, hb, hml, hown, hts⟩ (met_X1_thousandths l Dg h0 w0 o k t0 b hok) (cwV 0 hts gX1_shown_X1_thousandths rfl rfl rfl (by decide +kernel) ⟨Nat.le_of_ble_eq_true rfl, Nat.le_of_ble_eq_true rfl⟩) (rPreV hK hP (va_recv hK hP (ci := 0) (q0 := 0) rfl rfl)) rfl rfl hl.1 rfl (lv_room (Nat.le_of_ble_eq_true rfl)) dX1_shown_58 ⟨Nat.le_of_ble_eq_true rfl, Nat.le_of_ble_eq_true rfl⟩).run) (fun r hw => ?_)
    rw [hw]
    refine lv_iconst (v := 2) hx hb dX1_shown_61 (by decide) ?_
    refine vp_callSl ((va_runS (As := [.int 1, .long (fiB k b), .int 2]) (rest := []) ⟨hx, hb, hml, hown, hts⟩ (met_X0_cast l 1 (fiB k b) 2 (Or.inl (by decide))) (va_cwS 3 hts gX1_shown_X0_cast rfl rfl rfl (by decide +kernel) ⟨Nat.le_of_ble_eq_true rfl, Nat.le_of_ble_eq_true rfl⟩) ⟨fun _ _ _ _ q => q, fun U hU hW => ⟨rfl, trivial⟩⟩ rfl rfl hl.1 rfl (lv_room (Nat.le_of_ble_eq_true rfl)) dX1_shown_62 ⟨Nat.le_of_ble_eq_true rfl, Nat.le_of_ble_eq_true rfl⟩).run) (fun r_2 h_2 => ?_)
    subst h_2
    exact W.lret (v := cst 1 (fiB k b) 2) hx hb hr (fun t ht hW => ⟨_, rfl, (by rw [c_3, shB_2]; exact cst_12), ht⟩) (fun q hq => absurd hq List.not_mem_nil) dX1_shown_65
  refine lv_tableOut (tgt := 66) hx hb dX1_shown_4 (sw_out2 c_1 c_2 c_3) (by decide) ?_
  refine lv_aload_n hx hb dX1_shown_66 rfl (lv_at hl 0 rfl) ?_
  refine va_get (D := Dg) (ci := 0) (v := .ref w0) (C := RX1) (T := TX1) (N := 2) hx hb hts in_X1_X1_shown hown hK hP 0 rfl rfl 1 (by decide) (hts (.fieldLink RX1 15 "OrreryWorks$Pointer" "wheel" "LOrreryWorks$Wheel;") (by decide +kernel)) (fun _ h9 => h9) rfl dX1_shown_67 ?_
  refine va_get (D := Dg) (ci := 4) (v := .long b) (C := RX6) (T := TX6) (N := 3) hx hb hts in_X6_X1_shown hown hK hP 1 rfl rfl 2 (by decide) (hts (.fieldLink RX1 24 "OrreryWorks$Wheel" "position" "J") (by decide +kernel)) (fun _ h9 => h9) rfl dX1_shown_70 ?_
  refine lv_lconst (v := 0) hx hb dX1_shown_73 (by decide) ?_
  refine W.lcmp hx hb dX1_shown_74 ?_
  refine lv_if_ge (tgt := 82) hx hb dX1_shown_75 (by decide) (fun c_4 => ?_) (fun c_4 => ?_)
  · refine lv_lconst (v := 0) hx hb dX1_shown_82 (by decide) ?_
    exact W.lret (v := 0) hx hb hr (fun t ht hW => ⟨_, rfl, (by rw [((ho.resolve_left c_1).resolve_left c_2).resolve_left c_3, shB_3, if_neg ((lgc0_ge b).mp c_4)]), ht⟩) (fun q hq => absurd hq List.not_mem_nil) dX1_shown_83
  · refine lv_lconst (v := 1) hx hb dX1_shown_78 (by decide) ?_
    refine lv_goto (tgt := 83) hx hb dX1_shown_79 (by decide) ?_
    exact W.lret (v := 1) hx hb hr (fun t ht hW => ⟨_, rfl, (by rw [((ho.resolve_left c_1).resolve_left c_2).resolve_left c_3, shB_3, if_pos (Decidable.not_not.mp (fun g => c_4 ((lgc0_ge b).mpr g)))]), ht⟩) (fun q hq => absurd hq List.not_mem_nil) dX1_shown_83
