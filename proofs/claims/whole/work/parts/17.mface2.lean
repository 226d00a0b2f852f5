/-! the model's face: turns, works, stands, rows -/
theorem mem_le1 {k : Int32} (h : 2 ≤ k) : ¬ k ≤ 1 := by
  rw [Int32.le_iff_toInt_le] at *
  have e1 : (1 : Int32).toInt = 1 := rfl
  have e2 : (2 : Int32).toInt = 2 := rfl
  omega
theorem nle2 {k : Int32} (h : ¬ 2 ≤ k) : k ≤ 1 := by
  rw [Int32.le_iff_toInt_le] at *
  have e1 : (1 : Int32).toInt = 1 := rfl
  have e2 : (2 : Int32).toInt = 2 := rfl
  omega
theorem rm_ne {k : Int32} {x y : Int64} (hx : okR k x) (hy : okR k y) (hi : ¬ mgN k x = infN k) (hz : ¬ mgN k y = 0) : ¬ mgN k (rmB k x y) = infN k := fun g => by
  have h := (rm_sign hx hy hi hz).2.2
  have h1 : mgN k x < infN k := Nat.lt_of_le_of_ne (okR_le hx) hi
  have h3 := Nat.mod_le (FP.Core.unitsOf (FM k) (mgN k x)) (FP.Core.unitsOf (FM k) (mgN k y))
  rw [← h] at h3
  have h4 := (FP.Core.unitsOf_le_iff (f := FM k)).mp h3
  omega
theorem kR_of {k : Int32} (hk : isK k) (h : 2 ≤ k) : k = 2 ∨ k = 3 := by
  rcases hk with rfl | rfl | rfl | rfl
  · exact absurd h (by decide)
  · exact absurd h (by decide)
  · exact Or.inl rfl
  · exact Or.inr rfl
theorem kW_of {k : Int32} (hk : isK k) (h : ¬ 2 ≤ k) : k = 0 ∨ k = 1 := by
  rcases hk with rfl | rfl | rfl | rfl
  · exact Or.inl rfl
  · exact Or.inr rfl
  · exact absurd (by decide) h
  · exact absurd (by decide) h
theorem rep_w {k : Int32} {b w : Int64} {r : UInt64} (h : rep k b w r) (g : ¬ 2 ≤ k) : w = b := by unfold rep at h; rwa [if_neg g] at h
theorem rep_r {k : Int32} {b w : Int64} {r : UInt64} (h : rep k b w r) (g : 2 ≤ k) : r = vl k b := by unfold rep at h; rwa [if_pos g] at h
theorem isK_wk {σ : St} {a b : Int32} (ha : isK (σ.1 4 (ix a))) (hb : isK (σ.1 4 (ix b))) : isK (wkK σ a b) := by
  unfold wkK; split
  · exact ha
  · exact hb
theorem wk_K1 {σ : St} {a b : Int32} (h : ¬ σ.1 4 (ix a) ≤ σ.1 4 (ix b)) : σ.1 4 (ix a) = wkK σ a b := by
  unfold wkK; rw [if_pos (Int32.not_le.mp h)]
theorem wk_K2 {σ : St} {a b : Int32} (h : σ.1 4 (ix a) ≤ σ.1 4 (ix b)) : σ.1 4 (ix b) = wkK σ a b := by
  unfold wkK; rw [if_neg (fun g => Int32.not_lt.mpr h g)]
theorem vd82 {k w : Int32} {x y : Int64} (hx : okR k x) (hy : okR k y) : fX8_isVoid w (vl k x) (vl k y) = true ↔ fX2_isVoid k w x y = true := (void8_eq hx hy).trans void_eq.symm
theorem in04 {h : Int32} (g : fX8_isIn h 0 4 = true) : h = 0 ∨ h = 1 ∨ h = 2 ∨ h = 3 ∨ h = 4 := by
  have g := isIn_iff.mp g
  have e0 : (0 : Int32).toInt = 0 := rfl
  have e4 : (4 : Int32).toInt = 4 := rfl
  have : h.toInt = 0 ∨ h.toInt = 1 ∨ h.toInt = 2 ∨ h.toInt = 3 ∨ h.toInt = 4 := by omega
  rcases this with g | g | g | g | g
  · exact Or.inl (Int32.toInt_inj.mp g)
  · exact Or.inr (Or.inl (Int32.toInt_inj.mp g))
  · exact Or.inr (Or.inr (Or.inl (Int32.toInt_inj.mp g)))
  · exact Or.inr (Or.inr (Or.inr (Or.inl (Int32.toInt_inj.mp g))))
  · exact Or.inr (Or.inr (Or.inr (Or.inr (Int32.toInt_inj.mp g))))
theorem hz_le {h : Int32} {y : Int64} (g : fX8_isIn h 0 4 = true) (h2 : h ≤ 2) : ¬ h = 0 → ¬ h = 1 → ¬ h = 2 → ¬ y = 0 := by
  intro a b d
  rcases in04 g with e | e | e | e | e
  · exact absurd e a
  · exact absurd e b
  · exact absurd e d
  · rw [e] at h2; exact absurd h2 (by decide)
  · rw [e] at h2; exact absurd h2 (by decide)
theorem wk_W0 {k h : Int32} {x y : Int64} (e : k = 0) : (fX0_workedWhole h x y).toInt32.toInt64 = wk k h x y := by unfold wk; rw [if_pos e]
theorem wk_W1 {k h : Int32} {x y : Int64} (hk : k = 0 ∨ k = 1) (e : ¬ k = 0) : fX0_workedWhole h x y = wk k h x y := by unfold wk; rw [if_neg e, if_pos (hk.resolve_left e)]
theorem wk_okW {k h : Int32} {x y : Int64} (hk : k = 0 ∨ k = 1) : okB k (wk k h x y) := by
  rcases hk with rfl | rfl
  · show (fX0_workedWhole h x y).toInt32.toInt64 = ((fX0_workedWhole h x y).toInt32.toInt64).toInt32.toInt64
    rw [Int32.toInt32_toInt64]
  · exact trivial
theorem rep_ww {k : Int32} {b : Int64} {r : UInt64} (hk : k = 0 ∨ k = 1) : rep k b b r := by
  rcases hk with rfl | rfl
  · exact rfl
  · exact rfl
theorem wk_R {k h : Int32} {x y : Int64} (hk : k = 2 ∨ k = 3) : wkA k h x y = wk k h x y := by
  rcases hk with rfl | rfl
  · rfl
  · rfl
def lyG (aSs aSz aSo : Nat → Int32) (s i p : Int32) : Int32 := if fX8_isIn i 0 (aSz (ix s) - 1) = true then (if p = -1 then 0 else if fX8_holds (aSs (ix s)) (aSo (ix p)) = true then 0 else -9) else -8
theorem big_nn {d : UInt64} (h : FP.Core.val64 d ≠ .nan) : FP.Core.val64 (FP.dmul d 4652007308841189376) ≠ .nan := by
  have hv : ¬ vd 3 2 d.toInt64 4652007308841189376 := fun g => by
    have g : (mgN 3 d.toInt64 = 0 ∧ mgN 3 4652007308841189376 = infN 3) ∨ (mgN 3 d.toInt64 = infN 3 ∧ mgN 3 4652007308841189376 = 0) := g
    rcases g with g | g
    · exact absurd g.2 (by decide)
    · exact absurd g.2 (by decide)
  exact wk_val3 (k := 3) (w := 2) (wk_ok (Or.inr rfl) (okR_d h) (by rw [okR_3]; decide) hv (Or.inr (Or.inr (Or.inl rfl)))) (by decide)
theorem fib_eq (x : Int64) : (fJxf58ca_floatToIntBits_5c35a (FP.l2f x)).toInt64 = fB (FP.l2f x) := by
  unfold fJxf58ca_floatToIntBits_5c35a
  rw [if_neg (nn_nan32 (l2f_nn x))]; rfl
def stF {α : Type} (z : α) (f : Nat → α) (b j : Nat) : Nat → α := fun q => if b ≤ q ∧ q < b + j then z else f q
theorem stF_0 {α : Type} {z : α} {f : Nat → α} {b : Nat} : stF z f b 0 = f := funext fun q => by
  unfold stF; rw [if_neg (by omega)]
theorem stF_s {α : Type} {z : α} {f : Nat → α} {b j : Nat} : vf_upd (stF z f b j) (b + j) z = stF z f b (j + 1) := funext fun q => by
  unfold stF vf_upd
  by_cases e : q = b + j
  · rw [if_pos e, if_pos (by omega)]
  · rw [if_neg e]
    show (if b ≤ q ∧ q < b + j then z else f q) = _
    by_cases g : b ≤ q ∧ q < b + j
    · rw [if_pos g, if_pos (by omega)]
    · rw [if_neg g, if_neg (by omega)]
theorem stF_J {f : Nat → Int64} {b j : Nat} : vp_updL (stF 0 f b j) (b + j) 0 = stF 0 f b (j + 1) := stF_s
theorem stF_I {f : Nat → Int32} {b j : Nat} : upd (stF (-1) f b j) (b + j) (-1) = stF (-1) f b (j + 1) := stF_s
theorem mC_strip {σ : St} {aTo aPo : Nat → UInt64} {aRw : Nat → Int64} {aRr : Nat → UInt64} {aWs : Nat → Int64} {aRs : Nat → UInt64} {k n : Int32} (hV : vOK σ) (hM : mC σ aTo aPo aRw aRr aWs aRs) :
    mC (sI (sB (sI (sI (sI (ok0 σ) 5 (cN σ 2) k) 6 (cN σ 2) n) 7 (cN σ 2) 0) 3 (fun q => if 16 * cN σ 2 ≤ q ∧ q < 16 * cN σ 2 + 16 then 0 else σ.2 3 q)) 2 2 (σ.1 2 2 + 1)) aTo aPo aRw aRr (stF 0 aWs (16 * cN σ 2) 16) (stF FP.dconst0 aRs (16 * cN σ 2) 16) := by
  refine ⟨hM.1, hM.2.1, fun i hi j hj => ?_⟩
  have hi : i < (σ.1 2 2 + 1).toNatClampNeg := hi
  rw [inc1N (n := 8) hV.1.2.2.1 (by decide)] at hi
  show rep (upd (σ.1 5) (cN σ 2) k i) (stF 0 (σ.2 3) (16 * cN σ 2) 16 (16 * i + j)) (stF 0 aWs (16 * cN σ 2) 16 (16 * i + j)) (stF FP.dconst0 aRs (16 * cN σ 2) 16 (16 * i + j))
  unfold stF upd
  generalize hc : cN σ 2 = cc at *
  by_cases e : i = cc
  · have g : 16 * cc ≤ 16 * i + j ∧ 16 * i + j < 16 * cc + 16 := by omega
    rw [if_pos e, if_pos g, if_pos g, if_pos g]; unfold rep; split
    · exact vl_0.symm
    · rfl
  · have g : ¬ (16 * cc ≤ 16 * i + j ∧ 16 * i + j < 16 * cc + 16) := by omega
    rw [if_neg e, if_neg g, if_neg g, if_neg g]; exact hM.2.2 i (by have hc : (σ.1 2 2).toNatClampNeg = cc := hc; show i < (σ.1 2 2).toNatClampNeg; omega) j hj
/-- the sum of rests -/
theorem rs_ok {k : Int32} {f : Nat → Int64} (hk : k = 2 ∨ k = 3) (hf : ∀ j, j < 16 → okR k (f j)) : ∀ n, n < 16 → okR k (rsS k f n) := by
  intro n
  induction n with
  | zero => intro _; exact (show okR k 0 from by rcases hk with rfl | rfl; exact ⟨rfl, by decide +kernel⟩; exact (by decide +kernel : FP.Core.val64 (0 : Int64).toUInt64 ≠ .nan))
  | succ n ih =>
    intro h
    have i1 := ih (by omega)
    unfold rsS
    by_cases g : fX2_isVoid k 4 (f n) (f (n + 1)) = true
    · rw [if_pos g]; exact i1
    · rw [if_neg g]
      have g2 : ¬ (mgN k (f (n + 1)) = 0 ∨ mgN k (f n) = infN k) := fun z => g (void_eq.mpr z)
      have e1 : ¬ mgN k (f n) = infN k := fun z => g2 (Or.inr z)
      have e2 : ¬ mgN k (f (n + 1)) = 0 := fun z => g2 (Or.inl z)
      have o := rm_sign (hf n (by omega)) (hf (n + 1) h) e1 e2
      have ne := rm_ne (hf n (by omega)) (hf (n + 1) h) e1 e2
      exact wk_ok hk i1 o.1 (fun z => ne (show mgN k (rsS k f n) = infN k ∧ mgN k (rmB k (f n) (f (n + 1))) = infN k ∧ _ from z).2.1) (Or.inl rfl)

theorem in_X8_turn : ∀ w ∈ wsX80, w ∈ wsX8_turn := fun w h => List.mem_cons_of_mem _ (List.mem_append_right _ h)
set_option maxHeartbeats 8000000 in
set_option maxRecDepth 100000 in
theorem met_X8_turn (l : Launch) (Dg : va_G) (m0 z : Nat) (a : Nat → Nat) (y : Nat → ClassId) (σ : St) (kd : Int32) (wh : Int64) (re : UInt64) (aTo aPo : Nat → UInt64) (aRw : Nat → Int64) (aRr : Nat → UInt64) (aWs : Nat → Int64) (aRs : Nat → UInt64) (p1 : Int32) (p2 : Int64) (hV : vOK σ) (hM : mC σ aTo aPo aRw aRr aWs aRs)  : Met l yX8_turn wsX8_turn ({ frames := 2, cells := 0, slots := 0, locals := 43 }) (va_Pc [.ref m0, .int p1, .long p2] (wB Dg (mT y) (mW m0 a y (σ.1 0 0) kd (σ.1 2 0) (σ.1 2 1) (σ.1 2 2) (σ.1 2 3) (σ.1 2 4) wh re (σ.1 1) (σ.1 3) aTo aPo (σ.1 4) aRw aRr (σ.1 5) (σ.1 6) (σ.1 7) aWs aRs (σ.1 8) (σ.1 9) (σ.1 10) (σ.1 11) (σ.1 12)) z)) (va_Qi (fun (r : Int32) (u : va_W) => r = an_turn σ p1 p2 ∧ MI m0 a y (nw_turn σ p1 p2) u) (wE Dg (mT y) (va_A (mW m0 a y (σ.1 0 0) kd (σ.1 2 0) (σ.1 2 1) (σ.1 2 2) (σ.1 2 3) (σ.1 2 4) wh re (σ.1 1) (σ.1 3) aTo aPo (σ.1 4) aRw aRr (σ.1 5) (σ.1 6) (σ.1 7) aWs aRs (σ.1 8) (σ.1 9) (σ.1 10) (σ.1 11) (σ.1 12)) z)) (va_A (mW m0 a y (σ.1 0 0) kd (σ.1 2 0) (σ.1 2 1) (σ.1 2 2) (σ.1 2 3) (σ.1 2 4) wh re (σ.1 1) (σ.1 3) aTo aPo (σ.1 4) aRw aRr (σ.1 5) (σ.1 6) (σ.1 7) aWs aRs (σ.1 8) (σ.1 9) (σ.1 10) (σ.1 11) (σ.1 12)) z)) 0 0 (va_A (mW m0 a y (σ.1 0 0) kd (σ.1 2 0) (σ.1 2 1) (σ.1 2 2) (σ.1 2 3) (σ.1 2 4) wh re (σ.1 1) (σ.1 3) aTo aPo (σ.1 4) aRw aRr (σ.1 5) (σ.1 6) (σ.1 7) aWs aRs (σ.1 8) (σ.1 9) (σ.1 10) (σ.1 11) (σ.1 12)) z) := by
  refine Met.ofW (cc := cX8_turn) (maxL := 9) (ret := (some .int)) (by decide) rfl ?_
  intro p e s m args below meth c s₁ B hml hv
  obtain ⟨rfl, hsz, hP, hK, hD0⟩ := hv
  have hx := B.exec
  have hb := B.bytes
  have hr := B.returns
  have hts := atoms_spec (ws := wsX8_turn) B.pre
  have hown : s.vm.findClass RX8 = some m.cls := findClass_of_methodNamed B.named
  have hlocks := B.notSynchronized
  subst hsz
  have hD := hD0.self (sz := s.heap.size)
  generalize hAe : va_A (mW m0 a y (σ.1 0 0) kd (σ.1 2 0) (σ.1 2 1) (σ.1 2 2) (σ.1 2 3) (σ.1 2 4) wh re (σ.1 1) (σ.1 3) aTo aPo (σ.1 4) aRw aRr (σ.1 5) (σ.1 6) (σ.1 7) aWs aRs (σ.1 8) (σ.1 9) (σ.1 10) (σ.1 11) (σ.1 12)) s.heap.size = A at hD ⊢
  have hA : ∀ q : Nat, s.heap.size ≤ q → A q := fun q h => by rw [← hAe]; exact Or.inr h
  have hS : va_S A s.heap s.heap [] := va_S.rf
  have hP : va_P Dg vwCl (mW m0 a y (σ.1 0 0) kd (σ.1 2 0) (σ.1 2 1) (σ.1 2 2) (σ.1 2 3) (σ.1 2 4) wh re (σ.1 1) (σ.1 3) aTo aPo (σ.1 4) aRw aRr (σ.1 5) (σ.1 6) (σ.1 7) aWs aRs (σ.1 8) (σ.1 9) (σ.1 10) (σ.1 11) (σ.1 12)) s.heap := hP
  have hl := lv_entry ([.ref m0, .int p1, .long p2]) (n := 9) (Nat.le_of_ble_eq_true rfl)
  rw [lg_entry_eq]
  generalize (lg_sl ([.ref m0, .int p1, .long p2]) ++ List.replicate (9 - (lg_sl ([.ref m0, .int p1, .long p2])).length) Slot.unset).toArray = ls at hl ⊢
  have hl : lv_has ls 9 [(0, .ref m0), (1, .int p1), (2, .long p2)] := hl
  refine lv_aload_n hx hb dX8_turn_0 rfl (lv_at hl 0 rfl) ?_
  refine lv_iconst (v := 0) hx hb dX8_turn_1 (by decide) ?_
  refine va_put (D := Dg) (ci := 6) (v := .int 0) (ty := .int) (C := RX8) (T := TX8) (N := 26) hx hb hts in_X8_turn tyX8 tyX8_ok nmX8 hown hK hP hD hS 0 rfl rfl 0 (by decide) (hts (.fieldLink RX8 64 "OrreryWorksModel" "refused" "I") (by decide +kernel)) (fun _ h9 => h9) rfl (by decide +kernel) rfl rfl (Nat.le_of_ble_eq_true rfl) dX8_turn_2 (fun H locs hP hD hS => ?_)
  have hP : va_P Dg vwCl (mW m0 a y 0 kd (σ.1 2 0) (σ.1 2 1) (σ.1 2 2) (σ.1 2 3) (σ.1 2 4) wh re (σ.1 1) (σ.1 3) aTo aPo (σ.1 4) aRw aRr (σ.1 5) (σ.1 6) (σ.1 7) aWs aRs (σ.1 8) (σ.1 9) (σ.1 10) (σ.1 11) (σ.1 12)) H := hP
  have hD : va_D A (mW m0 a y 0 kd (σ.1 2 0) (σ.1 2 1) (σ.1 2 2) (σ.1 2 3) (σ.1 2 4) wh re (σ.1 1) (σ.1 3) aTo aPo (σ.1 4) aRw aRr (σ.1 5) (σ.1 6) (σ.1 7) aWs aRs (σ.1 8) (σ.1 9) (σ.1 10) (σ.1 11) (σ.1 12)) := hD
  refine lv_aload_n hx hb dX8_turn_5 rfl (lv_at hl 0 rfl) ?_
  refine lv_iload_n hx hb dX8_turn_6 rfl (lv_at hl 1 rfl) ?_
  refine vp_callSi ((va_runV (As := [.int p1]) (rest := []) ⟨hx, hb, hml, hown, hts⟩ (met_X8_isWheel l Dg m0 H.size a y 0 kd (σ.1 2 0) (σ.1 2 1) (σ.1 2 2) (σ.1 2 3) (σ.1 2 4) wh re (σ.1 1) (σ.1 3) aTo aPo (σ.1 4) aRw aRr (σ.1 5) (σ.1 6) (σ.1 7) aWs aRs (σ.1 8) (σ.1 9) (σ.1 10) (σ.1 11) (σ.1 12) p1 ) (cwV 1 hts gX8_turn_X8_isWheel rfl rfl rfl (by decide +kernel) ⟨Nat.le_of_ble_eq_true rfl, Nat.le_of_ble_eq_true rfl⟩) (wPreV hK hP (hD.weaken (fun _ _ _ _ => trivial)) (va_recv hK hP (ci := 6) (q0 := 0) rfl rfl)) rfl rfl hl.1 rfl (lv_room (Nat.le_of_ble_eq_true rfl)) dX8_turn_7 ⟨Nat.le_of_ble_eq_true rfl, Nat.le_of_ble_eq_true rfl⟩).run) (fun r hw => ?_)
  rw [hw]
  refine lv_if_eq (tgt := 20) hx hb dX8_turn_10 (by decide) (fun c_1 => ?_) (fun c_1 => ?_)
  · replace c_1 := bI_eq c_1
    refine lv_bipush (v := (-2)) hx hb dX8_turn_20 (by decide) ?_
    refine lv_goto (tgt := 26) hx hb dX8_turn_22 (by decide) ?_
    refine lv_istore (lv' := [(4, .int (-2)), (0, .ref m0), (1, .int p1), (2, .long p2)]) hx hb dX8_turn_26 hl (by decide) rfl (fun ls hl => ?_)
    refine lv_iload hx hb dX8_turn_28 (lv_at hl 0 rfl) ?_
    refine lv_if_ne (tgt := 124) hx hb dX8_turn_30 (by decide) (fun _ => ?_) (fun h0 => absurd h0 (by decide))
    refine lv_aload_n hx hb dX8_turn_124 rfl (lv_at hl 1 rfl) ?_
    refine lv_iload hx hb dX8_turn_125 (lv_at hl 0 rfl) ?_
    have hFc := wFree hD hS hA
    refine va_calli (va_runV (As := [.int (-2)]) (rest := []) ⟨hx, hb, hml, hown, hts⟩ (met_X8_refuse l Dg m0 H.size a y 0 kd (σ.1 2 0) (σ.1 2 1) (σ.1 2 2) (σ.1 2 3) (σ.1 2 4) wh re (σ.1 1) (σ.1 3) aTo aPo (σ.1 4) aRw aRr (σ.1 5) (σ.1 6) (σ.1 7) aWs aRs (σ.1 8) (σ.1 9) (σ.1 10) (σ.1 11) (σ.1 12) (-2) (by unfold vp_in; decide)) (cwV 1 hts gX8_turn_X8_refuse rfl rfl rfl (by decide +kernel) ⟨Nat.le_of_ble_eq_true rfl, Nat.le_of_ble_eq_true rfl⟩) (wPreV hK hP (hD.weaken (fun _ _ _ _ => trivial)) (va_recv hK hP (ci := 6) (q0 := 0) rfl rfl)) rfl rfl hl.1 rfl (lv_room (Nat.le_of_ble_eq_true rfl)) dX8_turn_127 ⟨Nat.le_of_ble_eq_true rfl, Nat.le_of_ble_eq_true rfl⟩) hS (fun q _ h => hFc q h) hFc (fun r u t H locs ht hvm hw hB _ _ hS => ?_)
    obtain ⟨hP, -, hD⟩ := hB
    rw [ht] at hP
    replace hD := hD.weaken (fun _ q _ h => hFc q.1 h)
    rw [hw.2] at hP hD
    rw [hw.1]
    clear hw hFc
    have hP : va_P Dg vwCl (mW m0 a y (-2) kd (σ.1 2 0) (σ.1 2 1) (σ.1 2 2) (σ.1 2 3) (σ.1 2 4) wh re (rfO (-2) (σ.1 1)) (σ.1 3) aTo aPo (σ.1 4) aRw aRr (σ.1 5) (σ.1 6) (σ.1 7) aWs aRs (σ.1 8) (σ.1 9) (σ.1 10) (σ.1 11) (σ.1 12)) H := hP
    have hD : va_D A (mW m0 a y (-2) kd (σ.1 2 0) (σ.1 2 1) (σ.1 2 2) (σ.1 2 3) (σ.1 2 4) wh re (rfO (-2) (σ.1 1)) (σ.1 3) aTo aPo (σ.1 4) aRw aRr (σ.1 5) (σ.1 6) (σ.1 7) aWs aRs (σ.1 8) (σ.1 9) (σ.1 10) (σ.1 11) (σ.1 12)) := hD
    refine lv_istore (lv' := [(4, .int (-2)), (0, .ref m0), (1, .int p1), (2, .long p2)]) hx hb dX8_turn_130 hl (by decide) rfl (fun ls hl => ?_)
    refine lv_iconst (v := 0) hx hb dX8_turn_132 (by decide) ?_
    have hw : wh_turn σ p1 p2 = (-2) := by simp only [wh_turn, if_neg c_1]
    have hn : ¬ wh_turn σ p1 p2 = 0 := by rw [hw]; decide
    exact W.iret (v := 0) hx hb hr (fun t ht hW => ⟨⟨_, (mW m0 a y (-2) kd (σ.1 2 0) (σ.1 2 1) (σ.1 2 2) (σ.1 2 3) (σ.1 2 4) wh re (rfO (-2) (σ.1 1)) (σ.1 3) aTo aPo (σ.1 4) aRw aRr (σ.1 5) (σ.1 6) (σ.1 7) aWs aRs (σ.1 8) (σ.1 9) (σ.1 10) (σ.1 11) (σ.1 12)), rfl, ⟨by rw [an_turn, if_neg hn]; try rfl, kd, wh, re, aTo, aPo, aRw, aRr, aWs, aRs, by rw [nw_turn, if_neg hn, hw]; rfl, by rw [nw_turn, if_neg hn]; exact hM⟩, by rw [ht]; exact hP, va_K.moved hW.alike hK, hD⟩, hS.F ht⟩) hS.2.2 dX8_turn_133
  · replace c_1 := bI_ne c_1
    refine lv_lload_n hx hb dX8_turn_13 rfl (lv_at hl 2 rfl) ?_
    refine vp_callSi ((va_runS (As := [.long p2]) (rest := []) ⟨hx, hb, hml, hown, hts⟩ (met_X8_isNumber l p2) (va_cwS 1 hts gX8_turn_X8_isNumber rfl rfl rfl (by decide +kernel) ⟨Nat.le_of_ble_eq_true rfl, Nat.le_of_ble_eq_true rfl⟩) ⟨fun _ _ _ _ q => q, fun U hU hW => ⟨rfl, trivial⟩⟩ rfl rfl hl.1 rfl (lv_room (Nat.le_of_ble_eq_true rfl)) dX8_turn_14 ⟨Nat.le_of_ble_eq_true rfl, Nat.le_of_ble_eq_true rfl⟩).run) (fun r hw => ?_)
    subst hw
    refine lv_if_ne (tgt := 25) hx hb dX8_turn_17 (by decide) (fun c_2 => ?_) (fun c_2 => ?_)
    · replace c_2 := bI_ne c_2
      refine lv_iconst (v := 0) hx hb dX8_turn_25 (by decide) ?_
      refine lv_istore (lv' := [(4, .int 0), (0, .ref m0), (1, .int p1), (2, .long p2)]) hx hb dX8_turn_26 hl (by decide) rfl (fun ls hl => ?_)
      refine lv_iload hx hb dX8_turn_28 (lv_at hl 0 rfl) ?_
      refine lv_if_ne (tgt := 124) hx hb dX8_turn_30 (by decide) (fun h0 => absurd (by decide) h0) (fun _ => ?_)
      have w1 := hV.2.1 _ (inC_lt hV.1.1 c_1)
      have e1 := hM.1 _ (inC_lt hV.1.1 c_1)
      have hk := w1.1
      have ht := (num_eq p2).mp c_2
      have hn0 := (okR3 (k := 3) (by decide)).mp ht
      have hb1 := cst_ok3 hk ht
      have qA := wr_eq (w := 0) hk w1.2.2.2.1 hb1 (fun g => w1.2.2.2.2 (And.left (show _ ∧ _ from g))) (Or.inl rfl)
      have hs : okR (σ.1 3 (ix p1)) (suB σ p1 p2) := qA.2.2
      refine lv_aload_n hx hb dX8_turn_33 rfl (lv_at hl 1 rfl) ?_
      refine va_get (D := Dg) (ci := 6) (v := .ref (a 1)) (C := RX8) (T := TX8) (N := 26) hx hb hts in_X8_turn hown hK hP 0 rfl rfl 6 (by decide) (hts (.fieldLink RX8 13 "OrreryWorksModel" "wheelKind" "[I") (by decide +kernel)) (fun _ h9 => h9) rfl dX8_turn_34 ?_
      refine lv_iload_n hx hb dX8_turn_37 rfl (lv_at hl 2 rfl) ?_
      refine va_iald hx hb hK hP 2 1 rfl rfl (inC_in hV.1.1 c_1) dX8_turn_38 ?_
      refine lv_lload_n hx hb dX8_turn_39 rfl (lv_at hl 3 rfl) ?_
      refine vn_l2d hx hb (hml.trans hl.1.symm) hown (hts (.methodLink RX8 109 ⟨"java/lang/Double", "longBitsToDouble", "(J)D"⟩) (by decide +kernel)) (hts (.native ⟨"java/lang/Double", "longBitsToDouble", "(J)D"⟩) (by decide +kernel)) (hts (.static ⟨"java/lang/Double", "longBitsToDouble", "(J)D"⟩) (by decide +kernel)) (hts (.initialized "java/lang/Double") (by decide +kernel)) (sn_of hn0) (Nat.le_of_ble_eq_true rfl) (Nat.le_of_ble_eq_true rfl) dX8_turn_40 ?_
      refine vp_callSd ((va_runS (As := [.int ((σ.1 3) p1.toNatClampNeg), .double p2.toUInt64]) (rest := []) ⟨hx, hb, hml, hown, hts⟩ (met_X8_narrowed l ((σ.1 3) p1.toNatClampNeg) p2.toUInt64 hn0) (va_cwS 2 hts gX8_turn_X8_narrowed rfl rfl rfl (by decide +kernel) ⟨Nat.le_of_ble_eq_true rfl, Nat.le_of_ble_eq_true rfl⟩) ⟨fun _ _ _ _ q => q, fun U hU hW => ⟨rfl, trivial⟩⟩ rfl rfl hl.1 rfl (lv_room (Nat.le_of_ble_eq_true rfl)) dX8_turn_43 ⟨Nat.le_of_ble_eq_true rfl, Nat.le_of_ble_eq_true rfl⟩).run) (fun r_1 h_1 => ?_)
      subst h_1
      refine lv_topd (fun z_3 ez_3 => ?_)
      rw [show z_3 = vl (σ.1 3 (ix p1)) (cst 3 p2 (σ.1 3 (ix p1))) from ez_3.trans (nrw_3 hk ht)]
      refine lv_dstore (lv' := [(5, .double (vl (σ.1 3 (ix p1)) (cst 3 p2 (σ.1 3 (ix p1))))), (4, .int 0), (0, .ref m0), (1, .int p1), (2, .long p2)]) hx hb dX8_turn_46 hl (by decide) rfl (fun ls hl => ?_)
      refine lv_aload_n hx hb dX8_turn_48 rfl (lv_at hl 2 rfl) ?_
      refine va_get (D := Dg) (ci := 6) (v := .ref (a 1)) (C := RX8) (T := TX8) (N := 26) hx hb hts in_X8_turn hown hK hP 0 rfl rfl 6 (by decide) (hts (.fieldLink RX8 13 "OrreryWorksModel" "wheelKind" "[I") (by decide +kernel)) (fun _ h9 => h9) rfl dX8_turn_49 ?_
      refine lv_iload_n hx hb dX8_turn_52 rfl (lv_at hl 3 rfl) ?_
      refine va_iald hx hb hK hP 2 1 rfl rfl (inC_in hV.1.1 c_1) dX8_turn_53 ?_
      refine lv_aload_n hx hb dX8_turn_54 rfl (lv_at hl 2 rfl) ?_
      refine va_get (D := Dg) (ci := 6) (v := .ref (a 3)) (C := RX8) (T := TX8) (N := 26) hx hb hts in_X8_turn hown hK hP 0 rfl rfl 8 (by decide) (hts (.fieldLink RX8 20 "OrreryWorksModel" "position" "[D") (by decide +kernel)) (fun _ h9 => h9) rfl dX8_turn_55 ?_
      refine lv_iload_n hx hb dX8_turn_58 rfl (lv_at hl 3 rfl) ?_
      refine va_dald hx hb hK hP 4 3 rfl rfl (inC_in hV.1.1 c_1) dX8_turn_59 ?_
      refine lv_topd (fun z_4 ez_4 => ?_)
      rw [show z_4 = vl (σ.1 3 (ix p1)) (σ.2 1 (ix p1)) from ez_4.trans e1.2]
      refine lv_dload hx hb dX8_turn_60 (lv_at hl 0 rfl) ?_
      refine lv_dadd hx hb dX8_turn_62 (fm_n64.mpr qA.1) ?_
      refine vp_callSd ((va_runS (As := [.int ((σ.1 3) p1.toNatClampNeg), .double (FP.dadd (vl (σ.1 3 (ix p1)) (σ.2 1 (ix p1))) (vl (σ.1 3 (ix p1)) (cst 3 p2 (σ.1 3 (ix p1)))))]) (rest := []) ⟨hx, hb, hml, hown, hts⟩ (met_X8_narrowed l ((σ.1 3) p1.toNatClampNeg) (FP.dadd (vl (σ.1 3 (ix p1)) (σ.2 1 (ix p1))) (vl (σ.1 3 (ix p1)) (cst 3 p2 (σ.1 3 (ix p1))))) qA.1) (va_cwS 2 hts gX8_turn_X8_narrowed rfl rfl rfl (by decide +kernel) ⟨Nat.le_of_ble_eq_true rfl, Nat.le_of_ble_eq_true rfl⟩) ⟨fun _ _ _ _ q => q, fun U hU hW => ⟨rfl, trivial⟩⟩ rfl rfl hl.1 rfl (lv_room (Nat.le_of_ble_eq_true rfl)) dX8_turn_63 ⟨Nat.le_of_ble_eq_true rfl, Nat.le_of_ble_eq_true rfl⟩).run) (fun r_2 h_2 => ?_)
      subst h_2
      refine lv_topd (fun z_5 ez_5 => ?_)
      rw [show z_5 = vl (σ.1 3 (ix p1)) (suB σ p1 p2) from ez_5.trans qA.2.1]
      refine lv_dstore (lv' := [(7, .double (vl (σ.1 3 (ix p1)) (suB σ p1 p2))), (5, .double (vl (σ.1 3 (ix p1)) (cst 3 p2 (σ.1 3 (ix p1))))), (4, .int 0), (0, .ref m0), (1, .int p1), (2, .long p2)]) hx hb dX8_turn_66 hl (by decide) rfl (fun ls hl => ?_)
      refine lv_dload hx hb dX8_turn_68 (lv_at hl 0 rfl) ?_
      refine vp_callSi ((va_runS (As := [.double (vl (σ.1 3 (ix p1)) (suB σ p1 p2))]) (rest := []) ⟨hx, hb, hml, hown, hts⟩ (met_X8_isEndless l (vl (σ.1 3 (ix p1)) (suB σ p1 p2))) (va_cwS 1 hts gX8_turn_X8_isEndless rfl rfl rfl (by decide +kernel) ⟨Nat.le_of_ble_eq_true rfl, Nat.le_of_ble_eq_true rfl⟩) ⟨fun _ _ _ _ q => q, fun U hU hW => ⟨rfl, trivial⟩⟩ rfl rfl hl.1 rfl (lv_room (Nat.le_of_ble_eq_true rfl)) dX8_turn_70 ⟨Nat.le_of_ble_eq_true rfl, Nat.le_of_ble_eq_true rfl⟩).run) (fun r hw => ?_)
      subst hw
      refine lv_if_eq (tgt := 81) hx hb dX8_turn_73 (by decide) (fun c_6 => ?_) (fun c_6 => ?_)
      · replace c_6 := bI_eq c_6
        refine lv_iconst (v := 0) hx hb dX8_turn_81 (by decide) ?_
        refine lv_istore (lv' := [(4, .int 0), (7, .double (vl (σ.1 3 (ix p1)) (suB σ p1 p2))), (5, .double (vl (σ.1 3 (ix p1)) (cst 3 p2 (σ.1 3 (ix p1))))), (0, .ref m0), (1, .int p1), (2, .long p2)]) hx hb dX8_turn_82 hl (by decide) rfl (fun ls hl => ?_)
        refine lv_iload hx hb dX8_turn_84 (lv_at hl 0 rfl) ?_
        refine lv_if_ne (tgt := 124) hx hb dX8_turn_86 (by decide) (fun h0 => absurd (by decide) h0) (fun _ => ?_)
        have hfin : ¬ mgN (σ.1 3 (ix p1)) (suB σ p1 p2) = infN (σ.1 3 (ix p1)) := fun g => c_6 ((endl_eq hs).mpr g)
        have hR := rem_eq hk hs w1.2.1 hfin w1.2.2.1
        have hD3 := wr_eq (w := 3) hk hs w1.2.1 (fun g => (show (_ ∧ _) ∨ (_ ∧ _) from g).elim (fun g => w1.2.2.1 g.2) (fun g => hfin g.1)) (Or.inr (Or.inr (Or.inr (Or.inl rfl))))
        refine lv_aload_n hx hb dX8_turn_89 rfl (lv_at hl 3 rfl) ?_
        refine va_get (D := Dg) (ci := 6) (v := .ref (a 3)) (C := RX8) (T := TX8) (N := 26) hx hb hts in_X8_turn hown hK hP 0 rfl rfl 8 (by decide) (hts (.fieldLink RX8 20 "OrreryWorksModel" "position" "[D") (by decide +kernel)) (fun _ h9 => h9) rfl dX8_turn_90 ?_
        refine lv_iload_n hx hb dX8_turn_93 rfl (lv_at hl 4 rfl) ?_
        refine lv_dload hx hb dX8_turn_94 (lv_at hl 1 rfl) ?_
        refine lv_aload_n hx hb dX8_turn_96 rfl (lv_at hl 3 rfl) ?_
        refine va_get (D := Dg) (ci := 6) (v := .ref (a 2)) (C := RX8) (T := TX8) (N := 26) hx hb hts in_X8_turn hown hK hP 0 rfl rfl 7 (by decide) (hts (.fieldLink RX8 16 "OrreryWorksModel" "turnOf" "[D") (by decide +kernel)) (fun _ h9 => h9) rfl dX8_turn_97 ?_
        refine lv_iload_n hx hb dX8_turn_100 rfl (lv_at hl 4 rfl) ?_
        refine va_dald hx hb hK hP 3 2 rfl rfl (inC_in hV.1.1 c_1) dX8_turn_101 ?_
        refine lv_topd (fun z_7 ez_7 => ?_)
        rw [show z_7 = vl (σ.1 3 (ix p1)) (σ.2 0 (ix p1)) from ez_7.trans e1.1]
        refine lv_drem hx hb dX8_turn_102 (fm_n64.mpr hR.1) ?_
        refine lv_topd (fun z_8 ez_8 => ?_)
        rw [show z_8 = vl (σ.1 3 (ix p1)) (rmB (σ.1 3 (ix p1)) (suB σ p1 p2) (σ.2 0 (ix p1))) from ez_8.trans hR.2.1]
        refine va_dast hx hb hK hP hD hS 4 3 rfl rfl (inC_in hV.1.1 c_1) dX8_turn_103 (fun H locs hP hD hS => ?_)
        have hP : va_P Dg vwCl (mW m0 a y 0 kd (σ.1 2 0) (σ.1 2 1) (σ.1 2 2) (σ.1 2 3) (σ.1 2 4) wh re (σ.1 1) (σ.1 3) aTo (vf_upd aPo p1.toNatClampNeg (vl (σ.1 3 (ix p1)) (rmB (σ.1 3 (ix p1)) (suB σ p1 p2) (σ.2 0 (ix p1))))) (σ.1 4) aRw aRr (σ.1 5) (σ.1 6) (σ.1 7) aWs aRs (σ.1 8) (σ.1 9) (σ.1 10) (σ.1 11) (σ.1 12)) H := hP
        have hD : va_D A (mW m0 a y 0 kd (σ.1 2 0) (σ.1 2 1) (σ.1 2 2) (σ.1 2 3) (σ.1 2 4) wh re (σ.1 1) (σ.1 3) aTo (vf_upd aPo p1.toNatClampNeg (vl (σ.1 3 (ix p1)) (rmB (σ.1 3 (ix p1)) (suB σ p1 p2) (σ.2 0 (ix p1))))) (σ.1 4) aRw aRr (σ.1 5) (σ.1 6) (σ.1 7) aWs aRs (σ.1 8) (σ.1 9) (σ.1 10) (σ.1 11) (σ.1 12)) := hD
        refine lv_aload_n hx hb dX8_turn_104 rfl (lv_at hl 3 rfl) ?_
        refine va_get (D := Dg) (ci := 6) (v := .ref (a 1)) (C := RX8) (T := TX8) (N := 26) hx hb hts in_X8_turn hown hK hP 0 rfl rfl 6 (by decide) (hts (.fieldLink RX8 13 "OrreryWorksModel" "wheelKind" "[I") (by decide +kernel)) (fun _ h9 => h9) rfl dX8_turn_105 ?_
        refine lv_iload_n hx hb dX8_turn_108 rfl (lv_at hl 4 rfl) ?_
        refine va_iald hx hb hK hP 2 1 rfl rfl (inC_in hV.1.1 c_1) dX8_turn_109 ?_
        refine lv_dload hx hb dX8_turn_110 (lv_at hl 1 rfl) ?_
        refine lv_aload_n hx hb dX8_turn_112 rfl (lv_at hl 3 rfl) ?_
        refine va_get (D := Dg) (ci := 6) (v := .ref (a 2)) (C := RX8) (T := TX8) (N := 26) hx hb hts in_X8_turn hown hK hP 0 rfl rfl 7 (by decide) (hts (.fieldLink RX8 16 "OrreryWorksModel" "turnOf" "[D") (by decide +kernel)) (fun _ h9 => h9) rfl dX8_turn_113 ?_
        refine lv_iload_n hx hb dX8_turn_116 rfl (lv_at hl 4 rfl) ?_
        refine va_dald hx hb hK hP 3 2 rfl rfl (inC_in hV.1.1 c_1) dX8_turn_117 ?_
        refine lv_topd (fun z_9 ez_9 => ?_)
        rw [show z_9 = vl (σ.1 3 (ix p1)) (σ.2 0 (ix p1)) from ez_9.trans e1.1]
        refine lv_ddiv hx hb dX8_turn_118 (fm_n64.mpr hD3.1) ?_
        refine vp_callSd ((va_runS (As := [.int ((σ.1 3) p1.toNatClampNeg), .double (FP.ddiv (vl (σ.1 3 (ix p1)) (suB σ p1 p2)) (vl (σ.1 3 (ix p1)) (σ.2 0 (ix p1))))]) (rest := []) ⟨hx, hb, hml, hown, hts⟩ (met_X8_narrowed l ((σ.1 3) p1.toNatClampNeg) (FP.ddiv (vl (σ.1 3 (ix p1)) (suB σ p1 p2)) (vl (σ.1 3 (ix p1)) (σ.2 0 (ix p1)))) hD3.1) (va_cwS 2 hts gX8_turn_X8_narrowed rfl rfl rfl (by decide +kernel) ⟨Nat.le_of_ble_eq_true rfl, Nat.le_of_ble_eq_true rfl⟩) ⟨fun _ _ _ _ q => q, fun U hU hW => ⟨rfl, trivial⟩⟩ rfl rfl hl.1 rfl (lv_room (Nat.le_of_ble_eq_true rfl)) dX8_turn_119 ⟨Nat.le_of_ble_eq_true rfl, Nat.le_of_ble_eq_true rfl⟩).run) (fun r_3 h_3 => ?_)
        subst h_3
        refine lv_topd (fun z_10 ez_10 => ?_)
        rw [show z_10 = vl (σ.1 3 (ix p1)) (wkB (σ.1 3 (ix p1)) 3 (suB σ p1 p2) (σ.2 0 (ix p1))) from ez_10.trans hD3.2.1]
        refine lv_d2i hx hb dX8_turn_122 ?_
        have hw : wh_turn σ p1 p2 = 0 := by simp only [wh_turn, if_pos c_1, if_pos c_2, if_neg (fun g => c_6 ((endl_eq hs).mpr g))]
        exact W.iret (v := FP.d2i (vl (σ.1 3 (ix p1)) (wkB (σ.1 3 (ix p1)) 3 (suB σ p1 p2) (σ.2 0 (ix p1))))) hx hb hr (fun t ht hW => ⟨⟨_, (mW m0 a y 0 kd (σ.1 2 0) (σ.1 2 1) (σ.1 2 2) (σ.1 2 3) (σ.1 2 4) wh re (σ.1 1) (σ.1 3) aTo (vf_upd aPo p1.toNatClampNeg (vl (σ.1 3 (ix p1)) (rmB (σ.1 3 (ix p1)) (suB σ p1 p2) (σ.2 0 (ix p1))))) (σ.1 4) aRw aRr (σ.1 5) (σ.1 6) (σ.1 7) aWs aRs (σ.1 8) (σ.1 9) (σ.1 10) (σ.1 11) (σ.1 12)), rfl, ⟨by rw [an_turn, if_pos hw]; try rfl, kd, wh, re, aTo, vf_upd aPo p1.toNatClampNeg (vl (σ.1 3 (ix p1)) (rmB (σ.1 3 (ix p1)) (suB σ p1 p2) (σ.2 0 (ix p1)))), aRw, aRr, aWs, aRs, by rw [nw_turn, if_pos hw]; rfl, by rw [nw_turn, if_pos hw]; exact mC_turn hM⟩, by rw [ht]; exact hP, va_K.moved hW.alike hK, hD⟩, hS.F ht⟩) hS.2.2 dX8_turn_123
      · replace c_6 := bI_ne c_6
        refine lv_bipush (v := (-4)) hx hb dX8_turn_76 (by decide) ?_
        refine lv_goto (tgt := 82) hx hb dX8_turn_78 (by decide) ?_
        refine lv_istore (lv' := [(4, .int (-4)), (7, .double (vl (σ.1 3 (ix p1)) (suB σ p1 p2))), (5, .double (vl (σ.1 3 (ix p1)) (cst 3 p2 (σ.1 3 (ix p1))))), (0, .ref m0), (1, .int p1), (2, .long p2)]) hx hb dX8_turn_82 hl (by decide) rfl (fun ls hl => ?_)
        refine lv_iload hx hb dX8_turn_84 (lv_at hl 0 rfl) ?_
        refine lv_if_ne (tgt := 124) hx hb dX8_turn_86 (by decide) (fun _ => ?_) (fun h0 => absurd h0 (by decide))
        refine lv_aload_n hx hb dX8_turn_124 rfl (lv_at hl 3 rfl) ?_
        refine lv_iload hx hb dX8_turn_125 (lv_at hl 0 rfl) ?_
        have hFc := wFree hD hS hA
        refine va_calli (va_runV (As := [.int (-4)]) (rest := []) ⟨hx, hb, hml, hown, hts⟩ (met_X8_refuse l Dg m0 H.size a y 0 kd (σ.1 2 0) (σ.1 2 1) (σ.1 2 2) (σ.1 2 3) (σ.1 2 4) wh re (σ.1 1) (σ.1 3) aTo aPo (σ.1 4) aRw aRr (σ.1 5) (σ.1 6) (σ.1 7) aWs aRs (σ.1 8) (σ.1 9) (σ.1 10) (σ.1 11) (σ.1 12) (-4) (by unfold vp_in; decide)) (cwV 1 hts gX8_turn_X8_refuse rfl rfl rfl (by decide +kernel) ⟨Nat.le_of_ble_eq_true rfl, Nat.le_of_ble_eq_true rfl⟩) (wPreV hK hP (hD.weaken (fun _ _ _ _ => trivial)) (va_recv hK hP (ci := 6) (q0 := 0) rfl rfl)) rfl rfl hl.1 rfl (lv_room (Nat.le_of_ble_eq_true rfl)) dX8_turn_127 ⟨Nat.le_of_ble_eq_true rfl, Nat.le_of_ble_eq_true rfl⟩) hS (fun q _ h => hFc q h) hFc (fun r u t H locs ht hvm hw hB _ _ hS => ?_)
        obtain ⟨hP, -, hD⟩ := hB
        rw [ht] at hP
        replace hD := hD.weaken (fun _ q _ h => hFc q.1 h)
        rw [hw.2] at hP hD
        rw [hw.1]
        clear hw hFc
        have hP : va_P Dg vwCl (mW m0 a y (-4) kd (σ.1 2 0) (σ.1 2 1) (σ.1 2 2) (σ.1 2 3) (σ.1 2 4) wh re (rfO (-4) (σ.1 1)) (σ.1 3) aTo aPo (σ.1 4) aRw aRr (σ.1 5) (σ.1 6) (σ.1 7) aWs aRs (σ.1 8) (σ.1 9) (σ.1 10) (σ.1 11) (σ.1 12)) H := hP
        have hD : va_D A (mW m0 a y (-4) kd (σ.1 2 0) (σ.1 2 1) (σ.1 2 2) (σ.1 2 3) (σ.1 2 4) wh re (rfO (-4) (σ.1 1)) (σ.1 3) aTo aPo (σ.1 4) aRw aRr (σ.1 5) (σ.1 6) (σ.1 7) aWs aRs (σ.1 8) (σ.1 9) (σ.1 10) (σ.1 11) (σ.1 12)) := hD
        refine lv_istore (lv' := [(4, .int (-4)), (7, .double (vl (σ.1 3 (ix p1)) (suB σ p1 p2))), (5, .double (vl (σ.1 3 (ix p1)) (cst 3 p2 (σ.1 3 (ix p1))))), (0, .ref m0), (1, .int p1), (2, .long p2)]) hx hb dX8_turn_130 hl (by decide) rfl (fun ls hl => ?_)
        refine lv_iconst (v := 0) hx hb dX8_turn_132 (by decide) ?_
        have hw : wh_turn σ p1 p2 = (-4) := by simp only [wh_turn, if_pos c_1, if_pos c_2, if_pos ((endl_eq hs).mp c_6)]
        have hn : ¬ wh_turn σ p1 p2 = 0 := by rw [hw]; decide
        exact W.iret (v := 0) hx hb hr (fun t ht hW => ⟨⟨_, (mW m0 a y (-4) kd (σ.1 2 0) (σ.1 2 1) (σ.1 2 2) (σ.1 2 3) (σ.1 2 4) wh re (rfO (-4) (σ.1 1)) (σ.1 3) aTo aPo (σ.1 4) aRw aRr (σ.1 5) (σ.1 6) (σ.1 7) aWs aRs (σ.1 8) (σ.1 9) (σ.1 10) (σ.1 11) (σ.1 12)), rfl, ⟨by rw [an_turn, if_neg hn]; try rfl, kd, wh, re, aTo, aPo, aRw, aRr, aWs, aRs, by rw [nw_turn, if_neg hn, hw]; rfl, by rw [nw_turn, if_neg hn]; exact hM⟩, by rw [ht]; exact hP, va_K.moved hW.alike hK, hD⟩, hS.F ht⟩) hS.2.2 dX8_turn_133
    · replace c_2 := bI_eq c_2
      refine lv_bipush (v := (-2)) hx hb dX8_turn_20 (by decide) ?_
      refine lv_goto (tgt := 26) hx hb dX8_turn_22 (by decide) ?_
      refine lv_istore (lv' := [(4, .int (-2)), (0, .ref m0), (1, .int p1), (2, .long p2)]) hx hb dX8_turn_26 hl (by decide) rfl (fun ls hl => ?_)
      refine lv_iload hx hb dX8_turn_28 (lv_at hl 0 rfl) ?_
      refine lv_if_ne (tgt := 124) hx hb dX8_turn_30 (by decide) (fun _ => ?_) (fun h0 => absurd h0 (by decide))
      refine lv_aload_n hx hb dX8_turn_124 rfl (lv_at hl 1 rfl) ?_
      refine lv_iload hx hb dX8_turn_125 (lv_at hl 0 rfl) ?_
      have hFc := wFree hD hS hA
      refine va_calli (va_runV (As := [.int (-2)]) (rest := []) ⟨hx, hb, hml, hown, hts⟩ (met_X8_refuse l Dg m0 H.size a y 0 kd (σ.1 2 0) (σ.1 2 1) (σ.1 2 2) (σ.1 2 3) (σ.1 2 4) wh re (σ.1 1) (σ.1 3) aTo aPo (σ.1 4) aRw aRr (σ.1 5) (σ.1 6) (σ.1 7) aWs aRs (σ.1 8) (σ.1 9) (σ.1 10) (σ.1 11) (σ.1 12) (-2) (by unfold vp_in; decide)) (cwV 1 hts gX8_turn_X8_refuse rfl rfl rfl (by decide +kernel) ⟨Nat.le_of_ble_eq_true rfl, Nat.le_of_ble_eq_true rfl⟩) (wPreV hK hP (hD.weaken (fun _ _ _ _ => trivial)) (va_recv hK hP (ci := 6) (q0 := 0) rfl rfl)) rfl rfl hl.1 rfl (lv_room (Nat.le_of_ble_eq_true rfl)) dX8_turn_127 ⟨Nat.le_of_ble_eq_true rfl, Nat.le_of_ble_eq_true rfl⟩) hS (fun q _ h => hFc q h) hFc (fun r u t H locs ht hvm hw hB _ _ hS => ?_)
      obtain ⟨hP, -, hD⟩ := hB
      rw [ht] at hP
      replace hD := hD.weaken (fun _ q _ h => hFc q.1 h)
      rw [hw.2] at hP hD
      rw [hw.1]
      clear hw hFc
      have hP : va_P Dg vwCl (mW m0 a y (-2) kd (σ.1 2 0) (σ.1 2 1) (σ.1 2 2) (σ.1 2 3) (σ.1 2 4) wh re (rfO (-2) (σ.1 1)) (σ.1 3) aTo aPo (σ.1 4) aRw aRr (σ.1 5) (σ.1 6) (σ.1 7) aWs aRs (σ.1 8) (σ.1 9) (σ.1 10) (σ.1 11) (σ.1 12)) H := hP
      have hD : va_D A (mW m0 a y (-2) kd (σ.1 2 0) (σ.1 2 1) (σ.1 2 2) (σ.1 2 3) (σ.1 2 4) wh re (rfO (-2) (σ.1 1)) (σ.1 3) aTo aPo (σ.1 4) aRw aRr (σ.1 5) (σ.1 6) (σ.1 7) aWs aRs (σ.1 8) (σ.1 9) (σ.1 10) (σ.1 11) (σ.1 12)) := hD
      refine lv_istore (lv' := [(4, .int (-2)), (0, .ref m0), (1, .int p1), (2, .long p2)]) hx hb dX8_turn_130 hl (by decide) rfl (fun ls hl => ?_)
      refine lv_iconst (v := 0) hx hb dX8_turn_132 (by decide) ?_
      have hw : wh_turn σ p1 p2 = (-2) := by simp only [wh_turn, if_pos c_1, if_neg c_2]
      have hn : ¬ wh_turn σ p1 p2 = 0 := by rw [hw]; decide
      exact W.iret (v := 0) hx hb hr (fun t ht hW => ⟨⟨_, (mW m0 a y (-2) kd (σ.1 2 0) (σ.1 2 1) (σ.1 2 2) (σ.1 2 3) (σ.1 2 4) wh re (rfO (-2) (σ.1 1)) (σ.1 3) aTo aPo (σ.1 4) aRw aRr (σ.1 5) (σ.1 6) (σ.1 7) aWs aRs (σ.1 8) (σ.1 9) (σ.1 10) (σ.1 11) (σ.1 12)), rfl, ⟨by rw [an_turn, if_neg hn]; try rfl, kd, wh, re, aTo, aPo, aRw, aRr, aWs, aRs, by rw [nw_turn, if_neg hn, hw]; rfl, by rw [nw_turn, if_neg hn]; exact hM⟩, by rw [ht]; exact hP, va_K.moved hW.alike hK, hD⟩, hS.F ht⟩) hS.2.2 dX8_turn_133

theorem in_X8_work : ∀ w ∈ wsX80, w ∈ wsX8_work := fun w h => List.mem_cons_of_mem _ (List.mem_append_right _ h)
set_option maxHeartbeats 8000000 in
set_option maxRecDepth 100000 in
theorem met_X8_work (l : Launch) (Dg : va_G) (m0 z : Nat) (a : Nat → Nat) (y : Nat → ClassId) (σ : St) (kd : Int32) (wh : Int64) (re : UInt64) (aTo aPo : Nat → UInt64) (aRw : Nat → Int64) (aRr : Nat → UInt64) (aWs : Nat → Int64) (aRs : Nat → UInt64) (p1 : Int32) (p2 : Int32) (p3 : Int32) (p4 : Int32) (hV : vOK σ) (hM : mC σ aTo aPo aRw aRr aWs aRs)  : Met l yX8_work wsX8_work ({ frames := 2, cells := 0, slots := 0, locals := 46 }) (va_Pc [.ref m0, .int p1, .int p2, .int p3, .int p4] (wB Dg (mT y) (mW m0 a y (σ.1 0 0) kd (σ.1 2 0) (σ.1 2 1) (σ.1 2 2) (σ.1 2 3) (σ.1 2 4) wh re (σ.1 1) (σ.1 3) aTo aPo (σ.1 4) aRw aRr (σ.1 5) (σ.1 6) (σ.1 7) aWs aRs (σ.1 8) (σ.1 9) (σ.1 10) (σ.1 11) (σ.1 12)) z)) (va_Qi (fun (r : Int32) (u : va_W) => r = an_work σ p1 p2 p3 p4 ∧ MI m0 a y (nw_work σ p1 p2 p3 p4) u) (wE Dg (mT y) (va_A (mW m0 a y (σ.1 0 0) kd (σ.1 2 0) (σ.1 2 1) (σ.1 2 2) (σ.1 2 3) (σ.1 2 4) wh re (σ.1 1) (σ.1 3) aTo aPo (σ.1 4) aRw aRr (σ.1 5) (σ.1 6) (σ.1 7) aWs aRs (σ.1 8) (σ.1 9) (σ.1 10) (σ.1 11) (σ.1 12)) z)) (va_A (mW m0 a y (σ.1 0 0) kd (σ.1 2 0) (σ.1 2 1) (σ.1 2 2) (σ.1 2 3) (σ.1 2 4) wh re (σ.1 1) (σ.1 3) aTo aPo (σ.1 4) aRw aRr (σ.1 5) (σ.1 6) (σ.1 7) aWs aRs (σ.1 8) (σ.1 9) (σ.1 10) (σ.1 11) (σ.1 12)) z)) 0 0 (va_A (mW m0 a y (σ.1 0 0) kd (σ.1 2 0) (σ.1 2 1) (σ.1 2 2) (σ.1 2 3) (σ.1 2 4) wh re (σ.1 1) (σ.1 3) aTo aPo (σ.1 4) aRw aRr (σ.1 5) (σ.1 6) (σ.1 7) aWs aRs (σ.1 8) (σ.1 9) (σ.1 10) (σ.1 11) (σ.1 12)) z) := by
  refine Met.ofW (cc := cX8_work) (maxL := 16) (ret := (some .int)) (by decide) rfl ?_
  intro p e s m args below meth c s₁ B hml hv
  obtain ⟨rfl, hsz, hP, hK, hD0⟩ := hv
  have hx := B.exec
  have hb := B.bytes
  have hr := B.returns
  have hts := atoms_spec (ws := wsX8_work) B.pre
  have hown : s.vm.findClass RX8 = some m.cls := findClass_of_methodNamed B.named
  have hlocks := B.notSynchronized
  subst hsz
  have hD := hD0.self (sz := s.heap.size)
  generalize hAe : va_A (mW m0 a y (σ.1 0 0) kd (σ.1 2 0) (σ.1 2 1) (σ.1 2 2) (σ.1 2 3) (σ.1 2 4) wh re (σ.1 1) (σ.1 3) aTo aPo (σ.1 4) aRw aRr (σ.1 5) (σ.1 6) (σ.1 7) aWs aRs (σ.1 8) (σ.1 9) (σ.1 10) (σ.1 11) (σ.1 12)) s.heap.size = A at hD ⊢
  have hA : ∀ q : Nat, s.heap.size ≤ q → A q := fun q h => by rw [← hAe]; exact Or.inr h
  have hS : va_S A s.heap s.heap [] := va_S.rf
  have hP : va_P Dg vwCl (mW m0 a y (σ.1 0 0) kd (σ.1 2 0) (σ.1 2 1) (σ.1 2 2) (σ.1 2 3) (σ.1 2 4) wh re (σ.1 1) (σ.1 3) aTo aPo (σ.1 4) aRw aRr (σ.1 5) (σ.1 6) (σ.1 7) aWs aRs (σ.1 8) (σ.1 9) (σ.1 10) (σ.1 11) (σ.1 12)) s.heap := hP
  have hl := lv_entry ([.ref m0, .int p1, .int p2, .int p3, .int p4]) (n := 16) (Nat.le_of_ble_eq_true rfl)
  rw [lg_entry_eq]
  generalize (lg_sl ([.ref m0, .int p1, .int p2, .int p3, .int p4]) ++ List.replicate (16 - (lg_sl ([.ref m0, .int p1, .int p2, .int p3, .int p4])).length) Slot.unset).toArray = ls at hl ⊢
  have hl : lv_has ls 16 [(0, .ref m0), (1, .int p1), (2, .int p2), (3, .int p3), (4, .int p4)] := hl
  refine lv_aload_n hx hb dX8_work_0 rfl (lv_at hl 0 rfl) ?_
  refine lv_iconst (v := 0) hx hb dX8_work_1 (by decide) ?_
  refine va_put (D := Dg) (ci := 6) (v := .int 0) (ty := .int) (C := RX8) (T := TX8) (N := 26) hx hb hts in_X8_work tyX8 tyX8_ok nmX8 hown hK hP hD hS 0 rfl rfl 0 (by decide) (hts (.fieldLink RX8 64 "OrreryWorksModel" "refused" "I") (by decide +kernel)) (fun _ h9 => h9) rfl (by decide +kernel) rfl rfl (Nat.le_of_ble_eq_true rfl) dX8_work_2 (fun H locs hP hD hS => ?_)
  have hP : va_P Dg vwCl (mW m0 a y 0 kd (σ.1 2 0) (σ.1 2 1) (σ.1 2 2) (σ.1 2 3) (σ.1 2 4) wh re (σ.1 1) (σ.1 3) aTo aPo (σ.1 4) aRw aRr (σ.1 5) (σ.1 6) (σ.1 7) aWs aRs (σ.1 8) (σ.1 9) (σ.1 10) (σ.1 11) (σ.1 12)) H := hP
  have hD : va_D A (mW m0 a y 0 kd (σ.1 2 0) (σ.1 2 1) (σ.1 2 2) (σ.1 2 3) (σ.1 2 4) wh re (σ.1 1) (σ.1 3) aTo aPo (σ.1 4) aRw aRr (σ.1 5) (σ.1 6) (σ.1 7) aWs aRs (σ.1 8) (σ.1 9) (σ.1 10) (σ.1 11) (σ.1 12)) := hD
  refine lv_iload_n hx hb dX8_work_5 rfl (lv_at hl 1 rfl) ?_
  refine lv_iconst (v := 0) hx hb dX8_work_6 (by decide) ?_
  refine lv_iconst (v := 4) hx hb dX8_work_7 (by decide) ?_
  refine vp_callSi ((va_runS (As := [.int p1, .int 0, .int 4]) (rest := []) ⟨hx, hb, hml, hown, hts⟩ (met_X8_isIn l p1 0 4) (va_cwS 3 hts gX8_work_X8_isIn rfl rfl rfl (by decide +kernel) ⟨Nat.le_of_ble_eq_true rfl, Nat.le_of_ble_eq_true rfl⟩) ⟨fun _ _ _ _ q => q, fun U hU hW => ⟨rfl, trivial⟩⟩ rfl rfl hl.1 rfl (lv_room (Nat.le_of_ble_eq_true rfl)) dX8_work_8 ⟨Nat.le_of_ble_eq_true rfl, Nat.le_of_ble_eq_true rfl⟩).run) (fun r hw => ?_)
  subst hw
  refine lv_if_eq (tgt := 39) hx hb dX8_work_11 (by decide) (fun c_1 => ?_) (fun c_1 => ?_)
  · replace c_1 := bI_eq c_1
    refine lv_aload_n hx hb dX8_work_39 rfl (lv_at hl 0 rfl) ?_
    refine lv_bipush (v := (-2)) hx hb dX8_work_40 (by decide) ?_
    have hFc := wFree hD hS hA
    refine va_calli (va_runV (As := [.int (-2)]) (rest := []) ⟨hx, hb, hml, hown, hts⟩ (met_X8_refuse l Dg m0 H.size a y 0 kd (σ.1 2 0) (σ.1 2 1) (σ.1 2 2) (σ.1 2 3) (σ.1 2 4) wh re (σ.1 1) (σ.1 3) aTo aPo (σ.1 4) aRw aRr (σ.1 5) (σ.1 6) (σ.1 7) aWs aRs (σ.1 8) (σ.1 9) (σ.1 10) (σ.1 11) (σ.1 12) (-2) (by unfold vp_in; decide)) (cwV 1 hts gX8_work_X8_refuse rfl rfl rfl (by decide +kernel) ⟨Nat.le_of_ble_eq_true rfl, Nat.le_of_ble_eq_true rfl⟩) (wPreV hK hP (hD.weaken (fun _ _ _ _ => trivial)) (va_recv hK hP (ci := 6) (q0 := 0) rfl rfl)) rfl rfl hl.1 rfl (lv_room (Nat.le_of_ble_eq_true rfl)) dX8_work_42 ⟨Nat.le_of_ble_eq_true rfl, Nat.le_of_ble_eq_true rfl⟩) hS (fun q _ h => hFc q h) hFc (fun r u t H locs ht hvm hw hB _ _ hS => ?_)
    obtain ⟨hP, -, hD⟩ := hB
    rw [ht] at hP
    replace hD := hD.weaken (fun _ q _ h => hFc q.1 h)
    rw [hw.2] at hP hD
    rw [hw.1]
    clear hw hFc
    have hP : va_P Dg vwCl (mW m0 a y (-2) kd (σ.1 2 0) (σ.1 2 1) (σ.1 2 2) (σ.1 2 3) (σ.1 2 4) wh re (rfO (-2) (σ.1 1)) (σ.1 3) aTo aPo (σ.1 4) aRw aRr (σ.1 5) (σ.1 6) (σ.1 7) aWs aRs (σ.1 8) (σ.1 9) (σ.1 10) (σ.1 11) (σ.1 12)) H := hP
    have hD : va_D A (mW m0 a y (-2) kd (σ.1 2 0) (σ.1 2 1) (σ.1 2 2) (σ.1 2 3) (σ.1 2 4) wh re (rfO (-2) (σ.1 1)) (σ.1 3) aTo aPo (σ.1 4) aRw aRr (σ.1 5) (σ.1 6) (σ.1 7) aWs aRs (σ.1 8) (σ.1 9) (σ.1 10) (σ.1 11) (σ.1 12)) := hD
    have hw : wh_work σ p1 p2 p3 p4 = (-2) := by simp only [wh_work, if_neg c_1]
    have hn : ¬ wh_work σ p1 p2 p3 p4 = 0 := by rw [hw]; decide
    exact W.iret (v := (-2)) hx hb hr (fun t ht hW => ⟨⟨_, (mW m0 a y (-2) kd (σ.1 2 0) (σ.1 2 1) (σ.1 2 2) (σ.1 2 3) (σ.1 2 4) wh re (rfO (-2) (σ.1 1)) (σ.1 3) aTo aPo (σ.1 4) aRw aRr (σ.1 5) (σ.1 6) (σ.1 7) aWs aRs (σ.1 8) (σ.1 9) (σ.1 10) (σ.1 11) (σ.1 12)), rfl, ⟨by rw [an_work, if_neg hn, hw]; try rfl, kd, wh, re, aTo, aPo, aRw, aRr, aWs, aRs, by rw [nw_work, if_neg hn, hw]; rfl, by rw [nw_work, if_neg hn]; exact hM⟩, by rw [ht]; exact hP, va_K.moved hW.alike hK, hD⟩, hS.F ht⟩) hS.2.2 dX8_work_45
  · replace c_1 := bI_ne c_1
    refine lv_aload_n hx hb dX8_work_14 rfl (lv_at hl 0 rfl) ?_
    refine lv_iload_n hx hb dX8_work_15 rfl (lv_at hl 2 rfl) ?_
    refine vp_callSi ((va_runV (As := [.int p2]) (rest := []) ⟨hx, hb, hml, hown, hts⟩ (met_X8_isRegister l Dg m0 H.size a y 0 kd (σ.1 2 0) (σ.1 2 1) (σ.1 2 2) (σ.1 2 3) (σ.1 2 4) wh re (σ.1 1) (σ.1 3) aTo aPo (σ.1 4) aRw aRr (σ.1 5) (σ.1 6) (σ.1 7) aWs aRs (σ.1 8) (σ.1 9) (σ.1 10) (σ.1 11) (σ.1 12) p2 ) (cwV 1 hts gX8_work_X8_isRegister rfl rfl rfl (by decide +kernel) ⟨Nat.le_of_ble_eq_true rfl, Nat.le_of_ble_eq_true rfl⟩) (wPreV hK hP (hD.weaken (fun _ _ _ _ => trivial)) (va_recv hK hP (ci := 6) (q0 := 0) rfl rfl)) rfl rfl hl.1 rfl (lv_room (Nat.le_of_ble_eq_true rfl)) dX8_work_16 ⟨Nat.le_of_ble_eq_true rfl, Nat.le_of_ble_eq_true rfl⟩).run) (fun r hw => ?_)
    rw [hw]
    refine lv_if_eq (tgt := 39) hx hb dX8_work_19 (by decide) (fun c_2 => ?_) (fun c_2 => ?_)
    · replace c_2 := bI_eq c_2
      refine lv_aload_n hx hb dX8_work_39 rfl (lv_at hl 0 rfl) ?_
      refine lv_bipush (v := (-2)) hx hb dX8_work_40 (by decide) ?_
      have hFc := wFree hD hS hA
      refine va_calli (va_runV (As := [.int (-2)]) (rest := []) ⟨hx, hb, hml, hown, hts⟩ (met_X8_refuse l Dg m0 H.size a y 0 kd (σ.1 2 0) (σ.1 2 1) (σ.1 2 2) (σ.1 2 3) (σ.1 2 4) wh re (σ.1 1) (σ.1 3) aTo aPo (σ.1 4) aRw aRr (σ.1 5) (σ.1 6) (σ.1 7) aWs aRs (σ.1 8) (σ.1 9) (σ.1 10) (σ.1 11) (σ.1 12) (-2) (by unfold vp_in; decide)) (cwV 1 hts gX8_work_X8_refuse rfl rfl rfl (by decide +kernel) ⟨Nat.le_of_ble_eq_true rfl, Nat.le_of_ble_eq_true rfl⟩) (wPreV hK hP (hD.weaken (fun _ _ _ _ => trivial)) (va_recv hK hP (ci := 6) (q0 := 0) rfl rfl)) rfl rfl hl.1 rfl (lv_room (Nat.le_of_ble_eq_true rfl)) dX8_work_42 ⟨Nat.le_of_ble_eq_true rfl, Nat.le_of_ble_eq_true rfl⟩) hS (fun q _ h => hFc q h) hFc (fun r u t H locs ht hvm hw hB _ _ hS => ?_)
      obtain ⟨hP, -, hD⟩ := hB
      rw [ht] at hP
      replace hD := hD.weaken (fun _ q _ h => hFc q.1 h)
      rw [hw.2] at hP hD
      rw [hw.1]
      clear hw hFc
      have hP : va_P Dg vwCl (mW m0 a y (-2) kd (σ.1 2 0) (σ.1 2 1) (σ.1 2 2) (σ.1 2 3) (σ.1 2 4) wh re (rfO (-2) (σ.1 1)) (σ.1 3) aTo aPo (σ.1 4) aRw aRr (σ.1 5) (σ.1 6) (σ.1 7) aWs aRs (σ.1 8) (σ.1 9) (σ.1 10) (σ.1 11) (σ.1 12)) H := hP
      have hD : va_D A (mW m0 a y (-2) kd (σ.1 2 0) (σ.1 2 1) (σ.1 2 2) (σ.1 2 3) (σ.1 2 4) wh re (rfO (-2) (σ.1 1)) (σ.1 3) aTo aPo (σ.1 4) aRw aRr (σ.1 5) (σ.1 6) (σ.1 7) aWs aRs (σ.1 8) (σ.1 9) (σ.1 10) (σ.1 11) (σ.1 12)) := hD
      have hw : wh_work σ p1 p2 p3 p4 = (-2) := by simp only [wh_work, if_pos c_1, if_neg c_2]
      have hn : ¬ wh_work σ p1 p2 p3 p4 = 0 := by rw [hw]; decide
      exact W.iret (v := (-2)) hx hb hr (fun t ht hW => ⟨⟨_, (mW m0 a y (-2) kd (σ.1 2 0) (σ.1 2 1) (σ.1 2 2) (σ.1 2 3) (σ.1 2 4) wh re (rfO (-2) (σ.1 1)) (σ.1 3) aTo aPo (σ.1 4) aRw aRr (σ.1 5) (σ.1 6) (σ.1 7) aWs aRs (σ.1 8) (σ.1 9) (σ.1 10) (σ.1 11) (σ.1 12)), rfl, ⟨by rw [an_work, if_neg hn, hw]; try rfl, kd, wh, re, aTo, aPo, aRw, aRr, aWs, aRs, by rw [nw_work, if_neg hn, hw]; rfl, by rw [nw_work, if_neg hn]; exact hM⟩, by rw [ht]; exact hP, va_K.moved hW.alike hK, hD⟩, hS.F ht⟩) hS.2.2 dX8_work_45
    · replace c_2 := bI_ne c_2
      refine lv_aload_n hx hb dX8_work_22 rfl (lv_at hl 0 rfl) ?_
      refine lv_iload_n hx hb dX8_work_23 rfl (lv_at hl 3 rfl) ?_
      refine vp_callSi ((va_runV (As := [.int p3]) (rest := []) ⟨hx, hb, hml, hown, hts⟩ (met_X8_isRegister l Dg m0 H.size a y 0 kd (σ.1 2 0) (σ.1 2 1) (σ.1 2 2) (σ.1 2 3) (σ.1 2 4) wh re (σ.1 1) (σ.1 3) aTo aPo (σ.1 4) aRw aRr (σ.1 5) (σ.1 6) (σ.1 7) aWs aRs (σ.1 8) (σ.1 9) (σ.1 10) (σ.1 11) (σ.1 12) p3 ) (cwV 1 hts gX8_work_X8_isRegister rfl rfl rfl (by decide +kernel) ⟨Nat.le_of_ble_eq_true rfl, Nat.le_of_ble_eq_true rfl⟩) (wPreV hK hP (hD.weaken (fun _ _ _ _ => trivial)) (va_recv hK hP (ci := 6) (q0 := 0) rfl rfl)) rfl rfl hl.1 rfl (lv_room (Nat.le_of_ble_eq_true rfl)) dX8_work_24 ⟨Nat.le_of_ble_eq_true rfl, Nat.le_of_ble_eq_true rfl⟩).run) (fun r hw => ?_)
      rw [hw]
      refine lv_if_eq (tgt := 39) hx hb dX8_work_27 (by decide) (fun c_3 => ?_) (fun c_3 => ?_)
      · replace c_3 := bI_eq c_3
        refine lv_aload_n hx hb dX8_work_39 rfl (lv_at hl 0 rfl) ?_
        refine lv_bipush (v := (-2)) hx hb dX8_work_40 (by decide) ?_
        have hFc := wFree hD hS hA
        refine va_calli (va_runV (As := [.int (-2)]) (rest := []) ⟨hx, hb, hml, hown, hts⟩ (met_X8_refuse l Dg m0 H.size a y 0 kd (σ.1 2 0) (σ.1 2 1) (σ.1 2 2) (σ.1 2 3) (σ.1 2 4) wh re (σ.1 1) (σ.1 3) aTo aPo (σ.1 4) aRw aRr (σ.1 5) (σ.1 6) (σ.1 7) aWs aRs (σ.1 8) (σ.1 9) (σ.1 10) (σ.1 11) (σ.1 12) (-2) (by unfold vp_in; decide)) (cwV 1 hts gX8_work_X8_refuse rfl rfl rfl (by decide +kernel) ⟨Nat.le_of_ble_eq_true rfl, Nat.le_of_ble_eq_true rfl⟩) (wPreV hK hP (hD.weaken (fun _ _ _ _ => trivial)) (va_recv hK hP (ci := 6) (q0 := 0) rfl rfl)) rfl rfl hl.1 rfl (lv_room (Nat.le_of_ble_eq_true rfl)) dX8_work_42 ⟨Nat.le_of_ble_eq_true rfl, Nat.le_of_ble_eq_true rfl⟩) hS (fun q _ h => hFc q h) hFc (fun r u t H locs ht hvm hw hB _ _ hS => ?_)
        obtain ⟨hP, -, hD⟩ := hB
        rw [ht] at hP
        replace hD := hD.weaken (fun _ q _ h => hFc q.1 h)
        rw [hw.2] at hP hD
        rw [hw.1]
        clear hw hFc
        have hP : va_P Dg vwCl (mW m0 a y (-2) kd (σ.1 2 0) (σ.1 2 1) (σ.1 2 2) (σ.1 2 3) (σ.1 2 4) wh re (rfO (-2) (σ.1 1)) (σ.1 3) aTo aPo (σ.1 4) aRw aRr (σ.1 5) (σ.1 6) (σ.1 7) aWs aRs (σ.1 8) (σ.1 9) (σ.1 10) (σ.1 11) (σ.1 12)) H := hP
        have hD : va_D A (mW m0 a y (-2) kd (σ.1 2 0) (σ.1 2 1) (σ.1 2 2) (σ.1 2 3) (σ.1 2 4) wh re (rfO (-2) (σ.1 1)) (σ.1 3) aTo aPo (σ.1 4) aRw aRr (σ.1 5) (σ.1 6) (σ.1 7) aWs aRs (σ.1 8) (σ.1 9) (σ.1 10) (σ.1 11) (σ.1 12)) := hD
        have hw : wh_work σ p1 p2 p3 p4 = (-2) := by simp only [wh_work, if_pos c_1, if_pos c_2, if_neg c_3]
        have hn : ¬ wh_work σ p1 p2 p3 p4 = 0 := by rw [hw]; decide
        exact W.iret (v := (-2)) hx hb hr (fun t ht hW => ⟨⟨_, (mW m0 a y (-2) kd (σ.1 2 0) (σ.1 2 1) (σ.1 2 2) (σ.1 2 3) (σ.1 2 4) wh re (rfO (-2) (σ.1 1)) (σ.1 3) aTo aPo (σ.1 4) aRw aRr (σ.1 5) (σ.1 6) (σ.1 7) aWs aRs (σ.1 8) (σ.1 9) (σ.1 10) (σ.1 11) (σ.1 12)), rfl, ⟨by rw [an_work, if_neg hn, hw]; try rfl, kd, wh, re, aTo, aPo, aRw, aRr, aWs, aRs, by rw [nw_work, if_neg hn, hw]; rfl, by rw [nw_work, if_neg hn]; exact hM⟩, by rw [ht]; exact hP, va_K.moved hW.alike hK, hD⟩, hS.F ht⟩) hS.2.2 dX8_work_45
      · replace c_3 := bI_ne c_3
        refine lv_aload_n hx hb dX8_work_30 rfl (lv_at hl 0 rfl) ?_
        refine lv_iload hx hb dX8_work_31 (lv_at hl 4 rfl) ?_
        refine vp_callSi ((va_runV (As := [.int p4]) (rest := []) ⟨hx, hb, hml, hown, hts⟩ (met_X8_isRegister l Dg m0 H.size a y 0 kd (σ.1 2 0) (σ.1 2 1) (σ.1 2 2) (σ.1 2 3) (σ.1 2 4) wh re (σ.1 1) (σ.1 3) aTo aPo (σ.1 4) aRw aRr (σ.1 5) (σ.1 6) (σ.1 7) aWs aRs (σ.1 8) (σ.1 9) (σ.1 10) (σ.1 11) (σ.1 12) p4 ) (cwV 1 hts gX8_work_X8_isRegister rfl rfl rfl (by decide +kernel) ⟨Nat.le_of_ble_eq_true rfl, Nat.le_of_ble_eq_true rfl⟩) (wPreV hK hP (hD.weaken (fun _ _ _ _ => trivial)) (va_recv hK hP (ci := 6) (q0 := 0) rfl rfl)) rfl rfl hl.1 rfl (lv_room (Nat.le_of_ble_eq_true rfl)) dX8_work_33 ⟨Nat.le_of_ble_eq_true rfl, Nat.le_of_ble_eq_true rfl⟩).run) (fun r hw => ?_)
        rw [hw]
        refine lv_if_ne (tgt := 46) hx hb dX8_work_36 (by decide) (fun c_4 => ?_) (fun c_4 => ?_)
        · replace c_4 := bI_ne c_4
          have R2 := hV.2.2.1 _ (inC_lt hV.1.2.1 c_2)
          have P2 := hM.2.1 _ (inC_lt hV.1.2.1 c_2)
          have R3 := hV.2.2.1 _ (inC_lt hV.1.2.1 c_3)
          have P3 := hM.2.1 _ (inC_lt hV.1.2.1 c_3)
          have R4 := hV.2.2.1 _ (inC_lt hV.1.2.1 c_4)
          have P4 := hM.2.1 _ (inC_lt hV.1.2.1 c_4)
          have qK : isK (wkK σ p2 p3) := isK_wk R2.1 R3.1
          have S2 : rep (wkK σ p2 p3) (wkX σ p2 (wkK σ p2 p3)) _ _ := rep_cast R2.1 qK R2.2 P2
          have B2 : okB (wkK σ p2 p3) (wkX σ p2 (wkK σ p2 p3)) := cst_okB R2.1 qK R2.2
          have S3 : rep (wkK σ p2 p3) (wkX σ p3 (wkK σ p2 p3)) _ _ := rep_cast R3.1 qK R3.2 P3
          have B3 : okB (wkK σ p2 p3) (wkX σ p3 (wkK σ p2 p3)) := cst_okB R3.1 qK R3.2
          refine lv_aload_n hx hb dX8_work_46 rfl (lv_at hl 0 rfl) ?_
          refine va_get (D := Dg) (ci := 6) (v := .ref (a 4)) (C := RX8) (T := TX8) (N := 26) hx hb hts in_X8_work hown hK hP 0 rfl rfl 10 (by decide) (hts (.fieldLink RX8 23 "OrreryWorksModel" "regKind" "[I") (by decide +kernel)) (fun _ h9 => h9) rfl dX8_work_47 ?_
          refine lv_iload_n hx hb dX8_work_50 rfl (lv_at hl 2 rfl) ?_
          refine va_iald hx hb hK hP 5 4 rfl rfl (inC_in hV.1.2.1 c_2) dX8_work_51 ?_
          refine lv_aload_n hx hb dX8_work_52 rfl (lv_at hl 0 rfl) ?_
          refine va_get (D := Dg) (ci := 6) (v := .ref (a 4)) (C := RX8) (T := TX8) (N := 26) hx hb hts in_X8_work hown hK hP 0 rfl rfl 10 (by decide) (hts (.fieldLink RX8 23 "OrreryWorksModel" "regKind" "[I") (by decide +kernel)) (fun _ h9 => h9) rfl dX8_work_53 ?_
          refine lv_iload_n hx hb dX8_work_56 rfl (lv_at hl 3 rfl) ?_
          refine va_iald hx hb hK hP 5 4 rfl rfl (inC_in hV.1.2.1 c_3) dX8_work_57 ?_
          refine lv_icmp_le (tgt := 70) hx hb dX8_work_58 (by decide) (fun c_5 => ?_) (fun c_5 => ?_)
          · refine lv_aload_n hx hb dX8_work_70 rfl (lv_at hl 0 rfl) ?_
            refine va_get (D := Dg) (ci := 6) (v := .ref (a 4)) (C := RX8) (T := TX8) (N := 26) hx hb hts in_X8_work hown hK hP 0 rfl rfl 10 (by decide) (hts (.fieldLink RX8 23 "OrreryWorksModel" "regKind" "[I") (by decide +kernel)) (fun _ h9 => h9) rfl dX8_work_71 ?_
            refine lv_iload_n hx hb dX8_work_74 rfl (lv_at hl 3 rfl) ?_
            refine va_iald hx hb hK hP 5 4 rfl rfl (inC_in hV.1.2.1 c_3) dX8_work_75 ?_
            refine lv_topi (fun z_6 ez_6 => ?_)
            rw [show z_6 = wkK σ p2 p3 from ez_6.trans (wk_K2 c_5)]
            refine lv_istore (lv' := [(5, .int (wkK σ p2 p3)), (0, .ref m0), (1, .int p1), (2, .int p2), (3, .int p3), (4, .int p4)]) hx hb dX8_work_76 hl (by decide) rfl (fun ls hl => ?_)
            refine lv_aload_n hx hb dX8_work_78 rfl (lv_at hl 1 rfl) ?_
            refine lv_iload_n hx hb dX8_work_79 rfl (lv_at hl 3 rfl) ?_
            have hFc := wFree hD hS hA
            refine va_callv (va_runV (As := [.int p2]) (rest := []) ⟨hx, hb, hml, hown, hts⟩ (met_X8_open l Dg m0 H.size a y 0 kd (σ.1 2 0) (σ.1 2 1) (σ.1 2 2) (σ.1 2 3) (σ.1 2 4) wh re (σ.1 1) (σ.1 3) aTo aPo (σ.1 4) aRw aRr (σ.1 5) (σ.1 6) (σ.1 7) aWs aRs (σ.1 8) (σ.1 9) (σ.1 10) (σ.1 11) (σ.1 12) p2 (inC_in hV.1.2.1 c_2)) (cwV 1 hts gX8_work_X8_open rfl rfl rfl (by decide +kernel) ⟨Nat.le_of_ble_eq_true rfl, Nat.le_of_ble_eq_true rfl⟩) (wPreV hK hP (hD.weaken (fun _ _ _ _ => trivial)) (va_recv hK hP (ci := 6) (q0 := 0) rfl rfl)) rfl rfl hl.1 rfl (lv_room (Nat.le_of_ble_eq_true rfl)) dX8_work_80 ⟨Nat.le_of_ble_eq_true rfl, Nat.le_of_ble_eq_true rfl⟩) hS (fun q _ h => hFc q h) hFc (fun u t H locs ht hvm hw hB _ _ hS => ?_)
            obtain ⟨hP, -, hD⟩ := hB
            rw [ht] at hP
            replace hD := hD.weaken (fun _ q _ h => hFc q.1 h)
            rw [hw] at hP hD
            clear hw hFc
            have hP : va_P Dg vwCl (mW m0 a y 0 ((σ.1 4) p2.toNatClampNeg) (σ.1 2 0) (σ.1 2 1) (σ.1 2 2) (σ.1 2 3) (σ.1 2 4) (aRw p2.toNatClampNeg) (aRr p2.toNatClampNeg) (σ.1 1) (σ.1 3) aTo aPo (σ.1 4) aRw aRr (σ.1 5) (σ.1 6) (σ.1 7) aWs aRs (σ.1 8) (σ.1 9) (σ.1 10) (σ.1 11) (σ.1 12)) H := hP
            have hD : va_D A (mW m0 a y 0 ((σ.1 4) p2.toNatClampNeg) (σ.1 2 0) (σ.1 2 1) (σ.1 2 2) (σ.1 2 3) (σ.1 2 4) (aRw p2.toNatClampNeg) (aRr p2.toNatClampNeg) (σ.1 1) (σ.1 3) aTo aPo (σ.1 4) aRw aRr (σ.1 5) (σ.1 6) (σ.1 7) aWs aRs (σ.1 8) (σ.1 9) (σ.1 10) (σ.1 11) (σ.1 12)) := hD
            refine lv_aload_n hx hb dX8_work_83 rfl (lv_at hl 1 rfl) ?_
            refine lv_iload hx hb dX8_work_84 (lv_at hl 0 rfl) ?_
            have hFc := wFree hD hS hA
            refine va_callv (va_runV (As := [.int (wkK σ p2 p3)]) (rest := []) ⟨hx, hb, hml, hown, hts⟩ (met_X8_cast l Dg m0 H.size a y 0 ((σ.1 4) p2.toNatClampNeg) (σ.1 2 0) (σ.1 2 1) (σ.1 2 2) (σ.1 2 3) (σ.1 2 4) (aRw p2.toNatClampNeg) (aRr p2.toNatClampNeg) (σ.1 1) (σ.1 3) aTo aPo (σ.1 4) aRw aRr (σ.1 5) (σ.1 6) (σ.1 7) aWs aRs (σ.1 8) (σ.1 9) (σ.1 10) (σ.1 11) (σ.1 12) (wkK σ p2 p3) (rep_nn R2.1 R2.2 P2)) (cwV 1 hts gX8_work_X8_cast rfl rfl rfl (by decide +kernel) ⟨Nat.le_of_ble_eq_true rfl, Nat.le_of_ble_eq_true rfl⟩) (wPreV hK hP (hD.weaken (fun _ _ _ _ => trivial)) (va_recv hK hP (ci := 6) (q0 := 0) rfl rfl)) rfl rfl hl.1 rfl (lv_room (Nat.le_of_ble_eq_true rfl)) dX8_work_86 ⟨Nat.le_of_ble_eq_true rfl, Nat.le_of_ble_eq_true rfl⟩) hS (fun q _ h => hFc q h) hFc (fun u t H locs ht hvm hw hB _ _ hS => ?_)
            obtain ⟨hP, -, hD⟩ := hB
            rw [ht] at hP
            replace hD := hD.weaken (fun _ q _ h => hFc q.1 h)
            rw [hw] at hP hD
            clear hw hFc
            have hP : va_P Dg vwCl (mW m0 a y 0 (wkK σ p2 p3) (σ.1 2 0) (σ.1 2 1) (σ.1 2 2) (σ.1 2 3) (σ.1 2 4) (mcW ((σ.1 4) p2.toNatClampNeg) (aRw p2.toNatClampNeg) (aRr p2.toNatClampNeg) (wkK σ p2 p3)) (mcR ((σ.1 4) p2.toNatClampNeg) (aRw p2.toNatClampNeg) (aRr p2.toNatClampNeg) (wkK σ p2 p3)) (σ.1 1) (σ.1 3) aTo aPo (σ.1 4) aRw aRr (σ.1 5) (σ.1 6) (σ.1 7) aWs aRs (σ.1 8) (σ.1 9) (σ.1 10) (σ.1 11) (σ.1 12)) H := hP
            have hD : va_D A (mW m0 a y 0 (wkK σ p2 p3) (σ.1 2 0) (σ.1 2 1) (σ.1 2 2) (σ.1 2 3) (σ.1 2 4) (mcW ((σ.1 4) p2.toNatClampNeg) (aRw p2.toNatClampNeg) (aRr p2.toNatClampNeg) (wkK σ p2 p3)) (mcR ((σ.1 4) p2.toNatClampNeg) (aRw p2.toNatClampNeg) (aRr p2.toNatClampNeg) (wkK σ p2 p3)) (σ.1 1) (σ.1 3) aTo aPo (σ.1 4) aRw aRr (σ.1 5) (σ.1 6) (σ.1 7) aWs aRs (σ.1 8) (σ.1 9) (σ.1 10) (σ.1 11) (σ.1 12)) := hD
            refine lv_aload_n hx hb dX8_work_89 rfl (lv_at hl 1 rfl) ?_
            refine va_get (D := Dg) (ci := 6) (v := .long (mcW ((σ.1 4) p2.toNatClampNeg) (aRw p2.toNatClampNeg) (aRr p2.toNatClampNeg) (wkK σ p2 p3))) (C := RX8) (T := TX8) (N := 26) hx hb hts in_X8_work hown hK hP 0 rfl rfl 3 (by decide) (hts (.fieldLink RX8 83 "OrreryWorksModel" "whole" "J") (by decide +kernel)) (fun _ h9 => h9) rfl dX8_work_90 ?_
            refine lv_lstore (lv' := [(6, .long (mcW ((σ.1 4) p2.toNatClampNeg) (aRw p2.toNatClampNeg) (aRr p2.toNatClampNeg) (wkK σ p2 p3))), (5, .int (wkK σ p2 p3)), (0, .ref m0), (1, .int p1), (2, .int p2), (3, .int p3), (4, .int p4)]) hx hb dX8_work_93 hl (by decide) rfl (fun ls hl => ?_)
            refine lv_aload_n hx hb dX8_work_95 rfl (lv_at hl 2 rfl) ?_
            refine va_get (D := Dg) (ci := 6) (v := .double (mcR ((σ.1 4) p2.toNatClampNeg) (aRw p2.toNatClampNeg) (aRr p2.toNatClampNeg) (wkK σ p2 p3))) (C := RX8) (T := TX8) (N := 26) hx hb hts in_X8_work hown hK hP 0 rfl rfl 4 (by decide) (hts (.fieldLink RX8 87 "OrreryWorksModel" "real" "D") (by decide +kernel)) (fun _ h9 => h9) rfl dX8_work_96 ?_
            refine lv_dstore (lv' := [(8, .double (mcR ((σ.1 4) p2.toNatClampNeg) (aRw p2.toNatClampNeg) (aRr p2.toNatClampNeg) (wkK σ p2 p3))), (6, .long (mcW ((σ.1 4) p2.toNatClampNeg) (aRw p2.toNatClampNeg) (aRr p2.toNatClampNeg) (wkK σ p2 p3))), (5, .int (wkK σ p2 p3)), (0, .ref m0), (1, .int p1), (2, .int p2), (3, .int p3), (4, .int p4)]) hx hb dX8_work_99 hl (by decide) rfl (fun ls hl => ?_)
            refine lv_aload_n hx hb dX8_work_101 rfl (lv_at hl 3 rfl) ?_
            refine lv_iload_n hx hb dX8_work_102 rfl (lv_at hl 6 rfl) ?_
            have hFc := wFree hD hS hA
            refine va_callv (va_runV (As := [.int p3]) (rest := []) ⟨hx, hb, hml, hown, hts⟩ (met_X8_open l Dg m0 H.size a y 0 (wkK σ p2 p3) (σ.1 2 0) (σ.1 2 1) (σ.1 2 2) (σ.1 2 3) (σ.1 2 4) (mcW ((σ.1 4) p2.toNatClampNeg) (aRw p2.toNatClampNeg) (aRr p2.toNatClampNeg) (wkK σ p2 p3)) (mcR ((σ.1 4) p2.toNatClampNeg) (aRw p2.toNatClampNeg) (aRr p2.toNatClampNeg) (wkK σ p2 p3)) (σ.1 1) (σ.1 3) aTo aPo (σ.1 4) aRw aRr (σ.1 5) (σ.1 6) (σ.1 7) aWs aRs (σ.1 8) (σ.1 9) (σ.1 10) (σ.1 11) (σ.1 12) p3 (inC_in hV.1.2.1 c_3)) (cwV 1 hts gX8_work_X8_open rfl rfl rfl (by decide +kernel) ⟨Nat.le_of_ble_eq_true rfl, Nat.le_of_ble_eq_true rfl⟩) (wPreV hK hP (hD.weaken (fun _ _ _ _ => trivial)) (va_recv hK hP (ci := 6) (q0 := 0) rfl rfl)) rfl rfl hl.1 rfl (lv_room (Nat.le_of_ble_eq_true rfl)) dX8_work_103 ⟨Nat.le_of_ble_eq_true rfl, Nat.le_of_ble_eq_true rfl⟩) hS (fun q _ h => hFc q h) hFc (fun u t H locs ht hvm hw hB _ _ hS => ?_)
            obtain ⟨hP, -, hD⟩ := hB
            rw [ht] at hP
            replace hD := hD.weaken (fun _ q _ h => hFc q.1 h)
            rw [hw] at hP hD
            clear hw hFc
            have hP : va_P Dg vwCl (mW m0 a y 0 ((σ.1 4) p3.toNatClampNeg) (σ.1 2 0) (σ.1 2 1) (σ.1 2 2) (σ.1 2 3) (σ.1 2 4) (aRw p3.toNatClampNeg) (aRr p3.toNatClampNeg) (σ.1 1) (σ.1 3) aTo aPo (σ.1 4) aRw aRr (σ.1 5) (σ.1 6) (σ.1 7) aWs aRs (σ.1 8) (σ.1 9) (σ.1 10) (σ.1 11) (σ.1 12)) H := hP
            have hD : va_D A (mW m0 a y 0 ((σ.1 4) p3.toNatClampNeg) (σ.1 2 0) (σ.1 2 1) (σ.1 2 2) (σ.1 2 3) (σ.1 2 4) (aRw p3.toNatClampNeg) (aRr p3.toNatClampNeg) (σ.1 1) (σ.1 3) aTo aPo (σ.1 4) aRw aRr (σ.1 5) (σ.1 6) (σ.1 7) aWs aRs (σ.1 8) (σ.1 9) (σ.1 10) (σ.1 11) (σ.1 12)) := hD
            refine lv_aload_n hx hb dX8_work_106 rfl (lv_at hl 3 rfl) ?_
            refine lv_iload hx hb dX8_work_107 (lv_at hl 2 rfl) ?_
            have hFc := wFree hD hS hA
            refine va_callv (va_runV (As := [.int (wkK σ p2 p3)]) (rest := []) ⟨hx, hb, hml, hown, hts⟩ (met_X8_cast l Dg m0 H.size a y 0 ((σ.1 4) p3.toNatClampNeg) (σ.1 2 0) (σ.1 2 1) (σ.1 2 2) (σ.1 2 3) (σ.1 2 4) (aRw p3.toNatClampNeg) (aRr p3.toNatClampNeg) (σ.1 1) (σ.1 3) aTo aPo (σ.1 4) aRw aRr (σ.1 5) (σ.1 6) (σ.1 7) aWs aRs (σ.1 8) (σ.1 9) (σ.1 10) (σ.1 11) (σ.1 12) (wkK σ p2 p3) (rep_nn R3.1 R3.2 P3)) (cwV 1 hts gX8_work_X8_cast rfl rfl rfl (by decide +kernel) ⟨Nat.le_of_ble_eq_true rfl, Nat.le_of_ble_eq_true rfl⟩) (wPreV hK hP (hD.weaken (fun _ _ _ _ => trivial)) (va_recv hK hP (ci := 6) (q0 := 0) rfl rfl)) rfl rfl hl.1 rfl (lv_room (Nat.le_of_ble_eq_true rfl)) dX8_work_109 ⟨Nat.le_of_ble_eq_true rfl, Nat.le_of_ble_eq_true rfl⟩) hS (fun q _ h => hFc q h) hFc (fun u t H locs ht hvm hw hB _ _ hS => ?_)
            obtain ⟨hP, -, hD⟩ := hB
            rw [ht] at hP
            replace hD := hD.weaken (fun _ q _ h => hFc q.1 h)
            rw [hw] at hP hD
            clear hw hFc
            have hP : va_P Dg vwCl (mW m0 a y 0 (wkK σ p2 p3) (σ.1 2 0) (σ.1 2 1) (σ.1 2 2) (σ.1 2 3) (σ.1 2 4) (mcW ((σ.1 4) p3.toNatClampNeg) (aRw p3.toNatClampNeg) (aRr p3.toNatClampNeg) (wkK σ p2 p3)) (mcR ((σ.1 4) p3.toNatClampNeg) (aRw p3.toNatClampNeg) (aRr p3.toNatClampNeg) (wkK σ p2 p3)) (σ.1 1) (σ.1 3) aTo aPo (σ.1 4) aRw aRr (σ.1 5) (σ.1 6) (σ.1 7) aWs aRs (σ.1 8) (σ.1 9) (σ.1 10) (σ.1 11) (σ.1 12)) H := hP
            have hD : va_D A (mW m0 a y 0 (wkK σ p2 p3) (σ.1 2 0) (σ.1 2 1) (σ.1 2 2) (σ.1 2 3) (σ.1 2 4) (mcW ((σ.1 4) p3.toNatClampNeg) (aRw p3.toNatClampNeg) (aRr p3.toNatClampNeg) (wkK σ p2 p3)) (mcR ((σ.1 4) p3.toNatClampNeg) (aRw p3.toNatClampNeg) (aRr p3.toNatClampNeg) (wkK σ p2 p3)) (σ.1 1) (σ.1 3) aTo aPo (σ.1 4) aRw aRr (σ.1 5) (σ.1 6) (σ.1 7) aWs aRs (σ.1 8) (σ.1 9) (σ.1 10) (σ.1 11) (σ.1 12)) := hD
            refine lv_aload_n hx hb dX8_work_112 rfl (lv_at hl 3 rfl) ?_
            refine va_get (D := Dg) (ci := 6) (v := .long (mcW ((σ.1 4) p3.toNatClampNeg) (aRw p3.toNatClampNeg) (aRr p3.toNatClampNeg) (wkK σ p2 p3))) (C := RX8) (T := TX8) (N := 26) hx hb hts in_X8_work hown hK hP 0 rfl rfl 3 (by decide) (hts (.fieldLink RX8 83 "OrreryWorksModel" "whole" "J") (by decide +kernel)) (fun _ h9 => h9) rfl dX8_work_113 ?_
            refine lv_lstore (lv' := [(10, .long (mcW ((σ.1 4) p3.toNatClampNeg) (aRw p3.toNatClampNeg) (aRr p3.toNatClampNeg) (wkK σ p2 p3))), (8, .double (mcR ((σ.1 4) p2.toNatClampNeg) (aRw p2.toNatClampNeg) (aRr p2.toNatClampNeg) (wkK σ p2 p3))), (6, .long (mcW ((σ.1 4) p2.toNatClampNeg) (aRw p2.toNatClampNeg) (aRr p2.toNatClampNeg) (wkK σ p2 p3))), (5, .int (wkK σ p2 p3)), (0, .ref m0), (1, .int p1), (2, .int p2), (3, .int p3), (4, .int p4)]) hx hb dX8_work_116 hl (by decide) rfl (fun ls hl => ?_)
            refine lv_aload_n hx hb dX8_work_118 rfl (lv_at hl 4 rfl) ?_
            refine va_get (D := Dg) (ci := 6) (v := .double (mcR ((σ.1 4) p3.toNatClampNeg) (aRw p3.toNatClampNeg) (aRr p3.toNatClampNeg) (wkK σ p2 p3))) (C := RX8) (T := TX8) (N := 26) hx hb hts in_X8_work hown hK hP 0 rfl rfl 4 (by decide) (hts (.fieldLink RX8 87 "OrreryWorksModel" "real" "D") (by decide +kernel)) (fun _ h9 => h9) rfl dX8_work_119 ?_
            refine lv_dstore (lv' := [(12, .double (mcR ((σ.1 4) p3.toNatClampNeg) (aRw p3.toNatClampNeg) (aRr p3.toNatClampNeg) (wkK σ p2 p3))), (10, .long (mcW ((σ.1 4) p3.toNatClampNeg) (aRw p3.toNatClampNeg) (aRr p3.toNatClampNeg) (wkK σ p2 p3))), (8, .double (mcR ((σ.1 4) p2.toNatClampNeg) (aRw p2.toNatClampNeg) (aRr p2.toNatClampNeg) (wkK σ p2 p3))), (6, .long (mcW ((σ.1 4) p2.toNatClampNeg) (aRw p2.toNatClampNeg) (aRr p2.toNatClampNeg) (wkK σ p2 p3))), (5, .int (wkK σ p2 p3)), (0, .ref m0), (1, .int p1), (2, .int p2), (3, .int p3), (4, .int p4)]) hx hb dX8_work_122 hl (by decide) rfl (fun ls hl => ?_)
            refine lv_iload hx hb dX8_work_124 (lv_at hl 4 rfl) ?_
            refine lv_iconst (v := 2) hx hb dX8_work_126 (by decide) ?_
            refine lv_icmp_ge (tgt := 149) hx hb dX8_work_127 (by decide) (fun c_7 => ?_) (fun c_7 => ?_)
            · refine lv_iload hx hb dX8_work_149 (lv_at hl 4 rfl) ?_
              refine lv_iconst (v := 1) hx hb dX8_work_151 (by decide) ?_
              refine lv_icmp_le (tgt := 173) hx hb dX8_work_152 (by decide) (fun h0 => absurd h0 (mem_le1 c_7)) (fun _ => ?_)
              have hkR := kR_of qK c_7
              have o2 := okRB hkR B2
              have o3 := okRB hkR B3
              refine lv_iload_n hx hb dX8_work_155 rfl (lv_at hl 6 rfl) ?_
              refine lv_dload hx hb dX8_work_156 (lv_at hl 2 rfl) ?_
              refine lv_topd (fun z_8 ez_8 => ?_)
              rw [show z_8 = vl (wkK σ p2 p3) (wkX σ p2 (wkK σ p2 p3)) from ez_8.trans (rep_r S2 c_7)]
              refine lv_dload hx hb dX8_work_158 (lv_at hl 0 rfl) ?_
              refine lv_topd (fun z_9 ez_9 => ?_)
              rw [show z_9 = vl (wkK σ p2 p3) (wkX σ p3 (wkK σ p2 p3)) from ez_9.trans (rep_r S3 c_7)]
              refine vp_callSi ((va_runS (As := [.int p1, .double (vl (wkK σ p2 p3) (wkX σ p2 (wkK σ p2 p3))), .double (vl (wkK σ p2 p3) (wkX σ p3 (wkK σ p2 p3)))]) (rest := []) ⟨hx, hb, hml, hown, hts⟩ (met_X8_isVoid l p1 (vl (wkK σ p2 p3) (wkX σ p2 (wkK σ p2 p3))) (vl (wkK σ p2 p3) (wkX σ p3 (wkK σ p2 p3)))) (va_cwS 3 hts gX8_work_X8_isVoid rfl rfl rfl (by decide +kernel) ⟨Nat.le_of_ble_eq_true rfl, Nat.le_of_ble_eq_true rfl⟩) ⟨fun _ _ _ _ q => q, fun U hU hW => ⟨rfl, trivial⟩⟩ rfl rfl hl.1 rfl (lv_room (Nat.le_of_ble_eq_true rfl)) dX8_work_160 ⟨Nat.le_of_ble_eq_true rfl, Nat.le_of_ble_eq_true rfl⟩).run) (fun r hw => ?_)
              subst hw
              refine lv_if_eq (tgt := 173) hx hb dX8_work_163 (by decide) (fun c_10 => ?_) (fun c_10 => ?_)
              · replace c_10 := bI_eq c_10
                refine lv_iload hx hb dX8_work_173 (lv_at hl 4 rfl) ?_
                refine lv_iconst (v := 2) hx hb dX8_work_175 (by decide) ?_
                refine lv_icmp_ge (tgt := 213) hx hb dX8_work_176 (by decide) (fun _ => ?_) (fun h0 => absurd c_7 h0)
                have hv : ¬ vd (wkK σ p2 p3) p1 (wkX σ p2 (wkK σ p2 p3)) (wkX σ p3 (wkK σ p2 p3)) := fun g => c_10 ((void8_eq o2 o3).mpr g)
                have qA := wr_eq hkR o2 o3 hv (in04 c_1)
                rw [wk_R hkR] at qA
                refine lv_aload_n hx hb dX8_work_213 rfl (lv_at hl 5 rfl) ?_
                refine lv_iload hx hb dX8_work_214 (lv_at hl 4 rfl) ?_
                refine lv_lconst (v := 0) hx hb dX8_work_216 (by decide) ?_
                refine lv_iload hx hb dX8_work_217 (lv_at hl 4 rfl) ?_
                refine lv_iload_n hx hb dX8_work_219 rfl (lv_at hl 6 rfl) ?_
                refine lv_dload hx hb dX8_work_220 (lv_at hl 2 rfl) ?_
                refine lv_topd (fun z_11 ez_11 => ?_)
                rw [show z_11 = vl (wkK σ p2 p3) (wkX σ p2 (wkK σ p2 p3)) from ez_11.trans (rep_r S2 c_7)]
                refine lv_dload hx hb dX8_work_222 (lv_at hl 0 rfl) ?_
                refine lv_topd (fun z_12 ez_12 => ?_)
                rw [show z_12 = vl (wkK σ p2 p3) (wkX σ p3 (wkK σ p2 p3)) from ez_12.trans (rep_r S3 c_7)]
                refine vp_callSd ((va_runS (As := [.int p1, .double (vl (wkK σ p2 p3) (wkX σ p2 (wkK σ p2 p3))), .double (vl (wkK σ p2 p3) (wkX σ p3 (wkK σ p2 p3)))]) (rest := [.int (wkK σ p2 p3), .long 0, .int (wkK σ p2 p3), .ref m0]) ⟨hx, hb, hml, hown, hts⟩ (met_X8_workReal l p1 (vl (wkK σ p2 p3) (wkX σ p2 (wkK σ p2 p3))) (vl (wkK σ p2 p3) (wkX σ p3 (wkK σ p2 p3))) qA.1) (va_cwS 3 hts gX8_work_X8_workReal rfl rfl rfl (by decide +kernel) ⟨Nat.le_of_ble_eq_true rfl, Nat.le_of_ble_eq_true rfl⟩) ⟨fun _ _ _ _ q => q, fun U hU hW => ⟨rfl, trivial⟩⟩ rfl rfl hl.1 rfl (lv_room (Nat.le_of_ble_eq_true rfl)) dX8_work_224 ⟨Nat.le_of_ble_eq_true rfl, Nat.le_of_ble_eq_true rfl⟩).run) (fun r_1 h_1 => ?_)
                subst h_1
                refine vp_callSd ((va_runS (As := [.int (wkK σ p2 p3), .double (wrR p1 (vl (wkK σ p2 p3) (wkX σ p2 (wkK σ p2 p3))) (vl (wkK σ p2 p3) (wkX σ p3 (wkK σ p2 p3))))]) (rest := [.long 0, .int (wkK σ p2 p3), .ref m0]) ⟨hx, hb, hml, hown, hts⟩ (met_X8_narrowed l (wkK σ p2 p3) (wrR p1 (vl (wkK σ p2 p3) (wkX σ p2 (wkK σ p2 p3))) (vl (wkK σ p2 p3) (wkX σ p3 (wkK σ p2 p3)))) qA.1) (va_cwS 2 hts gX8_work_X8_narrowed rfl rfl rfl (by decide +kernel) ⟨Nat.le_of_ble_eq_true rfl, Nat.le_of_ble_eq_true rfl⟩) ⟨fun _ _ _ _ q => q, fun U hU hW => ⟨rfl, trivial⟩⟩ rfl rfl hl.1 rfl (lv_room (Nat.le_of_ble_eq_true rfl)) dX8_work_227 ⟨Nat.le_of_ble_eq_true rfl, Nat.le_of_ble_eq_true rfl⟩).run) (fun r_2 h_2 => ?_)
                subst h_2
                refine lv_topd (fun z_13 ez_13 => ?_)
                rw [show z_13 = vl (wkK σ p2 p3) (wk (wkK σ p2 p3) p1 (wkX σ p2 (wkK σ p2 p3)) (wkX σ p3 (wkK σ p2 p3))) from ez_13.trans qA.2.1]
                have hFc := wFree hD hS hA
                refine va_callv (va_runV (As := [.int (wkK σ p2 p3), .long 0, .double (vl (wkK σ p2 p3) (wk (wkK σ p2 p3) p1 (wkX σ p2 (wkK σ p2 p3)) (wkX σ p3 (wkK σ p2 p3))))]) (rest := []) ⟨hx, hb, hml, hown, hts⟩ (met_X8_hold l Dg m0 H.size a y 0 (wkK σ p2 p3) (σ.1 2 0) (σ.1 2 1) (σ.1 2 2) (σ.1 2 3) (σ.1 2 4) (mcW ((σ.1 4) p3.toNatClampNeg) (aRw p3.toNatClampNeg) (aRr p3.toNatClampNeg) (wkK σ p2 p3)) (mcR ((σ.1 4) p3.toNatClampNeg) (aRw p3.toNatClampNeg) (aRr p3.toNatClampNeg) (wkK σ p2 p3)) (σ.1 1) (σ.1 3) aTo aPo (σ.1 4) aRw aRr (σ.1 5) (σ.1 6) (σ.1 7) aWs aRs (σ.1 8) (σ.1 9) (σ.1 10) (σ.1 11) (σ.1 12) (wkK σ p2 p3) 0 (vl (wkK σ p2 p3) (wk (wkK σ p2 p3) p1 (wkX σ p2 (wkK σ p2 p3)) (wkX σ p3 (wkK σ p2 p3)))) ) (cwV 3 hts gX8_work_X8_hold rfl rfl rfl (by decide +kernel) ⟨Nat.le_of_ble_eq_true rfl, Nat.le_of_ble_eq_true rfl⟩) (wPreV hK hP (hD.weaken (fun _ _ _ _ => trivial)) (va_recv hK hP (ci := 6) (q0 := 0) rfl rfl)) rfl rfl hl.1 rfl (lv_room (Nat.le_of_ble_eq_true rfl)) dX8_work_230 ⟨Nat.le_of_ble_eq_true rfl, Nat.le_of_ble_eq_true rfl⟩) hS (fun q _ h => hFc q h) hFc (fun u t H locs ht hvm hw hB _ _ hS => ?_)
                obtain ⟨hP, -, hD⟩ := hB
                rw [ht] at hP
                replace hD := hD.weaken (fun _ q _ h => hFc q.1 h)
                rw [hw] at hP hD
                clear hw hFc
                have hP : va_P Dg vwCl (mW m0 a y 0 (wkK σ p2 p3) (σ.1 2 0) (σ.1 2 1) (σ.1 2 2) (σ.1 2 3) (σ.1 2 4) 0 (vl (wkK σ p2 p3) (wk (wkK σ p2 p3) p1 (wkX σ p2 (wkK σ p2 p3)) (wkX σ p3 (wkK σ p2 p3)))) (σ.1 1) (σ.1 3) aTo aPo (σ.1 4) aRw aRr (σ.1 5) (σ.1 6) (σ.1 7) aWs aRs (σ.1 8) (σ.1 9) (σ.1 10) (σ.1 11) (σ.1 12)) H := hP
                have hD : va_D A (mW m0 a y 0 (wkK σ p2 p3) (σ.1 2 0) (σ.1 2 1) (σ.1 2 2) (σ.1 2 3) (σ.1 2 4) 0 (vl (wkK σ p2 p3) (wk (wkK σ p2 p3) p1 (wkX σ p2 (wkK σ p2 p3)) (wkX σ p3 (wkK σ p2 p3)))) (σ.1 1) (σ.1 3) aTo aPo (σ.1 4) aRw aRr (σ.1 5) (σ.1 6) (σ.1 7) aWs aRs (σ.1 8) (σ.1 9) (σ.1 10) (σ.1 11) (σ.1 12)) := hD
                have oW : okB (wkK σ p2 p3) (wk (wkK σ p2 p3) p1 (wkX σ p2 (wkK σ p2 p3)) (wkX σ p3 (wkK σ p2 p3))) := okBR hkR qA.2.2
                have rW : rep (wkK σ p2 p3) (wk (wkK σ p2 p3) p1 (wkX σ p2 (wkK σ p2 p3)) (wkX σ p3 (wkK σ p2 p3))) 0 _ := repR hkR rfl
                have SW := rep_cast qK R4.1 oW rW
                refine lv_aload_n hx hb dX8_work_233 rfl (lv_at hl 5 rfl) ?_
                refine lv_iload hx hb dX8_work_234 (lv_at hl 9 rfl) ?_
                have hFc := wFree hD hS hA
                refine va_callv (va_runV (As := [.int p4]) (rest := []) ⟨hx, hb, hml, hown, hts⟩ (met_X8_store l Dg m0 H.size a y 0 (wkK σ p2 p3) (σ.1 2 0) (σ.1 2 1) (σ.1 2 2) (σ.1 2 3) (σ.1 2 4) 0 (vl (wkK σ p2 p3) (wk (wkK σ p2 p3) p1 (wkX σ p2 (wkK σ p2 p3)) (wkX σ p3 (wkK σ p2 p3)))) (σ.1 1) (σ.1 3) aTo aPo (σ.1 4) aRw aRr (σ.1 5) (σ.1 6) (σ.1 7) aWs aRs (σ.1 8) (σ.1 9) (σ.1 10) (σ.1 11) (σ.1 12) p4 (inC_in hV.1.2.1 c_4) (rep_nn qK oW rW)) (cwV 1 hts gX8_work_X8_store rfl rfl rfl (by decide +kernel) ⟨Nat.le_of_ble_eq_true rfl, Nat.le_of_ble_eq_true rfl⟩) (wPreV hK hP (hD.weaken (fun _ _ _ _ => trivial)) (va_recv hK hP (ci := 6) (q0 := 0) rfl rfl)) rfl rfl hl.1 rfl (lv_room (Nat.le_of_ble_eq_true rfl)) dX8_work_236 ⟨Nat.le_of_ble_eq_true rfl, Nat.le_of_ble_eq_true rfl⟩) hS (fun q _ h => hFc q h) hFc (fun u t H locs ht hvm hw hB _ _ hS => ?_)
                obtain ⟨hP, -, hD⟩ := hB
                rw [ht] at hP
                replace hD := hD.weaken (fun _ q _ h => hFc q.1 h)
                rw [hw] at hP hD
                clear hw hFc
                have hP : va_P Dg vwCl (mW m0 a y 0 ((σ.1 4) p4.toNatClampNeg) (σ.1 2 0) (σ.1 2 1) (σ.1 2 2) (σ.1 2 3) (σ.1 2 4) (mcW (wkK σ p2 p3) 0 (vl (wkK σ p2 p3) (wk (wkK σ p2 p3) p1 (wkX σ p2 (wkK σ p2 p3)) (wkX σ p3 (wkK σ p2 p3)))) ((σ.1 4) p4.toNatClampNeg)) (mcR (wkK σ p2 p3) 0 (vl (wkK σ p2 p3) (wk (wkK σ p2 p3) p1 (wkX σ p2 (wkK σ p2 p3)) (wkX σ p3 (wkK σ p2 p3)))) ((σ.1 4) p4.toNatClampNeg)) (σ.1 1) (σ.1 3) aTo aPo (σ.1 4) (vp_updL aRw p4.toNatClampNeg (mcW (wkK σ p2 p3) 0 (vl (wkK σ p2 p3) (wk (wkK σ p2 p3) p1 (wkX σ p2 (wkK σ p2 p3)) (wkX σ p3 (wkK σ p2 p3)))) ((σ.1 4) p4.toNatClampNeg))) (vf_upd aRr p4.toNatClampNeg (mcR (wkK σ p2 p3) 0 (vl (wkK σ p2 p3) (wk (wkK σ p2 p3) p1 (wkX σ p2 (wkK σ p2 p3)) (wkX σ p3 (wkK σ p2 p3)))) ((σ.1 4) p4.toNatClampNeg))) (σ.1 5) (σ.1 6) (σ.1 7) aWs aRs (σ.1 8) (σ.1 9) (σ.1 10) (σ.1 11) (σ.1 12)) H := hP
                have hD : va_D A (mW m0 a y 0 ((σ.1 4) p4.toNatClampNeg) (σ.1 2 0) (σ.1 2 1) (σ.1 2 2) (σ.1 2 3) (σ.1 2 4) (mcW (wkK σ p2 p3) 0 (vl (wkK σ p2 p3) (wk (wkK σ p2 p3) p1 (wkX σ p2 (wkK σ p2 p3)) (wkX σ p3 (wkK σ p2 p3)))) ((σ.1 4) p4.toNatClampNeg)) (mcR (wkK σ p2 p3) 0 (vl (wkK σ p2 p3) (wk (wkK σ p2 p3) p1 (wkX σ p2 (wkK σ p2 p3)) (wkX σ p3 (wkK σ p2 p3)))) ((σ.1 4) p4.toNatClampNeg)) (σ.1 1) (σ.1 3) aTo aPo (σ.1 4) (vp_updL aRw p4.toNatClampNeg (mcW (wkK σ p2 p3) 0 (vl (wkK σ p2 p3) (wk (wkK σ p2 p3) p1 (wkX σ p2 (wkK σ p2 p3)) (wkX σ p3 (wkK σ p2 p3)))) ((σ.1 4) p4.toNatClampNeg))) (vf_upd aRr p4.toNatClampNeg (mcR (wkK σ p2 p3) 0 (vl (wkK σ p2 p3) (wk (wkK σ p2 p3) p1 (wkX σ p2 (wkK σ p2 p3)) (wkX σ p3 (wkK σ p2 p3)))) ((σ.1 4) p4.toNatClampNeg))) (σ.1 5) (σ.1 6) (σ.1 7) aWs aRs (σ.1 8) (σ.1 9) (σ.1 10) (σ.1 11) (σ.1 12)) := hD
                refine lv_iconst (v := 1) hx hb dX8_work_239 (by decide) ?_
                have hw : wh_work σ p1 p2 p3 p4 = 0 := by simp only [wh_work, if_pos c_1, if_pos c_2, if_pos c_3, if_pos c_4, if_pos c_5, if_pos c_7, if_neg (fun g => c_10 ((vd82 o2 o3).mpr g))]
                exact W.iret (v := 1) hx hb hr (fun t ht hW => ⟨⟨_, (mW m0 a y 0 ((σ.1 4) p4.toNatClampNeg) (σ.1 2 0) (σ.1 2 1) (σ.1 2 2) (σ.1 2 3) (σ.1 2 4) (mcW (wkK σ p2 p3) 0 (vl (wkK σ p2 p3) (wk (wkK σ p2 p3) p1 (wkX σ p2 (wkK σ p2 p3)) (wkX σ p3 (wkK σ p2 p3)))) ((σ.1 4) p4.toNatClampNeg)) (mcR (wkK σ p2 p3) 0 (vl (wkK σ p2 p3) (wk (wkK σ p2 p3) p1 (wkX σ p2 (wkK σ p2 p3)) (wkX σ p3 (wkK σ p2 p3)))) ((σ.1 4) p4.toNatClampNeg)) (σ.1 1) (σ.1 3) aTo aPo (σ.1 4) (vp_updL aRw p4.toNatClampNeg (mcW (wkK σ p2 p3) 0 (vl (wkK σ p2 p3) (wk (wkK σ p2 p3) p1 (wkX σ p2 (wkK σ p2 p3)) (wkX σ p3 (wkK σ p2 p3)))) ((σ.1 4) p4.toNatClampNeg))) (vf_upd aRr p4.toNatClampNeg (mcR (wkK σ p2 p3) 0 (vl (wkK σ p2 p3) (wk (wkK σ p2 p3) p1 (wkX σ p2 (wkK σ p2 p3)) (wkX σ p3 (wkK σ p2 p3)))) ((σ.1 4) p4.toNatClampNeg))) (σ.1 5) (σ.1 6) (σ.1 7) aWs aRs (σ.1 8) (σ.1 9) (σ.1 10) (σ.1 11) (σ.1 12)), rfl, ⟨by rw [an_work, if_pos hw]; try rfl, (σ.1 4) p4.toNatClampNeg, mcW (wkK σ p2 p3) 0 (vl (wkK σ p2 p3) (wk (wkK σ p2 p3) p1 (wkX σ p2 (wkK σ p2 p3)) (wkX σ p3 (wkK σ p2 p3)))) ((σ.1 4) p4.toNatClampNeg), mcR (wkK σ p2 p3) 0 (vl (wkK σ p2 p3) (wk (wkK σ p2 p3) p1 (wkX σ p2 (wkK σ p2 p3)) (wkX σ p3 (wkK σ p2 p3)))) ((σ.1 4) p4.toNatClampNeg), aTo, aPo, vp_updL aRw p4.toNatClampNeg (mcW (wkK σ p2 p3) 0 (vl (wkK σ p2 p3) (wk (wkK σ p2 p3) p1 (wkX σ p2 (wkK σ p2 p3)) (wkX σ p3 (wkK σ p2 p3)))) ((σ.1 4) p4.toNatClampNeg)), vf_upd aRr p4.toNatClampNeg (mcR (wkK σ p2 p3) 0 (vl (wkK σ p2 p3) (wk (wkK σ p2 p3) p1 (wkX σ p2 (wkK σ p2 p3)) (wkX σ p3 (wkK σ p2 p3)))) ((σ.1 4) p4.toNatClampNeg)), aWs, aRs, by rw [nw_work, if_pos hw]; rfl, by rw [nw_work, if_pos hw]; exact mC_store hM SW⟩, by rw [ht]; exact hP, va_K.moved hW.alike hK, hD⟩, hS.F ht⟩) hS.2.2 dX8_work_240
              · replace c_10 := bI_ne c_10
                refine lv_aload_n hx hb dX8_work_166 rfl (lv_at hl 5 rfl) ?_
                refine lv_bipush (v := (-5)) hx hb dX8_work_167 (by decide) ?_
                have hFc := wFree hD hS hA
                refine va_calli (va_runV (As := [.int (-5)]) (rest := []) ⟨hx, hb, hml, hown, hts⟩ (met_X8_refuse l Dg m0 H.size a y 0 (wkK σ p2 p3) (σ.1 2 0) (σ.1 2 1) (σ.1 2 2) (σ.1 2 3) (σ.1 2 4) (mcW ((σ.1 4) p3.toNatClampNeg) (aRw p3.toNatClampNeg) (aRr p3.toNatClampNeg) (wkK σ p2 p3)) (mcR ((σ.1 4) p3.toNatClampNeg) (aRw p3.toNatClampNeg) (aRr p3.toNatClampNeg) (wkK σ p2 p3)) (σ.1 1) (σ.1 3) aTo aPo (σ.1 4) aRw aRr (σ.1 5) (σ.1 6) (σ.1 7) aWs aRs (σ.1 8) (σ.1 9) (σ.1 10) (σ.1 11) (σ.1 12) (-5) (by unfold vp_in; decide)) (cwV 1 hts gX8_work_X8_refuse rfl rfl rfl (by decide +kernel) ⟨Nat.le_of_ble_eq_true rfl, Nat.le_of_ble_eq_true rfl⟩) (wPreV hK hP (hD.weaken (fun _ _ _ _ => trivial)) (va_recv hK hP (ci := 6) (q0 := 0) rfl rfl)) rfl rfl hl.1 rfl (lv_room (Nat.le_of_ble_eq_true rfl)) dX8_work_169 ⟨Nat.le_of_ble_eq_true rfl, Nat.le_of_ble_eq_true rfl⟩) hS (fun q _ h => hFc q h) hFc (fun r u t H locs ht hvm hw hB _ _ hS => ?_)
                obtain ⟨hP, -, hD⟩ := hB
                rw [ht] at hP
                replace hD := hD.weaken (fun _ q _ h => hFc q.1 h)
                rw [hw.2] at hP hD
                rw [hw.1]
                clear hw hFc
                have hP : va_P Dg vwCl (mW m0 a y (-5) (wkK σ p2 p3) (σ.1 2 0) (σ.1 2 1) (σ.1 2 2) (σ.1 2 3) (σ.1 2 4) (mcW ((σ.1 4) p3.toNatClampNeg) (aRw p3.toNatClampNeg) (aRr p3.toNatClampNeg) (wkK σ p2 p3)) (mcR ((σ.1 4) p3.toNatClampNeg) (aRw p3.toNatClampNeg) (aRr p3.toNatClampNeg) (wkK σ p2 p3)) (rfO (-5) (σ.1 1)) (σ.1 3) aTo aPo (σ.1 4) aRw aRr (σ.1 5) (σ.1 6) (σ.1 7) aWs aRs (σ.1 8) (σ.1 9) (σ.1 10) (σ.1 11) (σ.1 12)) H := hP
                have hD : va_D A (mW m0 a y (-5) (wkK σ p2 p3) (σ.1 2 0) (σ.1 2 1) (σ.1 2 2) (σ.1 2 3) (σ.1 2 4) (mcW ((σ.1 4) p3.toNatClampNeg) (aRw p3.toNatClampNeg) (aRr p3.toNatClampNeg) (wkK σ p2 p3)) (mcR ((σ.1 4) p3.toNatClampNeg) (aRw p3.toNatClampNeg) (aRr p3.toNatClampNeg) (wkK σ p2 p3)) (rfO (-5) (σ.1 1)) (σ.1 3) aTo aPo (σ.1 4) aRw aRr (σ.1 5) (σ.1 6) (σ.1 7) aWs aRs (σ.1 8) (σ.1 9) (σ.1 10) (σ.1 11) (σ.1 12)) := hD
                have hw : wh_work σ p1 p2 p3 p4 = (-5) := by simp only [wh_work, if_pos c_1, if_pos c_2, if_pos c_3, if_pos c_4, if_pos c_5, if_pos c_7, if_pos ((vd82 o2 o3).mp c_10)]
                have hn : ¬ wh_work σ p1 p2 p3 p4 = 0 := by rw [hw]; decide
                exact W.iret (v := (-5)) hx hb hr (fun t ht hW => ⟨⟨_, (mW m0 a y (-5) (wkK σ p2 p3) (σ.1 2 0) (σ.1 2 1) (σ.1 2 2) (σ.1 2 3) (σ.1 2 4) (mcW ((σ.1 4) p3.toNatClampNeg) (aRw p3.toNatClampNeg) (aRr p3.toNatClampNeg) (wkK σ p2 p3)) (mcR ((σ.1 4) p3.toNatClampNeg) (aRw p3.toNatClampNeg) (aRr p3.toNatClampNeg) (wkK σ p2 p3)) (rfO (-5) (σ.1 1)) (σ.1 3) aTo aPo (σ.1 4) aRw aRr (σ.1 5) (σ.1 6) (σ.1 7) aWs aRs (σ.1 8) (σ.1 9) (σ.1 10) (σ.1 11) (σ.1 12)), rfl, ⟨by rw [an_work, if_neg hn, hw]; try rfl, wkK σ p2 p3, mcW ((σ.1 4) p3.toNatClampNeg) (aRw p3.toNatClampNeg) (aRr p3.toNatClampNeg) (wkK σ p2 p3), mcR ((σ.1 4) p3.toNatClampNeg) (aRw p3.toNatClampNeg) (aRr p3.toNatClampNeg) (wkK σ p2 p3), aTo, aPo, aRw, aRr, aWs, aRs, by rw [nw_work, if_neg hn, hw]; rfl, by rw [nw_work, if_neg hn]; exact hM⟩, by rw [ht]; exact hP, va_K.moved hW.alike hK, hD⟩, hS.F ht⟩) hS.2.2 dX8_work_172
            · refine lv_iload_n hx hb dX8_work_130 rfl (lv_at hl 6 rfl) ?_
              refine lv_iconst (v := 2) hx hb dX8_work_131 (by decide) ?_
              refine lv_icmp_le (tgt := 149) hx hb dX8_work_132 (by decide) (fun c_14 => ?_) (fun c_14 => ?_)
              · refine lv_iload hx hb dX8_work_149 (lv_at hl 4 rfl) ?_
                refine lv_iconst (v := 1) hx hb dX8_work_151 (by decide) ?_
                refine lv_icmp_le (tgt := 173) hx hb dX8_work_152 (by decide) (fun _ => ?_) (fun h0 => absurd (nle2 c_7) h0)
                refine lv_iload hx hb dX8_work_173 (lv_at hl 4 rfl) ?_
                refine lv_iconst (v := 2) hx hb dX8_work_175 (by decide) ?_
                refine lv_icmp_ge (tgt := 213) hx hb dX8_work_176 (by decide) (fun h0 => absurd h0 c_7) (fun _ => ?_)
                refine lv_iload_n hx hb dX8_work_179 rfl (lv_at hl 6 rfl) ?_
                refine lv_lload hx hb dX8_work_180 (lv_at hl 3 rfl) ?_
                refine lv_topl (fun z_15 ez_15 => ?_)
                rw [show z_15 = wkX σ p2 (wkK σ p2 p3) from ez_15.trans (rep_w S2 c_7)]
                refine lv_lload hx hb dX8_work_182 (lv_at hl 1 rfl) ?_
                refine lv_topl (fun z_16 ez_16 => ?_)
                rw [show z_16 = wkX σ p3 (wkK σ p2 p3) from ez_16.trans (rep_w S3 c_7)]
                refine vp_callSl ((va_runS (As := [.int p1, .long (wkX σ p2 (wkK σ p2 p3)), .long (wkX σ p3 (wkK σ p2 p3))]) (rest := []) ⟨hx, hb, hml, hown, hts⟩ (met_X8_workWhole l p1 (wkX σ p2 (wkK σ p2 p3)) (wkX σ p3 (wkK σ p2 p3)) (hz_le c_1 c_14)) (va_cwS 3 hts gX8_work_X8_workWhole rfl rfl rfl (by decide +kernel) ⟨Nat.le_of_ble_eq_true rfl, Nat.le_of_ble_eq_true rfl⟩) ⟨fun _ _ _ _ q => q, fun U hU hW => ⟨rfl, trivial⟩⟩ rfl rfl hl.1 rfl (lv_room (Nat.le_of_ble_eq_true rfl)) dX8_work_184 ⟨Nat.le_of_ble_eq_true rfl, Nat.le_of_ble_eq_true rfl⟩).run) (fun r hw => ?_)
                subst hw
                refine lv_topl (fun z_17 ez_17 => ?_)
                rw [show z_17 = fX0_workedWhole p1 (wkX σ p2 (wkK σ p2 p3)) (wkX σ p3 (wkK σ p2 p3)) from ez_17.trans (whole_eq (hz_le c_1 c_14))]
                refine lv_lstore (lv' := [(14, .long (fX0_workedWhole p1 (wkX σ p2 (wkK σ p2 p3)) (wkX σ p3 (wkK σ p2 p3)))), (12, .double (mcR ((σ.1 4) p3.toNatClampNeg) (aRw p3.toNatClampNeg) (aRr p3.toNatClampNeg) (wkK σ p2 p3))), (10, .long (mcW ((σ.1 4) p3.toNatClampNeg) (aRw p3.toNatClampNeg) (aRr p3.toNatClampNeg) (wkK σ p2 p3))), (8, .double (mcR ((σ.1 4) p2.toNatClampNeg) (aRw p2.toNatClampNeg) (aRr p2.toNatClampNeg) (wkK σ p2 p3))), (6, .long (mcW ((σ.1 4) p2.toNatClampNeg) (aRw p2.toNatClampNeg) (aRr p2.toNatClampNeg) (wkK σ p2 p3))), (5, .int (wkK σ p2 p3)), (0, .ref m0), (1, .int p1), (2, .int p2), (3, .int p3), (4, .int p4)]) hx hb dX8_work_187 hl (by decide) rfl (fun ls hl => ?_)
                refine lv_aload_n hx hb dX8_work_189 rfl (lv_at hl 6 rfl) ?_
                refine lv_iload hx hb dX8_work_190 (lv_at hl 5 rfl) ?_
                refine lv_iload hx hb dX8_work_192 (lv_at hl 5 rfl) ?_
                refine lv_if_ne (tgt := 204) hx hb dX8_work_194 (by decide) (fun c_18 => ?_) (fun c_18 => ?_)
                · refine lv_lload hx hb dX8_work_204 (lv_at hl 0 rfl) ?_
                  refine lv_topl (fun z_19 ez_19 => ?_)
                  rw [show z_19 = wk (wkK σ p2 p3) p1 (wkX σ p2 (wkK σ p2 p3)) (wkX σ p3 (wkK σ p2 p3)) from ez_19.trans (wk_W1 (kW_of qK c_7) c_18)]
                  refine lv_dconst0 hx hb dX8_work_206 ?_
                  have hFc := wFree hD hS hA
                  refine va_callv (va_runV (As := [.int (wkK σ p2 p3), .long (wk (wkK σ p2 p3) p1 (wkX σ p2 (wkK σ p2 p3)) (wkX σ p3 (wkK σ p2 p3))), .double FP.dconst0]) (rest := []) ⟨hx, hb, hml, hown, hts⟩ (met_X8_hold l Dg m0 H.size a y 0 (wkK σ p2 p3) (σ.1 2 0) (σ.1 2 1) (σ.1 2 2) (σ.1 2 3) (σ.1 2 4) (mcW ((σ.1 4) p3.toNatClampNeg) (aRw p3.toNatClampNeg) (aRr p3.toNatClampNeg) (wkK σ p2 p3)) (mcR ((σ.1 4) p3.toNatClampNeg) (aRw p3.toNatClampNeg) (aRr p3.toNatClampNeg) (wkK σ p2 p3)) (σ.1 1) (σ.1 3) aTo aPo (σ.1 4) aRw aRr (σ.1 5) (σ.1 6) (σ.1 7) aWs aRs (σ.1 8) (σ.1 9) (σ.1 10) (σ.1 11) (σ.1 12) (wkK σ p2 p3) (wk (wkK σ p2 p3) p1 (wkX σ p2 (wkK σ p2 p3)) (wkX σ p3 (wkK σ p2 p3))) FP.dconst0 ) (cwV 3 hts gX8_work_X8_hold rfl rfl rfl (by decide +kernel) ⟨Nat.le_of_ble_eq_true rfl, Nat.le_of_ble_eq_true rfl⟩) (wPreV hK hP (hD.weaken (fun _ _ _ _ => trivial)) (va_recv hK hP (ci := 6) (q0 := 0) rfl rfl)) rfl rfl hl.1 rfl (lv_room (Nat.le_of_ble_eq_true rfl)) dX8_work_207 ⟨Nat.le_of_ble_eq_true rfl, Nat.le_of_ble_eq_true rfl⟩) hS (fun q _ h => hFc q h) hFc (fun u t H locs ht hvm hw hB _ _ hS => ?_)
                  obtain ⟨hP, -, hD⟩ := hB
                  rw [ht] at hP
                  replace hD := hD.weaken (fun _ q _ h => hFc q.1 h)
                  rw [hw] at hP hD
                  clear hw hFc
                  have hP : va_P Dg vwCl (mW m0 a y 0 (wkK σ p2 p3) (σ.1 2 0) (σ.1 2 1) (σ.1 2 2) (σ.1 2 3) (σ.1 2 4) (wk (wkK σ p2 p3) p1 (wkX σ p2 (wkK σ p2 p3)) (wkX σ p3 (wkK σ p2 p3))) FP.dconst0 (σ.1 1) (σ.1 3) aTo aPo (σ.1 4) aRw aRr (σ.1 5) (σ.1 6) (σ.1 7) aWs aRs (σ.1 8) (σ.1 9) (σ.1 10) (σ.1 11) (σ.1 12)) H := hP
                  have hD : va_D A (mW m0 a y 0 (wkK σ p2 p3) (σ.1 2 0) (σ.1 2 1) (σ.1 2 2) (σ.1 2 3) (σ.1 2 4) (wk (wkK σ p2 p3) p1 (wkX σ p2 (wkK σ p2 p3)) (wkX σ p3 (wkK σ p2 p3))) FP.dconst0 (σ.1 1) (σ.1 3) aTo aPo (σ.1 4) aRw aRr (σ.1 5) (σ.1 6) (σ.1 7) aWs aRs (σ.1 8) (σ.1 9) (σ.1 10) (σ.1 11) (σ.1 12)) := hD
                  refine lv_goto (tgt := 233) hx hb dX8_work_210 (by decide) ?_
                  have hkW := kW_of qK c_7
                  have oW : okB (wkK σ p2 p3) (wk (wkK σ p2 p3) p1 (wkX σ p2 (wkK σ p2 p3)) (wkX σ p3 (wkK σ p2 p3))) := wk_okW hkW
                  have rW : rep (wkK σ p2 p3) (wk (wkK σ p2 p3) p1 (wkX σ p2 (wkK σ p2 p3)) (wkX σ p3 (wkK σ p2 p3))) _ FP.dconst0 := rep_ww hkW
                  have SW := rep_cast qK R4.1 oW rW
                  refine lv_aload_n hx hb dX8_work_233 rfl (lv_at hl 6 rfl) ?_
                  refine lv_iload hx hb dX8_work_234 (lv_at hl 10 rfl) ?_
                  have hFc := wFree hD hS hA
                  refine va_callv (va_runV (As := [.int p4]) (rest := []) ⟨hx, hb, hml, hown, hts⟩ (met_X8_store l Dg m0 H.size a y 0 (wkK σ p2 p3) (σ.1 2 0) (σ.1 2 1) (σ.1 2 2) (σ.1 2 3) (σ.1 2 4) (wk (wkK σ p2 p3) p1 (wkX σ p2 (wkK σ p2 p3)) (wkX σ p3 (wkK σ p2 p3))) FP.dconst0 (σ.1 1) (σ.1 3) aTo aPo (σ.1 4) aRw aRr (σ.1 5) (σ.1 6) (σ.1 7) aWs aRs (σ.1 8) (σ.1 9) (σ.1 10) (σ.1 11) (σ.1 12) p4 (inC_in hV.1.2.1 c_4) (rep_nn qK oW rW)) (cwV 1 hts gX8_work_X8_store rfl rfl rfl (by decide +kernel) ⟨Nat.le_of_ble_eq_true rfl, Nat.le_of_ble_eq_true rfl⟩) (wPreV hK hP (hD.weaken (fun _ _ _ _ => trivial)) (va_recv hK hP (ci := 6) (q0 := 0) rfl rfl)) rfl rfl hl.1 rfl (lv_room (Nat.le_of_ble_eq_true rfl)) dX8_work_236 ⟨Nat.le_of_ble_eq_true rfl, Nat.le_of_ble_eq_true rfl⟩) hS (fun q _ h => hFc q h) hFc (fun u t H locs ht hvm hw hB _ _ hS => ?_)
                  obtain ⟨hP, -, hD⟩ := hB
                  rw [ht] at hP
                  replace hD := hD.weaken (fun _ q _ h => hFc q.1 h)
                  rw [hw] at hP hD
                  clear hw hFc
                  have hP : va_P Dg vwCl (mW m0 a y 0 ((σ.1 4) p4.toNatClampNeg) (σ.1 2 0) (σ.1 2 1) (σ.1 2 2) (σ.1 2 3) (σ.1 2 4) (mcW (wkK σ p2 p3) (wk (wkK σ p2 p3) p1 (wkX σ p2 (wkK σ p2 p3)) (wkX σ p3 (wkK σ p2 p3))) FP.dconst0 ((σ.1 4) p4.toNatClampNeg)) (mcR (wkK σ p2 p3) (wk (wkK σ p2 p3) p1 (wkX σ p2 (wkK σ p2 p3)) (wkX σ p3 (wkK σ p2 p3))) FP.dconst0 ((σ.1 4) p4.toNatClampNeg)) (σ.1 1) (σ.1 3) aTo aPo (σ.1 4) (vp_updL aRw p4.toNatClampNeg (mcW (wkK σ p2 p3) (wk (wkK σ p2 p3) p1 (wkX σ p2 (wkK σ p2 p3)) (wkX σ p3 (wkK σ p2 p3))) FP.dconst0 ((σ.1 4) p4.toNatClampNeg))) (vf_upd aRr p4.toNatClampNeg (mcR (wkK σ p2 p3) (wk (wkK σ p2 p3) p1 (wkX σ p2 (wkK σ p2 p3)) (wkX σ p3 (wkK σ p2 p3))) FP.dconst0 ((σ.1 4) p4.toNatClampNeg))) (σ.1 5) (σ.1 6) (σ.1 7) aWs aRs (σ.1 8) (σ.1 9) (σ.1 10) (σ.1 11) (σ.1 12)) H := hP
                  have hD : va_D A (mW m0 a y 0 ((σ.1 4) p4.toNatClampNeg) (σ.1 2 0) (σ.1 2 1) (σ.1 2 2) (σ.1 2 3) (σ.1 2 4) (mcW (wkK σ p2 p3) (wk (wkK σ p2 p3) p1 (wkX σ p2 (wkK σ p2 p3)) (wkX σ p3 (wkK σ p2 p3))) FP.dconst0 ((σ.1 4) p4.toNatClampNeg)) (mcR (wkK σ p2 p3) (wk (wkK σ p2 p3) p1 (wkX σ p2 (wkK σ p2 p3)) (wkX σ p3 (wkK σ p2 p3))) FP.dconst0 ((σ.1 4) p4.toNatClampNeg)) (σ.1 1) (σ.1 3) aTo aPo (σ.1 4) (vp_updL aRw p4.toNatClampNeg (mcW (wkK σ p2 p3) (wk (wkK σ p2 p3) p1 (wkX σ p2 (wkK σ p2 p3)) (wkX σ p3 (wkK σ p2 p3))) FP.dconst0 ((σ.1 4) p4.toNatClampNeg))) (vf_upd aRr p4.toNatClampNeg (mcR (wkK σ p2 p3) (wk (wkK σ p2 p3) p1 (wkX σ p2 (wkK σ p2 p3)) (wkX σ p3 (wkK σ p2 p3))) FP.dconst0 ((σ.1 4) p4.toNatClampNeg))) (σ.1 5) (σ.1 6) (σ.1 7) aWs aRs (σ.1 8) (σ.1 9) (σ.1 10) (σ.1 11) (σ.1 12)) := hD
                  refine lv_iconst (v := 1) hx hb dX8_work_239 (by decide) ?_
                  have hw : wh_work σ p1 p2 p3 p4 = 0 := by simp only [wh_work, if_pos c_1, if_pos c_2, if_pos c_3, if_pos c_4, if_pos c_5, if_neg c_7, if_pos c_14]
                  exact W.iret (v := 1) hx hb hr (fun t ht hW => ⟨⟨_, (mW m0 a y 0 ((σ.1 4) p4.toNatClampNeg) (σ.1 2 0) (σ.1 2 1) (σ.1 2 2) (σ.1 2 3) (σ.1 2 4) (mcW (wkK σ p2 p3) (wk (wkK σ p2 p3) p1 (wkX σ p2 (wkK σ p2 p3)) (wkX σ p3 (wkK σ p2 p3))) FP.dconst0 ((σ.1 4) p4.toNatClampNeg)) (mcR (wkK σ p2 p3) (wk (wkK σ p2 p3) p1 (wkX σ p2 (wkK σ p2 p3)) (wkX σ p3 (wkK σ p2 p3))) FP.dconst0 ((σ.1 4) p4.toNatClampNeg)) (σ.1 1) (σ.1 3) aTo aPo (σ.1 4) (vp_updL aRw p4.toNatClampNeg (mcW (wkK σ p2 p3) (wk (wkK σ p2 p3) p1 (wkX σ p2 (wkK σ p2 p3)) (wkX σ p3 (wkK σ p2 p3))) FP.dconst0 ((σ.1 4) p4.toNatClampNeg))) (vf_upd aRr p4.toNatClampNeg (mcR (wkK σ p2 p3) (wk (wkK σ p2 p3) p1 (wkX σ p2 (wkK σ p2 p3)) (wkX σ p3 (wkK σ p2 p3))) FP.dconst0 ((σ.1 4) p4.toNatClampNeg))) (σ.1 5) (σ.1 6) (σ.1 7) aWs aRs (σ.1 8) (σ.1 9) (σ.1 10) (σ.1 11) (σ.1 12)), rfl, ⟨by rw [an_work, if_pos hw]; try rfl, (σ.1 4) p4.toNatClampNeg, mcW (wkK σ p2 p3) (wk (wkK σ p2 p3) p1 (wkX σ p2 (wkK σ p2 p3)) (wkX σ p3 (wkK σ p2 p3))) FP.dconst0 ((σ.1 4) p4.toNatClampNeg), mcR (wkK σ p2 p3) (wk (wkK σ p2 p3) p1 (wkX σ p2 (wkK σ p2 p3)) (wkX σ p3 (wkK σ p2 p3))) FP.dconst0 ((σ.1 4) p4.toNatClampNeg), aTo, aPo, vp_updL aRw p4.toNatClampNeg (mcW (wkK σ p2 p3) (wk (wkK σ p2 p3) p1 (wkX σ p2 (wkK σ p2 p3)) (wkX σ p3 (wkK σ p2 p3))) FP.dconst0 ((σ.1 4) p4.toNatClampNeg)), vf_upd aRr p4.toNatClampNeg (mcR (wkK σ p2 p3) (wk (wkK σ p2 p3) p1 (wkX σ p2 (wkK σ p2 p3)) (wkX σ p3 (wkK σ p2 p3))) FP.dconst0 ((σ.1 4) p4.toNatClampNeg)), aWs, aRs, by rw [nw_work, if_pos hw]; rfl, by rw [nw_work, if_pos hw]; exact mC_store hM SW⟩, by rw [ht]; exact hP, va_K.moved hW.alike hK, hD⟩, hS.F ht⟩) hS.2.2 dX8_work_240
                · refine lv_lload hx hb dX8_work_197 (lv_at hl 0 rfl) ?_
                  refine lv_l2i hx hb dX8_work_199 rfl ?_
                  refine lv_i2l hx hb dX8_work_200 rfl ?_
                  refine lv_topl (fun z_20 ez_20 => ?_)
                  rw [show z_20 = wk (wkK σ p2 p3) p1 (wkX σ p2 (wkK σ p2 p3)) (wkX σ p3 (wkK σ p2 p3)) from ez_20.trans (wk_W0 c_18)]
                  refine lv_goto (tgt := 206) hx hb dX8_work_201 (by decide) ?_
                  refine lv_dconst0 hx hb dX8_work_206 ?_
                  have hFc := wFree hD hS hA
                  refine va_callv (va_runV (As := [.int (wkK σ p2 p3), .long (wk (wkK σ p2 p3) p1 (wkX σ p2 (wkK σ p2 p3)) (wkX σ p3 (wkK σ p2 p3))), .double FP.dconst0]) (rest := []) ⟨hx, hb, hml, hown, hts⟩ (met_X8_hold l Dg m0 H.size a y 0 (wkK σ p2 p3) (σ.1 2 0) (σ.1 2 1) (σ.1 2 2) (σ.1 2 3) (σ.1 2 4) (mcW ((σ.1 4) p3.toNatClampNeg) (aRw p3.toNatClampNeg) (aRr p3.toNatClampNeg) (wkK σ p2 p3)) (mcR ((σ.1 4) p3.toNatClampNeg) (aRw p3.toNatClampNeg) (aRr p3.toNatClampNeg) (wkK σ p2 p3)) (σ.1 1) (σ.1 3) aTo aPo (σ.1 4) aRw aRr (σ.1 5) (σ.1 6) (σ.1 7) aWs aRs (σ.1 8) (σ.1 9) (σ.1 10) (σ.1 11) (σ.1 12) (wkK σ p2 p3) (wk (wkK σ p2 p3) p1 (wkX σ p2 (wkK σ p2 p3)) (wkX σ p3 (wkK σ p2 p3))) FP.dconst0 ) (cwV 3 hts gX8_work_X8_hold rfl rfl rfl (by decide +kernel) ⟨Nat.le_of_ble_eq_true rfl, Nat.le_of_ble_eq_true rfl⟩) (wPreV hK hP (hD.weaken (fun _ _ _ _ => trivial)) (va_recv hK hP (ci := 6) (q0 := 0) rfl rfl)) rfl rfl hl.1 rfl (lv_room (Nat.le_of_ble_eq_true rfl)) dX8_work_207 ⟨Nat.le_of_ble_eq_true rfl, Nat.le_of_ble_eq_true rfl⟩) hS (fun q _ h => hFc q h) hFc (fun u t H locs ht hvm hw hB _ _ hS => ?_)
                  obtain ⟨hP, -, hD⟩ := hB
                  rw [ht] at hP
                  replace hD := hD.weaken (fun _ q _ h => hFc q.1 h)
                  rw [hw] at hP hD
                  clear hw hFc
                  have hP : va_P Dg vwCl (mW m0 a y 0 (wkK σ p2 p3) (σ.1 2 0) (σ.1 2 1) (σ.1 2 2) (σ.1 2 3) (σ.1 2 4) (wk (wkK σ p2 p3) p1 (wkX σ p2 (wkK σ p2 p3)) (wkX σ p3 (wkK σ p2 p3))) FP.dconst0 (σ.1 1) (σ.1 3) aTo aPo (σ.1 4) aRw aRr (σ.1 5) (σ.1 6) (σ.1 7) aWs aRs (σ.1 8) (σ.1 9) (σ.1 10) (σ.1 11) (σ.1 12)) H := hP
                  have hD : va_D A (mW m0 a y 0 (wkK σ p2 p3) (σ.1 2 0) (σ.1 2 1) (σ.1 2 2) (σ.1 2 3) (σ.1 2 4) (wk (wkK σ p2 p3) p1 (wkX σ p2 (wkK σ p2 p3)) (wkX σ p3 (wkK σ p2 p3))) FP.dconst0 (σ.1 1) (σ.1 3) aTo aPo (σ.1 4) aRw aRr (σ.1 5) (σ.1 6) (σ.1 7) aWs aRs (σ.1 8) (σ.1 9) (σ.1 10) (σ.1 11) (σ.1 12)) := hD
                  refine lv_goto (tgt := 233) hx hb dX8_work_210 (by decide) ?_
                  have hkW := kW_of qK c_7
                  have oW : okB (wkK σ p2 p3) (wk (wkK σ p2 p3) p1 (wkX σ p2 (wkK σ p2 p3)) (wkX σ p3 (wkK σ p2 p3))) := wk_okW hkW
                  have rW : rep (wkK σ p2 p3) (wk (wkK σ p2 p3) p1 (wkX σ p2 (wkK σ p2 p3)) (wkX σ p3 (wkK σ p2 p3))) _ FP.dconst0 := rep_ww hkW
                  have SW := rep_cast qK R4.1 oW rW
                  refine lv_aload_n hx hb dX8_work_233 rfl (lv_at hl 6 rfl) ?_
                  refine lv_iload hx hb dX8_work_234 (lv_at hl 10 rfl) ?_
                  have hFc := wFree hD hS hA
                  refine va_callv (va_runV (As := [.int p4]) (rest := []) ⟨hx, hb, hml, hown, hts⟩ (met_X8_store l Dg m0 H.size a y 0 (wkK σ p2 p3) (σ.1 2 0) (σ.1 2 1) (σ.1 2 2) (σ.1 2 3) (σ.1 2 4) (wk (wkK σ p2 p3) p1 (wkX σ p2 (wkK σ p2 p3)) (wkX σ p3 (wkK σ p2 p3))) FP.dconst0 (σ.1 1) (σ.1 3) aTo aPo (σ.1 4) aRw aRr (σ.1 5) (σ.1 6) (σ.1 7) aWs aRs (σ.1 8) (σ.1 9) (σ.1 10) (σ.1 11) (σ.1 12) p4 (inC_in hV.1.2.1 c_4) (rep_nn qK oW rW)) (cwV 1 hts gX8_work_X8_store rfl rfl rfl (by decide +kernel) ⟨Nat.le_of_ble_eq_true rfl, Nat.le_of_ble_eq_true rfl⟩) (wPreV hK hP (hD.weaken (fun _ _ _ _ => trivial)) (va_recv hK hP (ci := 6) (q0 := 0) rfl rfl)) rfl rfl hl.1 rfl (lv_room (Nat.le_of_ble_eq_true rfl)) dX8_work_236 ⟨Nat.le_of_ble_eq_true rfl, Nat.le_of_ble_eq_true rfl⟩) hS (fun q _ h => hFc q h) hFc (fun u t H locs ht hvm hw hB _ _ hS => ?_)
                  obtain ⟨hP, -, hD⟩ := hB
                  rw [ht] at hP
                  replace hD := hD.weaken (fun _ q _ h => hFc q.1 h)
                  rw [hw] at hP hD
                  clear hw hFc
                  have hP : va_P Dg vwCl (mW m0 a y 0 ((σ.1 4) p4.toNatClampNeg) (σ.1 2 0) (σ.1 2 1) (σ.1 2 2) (σ.1 2 3) (σ.1 2 4) (mcW (wkK σ p2 p3) (wk (wkK σ p2 p3) p1 (wkX σ p2 (wkK σ p2 p3)) (wkX σ p3 (wkK σ p2 p3))) FP.dconst0 ((σ.1 4) p4.toNatClampNeg)) (mcR (wkK σ p2 p3) (wk (wkK σ p2 p3) p1 (wkX σ p2 (wkK σ p2 p3)) (wkX σ p3 (wkK σ p2 p3))) FP.dconst0 ((σ.1 4) p4.toNatClampNeg)) (σ.1 1) (σ.1 3) aTo aPo (σ.1 4) (vp_updL aRw p4.toNatClampNeg (mcW (wkK σ p2 p3) (wk (wkK σ p2 p3) p1 (wkX σ p2 (wkK σ p2 p3)) (wkX σ p3 (wkK σ p2 p3))) FP.dconst0 ((σ.1 4) p4.toNatClampNeg))) (vf_upd aRr p4.toNatClampNeg (mcR (wkK σ p2 p3) (wk (wkK σ p2 p3) p1 (wkX σ p2 (wkK σ p2 p3)) (wkX σ p3 (wkK σ p2 p3))) FP.dconst0 ((σ.1 4) p4.toNatClampNeg))) (σ.1 5) (σ.1 6) (σ.1 7) aWs aRs (σ.1 8) (σ.1 9) (σ.1 10) (σ.1 11) (σ.1 12)) H := hP
                  have hD : va_D A (mW m0 a y 0 ((σ.1 4) p4.toNatClampNeg) (σ.1 2 0) (σ.1 2 1) (σ.1 2 2) (σ.1 2 3) (σ.1 2 4) (mcW (wkK σ p2 p3) (wk (wkK σ p2 p3) p1 (wkX σ p2 (wkK σ p2 p3)) (wkX σ p3 (wkK σ p2 p3))) FP.dconst0 ((σ.1 4) p4.toNatClampNeg)) (mcR (wkK σ p2 p3) (wk (wkK σ p2 p3) p1 (wkX σ p2 (wkK σ p2 p3)) (wkX σ p3 (wkK σ p2 p3))) FP.dconst0 ((σ.1 4) p4.toNatClampNeg)) (σ.1 1) (σ.1 3) aTo aPo (σ.1 4) (vp_updL aRw p4.toNatClampNeg (mcW (wkK σ p2 p3) (wk (wkK σ p2 p3) p1 (wkX σ p2 (wkK σ p2 p3)) (wkX σ p3 (wkK σ p2 p3))) FP.dconst0 ((σ.1 4) p4.toNatClampNeg))) (vf_upd aRr p4.toNatClampNeg (mcR (wkK σ p2 p3) (wk (wkK σ p2 p3) p1 (wkX σ p2 (wkK σ p2 p3)) (wkX σ p3 (wkK σ p2 p3))) FP.dconst0 ((σ.1 4) p4.toNatClampNeg))) (σ.1 5) (σ.1 6) (σ.1 7) aWs aRs (σ.1 8) (σ.1 9) (σ.1 10) (σ.1 11) (σ.1 12)) := hD
                  refine lv_iconst (v := 1) hx hb dX8_work_239 (by decide) ?_
                  have hw : wh_work σ p1 p2 p3 p4 = 0 := by simp only [wh_work, if_pos c_1, if_pos c_2, if_pos c_3, if_pos c_4, if_pos c_5, if_neg c_7, if_pos c_14]
                  exact W.iret (v := 1) hx hb hr (fun t ht hW => ⟨⟨_, (mW m0 a y 0 ((σ.1 4) p4.toNatClampNeg) (σ.1 2 0) (σ.1 2 1) (σ.1 2 2) (σ.1 2 3) (σ.1 2 4) (mcW (wkK σ p2 p3) (wk (wkK σ p2 p3) p1 (wkX σ p2 (wkK σ p2 p3)) (wkX σ p3 (wkK σ p2 p3))) FP.dconst0 ((σ.1 4) p4.toNatClampNeg)) (mcR (wkK σ p2 p3) (wk (wkK σ p2 p3) p1 (wkX σ p2 (wkK σ p2 p3)) (wkX σ p3 (wkK σ p2 p3))) FP.dconst0 ((σ.1 4) p4.toNatClampNeg)) (σ.1 1) (σ.1 3) aTo aPo (σ.1 4) (vp_updL aRw p4.toNatClampNeg (mcW (wkK σ p2 p3) (wk (wkK σ p2 p3) p1 (wkX σ p2 (wkK σ p2 p3)) (wkX σ p3 (wkK σ p2 p3))) FP.dconst0 ((σ.1 4) p4.toNatClampNeg))) (vf_upd aRr p4.toNatClampNeg (mcR (wkK σ p2 p3) (wk (wkK σ p2 p3) p1 (wkX σ p2 (wkK σ p2 p3)) (wkX σ p3 (wkK σ p2 p3))) FP.dconst0 ((σ.1 4) p4.toNatClampNeg))) (σ.1 5) (σ.1 6) (σ.1 7) aWs aRs (σ.1 8) (σ.1 9) (σ.1 10) (σ.1 11) (σ.1 12)), rfl, ⟨by rw [an_work, if_pos hw]; try rfl, (σ.1 4) p4.toNatClampNeg, mcW (wkK σ p2 p3) (wk (wkK σ p2 p3) p1 (wkX σ p2 (wkK σ p2 p3)) (wkX σ p3 (wkK σ p2 p3))) FP.dconst0 ((σ.1 4) p4.toNatClampNeg), mcR (wkK σ p2 p3) (wk (wkK σ p2 p3) p1 (wkX σ p2 (wkK σ p2 p3)) (wkX σ p3 (wkK σ p2 p3))) FP.dconst0 ((σ.1 4) p4.toNatClampNeg), aTo, aPo, vp_updL aRw p4.toNatClampNeg (mcW (wkK σ p2 p3) (wk (wkK σ p2 p3) p1 (wkX σ p2 (wkK σ p2 p3)) (wkX σ p3 (wkK σ p2 p3))) FP.dconst0 ((σ.1 4) p4.toNatClampNeg)), vf_upd aRr p4.toNatClampNeg (mcR (wkK σ p2 p3) (wk (wkK σ p2 p3) p1 (wkX σ p2 (wkK σ p2 p3)) (wkX σ p3 (wkK σ p2 p3))) FP.dconst0 ((σ.1 4) p4.toNatClampNeg)), aWs, aRs, by rw [nw_work, if_pos hw]; rfl, by rw [nw_work, if_pos hw]; exact mC_store hM SW⟩, by rw [ht]; exact hP, va_K.moved hW.alike hK, hD⟩, hS.F ht⟩) hS.2.2 dX8_work_240
              · refine lv_lload hx hb dX8_work_135 (lv_at hl 1 rfl) ?_
                refine lv_topl (fun z_21 ez_21 => ?_)
                rw [show z_21 = wkX σ p3 (wkK σ p2 p3) from ez_21.trans (rep_w S3 c_7)]
                refine lv_lconst (v := 0) hx hb dX8_work_137 (by decide) ?_
                refine W.lcmp hx hb dX8_work_138 ?_
                refine lv_if_ne (tgt := 149) hx hb dX8_work_139 (by decide) (fun c_22 => ?_) (fun c_22 => ?_)
                · refine lv_iload hx hb dX8_work_149 (lv_at hl 4 rfl) ?_
                  refine lv_iconst (v := 1) hx hb dX8_work_151 (by decide) ?_
                  refine lv_icmp_le (tgt := 173) hx hb dX8_work_152 (by decide) (fun _ => ?_) (fun h0 => absurd (nle2 c_7) h0)
                  refine lv_iload hx hb dX8_work_173 (lv_at hl 4 rfl) ?_
                  refine lv_iconst (v := 2) hx hb dX8_work_175 (by decide) ?_
                  refine lv_icmp_ge (tgt := 213) hx hb dX8_work_176 (by decide) (fun h0 => absurd h0 c_7) (fun _ => ?_)
                  refine lv_iload_n hx hb dX8_work_179 rfl (lv_at hl 6 rfl) ?_
                  refine lv_lload hx hb dX8_work_180 (lv_at hl 3 rfl) ?_
                  refine lv_topl (fun z_23 ez_23 => ?_)
                  rw [show z_23 = wkX σ p2 (wkK σ p2 p3) from ez_23.trans (rep_w S2 c_7)]
                  refine lv_lload hx hb dX8_work_182 (lv_at hl 1 rfl) ?_
                  refine lv_topl (fun z_24 ez_24 => ?_)
                  rw [show z_24 = wkX σ p3 (wkK σ p2 p3) from ez_24.trans (rep_w S3 c_7)]
                  refine vp_callSl ((va_runS (As := [.int p1, .long (wkX σ p2 (wkK σ p2 p3)), .long (wkX σ p3 (wkK σ p2 p3))]) (rest := []) ⟨hx, hb, hml, hown, hts⟩ (met_X8_workWhole l p1 (wkX σ p2 (wkK σ p2 p3)) (wkX σ p3 (wkK σ p2 p3)) (fun _ _ _ g => c_22 (lgc_eqq.mpr g))) (va_cwS 3 hts gX8_work_X8_workWhole rfl rfl rfl (by decide +kernel) ⟨Nat.le_of_ble_eq_true rfl, Nat.le_of_ble_eq_true rfl⟩) ⟨fun _ _ _ _ q => q, fun U hU hW => ⟨rfl, trivial⟩⟩ rfl rfl hl.1 rfl (lv_room (Nat.le_of_ble_eq_true rfl)) dX8_work_184 ⟨Nat.le_of_ble_eq_true rfl, Nat.le_of_ble_eq_true rfl⟩).run) (fun r hw => ?_)
                  subst hw
                  refine lv_topl (fun z_25 ez_25 => ?_)
                  rw [show z_25 = fX0_workedWhole p1 (wkX σ p2 (wkK σ p2 p3)) (wkX σ p3 (wkK σ p2 p3)) from ez_25.trans (whole_eq (fun _ _ _ g => c_22 (lgc_eqq.mpr g)))]
                  refine lv_lstore (lv' := [(14, .long (fX0_workedWhole p1 (wkX σ p2 (wkK σ p2 p3)) (wkX σ p3 (wkK σ p2 p3)))), (12, .double (mcR ((σ.1 4) p3.toNatClampNeg) (aRw p3.toNatClampNeg) (aRr p3.toNatClampNeg) (wkK σ p2 p3))), (10, .long (mcW ((σ.1 4) p3.toNatClampNeg) (aRw p3.toNatClampNeg) (aRr p3.toNatClampNeg) (wkK σ p2 p3))), (8, .double (mcR ((σ.1 4) p2.toNatClampNeg) (aRw p2.toNatClampNeg) (aRr p2.toNatClampNeg) (wkK σ p2 p3))), (6, .long (mcW ((σ.1 4) p2.toNatClampNeg) (aRw p2.toNatClampNeg) (aRr p2.toNatClampNeg) (wkK σ p2 p3))), (5, .int (wkK σ p2 p3)), (0, .ref m0), (1, .int p1), (2, .int p2), (3, .int p3), (4, .int p4)]) hx hb dX8_work_187 hl (by decide) rfl (fun ls hl => ?_)
                  refine lv_aload_n hx hb dX8_work_189 rfl (lv_at hl 6 rfl) ?_
                  refine lv_iload hx hb dX8_work_190 (lv_at hl 5 rfl) ?_
                  refine lv_iload hx hb dX8_work_192 (lv_at hl 5 rfl) ?_
                  refine lv_if_ne (tgt := 204) hx hb dX8_work_194 (by decide) (fun c_26 => ?_) (fun c_26 => ?_)
                  · refine lv_lload hx hb dX8_work_204 (lv_at hl 0 rfl) ?_
                    refine lv_topl (fun z_27 ez_27 => ?_)
                    rw [show z_27 = wk (wkK σ p2 p3) p1 (wkX σ p2 (wkK σ p2 p3)) (wkX σ p3 (wkK σ p2 p3)) from ez_27.trans (wk_W1 (kW_of qK c_7) c_26)]
                    refine lv_dconst0 hx hb dX8_work_206 ?_
                    have hFc := wFree hD hS hA
                    refine va_callv (va_runV (As := [.int (wkK σ p2 p3), .long (wk (wkK σ p2 p3) p1 (wkX σ p2 (wkK σ p2 p3)) (wkX σ p3 (wkK σ p2 p3))), .double FP.dconst0]) (rest := []) ⟨hx, hb, hml, hown, hts⟩ (met_X8_hold l Dg m0 H.size a y 0 (wkK σ p2 p3) (σ.1 2 0) (σ.1 2 1) (σ.1 2 2) (σ.1 2 3) (σ.1 2 4) (mcW ((σ.1 4) p3.toNatClampNeg) (aRw p3.toNatClampNeg) (aRr p3.toNatClampNeg) (wkK σ p2 p3)) (mcR ((σ.1 4) p3.toNatClampNeg) (aRw p3.toNatClampNeg) (aRr p3.toNatClampNeg) (wkK σ p2 p3)) (σ.1 1) (σ.1 3) aTo aPo (σ.1 4) aRw aRr (σ.1 5) (σ.1 6) (σ.1 7) aWs aRs (σ.1 8) (σ.1 9) (σ.1 10) (σ.1 11) (σ.1 12) (wkK σ p2 p3) (wk (wkK σ p2 p3) p1 (wkX σ p2 (wkK σ p2 p3)) (wkX σ p3 (wkK σ p2 p3))) FP.dconst0 ) (cwV 3 hts gX8_work_X8_hold rfl rfl rfl (by decide +kernel) ⟨Nat.le_of_ble_eq_true rfl, Nat.le_of_ble_eq_true rfl⟩) (wPreV hK hP (hD.weaken (fun _ _ _ _ => trivial)) (va_recv hK hP (ci := 6) (q0 := 0) rfl rfl)) rfl rfl hl.1 rfl (lv_room (Nat.le_of_ble_eq_true rfl)) dX8_work_207 ⟨Nat.le_of_ble_eq_true rfl, Nat.le_of_ble_eq_true rfl⟩) hS (fun q _ h => hFc q h) hFc (fun u t H locs ht hvm hw hB _ _ hS => ?_)
                    obtain ⟨hP, -, hD⟩ := hB
                    rw [ht] at hP
                    replace hD := hD.weaken (fun _ q _ h => hFc q.1 h)
                    rw [hw] at hP hD
                    clear hw hFc
                    have hP : va_P Dg vwCl (mW m0 a y 0 (wkK σ p2 p3) (σ.1 2 0) (σ.1 2 1) (σ.1 2 2) (σ.1 2 3) (σ.1 2 4) (wk (wkK σ p2 p3) p1 (wkX σ p2 (wkK σ p2 p3)) (wkX σ p3 (wkK σ p2 p3))) FP.dconst0 (σ.1 1) (σ.1 3) aTo aPo (σ.1 4) aRw aRr (σ.1 5) (σ.1 6) (σ.1 7) aWs aRs (σ.1 8) (σ.1 9) (σ.1 10) (σ.1 11) (σ.1 12)) H := hP
                    have hD : va_D A (mW m0 a y 0 (wkK σ p2 p3) (σ.1 2 0) (σ.1 2 1) (σ.1 2 2) (σ.1 2 3) (σ.1 2 4) (wk (wkK σ p2 p3) p1 (wkX σ p2 (wkK σ p2 p3)) (wkX σ p3 (wkK σ p2 p3))) FP.dconst0 (σ.1 1) (σ.1 3) aTo aPo (σ.1 4) aRw aRr (σ.1 5) (σ.1 6) (σ.1 7) aWs aRs (σ.1 8) (σ.1 9) (σ.1 10) (σ.1 11) (σ.1 12)) := hD
                    refine lv_goto (tgt := 233) hx hb dX8_work_210 (by decide) ?_
                    have hkW := kW_of qK c_7
                    have oW : okB (wkK σ p2 p3) (wk (wkK σ p2 p3) p1 (wkX σ p2 (wkK σ p2 p3)) (wkX σ p3 (wkK σ p2 p3))) := wk_okW hkW
                    have rW : rep (wkK σ p2 p3) (wk (wkK σ p2 p3) p1 (wkX σ p2 (wkK σ p2 p3)) (wkX σ p3 (wkK σ p2 p3))) _ FP.dconst0 := rep_ww hkW
                    have SW := rep_cast qK R4.1 oW rW
                    refine lv_aload_n hx hb dX8_work_233 rfl (lv_at hl 6 rfl) ?_
                    refine lv_iload hx hb dX8_work_234 (lv_at hl 10 rfl) ?_
                    have hFc := wFree hD hS hA
                    refine va_callv (va_runV (As := [.int p4]) (rest := []) ⟨hx, hb, hml, hown, hts⟩ (met_X8_store l Dg m0 H.size a y 0 (wkK σ p2 p3) (σ.1 2 0) (σ.1 2 1) (σ.1 2 2) (σ.1 2 3) (σ.1 2 4) (wk (wkK σ p2 p3) p1 (wkX σ p2 (wkK σ p2 p3)) (wkX σ p3 (wkK σ p2 p3))) FP.dconst0 (σ.1 1) (σ.1 3) aTo aPo (σ.1 4) aRw aRr (σ.1 5) (σ.1 6) (σ.1 7) aWs aRs (σ.1 8) (σ.1 9) (σ.1 10) (σ.1 11) (σ.1 12) p4 (inC_in hV.1.2.1 c_4) (rep_nn qK oW rW)) (cwV 1 hts gX8_work_X8_store rfl rfl rfl (by decide +kernel) ⟨Nat.le_of_ble_eq_true rfl, Nat.le_of_ble_eq_true rfl⟩) (wPreV hK hP (hD.weaken (fun _ _ _ _ => trivial)) (va_recv hK hP (ci := 6) (q0 := 0) rfl rfl)) rfl rfl hl.1 rfl (lv_room (Nat.le_of_ble_eq_true rfl)) dX8_work_236 ⟨Nat.le_of_ble_eq_true rfl, Nat.le_of_ble_eq_true rfl⟩) hS (fun q _ h => hFc q h) hFc (fun u t H locs ht hvm hw hB _ _ hS => ?_)
                    obtain ⟨hP, -, hD⟩ := hB
                    rw [ht] at hP
                    replace hD := hD.weaken (fun _ q _ h => hFc q.1 h)
                    rw [hw] at hP hD
                    clear hw hFc
                    have hP : va_P Dg vwCl (mW m0 a y 0 ((σ.1 4) p4.toNatClampNeg) (σ.1 2 0) (σ.1 2 1) (σ.1 2 2) (σ.1 2 3) (σ.1 2 4) (mcW (wkK σ p2 p3) (wk (wkK σ p2 p3) p1 (wkX σ p2 (wkK σ p2 p3)) (wkX σ p3 (wkK σ p2 p3))) FP.dconst0 ((σ.1 4) p4.toNatClampNeg)) (mcR (wkK σ p2 p3) (wk (wkK σ p2 p3) p1 (wkX σ p2 (wkK σ p2 p3)) (wkX σ p3 (wkK σ p2 p3))) FP.dconst0 ((σ.1 4) p4.toNatClampNeg)) (σ.1 1) (σ.1 3) aTo aPo (σ.1 4) (vp_updL aRw p4.toNatClampNeg (mcW (wkK σ p2 p3) (wk (wkK σ p2 p3) p1 (wkX σ p2 (wkK σ p2 p3)) (wkX σ p3 (wkK σ p2 p3))) FP.dconst0 ((σ.1 4) p4.toNatClampNeg))) (vf_upd aRr p4.toNatClampNeg (mcR (wkK σ p2 p3) (wk (wkK σ p2 p3) p1 (wkX σ p2 (wkK σ p2 p3)) (wkX σ p3 (wkK σ p2 p3))) FP.dconst0 ((σ.1 4) p4.toNatClampNeg))) (σ.1 5) (σ.1 6) (σ.1 7) aWs aRs (σ.1 8) (σ.1 9) (σ.1 10) (σ.1 11) (σ.1 12)) H := hP
                    have hD : va_D A (mW m0 a y 0 ((σ.1 4) p4.toNatClampNeg) (σ.1 2 0) (σ.1 2 1) (σ.1 2 2) (σ.1 2 3) (σ.1 2 4) (mcW (wkK σ p2 p3) (wk (wkK σ p2 p3) p1 (wkX σ p2 (wkK σ p2 p3)) (wkX σ p3 (wkK σ p2 p3))) FP.dconst0 ((σ.1 4) p4.toNatClampNeg)) (mcR (wkK σ p2 p3) (wk (wkK σ p2 p3) p1 (wkX σ p2 (wkK σ p2 p3)) (wkX σ p3 (wkK σ p2 p3))) FP.dconst0 ((σ.1 4) p4.toNatClampNeg)) (σ.1 1) (σ.1 3) aTo aPo (σ.1 4) (vp_updL aRw p4.toNatClampNeg (mcW (wkK σ p2 p3) (wk (wkK σ p2 p3) p1 (wkX σ p2 (wkK σ p2 p3)) (wkX σ p3 (wkK σ p2 p3))) FP.dconst0 ((σ.1 4) p4.toNatClampNeg))) (vf_upd aRr p4.toNatClampNeg (mcR (wkK σ p2 p3) (wk (wkK σ p2 p3) p1 (wkX σ p2 (wkK σ p2 p3)) (wkX σ p3 (wkK σ p2 p3))) FP.dconst0 ((σ.1 4) p4.toNatClampNeg))) (σ.1 5) (σ.1 6) (σ.1 7) aWs aRs (σ.1 8) (σ.1 9) (σ.1 10) (σ.1 11) (σ.1 12)) := hD
                    refine lv_iconst (v := 1) hx hb dX8_work_239 (by decide) ?_
                    have hw : wh_work σ p1 p2 p3 p4 = 0 := by simp only [wh_work, if_pos c_1, if_pos c_2, if_pos c_3, if_pos c_4, if_pos c_5, if_neg c_7, if_neg c_14, if_neg (fun g => c_22 (lgc_eqq.mpr g))]
                    exact W.iret (v := 1) hx hb hr (fun t ht hW => ⟨⟨_, (mW m0 a y 0 ((σ.1 4) p4.toNatClampNeg) (σ.1 2 0) (σ.1 2 1) (σ.1 2 2) (σ.1 2 3) (σ.1 2 4) (mcW (wkK σ p2 p3) (wk (wkK σ p2 p3) p1 (wkX σ p2 (wkK σ p2 p3)) (wkX σ p3 (wkK σ p2 p3))) FP.dconst0 ((σ.1 4) p4.toNatClampNeg)) (mcR (wkK σ p2 p3) (wk (wkK σ p2 p3) p1 (wkX σ p2 (wkK σ p2 p3)) (wkX σ p3 (wkK σ p2 p3))) FP.dconst0 ((σ.1 4) p4.toNatClampNeg)) (σ.1 1) (σ.1 3) aTo aPo (σ.1 4) (vp_updL aRw p4.toNatClampNeg (mcW (wkK σ p2 p3) (wk (wkK σ p2 p3) p1 (wkX σ p2 (wkK σ p2 p3)) (wkX σ p3 (wkK σ p2 p3))) FP.dconst0 ((σ.1 4) p4.toNatClampNeg))) (vf_upd aRr p4.toNatClampNeg (mcR (wkK σ p2 p3) (wk (wkK σ p2 p3) p1 (wkX σ p2 (wkK σ p2 p3)) (wkX σ p3 (wkK σ p2 p3))) FP.dconst0 ((σ.1 4) p4.toNatClampNeg))) (σ.1 5) (σ.1 6) (σ.1 7) aWs aRs (σ.1 8) (σ.1 9) (σ.1 10) (σ.1 11) (σ.1 12)), rfl, ⟨by rw [an_work, if_pos hw]; try rfl, (σ.1 4) p4.toNatClampNeg, mcW (wkK σ p2 p3) (wk (wkK σ p2 p3) p1 (wkX σ p2 (wkK σ p2 p3)) (wkX σ p3 (wkK σ p2 p3))) FP.dconst0 ((σ.1 4) p4.toNatClampNeg), mcR (wkK σ p2 p3) (wk (wkK σ p2 p3) p1 (wkX σ p2 (wkK σ p2 p3)) (wkX σ p3 (wkK σ p2 p3))) FP.dconst0 ((σ.1 4) p4.toNatClampNeg), aTo, aPo, vp_updL aRw p4.toNatClampNeg (mcW (wkK σ p2 p3) (wk (wkK σ p2 p3) p1 (wkX σ p2 (wkK σ p2 p3)) (wkX σ p3 (wkK σ p2 p3))) FP.dconst0 ((σ.1 4) p4.toNatClampNeg)), vf_upd aRr p4.toNatClampNeg (mcR (wkK σ p2 p3) (wk (wkK σ p2 p3) p1 (wkX σ p2 (wkK σ p2 p3)) (wkX σ p3 (wkK σ p2 p3))) FP.dconst0 ((σ.1 4) p4.toNatClampNeg)), aWs, aRs, by rw [nw_work, if_pos hw]; rfl, by rw [nw_work, if_pos hw]; exact mC_store hM SW⟩, by rw [ht]; exact hP, va_K.moved hW.alike hK, hD⟩, hS.F ht⟩) hS.2.2 dX8_work_240
                  · refine lv_lload hx hb dX8_work_197 (lv_at hl 0 rfl) ?_
                    refine lv_l2i hx hb dX8_work_199 rfl ?_
                    refine lv_i2l hx hb dX8_work_200 rfl ?_
                    refine lv_topl (fun z_28 ez_28 => ?_)
                    rw [show z_28 = wk (wkK σ p2 p3) p1 (wkX σ p2 (wkK σ p2 p3)) (wkX σ p3 (wkK σ p2 p3)) from ez_28.trans (wk_W0 c_26)]
                    refine lv_goto (tgt := 206) hx hb dX8_work_201 (by decide) ?_
                    refine lv_dconst0 hx hb dX8_work_206 ?_
                    have hFc := wFree hD hS hA
                    refine va_callv (va_runV (As := [.int (wkK σ p2 p3), .long (wk (wkK σ p2 p3) p1 (wkX σ p2 (wkK σ p2 p3)) (wkX σ p3 (wkK σ p2 p3))), .double FP.dconst0]) (rest := []) ⟨hx, hb, hml, hown, hts⟩ (met_X8_hold l Dg m0 H.size a y 0 (wkK σ p2 p3) (σ.1 2 0) (σ.1 2 1) (σ.1 2 2) (σ.1 2 3) (σ.1 2 4) (mcW ((σ.1 4) p3.toNatClampNeg) (aRw p3.toNatClampNeg) (aRr p3.toNatClampNeg) (wkK σ p2 p3)) (mcR ((σ.1 4) p3.toNatClampNeg) (aRw p3.toNatClampNeg) (aRr p3.toNatClampNeg) (wkK σ p2 p3)) (σ.1 1) (σ.1 3) aTo aPo (σ.1 4) aRw aRr (σ.1 5) (σ.1 6) (σ.1 7) aWs aRs (σ.1 8) (σ.1 9) (σ.1 10) (σ.1 11) (σ.1 12) (wkK σ p2 p3) (wk (wkK σ p2 p3) p1 (wkX σ p2 (wkK σ p2 p3)) (wkX σ p3 (wkK σ p2 p3))) FP.dconst0 ) (cwV 3 hts gX8_work_X8_hold rfl rfl rfl (by decide +kernel) ⟨Nat.le_of_ble_eq_true rfl, Nat.le_of_ble_eq_true rfl⟩) (wPreV hK hP (hD.weaken (fun _ _ _ _ => trivial)) (va_recv hK hP (ci := 6) (q0 := 0) rfl rfl)) rfl rfl hl.1 rfl (lv_room (Nat.le_of_ble_eq_true rfl)) dX8_work_207 ⟨Nat.le_of_ble_eq_true rfl, Nat.le_of_ble_eq_true rfl⟩) hS (fun q _ h => hFc q h) hFc (fun u t H locs ht hvm hw hB _ _ hS => ?_)
                    obtain ⟨hP, -, hD⟩ := hB
                    rw [ht] at hP
                    replace hD := hD.weaken (fun _ q _ h => hFc q.1 h)
                    rw [hw] at hP hD
                    clear hw hFc
                    have hP : va_P Dg vwCl (mW m0 a y 0 (wkK σ p2 p3) (σ.1 2 0) (σ.1 2 1) (σ.1 2 2) (σ.1 2 3) (σ.1 2 4) (wk (wkK σ p2 p3) p1 (wkX σ p2 (wkK σ p2 p3)) (wkX σ p3 (wkK σ p2 p3))) FP.dconst0 (σ.1 1) (σ.1 3) aTo aPo (σ.1 4) aRw aRr (σ.1 5) (σ.1 6) (σ.1 7) aWs aRs (σ.1 8) (σ.1 9) (σ.1 10) (σ.1 11) (σ.1 12)) H := hP
                    have hD : va_D A (mW m0 a y 0 (wkK σ p2 p3) (σ.1 2 0) (σ.1 2 1) (σ.1 2 2) (σ.1 2 3) (σ.1 2 4) (wk (wkK σ p2 p3) p1 (wkX σ p2 (wkK σ p2 p3)) (wkX σ p3 (wkK σ p2 p3))) FP.dconst0 (σ.1 1) (σ.1 3) aTo aPo (σ.1 4) aRw aRr (σ.1 5) (σ.1 6) (σ.1 7) aWs aRs (σ.1 8) (σ.1 9) (σ.1 10) (σ.1 11) (σ.1 12)) := hD
                    refine lv_goto (tgt := 233) hx hb dX8_work_210 (by decide) ?_
                    have hkW := kW_of qK c_7
                    have oW : okB (wkK σ p2 p3) (wk (wkK σ p2 p3) p1 (wkX σ p2 (wkK σ p2 p3)) (wkX σ p3 (wkK σ p2 p3))) := wk_okW hkW
                    have rW : rep (wkK σ p2 p3) (wk (wkK σ p2 p3) p1 (wkX σ p2 (wkK σ p2 p3)) (wkX σ p3 (wkK σ p2 p3))) _ FP.dconst0 := rep_ww hkW
                    have SW := rep_cast qK R4.1 oW rW
                    refine lv_aload_n hx hb dX8_work_233 rfl (lv_at hl 6 rfl) ?_
                    refine lv_iload hx hb dX8_work_234 (lv_at hl 10 rfl) ?_
                    have hFc := wFree hD hS hA
                    refine va_callv (va_runV (As := [.int p4]) (rest := []) ⟨hx, hb, hml, hown, hts⟩ (met_X8_store l Dg m0 H.size a y 0 (wkK σ p2 p3) (σ.1 2 0) (σ.1 2 1) (σ.1 2 2) (σ.1 2 3) (σ.1 2 4) (wk (wkK σ p2 p3) p1 (wkX σ p2 (wkK σ p2 p3)) (wkX σ p3 (wkK σ p2 p3))) FP.dconst0 (σ.1 1) (σ.1 3) aTo aPo (σ.1 4) aRw aRr (σ.1 5) (σ.1 6) (σ.1 7) aWs aRs (σ.1 8) (σ.1 9) (σ.1 10) (σ.1 11) (σ.1 12) p4 (inC_in hV.1.2.1 c_4) (rep_nn qK oW rW)) (cwV 1 hts gX8_work_X8_store rfl rfl rfl (by decide +kernel) ⟨Nat.le_of_ble_eq_true rfl, Nat.le_of_ble_eq_true rfl⟩) (wPreV hK hP (hD.weaken (fun _ _ _ _ => trivial)) (va_recv hK hP (ci := 6) (q0 := 0) rfl rfl)) rfl rfl hl.1 rfl (lv_room (Nat.le_of_ble_eq_true rfl)) dX8_work_236 ⟨Nat.le_of_ble_eq_true rfl, Nat.le_of_ble_eq_true rfl⟩) hS (fun q _ h => hFc q h) hFc (fun u t H locs ht hvm hw hB _ _ hS => ?_)
                    obtain ⟨hP, -, hD⟩ := hB
                    rw [ht] at hP
                    replace hD := hD.weaken (fun _ q _ h => hFc q.1 h)
                    rw [hw] at hP hD
                    clear hw hFc
                    have hP : va_P Dg vwCl (mW m0 a y 0 ((σ.1 4) p4.toNatClampNeg) (σ.1 2 0) (σ.1 2 1) (σ.1 2 2) (σ.1 2 3) (σ.1 2 4) (mcW (wkK σ p2 p3) (wk (wkK σ p2 p3) p1 (wkX σ p2 (wkK σ p2 p3)) (wkX σ p3 (wkK σ p2 p3))) FP.dconst0 ((σ.1 4) p4.toNatClampNeg)) (mcR (wkK σ p2 p3) (wk (wkK σ p2 p3) p1 (wkX σ p2 (wkK σ p2 p3)) (wkX σ p3 (wkK σ p2 p3))) FP.dconst0 ((σ.1 4) p4.toNatClampNeg)) (σ.1 1) (σ.1 3) aTo aPo (σ.1 4) (vp_updL aRw p4.toNatClampNeg (mcW (wkK σ p2 p3) (wk (wkK σ p2 p3) p1 (wkX σ p2 (wkK σ p2 p3)) (wkX σ p3 (wkK σ p2 p3))) FP.dconst0 ((σ.1 4) p4.toNatClampNeg))) (vf_upd aRr p4.toNatClampNeg (mcR (wkK σ p2 p3) (wk (wkK σ p2 p3) p1 (wkX σ p2 (wkK σ p2 p3)) (wkX σ p3 (wkK σ p2 p3))) FP.dconst0 ((σ.1 4) p4.toNatClampNeg))) (σ.1 5) (σ.1 6) (σ.1 7) aWs aRs (σ.1 8) (σ.1 9) (σ.1 10) (σ.1 11) (σ.1 12)) H := hP
                    have hD : va_D A (mW m0 a y 0 ((σ.1 4) p4.toNatClampNeg) (σ.1 2 0) (σ.1 2 1) (σ.1 2 2) (σ.1 2 3) (σ.1 2 4) (mcW (wkK σ p2 p3) (wk (wkK σ p2 p3) p1 (wkX σ p2 (wkK σ p2 p3)) (wkX σ p3 (wkK σ p2 p3))) FP.dconst0 ((σ.1 4) p4.toNatClampNeg)) (mcR (wkK σ p2 p3) (wk (wkK σ p2 p3) p1 (wkX σ p2 (wkK σ p2 p3)) (wkX σ p3 (wkK σ p2 p3))) FP.dconst0 ((σ.1 4) p4.toNatClampNeg)) (σ.1 1) (σ.1 3) aTo aPo (σ.1 4) (vp_updL aRw p4.toNatClampNeg (mcW (wkK σ p2 p3) (wk (wkK σ p2 p3) p1 (wkX σ p2 (wkK σ p2 p3)) (wkX σ p3 (wkK σ p2 p3))) FP.dconst0 ((σ.1 4) p4.toNatClampNeg))) (vf_upd aRr p4.toNatClampNeg (mcR (wkK σ p2 p3) (wk (wkK σ p2 p3) p1 (wkX σ p2 (wkK σ p2 p3)) (wkX σ p3 (wkK σ p2 p3))) FP.dconst0 ((σ.1 4) p4.toNatClampNeg))) (σ.1 5) (σ.1 6) (σ.1 7) aWs aRs (σ.1 8) (σ.1 9) (σ.1 10) (σ.1 11) (σ.1 12)) := hD
                    refine lv_iconst (v := 1) hx hb dX8_work_239 (by decide) ?_
                    have hw : wh_work σ p1 p2 p3 p4 = 0 := by simp only [wh_work, if_pos c_1, if_pos c_2, if_pos c_3, if_pos c_4, if_pos c_5, if_neg c_7, if_neg c_14, if_neg (fun g => c_22 (lgc_eqq.mpr g))]
                    exact W.iret (v := 1) hx hb hr (fun t ht hW => ⟨⟨_, (mW m0 a y 0 ((σ.1 4) p4.toNatClampNeg) (σ.1 2 0) (σ.1 2 1) (σ.1 2 2) (σ.1 2 3) (σ.1 2 4) (mcW (wkK σ p2 p3) (wk (wkK σ p2 p3) p1 (wkX σ p2 (wkK σ p2 p3)) (wkX σ p3 (wkK σ p2 p3))) FP.dconst0 ((σ.1 4) p4.toNatClampNeg)) (mcR (wkK σ p2 p3) (wk (wkK σ p2 p3) p1 (wkX σ p2 (wkK σ p2 p3)) (wkX σ p3 (wkK σ p2 p3))) FP.dconst0 ((σ.1 4) p4.toNatClampNeg)) (σ.1 1) (σ.1 3) aTo aPo (σ.1 4) (vp_updL aRw p4.toNatClampNeg (mcW (wkK σ p2 p3) (wk (wkK σ p2 p3) p1 (wkX σ p2 (wkK σ p2 p3)) (wkX σ p3 (wkK σ p2 p3))) FP.dconst0 ((σ.1 4) p4.toNatClampNeg))) (vf_upd aRr p4.toNatClampNeg (mcR (wkK σ p2 p3) (wk (wkK σ p2 p3) p1 (wkX σ p2 (wkK σ p2 p3)) (wkX σ p3 (wkK σ p2 p3))) FP.dconst0 ((σ.1 4) p4.toNatClampNeg))) (σ.1 5) (σ.1 6) (σ.1 7) aWs aRs (σ.1 8) (σ.1 9) (σ.1 10) (σ.1 11) (σ.1 12)), rfl, ⟨by rw [an_work, if_pos hw]; try rfl, (σ.1 4) p4.toNatClampNeg, mcW (wkK σ p2 p3) (wk (wkK σ p2 p3) p1 (wkX σ p2 (wkK σ p2 p3)) (wkX σ p3 (wkK σ p2 p3))) FP.dconst0 ((σ.1 4) p4.toNatClampNeg), mcR (wkK σ p2 p3) (wk (wkK σ p2 p3) p1 (wkX σ p2 (wkK σ p2 p3)) (wkX σ p3 (wkK σ p2 p3))) FP.dconst0 ((σ.1 4) p4.toNatClampNeg), aTo, aPo, vp_updL aRw p4.toNatClampNeg (mcW (wkK σ p2 p3) (wk (wkK σ p2 p3) p1 (wkX σ p2 (wkK σ p2 p3)) (wkX σ p3 (wkK σ p2 p3))) FP.dconst0 ((σ.1 4) p4.toNatClampNeg)), vf_upd aRr p4.toNatClampNeg (mcR (wkK σ p2 p3) (wk (wkK σ p2 p3) p1 (wkX σ p2 (wkK σ p2 p3)) (wkX σ p3 (wkK σ p2 p3))) FP.dconst0 ((σ.1 4) p4.toNatClampNeg)), aWs, aRs, by rw [nw_work, if_pos hw]; rfl, by rw [nw_work, if_pos hw]; exact mC_store hM SW⟩, by rw [ht]; exact hP, va_K.moved hW.alike hK, hD⟩, hS.F ht⟩) hS.2.2 dX8_work_240
                · refine lv_aload_n hx hb dX8_work_142 rfl (lv_at hl 5 rfl) ?_
                  refine lv_bipush (v := (-6)) hx hb dX8_work_143 (by decide) ?_
                  have hFc := wFree hD hS hA
                  refine va_calli (va_runV (As := [.int (-6)]) (rest := []) ⟨hx, hb, hml, hown, hts⟩ (met_X8_refuse l Dg m0 H.size a y 0 (wkK σ p2 p3) (σ.1 2 0) (σ.1 2 1) (σ.1 2 2) (σ.1 2 3) (σ.1 2 4) (mcW ((σ.1 4) p3.toNatClampNeg) (aRw p3.toNatClampNeg) (aRr p3.toNatClampNeg) (wkK σ p2 p3)) (mcR ((σ.1 4) p3.toNatClampNeg) (aRw p3.toNatClampNeg) (aRr p3.toNatClampNeg) (wkK σ p2 p3)) (σ.1 1) (σ.1 3) aTo aPo (σ.1 4) aRw aRr (σ.1 5) (σ.1 6) (σ.1 7) aWs aRs (σ.1 8) (σ.1 9) (σ.1 10) (σ.1 11) (σ.1 12) (-6) (by unfold vp_in; decide)) (cwV 1 hts gX8_work_X8_refuse rfl rfl rfl (by decide +kernel) ⟨Nat.le_of_ble_eq_true rfl, Nat.le_of_ble_eq_true rfl⟩) (wPreV hK hP (hD.weaken (fun _ _ _ _ => trivial)) (va_recv hK hP (ci := 6) (q0 := 0) rfl rfl)) rfl rfl hl.1 rfl (lv_room (Nat.le_of_ble_eq_true rfl)) dX8_work_145 ⟨Nat.le_of_ble_eq_true rfl, Nat.le_of_ble_eq_true rfl⟩) hS (fun q _ h => hFc q h) hFc (fun r u t H locs ht hvm hw hB _ _ hS => ?_)
                  obtain ⟨hP, -, hD⟩ := hB
                  rw [ht] at hP
                  replace hD := hD.weaken (fun _ q _ h => hFc q.1 h)
                  rw [hw.2] at hP hD
                  rw [hw.1]
                  clear hw hFc
                  have hP : va_P Dg vwCl (mW m0 a y (-6) (wkK σ p2 p3) (σ.1 2 0) (σ.1 2 1) (σ.1 2 2) (σ.1 2 3) (σ.1 2 4) (mcW ((σ.1 4) p3.toNatClampNeg) (aRw p3.toNatClampNeg) (aRr p3.toNatClampNeg) (wkK σ p2 p3)) (mcR ((σ.1 4) p3.toNatClampNeg) (aRw p3.toNatClampNeg) (aRr p3.toNatClampNeg) (wkK σ p2 p3)) (rfO (-6) (σ.1 1)) (σ.1 3) aTo aPo (σ.1 4) aRw aRr (σ.1 5) (σ.1 6) (σ.1 7) aWs aRs (σ.1 8) (σ.1 9) (σ.1 10) (σ.1 11) (σ.1 12)) H := hP
                  have hD : va_D A (mW m0 a y (-6) (wkK σ p2 p3) (σ.1 2 0) (σ.1 2 1) (σ.1 2 2) (σ.1 2 3) (σ.1 2 4) (mcW ((σ.1 4) p3.toNatClampNeg) (aRw p3.toNatClampNeg) (aRr p3.toNatClampNeg) (wkK σ p2 p3)) (mcR ((σ.1 4) p3.toNatClampNeg) (aRw p3.toNatClampNeg) (aRr p3.toNatClampNeg) (wkK σ p2 p3)) (rfO (-6) (σ.1 1)) (σ.1 3) aTo aPo (σ.1 4) aRw aRr (σ.1 5) (σ.1 6) (σ.1 7) aWs aRs (σ.1 8) (σ.1 9) (σ.1 10) (σ.1 11) (σ.1 12)) := hD
                  have hw : wh_work σ p1 p2 p3 p4 = (-6) := by simp only [wh_work, if_pos c_1, if_pos c_2, if_pos c_3, if_pos c_4, if_pos c_5, if_neg c_7, if_neg c_14, if_pos (lgc_eqq.mp c_22)]
                  have hn : ¬ wh_work σ p1 p2 p3 p4 = 0 := by rw [hw]; decide
                  exact W.iret (v := (-6)) hx hb hr (fun t ht hW => ⟨⟨_, (mW m0 a y (-6) (wkK σ p2 p3) (σ.1 2 0) (σ.1 2 1) (σ.1 2 2) (σ.1 2 3) (σ.1 2 4) (mcW ((σ.1 4) p3.toNatClampNeg) (aRw p3.toNatClampNeg) (aRr p3.toNatClampNeg) (wkK σ p2 p3)) (mcR ((σ.1 4) p3.toNatClampNeg) (aRw p3.toNatClampNeg) (aRr p3.toNatClampNeg) (wkK σ p2 p3)) (rfO (-6) (σ.1 1)) (σ.1 3) aTo aPo (σ.1 4) aRw aRr (σ.1 5) (σ.1 6) (σ.1 7) aWs aRs (σ.1 8) (σ.1 9) (σ.1 10) (σ.1 11) (σ.1 12)), rfl, ⟨by rw [an_work, if_neg hn, hw]; try rfl, wkK σ p2 p3, mcW ((σ.1 4) p3.toNatClampNeg) (aRw p3.toNatClampNeg) (aRr p3.toNatClampNeg) (wkK σ p2 p3), mcR ((σ.1 4) p3.toNatClampNeg) (aRw p3.toNatClampNeg) (aRr p3.toNatClampNeg) (wkK σ p2 p3), aTo, aPo, aRw, aRr, aWs, aRs, by rw [nw_work, if_neg hn, hw]; rfl, by rw [nw_work, if_neg hn]; exact hM⟩, by rw [ht]; exact hP, va_K.moved hW.alike hK, hD⟩, hS.F ht⟩) hS.2.2 dX8_work_148
          · refine lv_aload_n hx hb dX8_work_61 rfl (lv_at hl 0 rfl) ?_
            refine va_get (D := Dg) (ci := 6) (v := .ref (a 4)) (C := RX8) (T := TX8) (N := 26) hx hb hts in_X8_work hown hK hP 0 rfl rfl 10 (by decide) (hts (.fieldLink RX8 23 "OrreryWorksModel" "regKind" "[I") (by decide +kernel)) (fun _ h9 => h9) rfl dX8_work_62 ?_
            refine lv_iload_n hx hb dX8_work_65 rfl (lv_at hl 2 rfl) ?_
            refine va_iald hx hb hK hP 5 4 rfl rfl (inC_in hV.1.2.1 c_2) dX8_work_66 ?_
            refine lv_goto (tgt := 76) hx hb dX8_work_67 (by decide) ?_
            refine lv_topi (fun z_29 ez_29 => ?_)
            rw [show z_29 = wkK σ p2 p3 from ez_29.trans (wk_K1 c_5)]
            refine lv_istore (lv' := [(5, .int (wkK σ p2 p3)), (0, .ref m0), (1, .int p1), (2, .int p2), (3, .int p3), (4, .int p4)]) hx hb dX8_work_76 hl (by decide) rfl (fun ls hl => ?_)
            refine lv_aload_n hx hb dX8_work_78 rfl (lv_at hl 1 rfl) ?_
            refine lv_iload_n hx hb dX8_work_79 rfl (lv_at hl 3 rfl) ?_
            have hFc := wFree hD hS hA
            refine va_callv (va_runV (As := [.int p2]) (rest := []) ⟨hx, hb, hml, hown, hts⟩ (met_X8_open l Dg m0 H.size a y 0 kd (σ.1 2 0) (σ.1 2 1) (σ.1 2 2) (σ.1 2 3) (σ.1 2 4) wh re (σ.1 1) (σ.1 3) aTo aPo (σ.1 4) aRw aRr (σ.1 5) (σ.1 6) (σ.1 7) aWs aRs (σ.1 8) (σ.1 9) (σ.1 10) (σ.1 11) (σ.1 12) p2 (inC_in hV.1.2.1 c_2)) (cwV 1 hts gX8_work_X8_open rfl rfl rfl (by decide +kernel) ⟨Nat.le_of_ble_eq_true rfl, Nat.le_of_ble_eq_true rfl⟩) (wPreV hK hP (hD.weaken (fun _ _ _ _ => trivial)) (va_recv hK hP (ci := 6) (q0 := 0) rfl rfl)) rfl rfl hl.1 rfl (lv_room (Nat.le_of_ble_eq_true rfl)) dX8_work_80 ⟨Nat.le_of_ble_eq_true rfl, Nat.le_of_ble_eq_true rfl⟩) hS (fun q _ h => hFc q h) hFc (fun u t H locs ht hvm hw hB _ _ hS => ?_)
            obtain ⟨hP, -, hD⟩ := hB
            rw [ht] at hP
            replace hD := hD.weaken (fun _ q _ h => hFc q.1 h)
            rw [hw] at hP hD
            clear hw hFc
            have hP : va_P Dg vwCl (mW m0 a y 0 ((σ.1 4) p2.toNatClampNeg) (σ.1 2 0) (σ.1 2 1) (σ.1 2 2) (σ.1 2 3) (σ.1 2 4) (aRw p2.toNatClampNeg) (aRr p2.toNatClampNeg) (σ.1 1) (σ.1 3) aTo aPo (σ.1 4) aRw aRr (σ.1 5) (σ.1 6) (σ.1 7) aWs aRs (σ.1 8) (σ.1 9) (σ.1 10) (σ.1 11) (σ.1 12)) H := hP
            have hD : va_D A (mW m0 a y 0 ((σ.1 4) p2.toNatClampNeg) (σ.1 2 0) (σ.1 2 1) (σ.1 2 2) (σ.1 2 3) (σ.1 2 4) (aRw p2.toNatClampNeg) (aRr p2.toNatClampNeg) (σ.1 1) (σ.1 3) aTo aPo (σ.1 4) aRw aRr (σ.1 5) (σ.1 6) (σ.1 7) aWs aRs (σ.1 8) (σ.1 9) (σ.1 10) (σ.1 11) (σ.1 12)) := hD
            refine lv_aload_n hx hb dX8_work_83 rfl (lv_at hl 1 rfl) ?_
            refine lv_iload hx hb dX8_work_84 (lv_at hl 0 rfl) ?_
            have hFc := wFree hD hS hA
            refine va_callv (va_runV (As := [.int (wkK σ p2 p3)]) (rest := []) ⟨hx, hb, hml, hown, hts⟩ (met_X8_cast l Dg m0 H.size a y 0 ((σ.1 4) p2.toNatClampNeg) (σ.1 2 0) (σ.1 2 1) (σ.1 2 2) (σ.1 2 3) (σ.1 2 4) (aRw p2.toNatClampNeg) (aRr p2.toNatClampNeg) (σ.1 1) (σ.1 3) aTo aPo (σ.1 4) aRw aRr (σ.1 5) (σ.1 6) (σ.1 7) aWs aRs (σ.1 8) (σ.1 9) (σ.1 10) (σ.1 11) (σ.1 12) (wkK σ p2 p3) (rep_nn R2.1 R2.2 P2)) (cwV 1 hts gX8_work_X8_cast rfl rfl rfl (by decide +kernel) ⟨Nat.le_of_ble_eq_true rfl, Nat.le_of_ble_eq_true rfl⟩) (wPreV hK hP (hD.weaken (fun _ _ _ _ => trivial)) (va_recv hK hP (ci := 6) (q0 := 0) rfl rfl)) rfl rfl hl.1 rfl (lv_room (Nat.le_of_ble_eq_true rfl)) dX8_work_86 ⟨Nat.le_of_ble_eq_true rfl, Nat.le_of_ble_eq_true rfl⟩) hS (fun q _ h => hFc q h) hFc (fun u t H locs ht hvm hw hB _ _ hS => ?_)
            obtain ⟨hP, -, hD⟩ := hB
            rw [ht] at hP
            replace hD := hD.weaken (fun _ q _ h => hFc q.1 h)
            rw [hw] at hP hD
            clear hw hFc
            have hP : va_P Dg vwCl (mW m0 a y 0 (wkK σ p2 p3) (σ.1 2 0) (σ.1 2 1) (σ.1 2 2) (σ.1 2 3) (σ.1 2 4) (mcW ((σ.1 4) p2.toNatClampNeg) (aRw p2.toNatClampNeg) (aRr p2.toNatClampNeg) (wkK σ p2 p3)) (mcR ((σ.1 4) p2.toNatClampNeg) (aRw p2.toNatClampNeg) (aRr p2.toNatClampNeg) (wkK σ p2 p3)) (σ.1 1) (σ.1 3) aTo aPo (σ.1 4) aRw aRr (σ.1 5) (σ.1 6) (σ.1 7) aWs aRs (σ.1 8) (σ.1 9) (σ.1 10) (σ.1 11) (σ.1 12)) H := hP
            have hD : va_D A (mW m0 a y 0 (wkK σ p2 p3) (σ.1 2 0) (σ.1 2 1) (σ.1 2 2) (σ.1 2 3) (σ.1 2 4) (mcW ((σ.1 4) p2.toNatClampNeg) (aRw p2.toNatClampNeg) (aRr p2.toNatClampNeg) (wkK σ p2 p3)) (mcR ((σ.1 4) p2.toNatClampNeg) (aRw p2.toNatClampNeg) (aRr p2.toNatClampNeg) (wkK σ p2 p3)) (σ.1 1) (σ.1 3) aTo aPo (σ.1 4) aRw aRr (σ.1 5) (σ.1 6) (σ.1 7) aWs aRs (σ.1 8) (σ.1 9) (σ.1 10) (σ.1 11) (σ.1 12)) := hD
            refine lv_aload_n hx hb dX8_work_89 rfl (lv_at hl 1 rfl) ?_
            refine va_get (D := Dg) (ci := 6) (v := .long (mcW ((σ.1 4) p2.toNatClampNeg) (aRw p2.toNatClampNeg) (aRr p2.toNatClampNeg) (wkK σ p2 p3))) (C := RX8) (T := TX8) (N := 26) hx hb hts in_X8_work hown hK hP 0 rfl rfl 3 (by decide) (hts (.fieldLink RX8 83 "OrreryWorksModel" "whole" "J") (by decide +kernel)) (fun _ h9 => h9) rfl dX8_work_90 ?_
            refine lv_lstore (lv' := [(6, .long (mcW ((σ.1 4) p2.toNatClampNeg) (aRw p2.toNatClampNeg) (aRr p2.toNatClampNeg) (wkK σ p2 p3))), (5, .int (wkK σ p2 p3)), (0, .ref m0), (1, .int p1), (2, .int p2), (3, .int p3), (4, .int p4)]) hx hb dX8_work_93 hl (by decide) rfl (fun ls hl => ?_)
            refine lv_aload_n hx hb dX8_work_95 rfl (lv_at hl 2 rfl) ?_
            refine va_get (D := Dg) (ci := 6) (v := .double (mcR ((σ.1 4) p2.toNatClampNeg) (aRw p2.toNatClampNeg) (aRr p2.toNatClampNeg) (wkK σ p2 p3))) (C := RX8) (T := TX8) (N := 26) hx hb hts in_X8_work hown hK hP 0 rfl rfl 4 (by decide) (hts (.fieldLink RX8 87 "OrreryWorksModel" "real" "D") (by decide +kernel)) (fun _ h9 => h9) rfl dX8_work_96 ?_
            refine lv_dstore (lv' := [(8, .double (mcR ((σ.1 4) p2.toNatClampNeg) (aRw p2.toNatClampNeg) (aRr p2.toNatClampNeg) (wkK σ p2 p3))), (6, .long (mcW ((σ.1 4) p2.toNatClampNeg) (aRw p2.toNatClampNeg) (aRr p2.toNatClampNeg) (wkK σ p2 p3))), (5, .int (wkK σ p2 p3)), (0, .ref m0), (1, .int p1), (2, .int p2), (3, .int p3), (4, .int p4)]) hx hb dX8_work_99 hl (by decide) rfl (fun ls hl => ?_)
            refine lv_aload_n hx hb dX8_work_101 rfl (lv_at hl 3 rfl) ?_
            refine lv_iload_n hx hb dX8_work_102 rfl (lv_at hl 6 rfl) ?_
            have hFc := wFree hD hS hA
            refine va_callv (va_runV (As := [.int p3]) (rest := []) ⟨hx, hb, hml, hown, hts⟩ (met_X8_open l Dg m0 H.size a y 0 (wkK σ p2 p3) (σ.1 2 0) (σ.1 2 1) (σ.1 2 2) (σ.1 2 3) (σ.1 2 4) (mcW ((σ.1 4) p2.toNatClampNeg) (aRw p2.toNatClampNeg) (aRr p2.toNatClampNeg) (wkK σ p2 p3)) (mcR ((σ.1 4) p2.toNatClampNeg) (aRw p2.toNatClampNeg) (aRr p2.toNatClampNeg) (wkK σ p2 p3)) (σ.1 1) (σ.1 3) aTo aPo (σ.1 4) aRw aRr (σ.1 5) (σ.1 6) (σ.1 7) aWs aRs (σ.1 8) (σ.1 9) (σ.1 10) (σ.1 11) (σ.1 12) p3 (inC_in hV.1.2.1 c_3)) (cwV 1 hts gX8_work_X8_open rfl rfl rfl (by decide +kernel) ⟨Nat.le_of_ble_eq_true rfl, Nat.le_of_ble_eq_true rfl⟩) (wPreV hK hP (hD.weaken (fun _ _ _ _ => trivial)) (va_recv hK hP (ci := 6) (q0 := 0) rfl rfl)) rfl rfl hl.1 rfl (lv_room (Nat.le_of_ble_eq_true rfl)) dX8_work_103 ⟨Nat.le_of_ble_eq_true rfl, Nat.le_of_ble_eq_true rfl⟩) hS (fun q _ h => hFc q h) hFc (fun u t H locs ht hvm hw hB _ _ hS => ?_)
            obtain ⟨hP, -, hD⟩ := hB
            rw [ht] at hP
            replace hD := hD.weaken (fun _ q _ h => hFc q.1 h)
            rw [hw] at hP hD
            clear hw hFc
            have hP : va_P Dg vwCl (mW m0 a y 0 ((σ.1 4) p3.toNatClampNeg) (σ.1 2 0) (σ.1 2 1) (σ.1 2 2) (σ.1 2 3) (σ.1 2 4) (aRw p3.toNatClampNeg) (aRr p3.toNatClampNeg) (σ.1 1) (σ.1 3) aTo aPo (σ.1 4) aRw aRr (σ.1 5) (σ.1 6) (σ.1 7) aWs aRs (σ.1 8) (σ.1 9) (σ.1 10) (σ.1 11) (σ.1 12)) H := hP
            have hD : va_D A (mW m0 a y 0 ((σ.1 4) p3.toNatClampNeg) (σ.1 2 0) (σ.1 2 1) (σ.1 2 2) (σ.1 2 3) (σ.1 2 4) (aRw p3.toNatClampNeg) (aRr p3.toNatClampNeg) (σ.1 1) (σ.1 3) aTo aPo (σ.1 4) aRw aRr (σ.1 5) (σ.1 6) (σ.1 7) aWs aRs (σ.1 8) (σ.1 9) (σ.1 10) (σ.1 11) (σ.1 12)) := hD
            refine lv_aload_n hx hb dX8_work_106 rfl (lv_at hl 3 rfl) ?_
            refine lv_iload hx hb dX8_work_107 (lv_at hl 2 rfl) ?_
            have hFc := wFree hD hS hA
            refine va_callv (va_runV (As := [.int (wkK σ p2 p3)]) (rest := []) ⟨hx, hb, hml, hown, hts⟩ (met_X8_cast l Dg m0 H.size a y 0 ((σ.1 4) p3.toNatClampNeg) (σ.1 2 0) (σ.1 2 1) (σ.1 2 2) (σ.1 2 3) (σ.1 2 4) (aRw p3.toNatClampNeg) (aRr p3.toNatClampNeg) (σ.1 1) (σ.1 3) aTo aPo (σ.1 4) aRw aRr (σ.1 5) (σ.1 6) (σ.1 7) aWs aRs (σ.1 8) (σ.1 9) (σ.1 10) (σ.1 11) (σ.1 12) (wkK σ p2 p3) (rep_nn R3.1 R3.2 P3)) (cwV 1 hts gX8_work_X8_cast rfl rfl rfl (by decide +kernel) ⟨Nat.le_of_ble_eq_true rfl, Nat.le_of_ble_eq_true rfl⟩) (wPreV hK hP (hD.weaken (fun _ _ _ _ => trivial)) (va_recv hK hP (ci := 6) (q0 := 0) rfl rfl)) rfl rfl hl.1 rfl (lv_room (Nat.le_of_ble_eq_true rfl)) dX8_work_109 ⟨Nat.le_of_ble_eq_true rfl, Nat.le_of_ble_eq_true rfl⟩) hS (fun q _ h => hFc q h) hFc (fun u t H locs ht hvm hw hB _ _ hS => ?_)
            obtain ⟨hP, -, hD⟩ := hB
            rw [ht] at hP
            replace hD := hD.weaken (fun _ q _ h => hFc q.1 h)
            rw [hw] at hP hD
            clear hw hFc
            have hP : va_P Dg vwCl (mW m0 a y 0 (wkK σ p2 p3) (σ.1 2 0) (σ.1 2 1) (σ.1 2 2) (σ.1 2 3) (σ.1 2 4) (mcW ((σ.1 4) p3.toNatClampNeg) (aRw p3.toNatClampNeg) (aRr p3.toNatClampNeg) (wkK σ p2 p3)) (mcR ((σ.1 4) p3.toNatClampNeg) (aRw p3.toNatClampNeg) (aRr p3.toNatClampNeg) (wkK σ p2 p3)) (σ.1 1) (σ.1 3) aTo aPo (σ.1 4) aRw aRr (σ.1 5) (σ.1 6) (σ.1 7) aWs aRs (σ.1 8) (σ.1 9) (σ.1 10) (σ.1 11) (σ.1 12)) H := hP
            have hD : va_D A (mW m0 a y 0 (wkK σ p2 p3) (σ.1 2 0) (σ.1 2 1) (σ.1 2 2) (σ.1 2 3) (σ.1 2 4) (mcW ((σ.1 4) p3.toNatClampNeg) (aRw p3.toNatClampNeg) (aRr p3.toNatClampNeg) (wkK σ p2 p3)) (mcR ((σ.1 4) p3.toNatClampNeg) (aRw p3.toNatClampNeg) (aRr p3.toNatClampNeg) (wkK σ p2 p3)) (σ.1 1) (σ.1 3) aTo aPo (σ.1 4) aRw aRr (σ.1 5) (σ.1 6) (σ.1 7) aWs aRs (σ.1 8) (σ.1 9) (σ.1 10) (σ.1 11) (σ.1 12)) := hD
            refine lv_aload_n hx hb dX8_work_112 rfl (lv_at hl 3 rfl) ?_
            refine va_get (D := Dg) (ci := 6) (v := .long (mcW ((σ.1 4) p3.toNatClampNeg) (aRw p3.toNatClampNeg) (aRr p3.toNatClampNeg) (wkK σ p2 p3))) (C := RX8) (T := TX8) (N := 26) hx hb hts in_X8_work hown hK hP 0 rfl rfl 3 (by decide) (hts (.fieldLink RX8 83 "OrreryWorksModel" "whole" "J") (by decide +kernel)) (fun _ h9 => h9) rfl dX8_work_113 ?_
            refine lv_lstore (lv' := [(10, .long (mcW ((σ.1 4) p3.toNatClampNeg) (aRw p3.toNatClampNeg) (aRr p3.toNatClampNeg) (wkK σ p2 p3))), (8, .double (mcR ((σ.1 4) p2.toNatClampNeg) (aRw p2.toNatClampNeg) (aRr p2.toNatClampNeg) (wkK σ p2 p3))), (6, .long (mcW ((σ.1 4) p2.toNatClampNeg) (aRw p2.toNatClampNeg) (aRr p2.toNatClampNeg) (wkK σ p2 p3))), (5, .int (wkK σ p2 p3)), (0, .ref m0), (1, .int p1), (2, .int p2), (3, .int p3), (4, .int p4)]) hx hb dX8_work_116 hl (by decide) rfl (fun ls hl => ?_)
            refine lv_aload_n hx hb dX8_work_118 rfl (lv_at hl 4 rfl) ?_
            refine va_get (D := Dg) (ci := 6) (v := .double (mcR ((σ.1 4) p3.toNatClampNeg) (aRw p3.toNatClampNeg) (aRr p3.toNatClampNeg) (wkK σ p2 p3))) (C := RX8) (T := TX8) (N := 26) hx hb hts in_X8_work hown hK hP 0 rfl rfl 4 (by decide) (hts (.fieldLink RX8 87 "OrreryWorksModel" "real" "D") (by decide +kernel)) (fun _ h9 => h9) rfl dX8_work_119 ?_
            refine lv_dstore (lv' := [(12, .double (mcR ((σ.1 4) p3.toNatClampNeg) (aRw p3.toNatClampNeg) (aRr p3.toNatClampNeg) (wkK σ p2 p3))), (10, .long (mcW ((σ.1 4) p3.toNatClampNeg) (aRw p3.toNatClampNeg) (aRr p3.toNatClampNeg) (wkK σ p2 p3))), (8, .double (mcR ((σ.1 4) p2.toNatClampNeg) (aRw p2.toNatClampNeg) (aRr p2.toNatClampNeg) (wkK σ p2 p3))), (6, .long (mcW ((σ.1 4) p2.toNatClampNeg) (aRw p2.toNatClampNeg) (aRr p2.toNatClampNeg) (wkK σ p2 p3))), (5, .int (wkK σ p2 p3)), (0, .ref m0), (1, .int p1), (2, .int p2), (3, .int p3), (4, .int p4)]) hx hb dX8_work_122 hl (by decide) rfl (fun ls hl => ?_)
            refine lv_iload hx hb dX8_work_124 (lv_at hl 4 rfl) ?_
            refine lv_iconst (v := 2) hx hb dX8_work_126 (by decide) ?_
            refine lv_icmp_ge (tgt := 149) hx hb dX8_work_127 (by decide) (fun c_30 => ?_) (fun c_30 => ?_)
            · refine lv_iload hx hb dX8_work_149 (lv_at hl 4 rfl) ?_
              refine lv_iconst (v := 1) hx hb dX8_work_151 (by decide) ?_
              refine lv_icmp_le (tgt := 173) hx hb dX8_work_152 (by decide) (fun h0 => absurd h0 (mem_le1 c_30)) (fun _ => ?_)
              have hkR := kR_of qK c_30
              have o2 := okRB hkR B2
              have o3 := okRB hkR B3
              refine lv_iload_n hx hb dX8_work_155 rfl (lv_at hl 6 rfl) ?_
              refine lv_dload hx hb dX8_work_156 (lv_at hl 2 rfl) ?_
              refine lv_topd (fun z_31 ez_31 => ?_)
              rw [show z_31 = vl (wkK σ p2 p3) (wkX σ p2 (wkK σ p2 p3)) from ez_31.trans (rep_r S2 c_30)]
              refine lv_dload hx hb dX8_work_158 (lv_at hl 0 rfl) ?_
              refine lv_topd (fun z_32 ez_32 => ?_)
              rw [show z_32 = vl (wkK σ p2 p3) (wkX σ p3 (wkK σ p2 p3)) from ez_32.trans (rep_r S3 c_30)]
              refine vp_callSi ((va_runS (As := [.int p1, .double (vl (wkK σ p2 p3) (wkX σ p2 (wkK σ p2 p3))), .double (vl (wkK σ p2 p3) (wkX σ p3 (wkK σ p2 p3)))]) (rest := []) ⟨hx, hb, hml, hown, hts⟩ (met_X8_isVoid l p1 (vl (wkK σ p2 p3) (wkX σ p2 (wkK σ p2 p3))) (vl (wkK σ p2 p3) (wkX σ p3 (wkK σ p2 p3)))) (va_cwS 3 hts gX8_work_X8_isVoid rfl rfl rfl (by decide +kernel) ⟨Nat.le_of_ble_eq_true rfl, Nat.le_of_ble_eq_true rfl⟩) ⟨fun _ _ _ _ q => q, fun U hU hW => ⟨rfl, trivial⟩⟩ rfl rfl hl.1 rfl (lv_room (Nat.le_of_ble_eq_true rfl)) dX8_work_160 ⟨Nat.le_of_ble_eq_true rfl, Nat.le_of_ble_eq_true rfl⟩).run) (fun r hw => ?_)
              subst hw
              refine lv_if_eq (tgt := 173) hx hb dX8_work_163 (by decide) (fun c_33 => ?_) (fun c_33 => ?_)
              · replace c_33 := bI_eq c_33
                refine lv_iload hx hb dX8_work_173 (lv_at hl 4 rfl) ?_
                refine lv_iconst (v := 2) hx hb dX8_work_175 (by decide) ?_
                refine lv_icmp_ge (tgt := 213) hx hb dX8_work_176 (by decide) (fun _ => ?_) (fun h0 => absurd c_30 h0)
                have hv : ¬ vd (wkK σ p2 p3) p1 (wkX σ p2 (wkK σ p2 p3)) (wkX σ p3 (wkK σ p2 p3)) := fun g => c_33 ((void8_eq o2 o3).mpr g)
                have qA := wr_eq hkR o2 o3 hv (in04 c_1)
                rw [wk_R hkR] at qA
                refine lv_aload_n hx hb dX8_work_213 rfl (lv_at hl 5 rfl) ?_
                refine lv_iload hx hb dX8_work_214 (lv_at hl 4 rfl) ?_
                refine lv_lconst (v := 0) hx hb dX8_work_216 (by decide) ?_
                refine lv_iload hx hb dX8_work_217 (lv_at hl 4 rfl) ?_
                refine lv_iload_n hx hb dX8_work_219 rfl (lv_at hl 6 rfl) ?_
                refine lv_dload hx hb dX8_work_220 (lv_at hl 2 rfl) ?_
                refine lv_topd (fun z_34 ez_34 => ?_)
                rw [show z_34 = vl (wkK σ p2 p3) (wkX σ p2 (wkK σ p2 p3)) from ez_34.trans (rep_r S2 c_30)]
                refine lv_dload hx hb dX8_work_222 (lv_at hl 0 rfl) ?_
                refine lv_topd (fun z_35 ez_35 => ?_)
                rw [show z_35 = vl (wkK σ p2 p3) (wkX σ p3 (wkK σ p2 p3)) from ez_35.trans (rep_r S3 c_30)]
                refine vp_callSd ((va_runS (As := [.int p1, .double (vl (wkK σ p2 p3) (wkX σ p2 (wkK σ p2 p3))), .double (vl (wkK σ p2 p3) (wkX σ p3 (wkK σ p2 p3)))]) (rest := [.int (wkK σ p2 p3), .long 0, .int (wkK σ p2 p3), .ref m0]) ⟨hx, hb, hml, hown, hts⟩ (met_X8_workReal l p1 (vl (wkK σ p2 p3) (wkX σ p2 (wkK σ p2 p3))) (vl (wkK σ p2 p3) (wkX σ p3 (wkK σ p2 p3))) qA.1) (va_cwS 3 hts gX8_work_X8_workReal rfl rfl rfl (by decide +kernel) ⟨Nat.le_of_ble_eq_true rfl, Nat.le_of_ble_eq_true rfl⟩) ⟨fun _ _ _ _ q => q, fun U hU hW => ⟨rfl, trivial⟩⟩ rfl rfl hl.1 rfl (lv_room (Nat.le_of_ble_eq_true rfl)) dX8_work_224 ⟨Nat.le_of_ble_eq_true rfl, Nat.le_of_ble_eq_true rfl⟩).run) (fun r_3 h_3 => ?_)
                subst h_3
                refine vp_callSd ((va_runS (As := [.int (wkK σ p2 p3), .double (wrR p1 (vl (wkK σ p2 p3) (wkX σ p2 (wkK σ p2 p3))) (vl (wkK σ p2 p3) (wkX σ p3 (wkK σ p2 p3))))]) (rest := [.long 0, .int (wkK σ p2 p3), .ref m0]) ⟨hx, hb, hml, hown, hts⟩ (met_X8_narrowed l (wkK σ p2 p3) (wrR p1 (vl (wkK σ p2 p3) (wkX σ p2 (wkK σ p2 p3))) (vl (wkK σ p2 p3) (wkX σ p3 (wkK σ p2 p3)))) qA.1) (va_cwS 2 hts gX8_work_X8_narrowed rfl rfl rfl (by decide +kernel) ⟨Nat.le_of_ble_eq_true rfl, Nat.le_of_ble_eq_true rfl⟩) ⟨fun _ _ _ _ q => q, fun U hU hW => ⟨rfl, trivial⟩⟩ rfl rfl hl.1 rfl (lv_room (Nat.le_of_ble_eq_true rfl)) dX8_work_227 ⟨Nat.le_of_ble_eq_true rfl, Nat.le_of_ble_eq_true rfl⟩).run) (fun r_4 h_4 => ?_)
                subst h_4
                refine lv_topd (fun z_36 ez_36 => ?_)
                rw [show z_36 = vl (wkK σ p2 p3) (wk (wkK σ p2 p3) p1 (wkX σ p2 (wkK σ p2 p3)) (wkX σ p3 (wkK σ p2 p3))) from ez_36.trans qA.2.1]
                have hFc := wFree hD hS hA
                refine va_callv (va_runV (As := [.int (wkK σ p2 p3), .long 0, .double (vl (wkK σ p2 p3) (wk (wkK σ p2 p3) p1 (wkX σ p2 (wkK σ p2 p3)) (wkX σ p3 (wkK σ p2 p3))))]) (rest := []) ⟨hx, hb, hml, hown, hts⟩ (met_X8_hold l Dg m0 H.size a y 0 (wkK σ p2 p3) (σ.1 2 0) (σ.1 2 1) (σ.1 2 2) (σ.1 2 3) (σ.1 2 4) (mcW ((σ.1 4) p3.toNatClampNeg) (aRw p3.toNatClampNeg) (aRr p3.toNatClampNeg) (wkK σ p2 p3)) (mcR ((σ.1 4) p3.toNatClampNeg) (aRw p3.toNatClampNeg) (aRr p3.toNatClampNeg) (wkK σ p2 p3)) (σ.1 1) (σ.1 3) aTo aPo (σ.1 4) aRw aRr (σ.1 5) (σ.1 6) (σ.1 7) aWs aRs (σ.1 8) (σ.1 9) (σ.1 10) (σ.1 11) (σ.1 12) (wkK σ p2 p3) 0 (vl (wkK σ p2 p3) (wk (wkK σ p2 p3) p1 (wkX σ p2 (wkK σ p2 p3)) (wkX σ p3 (wkK σ p2 p3)))) ) (cwV 3 hts gX8_work_X8_hold rfl rfl rfl (by decide +kernel) ⟨Nat.le_of_ble_eq_true rfl, Nat.le_of_ble_eq_true rfl⟩) (wPreV hK hP (hD.weaken (fun _ _ _ _ => trivial)) (va_recv hK hP (ci := 6) (q0 := 0) rfl rfl)) rfl rfl hl.1 rfl (lv_room (Nat.le_of_ble_eq_true rfl)) dX8_work_230 ⟨Nat.le_of_ble_eq_true rfl, Nat.le_of_ble_eq_true rfl⟩) hS (fun q _ h => hFc q h) hFc (fun u t H locs ht hvm hw hB _ _ hS => ?_)
                obtain ⟨hP, -, hD⟩ := hB
                rw [ht] at hP
                replace hD := hD.weaken (fun _ q _ h => hFc q.1 h)
                rw [hw] at hP hD
                clear hw hFc
                have hP : va_P Dg vwCl (mW m0 a y 0 (wkK σ p2 p3) (σ.1 2 0) (σ.1 2 1) (σ.1 2 2) (σ.1 2 3) (σ.1 2 4) 0 (vl (wkK σ p2 p3) (wk (wkK σ p2 p3) p1 (wkX σ p2 (wkK σ p2 p3)) (wkX σ p3 (wkK σ p2 p3)))) (σ.1 1) (σ.1 3) aTo aPo (σ.1 4) aRw aRr (σ.1 5) (σ.1 6) (σ.1 7) aWs aRs (σ.1 8) (σ.1 9) (σ.1 10) (σ.1 11) (σ.1 12)) H := hP
                have hD : va_D A (mW m0 a y 0 (wkK σ p2 p3) (σ.1 2 0) (σ.1 2 1) (σ.1 2 2) (σ.1 2 3) (σ.1 2 4) 0 (vl (wkK σ p2 p3) (wk (wkK σ p2 p3) p1 (wkX σ p2 (wkK σ p2 p3)) (wkX σ p3 (wkK σ p2 p3)))) (σ.1 1) (σ.1 3) aTo aPo (σ.1 4) aRw aRr (σ.1 5) (σ.1 6) (σ.1 7) aWs aRs (σ.1 8) (σ.1 9) (σ.1 10) (σ.1 11) (σ.1 12)) := hD
                have oW : okB (wkK σ p2 p3) (wk (wkK σ p2 p3) p1 (wkX σ p2 (wkK σ p2 p3)) (wkX σ p3 (wkK σ p2 p3))) := okBR hkR qA.2.2
                have rW : rep (wkK σ p2 p3) (wk (wkK σ p2 p3) p1 (wkX σ p2 (wkK σ p2 p3)) (wkX σ p3 (wkK σ p2 p3))) 0 _ := repR hkR rfl
                have SW := rep_cast qK R4.1 oW rW
                refine lv_aload_n hx hb dX8_work_233 rfl (lv_at hl 5 rfl) ?_
                refine lv_iload hx hb dX8_work_234 (lv_at hl 9 rfl) ?_
                have hFc := wFree hD hS hA
                refine va_callv (va_runV (As := [.int p4]) (rest := []) ⟨hx, hb, hml, hown, hts⟩ (met_X8_store l Dg m0 H.size a y 0 (wkK σ p2 p3) (σ.1 2 0) (σ.1 2 1) (σ.1 2 2) (σ.1 2 3) (σ.1 2 4) 0 (vl (wkK σ p2 p3) (wk (wkK σ p2 p3) p1 (wkX σ p2 (wkK σ p2 p3)) (wkX σ p3 (wkK σ p2 p3)))) (σ.1 1) (σ.1 3) aTo aPo (σ.1 4) aRw aRr (σ.1 5) (σ.1 6) (σ.1 7) aWs aRs (σ.1 8) (σ.1 9) (σ.1 10) (σ.1 11) (σ.1 12) p4 (inC_in hV.1.2.1 c_4) (rep_nn qK oW rW)) (cwV 1 hts gX8_work_X8_store rfl rfl rfl (by decide +kernel) ⟨Nat.le_of_ble_eq_true rfl, Nat.le_of_ble_eq_true rfl⟩) (wPreV hK hP (hD.weaken (fun _ _ _ _ => trivial)) (va_recv hK hP (ci := 6) (q0 := 0) rfl rfl)) rfl rfl hl.1 rfl (lv_room (Nat.le_of_ble_eq_true rfl)) dX8_work_236 ⟨Nat.le_of_ble_eq_true rfl, Nat.le_of_ble_eq_true rfl⟩) hS (fun q _ h => hFc q h) hFc (fun u t H locs ht hvm hw hB _ _ hS => ?_)
                obtain ⟨hP, -, hD⟩ := hB
                rw [ht] at hP
                replace hD := hD.weaken (fun _ q _ h => hFc q.1 h)
                rw [hw] at hP hD
                clear hw hFc
                have hP : va_P Dg vwCl (mW m0 a y 0 ((σ.1 4) p4.toNatClampNeg) (σ.1 2 0) (σ.1 2 1) (σ.1 2 2) (σ.1 2 3) (σ.1 2 4) (mcW (wkK σ p2 p3) 0 (vl (wkK σ p2 p3) (wk (wkK σ p2 p3) p1 (wkX σ p2 (wkK σ p2 p3)) (wkX σ p3 (wkK σ p2 p3)))) ((σ.1 4) p4.toNatClampNeg)) (mcR (wkK σ p2 p3) 0 (vl (wkK σ p2 p3) (wk (wkK σ p2 p3) p1 (wkX σ p2 (wkK σ p2 p3)) (wkX σ p3 (wkK σ p2 p3)))) ((σ.1 4) p4.toNatClampNeg)) (σ.1 1) (σ.1 3) aTo aPo (σ.1 4) (vp_updL aRw p4.toNatClampNeg (mcW (wkK σ p2 p3) 0 (vl (wkK σ p2 p3) (wk (wkK σ p2 p3) p1 (wkX σ p2 (wkK σ p2 p3)) (wkX σ p3 (wkK σ p2 p3)))) ((σ.1 4) p4.toNatClampNeg))) (vf_upd aRr p4.toNatClampNeg (mcR (wkK σ p2 p3) 0 (vl (wkK σ p2 p3) (wk (wkK σ p2 p3) p1 (wkX σ p2 (wkK σ p2 p3)) (wkX σ p3 (wkK σ p2 p3)))) ((σ.1 4) p4.toNatClampNeg))) (σ.1 5) (σ.1 6) (σ.1 7) aWs aRs (σ.1 8) (σ.1 9) (σ.1 10) (σ.1 11) (σ.1 12)) H := hP
                have hD : va_D A (mW m0 a y 0 ((σ.1 4) p4.toNatClampNeg) (σ.1 2 0) (σ.1 2 1) (σ.1 2 2) (σ.1 2 3) (σ.1 2 4) (mcW (wkK σ p2 p3) 0 (vl (wkK σ p2 p3) (wk (wkK σ p2 p3) p1 (wkX σ p2 (wkK σ p2 p3)) (wkX σ p3 (wkK σ p2 p3)))) ((σ.1 4) p4.toNatClampNeg)) (mcR (wkK σ p2 p3) 0 (vl (wkK σ p2 p3) (wk (wkK σ p2 p3) p1 (wkX σ p2 (wkK σ p2 p3)) (wkX σ p3 (wkK σ p2 p3)))) ((σ.1 4) p4.toNatClampNeg)) (σ.1 1) (σ.1 3) aTo aPo (σ.1 4) (vp_updL aRw p4.toNatClampNeg (mcW (wkK σ p2 p3) 0 (vl (wkK σ p2 p3) (wk (wkK σ p2 p3) p1 (wkX σ p2 (wkK σ p2 p3)) (wkX σ p3 (wkK σ p2 p3)))) ((σ.1 4) p4.toNatClampNeg))) (vf_upd aRr p4.toNatClampNeg (mcR (wkK σ p2 p3) 0 (vl (wkK σ p2 p3) (wk (wkK σ p2 p3) p1 (wkX σ p2 (wkK σ p2 p3)) (wkX σ p3 (wkK σ p2 p3)))) ((σ.1 4) p4.toNatClampNeg))) (σ.1 5) (σ.1 6) (σ.1 7) aWs aRs (σ.1 8) (σ.1 9) (σ.1 10) (σ.1 11) (σ.1 12)) := hD
                refine lv_iconst (v := 1) hx hb dX8_work_239 (by decide) ?_
                have hw : wh_work σ p1 p2 p3 p4 = 0 := by simp only [wh_work, if_pos c_1, if_pos c_2, if_pos c_3, if_pos c_4, if_neg c_5, if_pos c_30, if_neg (fun g => c_33 ((vd82 o2 o3).mpr g))]
                exact W.iret (v := 1) hx hb hr (fun t ht hW => ⟨⟨_, (mW m0 a y 0 ((σ.1 4) p4.toNatClampNeg) (σ.1 2 0) (σ.1 2 1) (σ.1 2 2) (σ.1 2 3) (σ.1 2 4) (mcW (wkK σ p2 p3) 0 (vl (wkK σ p2 p3) (wk (wkK σ p2 p3) p1 (wkX σ p2 (wkK σ p2 p3)) (wkX σ p3 (wkK σ p2 p3)))) ((σ.1 4) p4.toNatClampNeg)) (mcR (wkK σ p2 p3) 0 (vl (wkK σ p2 p3) (wk (wkK σ p2 p3) p1 (wkX σ p2 (wkK σ p2 p3)) (wkX σ p3 (wkK σ p2 p3)))) ((σ.1 4) p4.toNatClampNeg)) (σ.1 1) (σ.1 3) aTo aPo (σ.1 4) (vp_updL aRw p4.toNatClampNeg (mcW (wkK σ p2 p3) 0 (vl (wkK σ p2 p3) (wk (wkK σ p2 p3) p1 (wkX σ p2 (wkK σ p2 p3)) (wkX σ p3 (wkK σ p2 p3)))) ((σ.1 4) p4.toNatClampNeg))) (vf_upd aRr p4.toNatClampNeg (mcR (wkK σ p2 p3) 0 (vl (wkK σ p2 p3) (wk (wkK σ p2 p3) p1 (wkX σ p2 (wkK σ p2 p3)) (wkX σ p3 (wkK σ p2 p3)))) ((σ.1 4) p4.toNatClampNeg))) (σ.1 5) (σ.1 6) (σ.1 7) aWs aRs (σ.1 8) (σ.1 9) (σ.1 10) (σ.1 11) (σ.1 12)), rfl, ⟨by rw [an_work, if_pos hw]; try rfl, (σ.1 4) p4.toNatClampNeg, mcW (wkK σ p2 p3) 0 (vl (wkK σ p2 p3) (wk (wkK σ p2 p3) p1 (wkX σ p2 (wkK σ p2 p3)) (wkX σ p3 (wkK σ p2 p3)))) ((σ.1 4) p4.toNatClampNeg), mcR (wkK σ p2 p3) 0 (vl (wkK σ p2 p3) (wk (wkK σ p2 p3) p1 (wkX σ p2 (wkK σ p2 p3)) (wkX σ p3 (wkK σ p2 p3)))) ((σ.1 4) p4.toNatClampNeg), aTo, aPo, vp_updL aRw p4.toNatClampNeg (mcW (wkK σ p2 p3) 0 (vl (wkK σ p2 p3) (wk (wkK σ p2 p3) p1 (wkX σ p2 (wkK σ p2 p3)) (wkX σ p3 (wkK σ p2 p3)))) ((σ.1 4) p4.toNatClampNeg)), vf_upd aRr p4.toNatClampNeg (mcR (wkK σ p2 p3) 0 (vl (wkK σ p2 p3) (wk (wkK σ p2 p3) p1 (wkX σ p2 (wkK σ p2 p3)) (wkX σ p3 (wkK σ p2 p3)))) ((σ.1 4) p4.toNatClampNeg)), aWs, aRs, by rw [nw_work, if_pos hw]; rfl, by rw [nw_work, if_pos hw]; exact mC_store hM SW⟩, by rw [ht]; exact hP, va_K.moved hW.alike hK, hD⟩, hS.F ht⟩) hS.2.2 dX8_work_240
              · replace c_33 := bI_ne c_33
                refine lv_aload_n hx hb dX8_work_166 rfl (lv_at hl 5 rfl) ?_
                refine lv_bipush (v := (-5)) hx hb dX8_work_167 (by decide) ?_
                have hFc := wFree hD hS hA
                refine va_calli (va_runV (As := [.int (-5)]) (rest := []) ⟨hx, hb, hml, hown, hts⟩ (met_X8_refuse l Dg m0 H.size a y 0 (wkK σ p2 p3) (σ.1 2 0) (σ.1 2 1) (σ.1 2 2) (σ.1 2 3) (σ.1 2 4) (mcW ((σ.1 4) p3.toNatClampNeg) (aRw p3.toNatClampNeg) (aRr p3.toNatClampNeg) (wkK σ p2 p3)) (mcR ((σ.1 4) p3.toNatClampNeg) (aRw p3.toNatClampNeg) (aRr p3.toNatClampNeg) (wkK σ p2 p3)) (σ.1 1) (σ.1 3) aTo aPo (σ.1 4) aRw aRr (σ.1 5) (σ.1 6) (σ.1 7) aWs aRs (σ.1 8) (σ.1 9) (σ.1 10) (σ.1 11) (σ.1 12) (-5) (by unfold vp_in; decide)) (cwV 1 hts gX8_work_X8_refuse rfl rfl rfl (by decide +kernel) ⟨Nat.le_of_ble_eq_true rfl, Nat.le_of_ble_eq_true rfl⟩) (wPreV hK hP (hD.weaken (fun _ _ _ _ => trivial)) (va_recv hK hP (ci := 6) (q0 := 0) rfl rfl)) rfl rfl hl.1 rfl (lv_room (Nat.le_of_ble_eq_true rfl)) dX8_work_169 ⟨Nat.le_of_ble_eq_true rfl, Nat.le_of_ble_eq_true rfl⟩) hS (fun q _ h => hFc q h) hFc (fun r u t H locs ht hvm hw hB _ _ hS => ?_)
                obtain ⟨hP, -, hD⟩ := hB
                rw [ht] at hP
                replace hD := hD.weaken (fun _ q _ h => hFc q.1 h)
                rw [hw.2] at hP hD
                rw [hw.1]
                clear hw hFc
                have hP : va_P Dg vwCl (mW m0 a y (-5) (wkK σ p2 p3) (σ.1 2 0) (σ.1 2 1) (σ.1 2 2) (σ.1 2 3) (σ.1 2 4) (mcW ((σ.1 4) p3.toNatClampNeg) (aRw p3.toNatClampNeg) (aRr p3.toNatClampNeg) (wkK σ p2 p3)) (mcR ((σ.1 4) p3.toNatClampNeg) (aRw p3.toNatClampNeg) (aRr p3.toNatClampNeg) (wkK σ p2 p3)) (rfO (-5) (σ.1 1)) (σ.1 3) aTo aPo (σ.1 4) aRw aRr (σ.1 5) (σ.1 6) (σ.1 7) aWs aRs (σ.1 8) (σ.1 9) (σ.1 10) (σ.1 11) (σ.1 12)) H := hP
                have hD : va_D A (mW m0 a y (-5) (wkK σ p2 p3) (σ.1 2 0) (σ.1 2 1) (σ.1 2 2) (σ.1 2 3) (σ.1 2 4) (mcW ((σ.1 4) p3.toNatClampNeg) (aRw p3.toNatClampNeg) (aRr p3.toNatClampNeg) (wkK σ p2 p3)) (mcR ((σ.1 4) p3.toNatClampNeg) (aRw p3.toNatClampNeg) (aRr p3.toNatClampNeg) (wkK σ p2 p3)) (rfO (-5) (σ.1 1)) (σ.1 3) aTo aPo (σ.1 4) aRw aRr (σ.1 5) (σ.1 6) (σ.1 7) aWs aRs (σ.1 8) (σ.1 9) (σ.1 10) (σ.1 11) (σ.1 12)) := hD
                have hw : wh_work σ p1 p2 p3 p4 = (-5) := by simp only [wh_work, if_pos c_1, if_pos c_2, if_pos c_3, if_pos c_4, if_neg c_5, if_pos c_30, if_pos ((vd82 o2 o3).mp c_33)]
                have hn : ¬ wh_work σ p1 p2 p3 p4 = 0 := by rw [hw]; decide
                exact W.iret (v := (-5)) hx hb hr (fun t ht hW => ⟨⟨_, (mW m0 a y (-5) (wkK σ p2 p3) (σ.1 2 0) (σ.1 2 1) (σ.1 2 2) (σ.1 2 3) (σ.1 2 4) (mcW ((σ.1 4) p3.toNatClampNeg) (aRw p3.toNatClampNeg) (aRr p3.toNatClampNeg) (wkK σ p2 p3)) (mcR ((σ.1 4) p3.toNatClampNeg) (aRw p3.toNatClampNeg) (aRr p3.toNatClampNeg) (wkK σ p2 p3)) (rfO (-5) (σ.1 1)) (σ.1 3) aTo aPo (σ.1 4) aRw aRr (σ.1 5) (σ.1 6) (σ.1 7) aWs aRs (σ.1 8) (σ.1 9) (σ.1 10) (σ.1 11) (σ.1 12)), rfl, ⟨by rw [an_work, if_neg hn, hw]; try rfl, wkK σ p2 p3, mcW ((σ.1 4) p3.toNatClampNeg) (aRw p3.toNatClampNeg) (aRr p3.toNatClampNeg) (wkK σ p2 p3), mcR ((σ.1 4) p3.toNatClampNeg) (aRw p3.toNatClampNeg) (aRr p3.toNatClampNeg) (wkK σ p2 p3), aTo, aPo, aRw, aRr, aWs, aRs, by rw [nw_work, if_neg hn, hw]; rfl, by rw [nw_work, if_neg hn]; exact hM⟩, by rw [ht]; exact hP, va_K.moved hW.alike hK, hD⟩, hS.F ht⟩) hS.2.2 dX8_work_172
            · refine lv_iload_n hx hb dX8_work_130 rfl (lv_at hl 6 rfl) ?_
              refine lv_iconst (v := 2) hx hb dX8_work_131 (by decide) ?_
              refine lv_icmp_le (tgt := 149) hx hb dX8_work_132 (by decide) (fun c_37 => ?_) (fun c_37 => ?_)
              · refine lv_iload hx hb dX8_work_149 (lv_at hl 4 rfl) ?_
                refine lv_iconst (v := 1) hx hb dX8_work_151 (by decide) ?_
                refine lv_icmp_le (tgt := 173) hx hb dX8_work_152 (by decide) (fun _ => ?_) (fun h0 => absurd (nle2 c_30) h0)
                refine lv_iload hx hb dX8_work_173 (lv_at hl 4 rfl) ?_
                refine lv_iconst (v := 2) hx hb dX8_work_175 (by decide) ?_
                refine lv_icmp_ge (tgt := 213) hx hb dX8_work_176 (by decide) (fun h0 => absurd h0 c_30) (fun _ => ?_)
                refine lv_iload_n hx hb dX8_work_179 rfl (lv_at hl 6 rfl) ?_
                refine lv_lload hx hb dX8_work_180 (lv_at hl 3 rfl) ?_
                refine lv_topl (fun z_38 ez_38 => ?_)
                rw [show z_38 = wkX σ p2 (wkK σ p2 p3) from ez_38.trans (rep_w S2 c_30)]
                refine lv_lload hx hb dX8_work_182 (lv_at hl 1 rfl) ?_
                refine lv_topl (fun z_39 ez_39 => ?_)
                rw [show z_39 = wkX σ p3 (wkK σ p2 p3) from ez_39.trans (rep_w S3 c_30)]
                refine vp_callSl ((va_runS (As := [.int p1, .long (wkX σ p2 (wkK σ p2 p3)), .long (wkX σ p3 (wkK σ p2 p3))]) (rest := []) ⟨hx, hb, hml, hown, hts⟩ (met_X8_workWhole l p1 (wkX σ p2 (wkK σ p2 p3)) (wkX σ p3 (wkK σ p2 p3)) (hz_le c_1 c_37)) (va_cwS 3 hts gX8_work_X8_workWhole rfl rfl rfl (by decide +kernel) ⟨Nat.le_of_ble_eq_true rfl, Nat.le_of_ble_eq_true rfl⟩) ⟨fun _ _ _ _ q => q, fun U hU hW => ⟨rfl, trivial⟩⟩ rfl rfl hl.1 rfl (lv_room (Nat.le_of_ble_eq_true rfl)) dX8_work_184 ⟨Nat.le_of_ble_eq_true rfl, Nat.le_of_ble_eq_true rfl⟩).run) (fun r hw => ?_)
                subst hw
                refine lv_topl (fun z_40 ez_40 => ?_)
                rw [show z_40 = fX0_workedWhole p1 (wkX σ p2 (wkK σ p2 p3)) (wkX σ p3 (wkK σ p2 p3)) from ez_40.trans (whole_eq (hz_le c_1 c_37))]
                refine lv_lstore (lv' := [(14, .long (fX0_workedWhole p1 (wkX σ p2 (wkK σ p2 p3)) (wkX σ p3 (wkK σ p2 p3)))), (12, .double (mcR ((σ.1 4) p3.toNatClampNeg) (aRw p3.toNatClampNeg) (aRr p3.toNatClampNeg) (wkK σ p2 p3))), (10, .long (mcW ((σ.1 4) p3.toNatClampNeg) (aRw p3.toNatClampNeg) (aRr p3.toNatClampNeg) (wkK σ p2 p3))), (8, .double (mcR ((σ.1 4) p2.toNatClampNeg) (aRw p2.toNatClampNeg) (aRr p2.toNatClampNeg) (wkK σ p2 p3))), (6, .long (mcW ((σ.1 4) p2.toNatClampNeg) (aRw p2.toNatClampNeg) (aRr p2.toNatClampNeg) (wkK σ p2 p3))), (5, .int (wkK σ p2 p3)), (0, .ref m0), (1, .int p1), (2, .int p2), (3, .int p3), (4, .int p4)]) hx hb dX8_work_187 hl (by decide) rfl (fun ls hl => ?_)
                refine lv_aload_n hx hb dX8_work_189 rfl (lv_at hl 6 rfl) ?_
                refine lv_iload hx hb dX8_work_190 (lv_at hl 5 rfl) ?_
                refine lv_iload hx hb dX8_work_192 (lv_at hl 5 rfl) ?_
                refine lv_if_ne (tgt := 204) hx hb dX8_work_194 (by decide) (fun c_41 => ?_) (fun c_41 => ?_)
                · refine lv_lload hx hb dX8_work_204 (lv_at hl 0 rfl) ?_
                  refine lv_topl (fun z_42 ez_42 => ?_)
                  rw [show z_42 = wk (wkK σ p2 p3) p1 (wkX σ p2 (wkK σ p2 p3)) (wkX σ p3 (wkK σ p2 p3)) from ez_42.trans (wk_W1 (kW_of qK c_30) c_41)]
                  refine lv_dconst0 hx hb dX8_work_206 ?_
                  have hFc := wFree hD hS hA
                  refine va_callv (va_runV (As := [.int (wkK σ p2 p3), .long (wk (wkK σ p2 p3) p1 (wkX σ p2 (wkK σ p2 p3)) (wkX σ p3 (wkK σ p2 p3))), .double FP.dconst0]) (rest := []) ⟨hx, hb, hml, hown, hts⟩ (met_X8_hold l Dg m0 H.size a y 0 (wkK σ p2 p3) (σ.1 2 0) (σ.1 2 1) (σ.1 2 2) (σ.1 2 3) (σ.1 2 4) (mcW ((σ.1 4) p3.toNatClampNeg) (aRw p3.toNatClampNeg) (aRr p3.toNatClampNeg) (wkK σ p2 p3)) (mcR ((σ.1 4) p3.toNatClampNeg) (aRw p3.toNatClampNeg) (aRr p3.toNatClampNeg) (wkK σ p2 p3)) (σ.1 1) (σ.1 3) aTo aPo (σ.1 4) aRw aRr (σ.1 5) (σ.1 6) (σ.1 7) aWs aRs (σ.1 8) (σ.1 9) (σ.1 10) (σ.1 11) (σ.1 12) (wkK σ p2 p3) (wk (wkK σ p2 p3) p1 (wkX σ p2 (wkK σ p2 p3)) (wkX σ p3 (wkK σ p2 p3))) FP.dconst0 ) (cwV 3 hts gX8_work_X8_hold rfl rfl rfl (by decide +kernel) ⟨Nat.le_of_ble_eq_true rfl, Nat.le_of_ble_eq_true rfl⟩) (wPreV hK hP (hD.weaken (fun _ _ _ _ => trivial)) (va_recv hK hP (ci := 6) (q0 := 0) rfl rfl)) rfl rfl hl.1 rfl (lv_room (Nat.le_of_ble_eq_true rfl)) dX8_work_207 ⟨Nat.le_of_ble_eq_true rfl, Nat.le_of_ble_eq_true rfl⟩) hS (fun q _ h => hFc q h) hFc (fun u t H locs ht hvm hw hB _ _ hS => ?_)
                  obtain ⟨hP, -, hD⟩ := hB
                  rw [ht] at hP
                  replace hD := hD.weaken (fun _ q _ h => hFc q.1 h)
                  rw [hw] at hP hD
                  clear hw hFc
                  have hP : va_P Dg vwCl (mW m0 a y 0 (wkK σ p2 p3) (σ.1 2 0) (σ.1 2 1) (σ.1 2 2) (σ.1 2 3) (σ.1 2 4) (wk (wkK σ p2 p3) p1 (wkX σ p2 (wkK σ p2 p3)) (wkX σ p3 (wkK σ p2 p3))) FP.dconst0 (σ.1 1) (σ.1 3) aTo aPo (σ.1 4) aRw aRr (σ.1 5) (σ.1 6) (σ.1 7) aWs aRs (σ.1 8) (σ.1 9) (σ.1 10) (σ.1 11) (σ.1 12)) H := hP
                  have hD : va_D A (mW m0 a y 0 (wkK σ p2 p3) (σ.1 2 0) (σ.1 2 1) (σ.1 2 2) (σ.1 2 3) (σ.1 2 4) (wk (wkK σ p2 p3) p1 (wkX σ p2 (wkK σ p2 p3)) (wkX σ p3 (wkK σ p2 p3))) FP.dconst0 (σ.1 1) (σ.1 3) aTo aPo (σ.1 4) aRw aRr (σ.1 5) (σ.1 6) (σ.1 7) aWs aRs (σ.1 8) (σ.1 9) (σ.1 10) (σ.1 11) (σ.1 12)) := hD
                  refine lv_goto (tgt := 233) hx hb dX8_work_210 (by decide) ?_
                  have hkW := kW_of qK c_30
                  have oW : okB (wkK σ p2 p3) (wk (wkK σ p2 p3) p1 (wkX σ p2 (wkK σ p2 p3)) (wkX σ p3 (wkK σ p2 p3))) := wk_okW hkW
                  have rW : rep (wkK σ p2 p3) (wk (wkK σ p2 p3) p1 (wkX σ p2 (wkK σ p2 p3)) (wkX σ p3 (wkK σ p2 p3))) _ FP.dconst0 := rep_ww hkW
                  have SW := rep_cast qK R4.1 oW rW
                  refine lv_aload_n hx hb dX8_work_233 rfl (lv_at hl 6 rfl) ?_
                  refine lv_iload hx hb dX8_work_234 (lv_at hl 10 rfl) ?_
                  have hFc := wFree hD hS hA
                  refine va_callv (va_runV (As := [.int p4]) (rest := []) ⟨hx, hb, hml, hown, hts⟩ (met_X8_store l Dg m0 H.size a y 0 (wkK σ p2 p3) (σ.1 2 0) (σ.1 2 1) (σ.1 2 2) (σ.1 2 3) (σ.1 2 4) (wk (wkK σ p2 p3) p1 (wkX σ p2 (wkK σ p2 p3)) (wkX σ p3 (wkK σ p2 p3))) FP.dconst0 (σ.1 1) (σ.1 3) aTo aPo (σ.1 4) aRw aRr (σ.1 5) (σ.1 6) (σ.1 7) aWs aRs (σ.1 8) (σ.1 9) (σ.1 10) (σ.1 11) (σ.1 12) p4 (inC_in hV.1.2.1 c_4) (rep_nn qK oW rW)) (cwV 1 hts gX8_work_X8_store rfl rfl rfl (by decide +kernel) ⟨Nat.le_of_ble_eq_true rfl, Nat.le_of_ble_eq_true rfl⟩) (wPreV hK hP (hD.weaken (fun _ _ _ _ => trivial)) (va_recv hK hP (ci := 6) (q0 := 0) rfl rfl)) rfl rfl hl.1 rfl (lv_room (Nat.le_of_ble_eq_true rfl)) dX8_work_236 ⟨Nat.le_of_ble_eq_true rfl, Nat.le_of_ble_eq_true rfl⟩) hS (fun q _ h => hFc q h) hFc (fun u t H locs ht hvm hw hB _ _ hS => ?_)
                  obtain ⟨hP, -, hD⟩ := hB
                  rw [ht] at hP
                  replace hD := hD.weaken (fun _ q _ h => hFc q.1 h)
                  rw [hw] at hP hD
                  clear hw hFc
                  have hP : va_P Dg vwCl (mW m0 a y 0 ((σ.1 4) p4.toNatClampNeg) (σ.1 2 0) (σ.1 2 1) (σ.1 2 2) (σ.1 2 3) (σ.1 2 4) (mcW (wkK σ p2 p3) (wk (wkK σ p2 p3) p1 (wkX σ p2 (wkK σ p2 p3)) (wkX σ p3 (wkK σ p2 p3))) FP.dconst0 ((σ.1 4) p4.toNatClampNeg)) (mcR (wkK σ p2 p3) (wk (wkK σ p2 p3) p1 (wkX σ p2 (wkK σ p2 p3)) (wkX σ p3 (wkK σ p2 p3))) FP.dconst0 ((σ.1 4) p4.toNatClampNeg)) (σ.1 1) (σ.1 3) aTo aPo (σ.1 4) (vp_updL aRw p4.toNatClampNeg (mcW (wkK σ p2 p3) (wk (wkK σ p2 p3) p1 (wkX σ p2 (wkK σ p2 p3)) (wkX σ p3 (wkK σ p2 p3))) FP.dconst0 ((σ.1 4) p4.toNatClampNeg))) (vf_upd aRr p4.toNatClampNeg (mcR (wkK σ p2 p3) (wk (wkK σ p2 p3) p1 (wkX σ p2 (wkK σ p2 p3)) (wkX σ p3 (wkK σ p2 p3))) FP.dconst0 ((σ.1 4) p4.toNatClampNeg))) (σ.1 5) (σ.1 6) (σ.1 7) aWs aRs (σ.1 8) (σ.1 9) (σ.1 10) (σ.1 11) (σ.1 12)) H := hP
                  have hD : va_D A (mW m0 a y 0 ((σ.1 4) p4.toNatClampNeg) (σ.1 2 0) (σ.1 2 1) (σ.1 2 2) (σ.1 2 3) (σ.1 2 4) (mcW (wkK σ p2 p3) (wk (wkK σ p2 p3) p1 (wkX σ p2 (wkK σ p2 p3)) (wkX σ p3 (wkK σ p2 p3))) FP.dconst0 ((σ.1 4) p4.toNatClampNeg)) (mcR (wkK σ p2 p3) (wk (wkK σ p2 p3) p1 (wkX σ p2 (wkK σ p2 p3)) (wkX σ p3 (wkK σ p2 p3))) FP.dconst0 ((σ.1 4) p4.toNatClampNeg)) (σ.1 1) (σ.1 3) aTo aPo (σ.1 4) (vp_updL aRw p4.toNatClampNeg (mcW (wkK σ p2 p3) (wk (wkK σ p2 p3) p1 (wkX σ p2 (wkK σ p2 p3)) (wkX σ p3 (wkK σ p2 p3))) FP.dconst0 ((σ.1 4) p4.toNatClampNeg))) (vf_upd aRr p4.toNatClampNeg (mcR (wkK σ p2 p3) (wk (wkK σ p2 p3) p1 (wkX σ p2 (wkK σ p2 p3)) (wkX σ p3 (wkK σ p2 p3))) FP.dconst0 ((σ.1 4) p4.toNatClampNeg))) (σ.1 5) (σ.1 6) (σ.1 7) aWs aRs (σ.1 8) (σ.1 9) (σ.1 10) (σ.1 11) (σ.1 12)) := hD
                  refine lv_iconst (v := 1) hx hb dX8_work_239 (by decide) ?_
                  have hw : wh_work σ p1 p2 p3 p4 = 0 := by simp only [wh_work, if_pos c_1, if_pos c_2, if_pos c_3, if_pos c_4, if_neg c_5, if_neg c_30, if_pos c_37]
                  exact W.iret (v := 1) hx hb hr (fun t ht hW => ⟨⟨_, (mW m0 a y 0 ((σ.1 4) p4.toNatClampNeg) (σ.1 2 0) (σ.1 2 1) (σ.1 2 2) (σ.1 2 3) (σ.1 2 4) (mcW (wkK σ p2 p3) (wk (wkK σ p2 p3) p1 (wkX σ p2 (wkK σ p2 p3)) (wkX σ p3 (wkK σ p2 p3))) FP.dconst0 ((σ.1 4) p4.toNatClampNeg)) (mcR (wkK σ p2 p3) (wk (wkK σ p2 p3) p1 (wkX σ p2 (wkK σ p2 p3)) (wkX σ p3 (wkK σ p2 p3))) FP.dconst0 ((σ.1 4) p4.toNatClampNeg)) (σ.1 1) (σ.1 3) aTo aPo (σ.1 4) (vp_updL aRw p4.toNatClampNeg (mcW (wkK σ p2 p3) (wk (wkK σ p2 p3) p1 (wkX σ p2 (wkK σ p2 p3)) (wkX σ p3 (wkK σ p2 p3))) FP.dconst0 ((σ.1 4) p4.toNatClampNeg))) (vf_upd aRr p4.toNatClampNeg (mcR (wkK σ p2 p3) (wk (wkK σ p2 p3) p1 (wkX σ p2 (wkK σ p2 p3)) (wkX σ p3 (wkK σ p2 p3))) FP.dconst0 ((σ.1 4) p4.toNatClampNeg))) (σ.1 5) (σ.1 6) (σ.1 7) aWs aRs (σ.1 8) (σ.1 9) (σ.1 10) (σ.1 11) (σ.1 12)), rfl, ⟨by rw [an_work, if_pos hw]; try rfl, (σ.1 4) p4.toNatClampNeg, mcW (wkK σ p2 p3) (wk (wkK σ p2 p3) p1 (wkX σ p2 (wkK σ p2 p3)) (wkX σ p3 (wkK σ p2 p3))) FP.dconst0 ((σ.1 4) p4.toNatClampNeg), mcR (wkK σ p2 p3) (wk (wkK σ p2 p3) p1 (wkX σ p2 (wkK σ p2 p3)) (wkX σ p3 (wkK σ p2 p3))) FP.dconst0 ((σ.1 4) p4.toNatClampNeg), aTo, aPo, vp_updL aRw p4.toNatClampNeg (mcW (wkK σ p2 p3) (wk (wkK σ p2 p3) p1 (wkX σ p2 (wkK σ p2 p3)) (wkX σ p3 (wkK σ p2 p3))) FP.dconst0 ((σ.1 4) p4.toNatClampNeg)), vf_upd aRr p4.toNatClampNeg (mcR (wkK σ p2 p3) (wk (wkK σ p2 p3) p1 (wkX σ p2 (wkK σ p2 p3)) (wkX σ p3 (wkK σ p2 p3))) FP.dconst0 ((σ.1 4) p4.toNatClampNeg)), aWs, aRs, by rw [nw_work, if_pos hw]; rfl, by rw [nw_work, if_pos hw]; exact mC_store hM SW⟩, by rw [ht]; exact hP, va_K.moved hW.alike hK, hD⟩, hS.F ht⟩) hS.2.2 dX8_work_240
                · refine lv_lload hx hb dX8_work_197 (lv_at hl 0 rfl) ?_
                  refine lv_l2i hx hb dX8_work_199 rfl ?_
                  refine lv_i2l hx hb dX8_work_200 rfl ?_
                  refine lv_topl (fun z_43 ez_43 => ?_)
                  rw [show z_43 = wk (wkK σ p2 p3) p1 (wkX σ p2 (wkK σ p2 p3)) (wkX σ p3 (wkK σ p2 p3)) from ez_43.trans (wk_W0 c_41)]
                  refine lv_goto (tgt := 206) hx hb dX8_work_201 (by decide) ?_
                  refine lv_dconst0 hx hb dX8_work_206 ?_
                  have hFc := wFree hD hS hA
                  refine va_callv (va_runV (As := [.int (wkK σ p2 p3), .long (wk (wkK σ p2 p3) p1 (wkX σ p2 (wkK σ p2 p3)) (wkX σ p3 (wkK σ p2 p3))), .double FP.dconst0]) (rest := []) ⟨hx, hb, hml, hown, hts⟩ (met_X8_hold l Dg m0 H.size a y 0 (wkK σ p2 p3) (σ.1 2 0) (σ.1 2 1) (σ.1 2 2) (σ.1 2 3) (σ.1 2 4) (mcW ((σ.1 4) p3.toNatClampNeg) (aRw p3.toNatClampNeg) (aRr p3.toNatClampNeg) (wkK σ p2 p3)) (mcR ((σ.1 4) p3.toNatClampNeg) (aRw p3.toNatClampNeg) (aRr p3.toNatClampNeg) (wkK σ p2 p3)) (σ.1 1) (σ.1 3) aTo aPo (σ.1 4) aRw aRr (σ.1 5) (σ.1 6) (σ.1 7) aWs aRs (σ.1 8) (σ.1 9) (σ.1 10) (σ.1 11) (σ.1 12) (wkK σ p2 p3) (wk (wkK σ p2 p3) p1 (wkX σ p2 (wkK σ p2 p3)) (wkX σ p3 (wkK σ p2 p3))) FP.dconst0 ) (cwV 3 hts gX8_work_X8_hold rfl rfl rfl (by decide +kernel) ⟨Nat.le_of_ble_eq_true rfl, Nat.le_of_ble_eq_true rfl⟩) (wPreV hK hP (hD.weaken (fun _ _ _ _ => trivial)) (va_recv hK hP (ci := 6) (q0 := 0) rfl rfl)) rfl rfl hl.1 rfl (lv_room (Nat.le_of_ble_eq_true rfl)) dX8_work_207 ⟨Nat.le_of_ble_eq_true rfl, Nat.le_of_ble_eq_true rfl⟩) hS (fun q _ h => hFc q h) hFc (fun u t H locs ht hvm hw hB _ _ hS => ?_)
                  obtain ⟨hP, -, hD⟩ := hB
                  rw [ht] at hP
                  replace hD := hD.weaken (fun _ q _ h => hFc q.1 h)
                  rw [hw] at hP hD
                  clear hw hFc
                  have hP : va_P Dg vwCl (mW m0 a y 0 (wkK σ p2 p3) (σ.1 2 0) (σ.1 2 1) (σ.1 2 2) (σ.1 2 3) (σ.1 2 4) (wk (wkK σ p2 p3) p1 (wkX σ p2 (wkK σ p2 p3)) (wkX σ p3 (wkK σ p2 p3))) FP.dconst0 (σ.1 1) (σ.1 3) aTo aPo (σ.1 4) aRw aRr (σ.1 5) (σ.1 6) (σ.1 7) aWs aRs (σ.1 8) (σ.1 9) (σ.1 10) (σ.1 11) (σ.1 12)) H := hP
                  have hD : va_D A (mW m0 a y 0 (wkK σ p2 p3) (σ.1 2 0) (σ.1 2 1) (σ.1 2 2) (σ.1 2 3) (σ.1 2 4) (wk (wkK σ p2 p3) p1 (wkX σ p2 (wkK σ p2 p3)) (wkX σ p3 (wkK σ p2 p3))) FP.dconst0 (σ.1 1) (σ.1 3) aTo aPo (σ.1 4) aRw aRr (σ.1 5) (σ.1 6) (σ.1 7) aWs aRs (σ.1 8) (σ.1 9) (σ.1 10) (σ.1 11) (σ.1 12)) := hD
                  refine lv_goto (tgt := 233) hx hb dX8_work_210 (by decide) ?_
                  have hkW := kW_of qK c_30
                  have oW : okB (wkK σ p2 p3) (wk (wkK σ p2 p3) p1 (wkX σ p2 (wkK σ p2 p3)) (wkX σ p3 (wkK σ p2 p3))) := wk_okW hkW
                  have rW : rep (wkK σ p2 p3) (wk (wkK σ p2 p3) p1 (wkX σ p2 (wkK σ p2 p3)) (wkX σ p3 (wkK σ p2 p3))) _ FP.dconst0 := rep_ww hkW
                  have SW := rep_cast qK R4.1 oW rW
                  refine lv_aload_n hx hb dX8_work_233 rfl (lv_at hl 6 rfl) ?_
                  refine lv_iload hx hb dX8_work_234 (lv_at hl 10 rfl) ?_
                  have hFc := wFree hD hS hA
                  refine va_callv (va_runV (As := [.int p4]) (rest := []) ⟨hx, hb, hml, hown, hts⟩ (met_X8_store l Dg m0 H.size a y 0 (wkK σ p2 p3) (σ.1 2 0) (σ.1 2 1) (σ.1 2 2) (σ.1 2 3) (σ.1 2 4) (wk (wkK σ p2 p3) p1 (wkX σ p2 (wkK σ p2 p3)) (wkX σ p3 (wkK σ p2 p3))) FP.dconst0 (σ.1 1) (σ.1 3) aTo aPo (σ.1 4) aRw aRr (σ.1 5) (σ.1 6) (σ.1 7) aWs aRs (σ.1 8) (σ.1 9) (σ.1 10) (σ.1 11) (σ.1 12) p4 (inC_in hV.1.2.1 c_4) (rep_nn qK oW rW)) (cwV 1 hts gX8_work_X8_store rfl rfl rfl (by decide +kernel) ⟨Nat.le_of_ble_eq_true rfl, Nat.le_of_ble_eq_true rfl⟩) (wPreV hK hP (hD.weaken (fun _ _ _ _ => trivial)) (va_recv hK hP (ci := 6) (q0 := 0) rfl rfl)) rfl rfl hl.1 rfl (lv_room (Nat.le_of_ble_eq_true rfl)) dX8_work_236 ⟨Nat.le_of_ble_eq_true rfl, Nat.le_of_ble_eq_true rfl⟩) hS (fun q _ h => hFc q h) hFc (fun u t H locs ht hvm hw hB _ _ hS => ?_)
                  obtain ⟨hP, -, hD⟩ := hB
                  rw [ht] at hP
                  replace hD := hD.weaken (fun _ q _ h => hFc q.1 h)
                  rw [hw] at hP hD
                  clear hw hFc
                  have hP : va_P Dg vwCl (mW m0 a y 0 ((σ.1 4) p4.toNatClampNeg) (σ.1 2 0) (σ.1 2 1) (σ.1 2 2) (σ.1 2 3) (σ.1 2 4) (mcW (wkK σ p2 p3) (wk (wkK σ p2 p3) p1 (wkX σ p2 (wkK σ p2 p3)) (wkX σ p3 (wkK σ p2 p3))) FP.dconst0 ((σ.1 4) p4.toNatClampNeg)) (mcR (wkK σ p2 p3) (wk (wkK σ p2 p3) p1 (wkX σ p2 (wkK σ p2 p3)) (wkX σ p3 (wkK σ p2 p3))) FP.dconst0 ((σ.1 4) p4.toNatClampNeg)) (σ.1 1) (σ.1 3) aTo aPo (σ.1 4) (vp_updL aRw p4.toNatClampNeg (mcW (wkK σ p2 p3) (wk (wkK σ p2 p3) p1 (wkX σ p2 (wkK σ p2 p3)) (wkX σ p3 (wkK σ p2 p3))) FP.dconst0 ((σ.1 4) p4.toNatClampNeg))) (vf_upd aRr p4.toNatClampNeg (mcR (wkK σ p2 p3) (wk (wkK σ p2 p3) p1 (wkX σ p2 (wkK σ p2 p3)) (wkX σ p3 (wkK σ p2 p3))) FP.dconst0 ((σ.1 4) p4.toNatClampNeg))) (σ.1 5) (σ.1 6) (σ.1 7) aWs aRs (σ.1 8) (σ.1 9) (σ.1 10) (σ.1 11) (σ.1 12)) H := hP
                  have hD : va_D A (mW m0 a y 0 ((σ.1 4) p4.toNatClampNeg) (σ.1 2 0) (σ.1 2 1) (σ.1 2 2) (σ.1 2 3) (σ.1 2 4) (mcW (wkK σ p2 p3) (wk (wkK σ p2 p3) p1 (wkX σ p2 (wkK σ p2 p3)) (wkX σ p3 (wkK σ p2 p3))) FP.dconst0 ((σ.1 4) p4.toNatClampNeg)) (mcR (wkK σ p2 p3) (wk (wkK σ p2 p3) p1 (wkX σ p2 (wkK σ p2 p3)) (wkX σ p3 (wkK σ p2 p3))) FP.dconst0 ((σ.1 4) p4.toNatClampNeg)) (σ.1 1) (σ.1 3) aTo aPo (σ.1 4) (vp_updL aRw p4.toNatClampNeg (mcW (wkK σ p2 p3) (wk (wkK σ p2 p3) p1 (wkX σ p2 (wkK σ p2 p3)) (wkX σ p3 (wkK σ p2 p3))) FP.dconst0 ((σ.1 4) p4.toNatClampNeg))) (vf_upd aRr p4.toNatClampNeg (mcR (wkK σ p2 p3) (wk (wkK σ p2 p3) p1 (wkX σ p2 (wkK σ p2 p3)) (wkX σ p3 (wkK σ p2 p3))) FP.dconst0 ((σ.1 4) p4.toNatClampNeg))) (σ.1 5) (σ.1 6) (σ.1 7) aWs aRs (σ.1 8) (σ.1 9) (σ.1 10) (σ.1 11) (σ.1 12)) := hD
                  refine lv_iconst (v := 1) hx hb dX8_work_239 (by decide) ?_
                  have hw : wh_work σ p1 p2 p3 p4 = 0 := by simp only [wh_work, if_pos c_1, if_pos c_2, if_pos c_3, if_pos c_4, if_neg c_5, if_neg c_30, if_pos c_37]
                  exact W.iret (v := 1) hx hb hr (fun t ht hW => ⟨⟨_, (mW m0 a y 0 ((σ.1 4) p4.toNatClampNeg) (σ.1 2 0) (σ.1 2 1) (σ.1 2 2) (σ.1 2 3) (σ.1 2 4) (mcW (wkK σ p2 p3) (wk (wkK σ p2 p3) p1 (wkX σ p2 (wkK σ p2 p3)) (wkX σ p3 (wkK σ p2 p3))) FP.dconst0 ((σ.1 4) p4.toNatClampNeg)) (mcR (wkK σ p2 p3) (wk (wkK σ p2 p3) p1 (wkX σ p2 (wkK σ p2 p3)) (wkX σ p3 (wkK σ p2 p3))) FP.dconst0 ((σ.1 4) p4.toNatClampNeg)) (σ.1 1) (σ.1 3) aTo aPo (σ.1 4) (vp_updL aRw p4.toNatClampNeg (mcW (wkK σ p2 p3) (wk (wkK σ p2 p3) p1 (wkX σ p2 (wkK σ p2 p3)) (wkX σ p3 (wkK σ p2 p3))) FP.dconst0 ((σ.1 4) p4.toNatClampNeg))) (vf_upd aRr p4.toNatClampNeg (mcR (wkK σ p2 p3) (wk (wkK σ p2 p3) p1 (wkX σ p2 (wkK σ p2 p3)) (wkX σ p3 (wkK σ p2 p3))) FP.dconst0 ((σ.1 4) p4.toNatClampNeg))) (σ.1 5) (σ.1 6) (σ.1 7) aWs aRs (σ.1 8) (σ.1 9) (σ.1 10) (σ.1 11) (σ.1 12)), rfl, ⟨by rw [an_work, if_pos hw]; try rfl, (σ.1 4) p4.toNatClampNeg, mcW (wkK σ p2 p3) (wk (wkK σ p2 p3) p1 (wkX σ p2 (wkK σ p2 p3)) (wkX σ p3 (wkK σ p2 p3))) FP.dconst0 ((σ.1 4) p4.toNatClampNeg), mcR (wkK σ p2 p3) (wk (wkK σ p2 p3) p1 (wkX σ p2 (wkK σ p2 p3)) (wkX σ p3 (wkK σ p2 p3))) FP.dconst0 ((σ.1 4) p4.toNatClampNeg), aTo, aPo, vp_updL aRw p4.toNatClampNeg (mcW (wkK σ p2 p3) (wk (wkK σ p2 p3) p1 (wkX σ p2 (wkK σ p2 p3)) (wkX σ p3 (wkK σ p2 p3))) FP.dconst0 ((σ.1 4) p4.toNatClampNeg)), vf_upd aRr p4.toNatClampNeg (mcR (wkK σ p2 p3) (wk (wkK σ p2 p3) p1 (wkX σ p2 (wkK σ p2 p3)) (wkX σ p3 (wkK σ p2 p3))) FP.dconst0 ((σ.1 4) p4.toNatClampNeg)), aWs, aRs, by rw [nw_work, if_pos hw]; rfl, by rw [nw_work, if_pos hw]; exact mC_store hM SW⟩, by rw [ht]; exact hP, va_K.moved hW.alike hK, hD⟩, hS.F ht⟩) hS.2.2 dX8_work_240
              · refine lv_lload hx hb dX8_work_135 (lv_at hl 1 rfl) ?_
                refine lv_topl (fun z_44 ez_44 => ?_)
                rw [show z_44 = wkX σ p3 (wkK σ p2 p3) from ez_44.trans (rep_w S3 c_30)]
                refine lv_lconst (v := 0) hx hb dX8_work_137 (by decide) ?_
                refine W.lcmp hx hb dX8_work_138 ?_
                refine lv_if_ne (tgt := 149) hx hb dX8_work_139 (by decide) (fun c_45 => ?_) (fun c_45 => ?_)
                · refine lv_iload hx hb dX8_work_149 (lv_at hl 4 rfl) ?_
                  refine lv_iconst (v := 1) hx hb dX8_work_151 (by decide) ?_
                  refine lv_icmp_le (tgt := 173) hx hb dX8_work_152 (by decide) (fun _ => ?_) (fun h0 => absurd (nle2 c_30) h0)
                  refine lv_iload hx hb dX8_work_173 (lv_at hl 4 rfl) ?_
                  refine lv_iconst (v := 2) hx hb dX8_work_175 (by decide) ?_
                  refine lv_icmp_ge (tgt := 213) hx hb dX8_work_176 (by decide) (fun h0 => absurd h0 c_30) (fun _ => ?_)
                  refine lv_iload_n hx hb dX8_work_179 rfl (lv_at hl 6 rfl) ?_
                  refine lv_lload hx hb dX8_work_180 (lv_at hl 3 rfl) ?_
                  refine lv_topl (fun z_46 ez_46 => ?_)
                  rw [show z_46 = wkX σ p2 (wkK σ p2 p3) from ez_46.trans (rep_w S2 c_30)]
                  refine lv_lload hx hb dX8_work_182 (lv_at hl 1 rfl) ?_
                  refine lv_topl (fun z_47 ez_47 => ?_)
                  rw [show z_47 = wkX σ p3 (wkK σ p2 p3) from ez_47.trans (rep_w S3 c_30)]
                  refine vp_callSl ((va_runS (As := [.int p1, .long (wkX σ p2 (wkK σ p2 p3)), .long (wkX σ p3 (wkK σ p2 p3))]) (rest := []) ⟨hx, hb, hml, hown, hts⟩ (met_X8_workWhole l p1 (wkX σ p2 (wkK σ p2 p3)) (wkX σ p3 (wkK σ p2 p3)) (fun _ _ _ g => c_45 (lgc_eqq.mpr g))) (va_cwS 3 hts gX8_work_X8_workWhole rfl rfl rfl (by decide +kernel) ⟨Nat.le_of_ble_eq_true rfl, Nat.le_of_ble_eq_true rfl⟩) ⟨fun _ _ _ _ q => q, fun U hU hW => ⟨rfl, trivial⟩⟩ rfl rfl hl.1 rfl (lv_room (Nat.le_of_ble_eq_true rfl)) dX8_work_184 ⟨Nat.le_of_ble_eq_true rfl, Nat.le_of_ble_eq_true rfl⟩).run) (fun r hw => ?_)
                  subst hw
                  refine lv_topl (fun z_48 ez_48 => ?_)
                  rw [show z_48 = fX0_workedWhole p1 (wkX σ p2 (wkK σ p2 p3)) (wkX σ p3 (wkK σ p2 p3)) from ez_48.trans (whole_eq (fun _ _ _ g => c_45 (lgc_eqq.mpr g)))]
                  refine lv_lstore (lv' := [(14, .long (fX0_workedWhole p1 (wkX σ p2 (wkK σ p2 p3)) (wkX σ p3 (wkK σ p2 p3)))), (12, .double (mcR ((σ.1 4) p3.toNatClampNeg) (aRw p3.toNatClampNeg) (aRr p3.toNatClampNeg) (wkK σ p2 p3))), (10, .long (mcW ((σ.1 4) p3.toNatClampNeg) (aRw p3.toNatClampNeg) (aRr p3.toNatClampNeg) (wkK σ p2 p3))), (8, .double (mcR ((σ.1 4) p2.toNatClampNeg) (aRw p2.toNatClampNeg) (aRr p2.toNatClampNeg) (wkK σ p2 p3))), (6, .long (mcW ((σ.1 4) p2.toNatClampNeg) (aRw p2.toNatClampNeg) (aRr p2.toNatClampNeg) (wkK σ p2 p3))), (5, .int (wkK σ p2 p3)), (0, .ref m0), (1, .int p1), (2, .int p2), (3, .int p3), (4, .int p4)]) hx hb dX8_work_187 hl (by decide) rfl (fun ls hl => ?_)
                  refine lv_aload_n hx hb dX8_work_189 rfl (lv_at hl 6 rfl) ?_
                  refine lv_iload hx hb dX8_work_190 (lv_at hl 5 rfl) ?_
                  refine lv_iload hx hb dX8_work_192 (lv_at hl 5 rfl) ?_
                  refine lv_if_ne (tgt := 204) hx hb dX8_work_194 (by decide) (fun c_49 => ?_) (fun c_49 => ?_)
                  · refine lv_lload hx hb dX8_work_204 (lv_at hl 0 rfl) ?_
                    refine lv_topl (fun z_50 ez_50 => ?_)
                    rw [show z_50 = wk (wkK σ p2 p3) p1 (wkX σ p2 (wkK σ p2 p3)) (wkX σ p3 (wkK σ p2 p3)) from ez_50.trans (wk_W1 (kW_of qK c_30) c_49)]
                    refine lv_dconst0 hx hb dX8_work_206 ?_
                    have hFc := wFree hD hS hA
                    refine va_callv (va_runV (As := [.int (wkK σ p2 p3), .long (wk (wkK σ p2 p3) p1 (wkX σ p2 (wkK σ p2 p3)) (wkX σ p3 (wkK σ p2 p3))), .double FP.dconst0]) (rest := []) ⟨hx, hb, hml, hown, hts⟩ (met_X8_hold l Dg m0 H.size a y 0 (wkK σ p2 p3) (σ.1 2 0) (σ.1 2 1) (σ.1 2 2) (σ.1 2 3) (σ.1 2 4) (mcW ((σ.1 4) p3.toNatClampNeg) (aRw p3.toNatClampNeg) (aRr p3.toNatClampNeg) (wkK σ p2 p3)) (mcR ((σ.1 4) p3.toNatClampNeg) (aRw p3.toNatClampNeg) (aRr p3.toNatClampNeg) (wkK σ p2 p3)) (σ.1 1) (σ.1 3) aTo aPo (σ.1 4) aRw aRr (σ.1 5) (σ.1 6) (σ.1 7) aWs aRs (σ.1 8) (σ.1 9) (σ.1 10) (σ.1 11) (σ.1 12) (wkK σ p2 p3) (wk (wkK σ p2 p3) p1 (wkX σ p2 (wkK σ p2 p3)) (wkX σ p3 (wkK σ p2 p3))) FP.dconst0 ) (cwV 3 hts gX8_work_X8_hold rfl rfl rfl (by decide +kernel) ⟨Nat.le_of_ble_eq_true rfl, Nat.le_of_ble_eq_true rfl⟩) (wPreV hK hP (hD.weaken (fun _ _ _ _ => trivial)) (va_recv hK hP (ci := 6) (q0 := 0) rfl rfl)) rfl rfl hl.1 rfl (lv_room (Nat.le_of_ble_eq_true rfl)) dX8_work_207 ⟨Nat.le_of_ble_eq_true rfl, Nat.le_of_ble_eq_true rfl⟩) hS (fun q _ h => hFc q h) hFc (fun u t H locs ht hvm hw hB _ _ hS => ?_)
                    obtain ⟨hP, -, hD⟩ := hB
                    rw [ht] at hP
                    replace hD := hD.weaken (fun _ q _ h => hFc q.1 h)
                    rw [hw] at hP hD
                    clear hw hFc
                    have hP : va_P Dg vwCl (mW m0 a y 0 (wkK σ p2 p3) (σ.1 2 0) (σ.1 2 1) (σ.1 2 2) (σ.1 2 3) (σ.1 2 4) (wk (wkK σ p2 p3) p1 (wkX σ p2 (wkK σ p2 p3)) (wkX σ p3 (wkK σ p2 p3))) FP.dconst0 (σ.1 1) (σ.1 3) aTo aPo (σ.1 4) aRw aRr (σ.1 5) (σ.1 6) (σ.1 7) aWs aRs (σ.1 8) (σ.1 9) (σ.1 10) (σ.1 11) (σ.1 12)) H := hP
                    have hD : va_D A (mW m0 a y 0 (wkK σ p2 p3) (σ.1 2 0) (σ.1 2 1) (σ.1 2 2) (σ.1 2 3) (σ.1 2 4) (wk (wkK σ p2 p3) p1 (wkX σ p2 (wkK σ p2 p3)) (wkX σ p3 (wkK σ p2 p3))) FP.dconst0 (σ.1 1) (σ.1 3) aTo aPo (σ.1 4) aRw aRr (σ.1 5) (σ.1 6) (σ.1 7) aWs aRs (σ.1 8) (σ.1 9) (σ.1 10) (σ.1 11) (σ.1 12)) := hD
                    refine lv_goto (tgt := 233) hx hb dX8_work_210 (by decide) ?_
                    have hkW := kW_of qK c_30
                    have oW : okB (wkK σ p2 p3) (wk (wkK σ p2 p3) p1 (wkX σ p2 (wkK σ p2 p3)) (wkX σ p3 (wkK σ p2 p3))) := wk_okW hkW
                    have rW : rep (wkK σ p2 p3) (wk (wkK σ p2 p3) p1 (wkX σ p2 (wkK σ p2 p3)) (wkX σ p3 (wkK σ p2 p3))) _ FP.dconst0 := rep_ww hkW
                    have SW := rep_cast qK R4.1 oW rW
                    refine lv_aload_n hx hb dX8_work_233 rfl (lv_at hl 6 rfl) ?_
                    refine lv_iload hx hb dX8_work_234 (lv_at hl 10 rfl) ?_
                    have hFc := wFree hD hS hA
                    refine va_callv (va_runV (As := [.int p4]) (rest := []) ⟨hx, hb, hml, hown, hts⟩ (met_X8_store l Dg m0 H.size a y 0 (wkK σ p2 p3) (σ.1 2 0) (σ.1 2 1) (σ.1 2 2) (σ.1 2 3) (σ.1 2 4) (wk (wkK σ p2 p3) p1 (wkX σ p2 (wkK σ p2 p3)) (wkX σ p3 (wkK σ p2 p3))) FP.dconst0 (σ.1 1) (σ.1 3) aTo aPo (σ.1 4) aRw aRr (σ.1 5) (σ.1 6) (σ.1 7) aWs aRs (σ.1 8) (σ.1 9) (σ.1 10) (σ.1 11) (σ.1 12) p4 (inC_in hV.1.2.1 c_4) (rep_nn qK oW rW)) (cwV 1 hts gX8_work_X8_store rfl rfl rfl (by decide +kernel) ⟨Nat.le_of_ble_eq_true rfl, Nat.le_of_ble_eq_true rfl⟩) (wPreV hK hP (hD.weaken (fun _ _ _ _ => trivial)) (va_recv hK hP (ci := 6) (q0 := 0) rfl rfl)) rfl rfl hl.1 rfl (lv_room (Nat.le_of_ble_eq_true rfl)) dX8_work_236 ⟨Nat.le_of_ble_eq_true rfl, Nat.le_of_ble_eq_true rfl⟩) hS (fun q _ h => hFc q h) hFc (fun u t H locs ht hvm hw hB _ _ hS => ?_)
                    obtain ⟨hP, -, hD⟩ := hB
                    rw [ht] at hP
                    replace hD := hD.weaken (fun _ q _ h => hFc q.1 h)
                    rw [hw] at hP hD
                    clear hw hFc
                    have hP : va_P Dg vwCl (mW m0 a y 0 ((σ.1 4) p4.toNatClampNeg) (σ.1 2 0) (σ.1 2 1) (σ.1 2 2) (σ.1 2 3) (σ.1 2 4) (mcW (wkK σ p2 p3) (wk (wkK σ p2 p3) p1 (wkX σ p2 (wkK σ p2 p3)) (wkX σ p3 (wkK σ p2 p3))) FP.dconst0 ((σ.1 4) p4.toNatClampNeg)) (mcR (wkK σ p2 p3) (wk (wkK σ p2 p3) p1 (wkX σ p2 (wkK σ p2 p3)) (wkX σ p3 (wkK σ p2 p3))) FP.dconst0 ((σ.1 4) p4.toNatClampNeg)) (σ.1 1) (σ.1 3) aTo aPo (σ.1 4) (vp_updL aRw p4.toNatClampNeg (mcW (wkK σ p2 p3) (wk (wkK σ p2 p3) p1 (wkX σ p2 (wkK σ p2 p3)) (wkX σ p3 (wkK σ p2 p3))) FP.dconst0 ((σ.1 4) p4.toNatClampNeg))) (vf_upd aRr p4.toNatClampNeg (mcR (wkK σ p2 p3) (wk (wkK σ p2 p3) p1 (wkX σ p2 (wkK σ p2 p3)) (wkX σ p3 (wkK σ p2 p3))) FP.dconst0 ((σ.1 4) p4.toNatClampNeg))) (σ.1 5) (σ.1 6) (σ.1 7) aWs aRs (σ.1 8) (σ.1 9) (σ.1 10) (σ.1 11) (σ.1 12)) H := hP
                    have hD : va_D A (mW m0 a y 0 ((σ.1 4) p4.toNatClampNeg) (σ.1 2 0) (σ.1 2 1) (σ.1 2 2) (σ.1 2 3) (σ.1 2 4) (mcW (wkK σ p2 p3) (wk (wkK σ p2 p3) p1 (wkX σ p2 (wkK σ p2 p3)) (wkX σ p3 (wkK σ p2 p3))) FP.dconst0 ((σ.1 4) p4.toNatClampNeg)) (mcR (wkK σ p2 p3) (wk (wkK σ p2 p3) p1 (wkX σ p2 (wkK σ p2 p3)) (wkX σ p3 (wkK σ p2 p3))) FP.dconst0 ((σ.1 4) p4.toNatClampNeg)) (σ.1 1) (σ.1 3) aTo aPo (σ.1 4) (vp_updL aRw p4.toNatClampNeg (mcW (wkK σ p2 p3) (wk (wkK σ p2 p3) p1 (wkX σ p2 (wkK σ p2 p3)) (wkX σ p3 (wkK σ p2 p3))) FP.dconst0 ((σ.1 4) p4.toNatClampNeg))) (vf_upd aRr p4.toNatClampNeg (mcR (wkK σ p2 p3) (wk (wkK σ p2 p3) p1 (wkX σ p2 (wkK σ p2 p3)) (wkX σ p3 (wkK σ p2 p3))) FP.dconst0 ((σ.1 4) p4.toNatClampNeg))) (σ.1 5) (σ.1 6) (σ.1 7) aWs aRs (σ.1 8) (σ.1 9) (σ.1 10) (σ.1 11) (σ.1 12)) := hD
                    refine lv_iconst (v := 1) hx hb dX8_work_239 (by decide) ?_
                    have hw : wh_work σ p1 p2 p3 p4 = 0 := by simp only [wh_work, if_pos c_1, if_pos c_2, if_pos c_3, if_pos c_4, if_neg c_5, if_neg c_30, if_neg c_37, if_neg (fun g => c_45 (lgc_eqq.mpr g))]
                    exact W.iret (v := 1) hx hb hr (fun t ht hW => ⟨⟨_, (mW m0 a y 0 ((σ.1 4) p4.toNatClampNeg) (σ.1 2 0) (σ.1 2 1) (σ.1 2 2) (σ.1 2 3) (σ.1 2 4) (mcW (wkK σ p2 p3) (wk (wkK σ p2 p3) p1 (wkX σ p2 (wkK σ p2 p3)) (wkX σ p3 (wkK σ p2 p3))) FP.dconst0 ((σ.1 4) p4.toNatClampNeg)) (mcR (wkK σ p2 p3) (wk (wkK σ p2 p3) p1 (wkX σ p2 (wkK σ p2 p3)) (wkX σ p3 (wkK σ p2 p3))) FP.dconst0 ((σ.1 4) p4.toNatClampNeg)) (σ.1 1) (σ.1 3) aTo aPo (σ.1 4) (vp_updL aRw p4.toNatClampNeg (mcW (wkK σ p2 p3) (wk (wkK σ p2 p3) p1 (wkX σ p2 (wkK σ p2 p3)) (wkX σ p3 (wkK σ p2 p3))) FP.dconst0 ((σ.1 4) p4.toNatClampNeg))) (vf_upd aRr p4.toNatClampNeg (mcR (wkK σ p2 p3) (wk (wkK σ p2 p3) p1 (wkX σ p2 (wkK σ p2 p3)) (wkX σ p3 (wkK σ p2 p3))) FP.dconst0 ((σ.1 4) p4.toNatClampNeg))) (σ.1 5) (σ.1 6) (σ.1 7) aWs aRs (σ.1 8) (σ.1 9) (σ.1 10) (σ.1 11) (σ.1 12)), rfl, ⟨by rw [an_work, if_pos hw]; try rfl, (σ.1 4) p4.toNatClampNeg, mcW (wkK σ p2 p3) (wk (wkK σ p2 p3) p1 (wkX σ p2 (wkK σ p2 p3)) (wkX σ p3 (wkK σ p2 p3))) FP.dconst0 ((σ.1 4) p4.toNatClampNeg), mcR (wkK σ p2 p3) (wk (wkK σ p2 p3) p1 (wkX σ p2 (wkK σ p2 p3)) (wkX σ p3 (wkK σ p2 p3))) FP.dconst0 ((σ.1 4) p4.toNatClampNeg), aTo, aPo, vp_updL aRw p4.toNatClampNeg (mcW (wkK σ p2 p3) (wk (wkK σ p2 p3) p1 (wkX σ p2 (wkK σ p2 p3)) (wkX σ p3 (wkK σ p2 p3))) FP.dconst0 ((σ.1 4) p4.toNatClampNeg)), vf_upd aRr p4.toNatClampNeg (mcR (wkK σ p2 p3) (wk (wkK σ p2 p3) p1 (wkX σ p2 (wkK σ p2 p3)) (wkX σ p3 (wkK σ p2 p3))) FP.dconst0 ((σ.1 4) p4.toNatClampNeg)), aWs, aRs, by rw [nw_work, if_pos hw]; rfl, by rw [nw_work, if_pos hw]; exact mC_store hM SW⟩, by rw [ht]; exact hP, va_K.moved hW.alike hK, hD⟩, hS.F ht⟩) hS.2.2 dX8_work_240
                  · refine lv_lload hx hb dX8_work_197 (lv_at hl 0 rfl) ?_
                    refine lv_l2i hx hb dX8_work_199 rfl ?_
                    refine lv_i2l hx hb dX8_work_200 rfl ?_
                    refine lv_topl (fun z_51 ez_51 => ?_)
                    rw [show z_51 = wk (wkK σ p2 p3) p1 (wkX σ p2 (wkK σ p2 p3)) (wkX σ p3 (wkK σ p2 p3)) from ez_51.trans (wk_W0 c_49)]
                    refine lv_goto (tgt := 206) hx hb dX8_work_201 (by decide) ?_
                    refine lv_dconst0 hx hb dX8_work_206 ?_
                    have hFc := wFree hD hS hA
                    refine va_callv (va_runV (As := [.int (wkK σ p2 p3), .long (wk (wkK σ p2 p3) p1 (wkX σ p2 (wkK σ p2 p3)) (wkX σ p3 (wkK σ p2 p3))), .double FP.dconst0]) (rest := []) ⟨hx, hb, hml, hown, hts⟩ (met_X8_hold l Dg m0 H.size a y 0 (wkK σ p2 p3) (σ.1 2 0) (σ.1 2 1) (σ.1 2 2) (σ.1 2 3) (σ.1 2 4) (mcW ((σ.1 4) p3.toNatClampNeg) (aRw p3.toNatClampNeg) (aRr p3.toNatClampNeg) (wkK σ p2 p3)) (mcR ((σ.1 4) p3.toNatClampNeg) (aRw p3.toNatClampNeg) (aRr p3.toNatClampNeg) (wkK σ p2 p3)) (σ.1 1) (σ.1 3) aTo aPo (σ.1 4) aRw aRr (σ.1 5) (σ.1 6) (σ.1 7) aWs aRs (σ.1 8) (σ.1 9) (σ.1 10) (σ.1 11) (σ.1 12) (wkK σ p2 p3) (wk (wkK σ p2 p3) p1 (wkX σ p2 (wkK σ p2 p3)) (wkX σ p3 (wkK σ p2 p3))) FP.dconst0 ) (cwV 3 hts gX8_work_X8_hold rfl rfl rfl (by decide +kernel) ⟨Nat.le_of_ble_eq_true rfl, Nat.le_of_ble_eq_true rfl⟩) (wPreV hK hP (hD.weaken (fun _ _ _ _ => trivial)) (va_recv hK hP (ci := 6) (q0 := 0) rfl rfl)) rfl rfl hl.1 rfl (lv_room (Nat.le_of_ble_eq_true rfl)) dX8_work_207 ⟨Nat.le_of_ble_eq_true rfl, Nat.le_of_ble_eq_true rfl⟩) hS (fun q _ h => hFc q h) hFc (fun u t H locs ht hvm hw hB _ _ hS => ?_)
                    obtain ⟨hP, -, hD⟩ := hB
                    rw [ht] at hP
                    replace hD := hD.weaken (fun _ q _ h => hFc q.1 h)
                    rw [hw] at hP hD
                    clear hw hFc
                    have hP : va_P Dg vwCl (mW m0 a y 0 (wkK σ p2 p3) (σ.1 2 0) (σ.1 2 1) (σ.1 2 2) (σ.1 2 3) (σ.1 2 4) (wk (wkK σ p2 p3) p1 (wkX σ p2 (wkK σ p2 p3)) (wkX σ p3 (wkK σ p2 p3))) FP.dconst0 (σ.1 1) (σ.1 3) aTo aPo (σ.1 4) aRw aRr (σ.1 5) (σ.1 6) (σ.1 7) aWs aRs (σ.1 8) (σ.1 9) (σ.1 10) (σ.1 11) (σ.1 12)) H := hP
                    have hD : va_D A (mW m0 a y 0 (wkK σ p2 p3) (σ.1 2 0) (σ.1 2 1) (σ.1 2 2) (σ.1 2 3) (σ.1 2 4) (wk (wkK σ p2 p3) p1 (wkX σ p2 (wkK σ p2 p3)) (wkX σ p3 (wkK σ p2 p3))) FP.dconst0 (σ.1 1) (σ.1 3) aTo aPo (σ.1 4) aRw aRr (σ.1 5) (σ.1 6) (σ.1 7) aWs aRs (σ.1 8) (σ.1 9) (σ.1 10) (σ.1 11) (σ.1 12)) := hD
                    refine lv_goto (tgt := 233) hx hb dX8_work_210 (by decide) ?_
                    have hkW := kW_of qK c_30
                    have oW : okB (wkK σ p2 p3) (wk (wkK σ p2 p3) p1 (wkX σ p2 (wkK σ p2 p3)) (wkX σ p3 (wkK σ p2 p3))) := wk_okW hkW
                    have rW : rep (wkK σ p2 p3) (wk (wkK σ p2 p3) p1 (wkX σ p2 (wkK σ p2 p3)) (wkX σ p3 (wkK σ p2 p3))) _ FP.dconst0 := rep_ww hkW
                    have SW := rep_cast qK R4.1 oW rW
                    refine lv_aload_n hx hb dX8_work_233 rfl (lv_at hl 6 rfl) ?_
                    refine lv_iload hx hb dX8_work_234 (lv_at hl 10 rfl) ?_
                    have hFc := wFree hD hS hA
                    refine va_callv (va_runV (As := [.int p4]) (rest := []) ⟨hx, hb, hml, hown, hts⟩ (met_X8_store l Dg m0 H.size a y 0 (wkK σ p2 p3) (σ.1 2 0) (σ.1 2 1) (σ.1 2 2) (σ.1 2 3) (σ.1 2 4) (wk (wkK σ p2 p3) p1 (wkX σ p2 (wkK σ p2 p3)) (wkX σ p3 (wkK σ p2 p3))) FP.dconst0 (σ.1 1) (σ.1 3) aTo aPo (σ.1 4) aRw aRr (σ.1 5) (σ.1 6) (σ.1 7) aWs aRs (σ.1 8) (σ.1 9) (σ.1 10) (σ.1 11) (σ.1 12) p4 (inC_in hV.1.2.1 c_4) (rep_nn qK oW rW)) (cwV 1 hts gX8_work_X8_store rfl rfl rfl (by decide +kernel) ⟨Nat.le_of_ble_eq_true rfl, Nat.le_of_ble_eq_true rfl⟩) (wPreV hK hP (hD.weaken (fun _ _ _ _ => trivial)) (va_recv hK hP (ci := 6) (q0 := 0) rfl rfl)) rfl rfl hl.1 rfl (lv_room (Nat.le_of_ble_eq_true rfl)) dX8_work_236 ⟨Nat.le_of_ble_eq_true rfl, Nat.le_of_ble_eq_true rfl⟩) hS (fun q _ h => hFc q h) hFc (fun u t H locs ht hvm hw hB _ _ hS => ?_)
                    obtain ⟨hP, -, hD⟩ := hB
                    rw [ht] at hP
                    replace hD := hD.weaken (fun _ q _ h => hFc q.1 h)
                    rw [hw] at hP hD
                    clear hw hFc
                    have hP : va_P Dg vwCl (mW m0 a y 0 ((σ.1 4) p4.toNatClampNeg) (σ.1 2 0) (σ.1 2 1) (σ.1 2 2) (σ.1 2 3) (σ.1 2 4) (mcW (wkK σ p2 p3) (wk (wkK σ p2 p3) p1 (wkX σ p2 (wkK σ p2 p3)) (wkX σ p3 (wkK σ p2 p3))) FP.dconst0 ((σ.1 4) p4.toNatClampNeg)) (mcR (wkK σ p2 p3) (wk (wkK σ p2 p3) p1 (wkX σ p2 (wkK σ p2 p3)) (wkX σ p3 (wkK σ p2 p3))) FP.dconst0 ((σ.1 4) p4.toNatClampNeg)) (σ.1 1) (σ.1 3) aTo aPo (σ.1 4) (vp_updL aRw p4.toNatClampNeg (mcW (wkK σ p2 p3) (wk (wkK σ p2 p3) p1 (wkX σ p2 (wkK σ p2 p3)) (wkX σ p3 (wkK σ p2 p3))) FP.dconst0 ((σ.1 4) p4.toNatClampNeg))) (vf_upd aRr p4.toNatClampNeg (mcR (wkK σ p2 p3) (wk (wkK σ p2 p3) p1 (wkX σ p2 (wkK σ p2 p3)) (wkX σ p3 (wkK σ p2 p3))) FP.dconst0 ((σ.1 4) p4.toNatClampNeg))) (σ.1 5) (σ.1 6) (σ.1 7) aWs aRs (σ.1 8) (σ.1 9) (σ.1 10) (σ.1 11) (σ.1 12)) H := hP
                    have hD : va_D A (mW m0 a y 0 ((σ.1 4) p4.toNatClampNeg) (σ.1 2 0) (σ.1 2 1) (σ.1 2 2) (σ.1 2 3) (σ.1 2 4) (mcW (wkK σ p2 p3) (wk (wkK σ p2 p3) p1 (wkX σ p2 (wkK σ p2 p3)) (wkX σ p3 (wkK σ p2 p3))) FP.dconst0 ((σ.1 4) p4.toNatClampNeg)) (mcR (wkK σ p2 p3) (wk (wkK σ p2 p3) p1 (wkX σ p2 (wkK σ p2 p3)) (wkX σ p3 (wkK σ p2 p3))) FP.dconst0 ((σ.1 4) p4.toNatClampNeg)) (σ.1 1) (σ.1 3) aTo aPo (σ.1 4) (vp_updL aRw p4.toNatClampNeg (mcW (wkK σ p2 p3) (wk (wkK σ p2 p3) p1 (wkX σ p2 (wkK σ p2 p3)) (wkX σ p3 (wkK σ p2 p3))) FP.dconst0 ((σ.1 4) p4.toNatClampNeg))) (vf_upd aRr p4.toNatClampNeg (mcR (wkK σ p2 p3) (wk (wkK σ p2 p3) p1 (wkX σ p2 (wkK σ p2 p3)) (wkX σ p3 (wkK σ p2 p3))) FP.dconst0 ((σ.1 4) p4.toNatClampNeg))) (σ.1 5) (σ.1 6) (σ.1 7) aWs aRs (σ.1 8) (σ.1 9) (σ.1 10) (σ.1 11) (σ.1 12)) := hD
                    refine lv_iconst (v := 1) hx hb dX8_work_239 (by decide) ?_
                    have hw : wh_work σ p1 p2 p3 p4 = 0 := by simp only [wh_work, if_pos c_1, if_pos c_2, if_pos c_3, if_pos c_4, if_neg c_5, if_neg c_30, if_neg c_37, if_neg (fun g => c_45 (lgc_eqq.mpr g))]
                    exact W.iret (v := 1) hx hb hr (fun t ht hW => ⟨⟨_, (mW m0 a y 0 ((σ.1 4) p4.toNatClampNeg) (σ.1 2 0) (σ.1 2 1) (σ.1 2 2) (σ.1 2 3) (σ.1 2 4) (mcW (wkK σ p2 p3) (wk (wkK σ p2 p3) p1 (wkX σ p2 (wkK σ p2 p3)) (wkX σ p3 (wkK σ p2 p3))) FP.dconst0 ((σ.1 4) p4.toNatClampNeg)) (mcR (wkK σ p2 p3) (wk (wkK σ p2 p3) p1 (wkX σ p2 (wkK σ p2 p3)) (wkX σ p3 (wkK σ p2 p3))) FP.dconst0 ((σ.1 4) p4.toNatClampNeg)) (σ.1 1) (σ.1 3) aTo aPo (σ.1 4) (vp_updL aRw p4.toNatClampNeg (mcW (wkK σ p2 p3) (wk (wkK σ p2 p3) p1 (wkX σ p2 (wkK σ p2 p3)) (wkX σ p3 (wkK σ p2 p3))) FP.dconst0 ((σ.1 4) p4.toNatClampNeg))) (vf_upd aRr p4.toNatClampNeg (mcR (wkK σ p2 p3) (wk (wkK σ p2 p3) p1 (wkX σ p2 (wkK σ p2 p3)) (wkX σ p3 (wkK σ p2 p3))) FP.dconst0 ((σ.1 4) p4.toNatClampNeg))) (σ.1 5) (σ.1 6) (σ.1 7) aWs aRs (σ.1 8) (σ.1 9) (σ.1 10) (σ.1 11) (σ.1 12)), rfl, ⟨by rw [an_work, if_pos hw]; try rfl, (σ.1 4) p4.toNatClampNeg, mcW (wkK σ p2 p3) (wk (wkK σ p2 p3) p1 (wkX σ p2 (wkK σ p2 p3)) (wkX σ p3 (wkK σ p2 p3))) FP.dconst0 ((σ.1 4) p4.toNatClampNeg), mcR (wkK σ p2 p3) (wk (wkK σ p2 p3) p1 (wkX σ p2 (wkK σ p2 p3)) (wkX σ p3 (wkK σ p2 p3))) FP.dconst0 ((σ.1 4) p4.toNatClampNeg), aTo, aPo, vp_updL aRw p4.toNatClampNeg (mcW (wkK σ p2 p3) (wk (wkK σ p2 p3) p1 (wkX σ p2 (wkK σ p2 p3)) (wkX σ p3 (wkK σ p2 p3))) FP.dconst0 ((σ.1 4) p4.toNatClampNeg)), vf_upd aRr p4.toNatClampNeg (mcR (wkK σ p2 p3) (wk (wkK σ p2 p3) p1 (wkX σ p2 (wkK σ p2 p3)) (wkX σ p3 (wkK σ p2 p3))) FP.dconst0 ((σ.1 4) p4.toNatClampNeg)), aWs, aRs, by rw [nw_work, if_pos hw]; rfl, by rw [nw_work, if_pos hw]; exact mC_store hM SW⟩, by rw [ht]; exact hP, va_K.moved hW.alike hK, hD⟩, hS.F ht⟩) hS.2.2 dX8_work_240
                · refine lv_aload_n hx hb dX8_work_142 rfl (lv_at hl 5 rfl) ?_
                  refine lv_bipush (v := (-6)) hx hb dX8_work_143 (by decide) ?_
                  have hFc := wFree hD hS hA
                  refine va_calli (va_runV (As := [.int (-6)]) (rest := []) ⟨hx, hb, hml, hown, hts⟩ (met_X8_refuse l Dg m0 H.size a y 0 (wkK σ p2 p3) (σ.1 2 0) (σ.1 2 1) (σ.1 2 2) (σ.1 2 3) (σ.1 2 4) (mcW ((σ.1 4) p3.toNatClampNeg) (aRw p3.toNatClampNeg) (aRr p3.toNatClampNeg) (wkK σ p2 p3)) (mcR ((σ.1 4) p3.toNatClampNeg) (aRw p3.toNatClampNeg) (aRr p3.toNatClampNeg) (wkK σ p2 p3)) (σ.1 1) (σ.1 3) aTo aPo (σ.1 4) aRw aRr (σ.1 5) (σ.1 6) (σ.1 7) aWs aRs (σ.1 8) (σ.1 9) (σ.1 10) (σ.1 11) (σ.1 12) (-6) (by unfold vp_in; decide)) (cwV 1 hts gX8_work_X8_refuse rfl rfl rfl (by decide +kernel) ⟨Nat.le_of_ble_eq_true rfl, Nat.le_of_ble_eq_true rfl⟩) (wPreV hK hP (hD.weaken (fun _ _ _ _ => trivial)) (va_recv hK hP (ci := 6) (q0 := 0) rfl rfl)) rfl rfl hl.1 rfl (lv_room (Nat.le_of_ble_eq_true rfl)) dX8_work_145 ⟨Nat.le_of_ble_eq_true rfl, Nat.le_of_ble_eq_true rfl⟩) hS (fun q _ h => hFc q h) hFc (fun r u t H locs ht hvm hw hB _ _ hS => ?_)
                  obtain ⟨hP, -, hD⟩ := hB
                  rw [ht] at hP
                  replace hD := hD.weaken (fun _ q _ h => hFc q.1 h)
                  rw [hw.2] at hP hD
                  rw [hw.1]
                  clear hw hFc
                  have hP : va_P Dg vwCl (mW m0 a y (-6) (wkK σ p2 p3) (σ.1 2 0) (σ.1 2 1) (σ.1 2 2) (σ.1 2 3) (σ.1 2 4) (mcW ((σ.1 4) p3.toNatClampNeg) (aRw p3.toNatClampNeg) (aRr p3.toNatClampNeg) (wkK σ p2 p3)) (mcR ((σ.1 4) p3.toNatClampNeg) (aRw p3.toNatClampNeg) (aRr p3.toNatClampNeg) (wkK σ p2 p3)) (rfO (-6) (σ.1 1)) (σ.1 3) aTo aPo (σ.1 4) aRw aRr (σ.1 5) (σ.1 6) (σ.1 7) aWs aRs (σ.1 8) (σ.1 9) (σ.1 10) (σ.1 11) (σ.1 12)) H := hP
                  have hD : va_D A (mW m0 a y (-6) (wkK σ p2 p3) (σ.1 2 0) (σ.1 2 1) (σ.1 2 2) (σ.1 2 3) (σ.1 2 4) (mcW ((σ.1 4) p3.toNatClampNeg) (aRw p3.toNatClampNeg) (aRr p3.toNatClampNeg) (wkK σ p2 p3)) (mcR ((σ.1 4) p3.toNatClampNeg) (aRw p3.toNatClampNeg) (aRr p3.toNatClampNeg) (wkK σ p2 p3)) (rfO (-6) (σ.1 1)) (σ.1 3) aTo aPo (σ.1 4) aRw aRr (σ.1 5) (σ.1 6) (σ.1 7) aWs aRs (σ.1 8) (σ.1 9) (σ.1 10) (σ.1 11) (σ.1 12)) := hD
                  have hw : wh_work σ p1 p2 p3 p4 = (-6) := by simp only [wh_work, if_pos c_1, if_pos c_2, if_pos c_3, if_pos c_4, if_neg c_5, if_neg c_30, if_neg c_37, if_pos (lgc_eqq.mp c_45)]
                  have hn : ¬ wh_work σ p1 p2 p3 p4 = 0 := by rw [hw]; decide
                  exact W.iret (v := (-6)) hx hb hr (fun t ht hW => ⟨⟨_, (mW m0 a y (-6) (wkK σ p2 p3) (σ.1 2 0) (σ.1 2 1) (σ.1 2 2) (σ.1 2 3) (σ.1 2 4) (mcW ((σ.1 4) p3.toNatClampNeg) (aRw p3.toNatClampNeg) (aRr p3.toNatClampNeg) (wkK σ p2 p3)) (mcR ((σ.1 4) p3.toNatClampNeg) (aRw p3.toNatClampNeg) (aRr p3.toNatClampNeg) (wkK σ p2 p3)) (rfO (-6) (σ.1 1)) (σ.1 3) aTo aPo (σ.1 4) aRw aRr (σ.1 5) (σ.1 6) (σ.1 7) aWs aRs (σ.1 8) (σ.1 9) (σ.1 10) (σ.1 11) (σ.1 12)), rfl, ⟨by rw [an_work, if_neg hn, hw]; try rfl, wkK σ p2 p3, mcW ((σ.1 4) p3.toNatClampNeg) (aRw p3.toNatClampNeg) (aRr p3.toNatClampNeg) (wkK σ p2 p3), mcR ((σ.1 4) p3.toNatClampNeg) (aRw p3.toNatClampNeg) (aRr p3.toNatClampNeg) (wkK σ p2 p3), aTo, aPo, aRw, aRr, aWs, aRs, by rw [nw_work, if_neg hn, hw]; rfl, by rw [nw_work, if_neg hn]; exact hM⟩, by rw [ht]; exact hP, va_K.moved hW.alike hK, hD⟩, hS.F ht⟩) hS.2.2 dX8_work_148
        · replace c_4 := bI_eq c_4
          refine lv_aload_n hx hb dX8_work_39 rfl (lv_at hl 0 rfl) ?_
          refine lv_bipush (v := (-2)) hx hb dX8_work_40 (by decide) ?_
          have hFc := wFree hD hS hA
          refine va_calli (va_runV (As := [.int (-2)]) (rest := []) ⟨hx, hb, hml, hown, hts⟩ (met_X8_refuse l Dg m0 H.size a y 0 kd (σ.1 2 0) (σ.1 2 1) (σ.1 2 2) (σ.1 2 3) (σ.1 2 4) wh re (σ.1 1) (σ.1 3) aTo aPo (σ.1 4) aRw aRr (σ.1 5) (σ.1 6) (σ.1 7) aWs aRs (σ.1 8) (σ.1 9) (σ.1 10) (σ.1 11) (σ.1 12) (-2) (by unfold vp_in; decide)) (cwV 1 hts gX8_work_X8_refuse rfl rfl rfl (by decide +kernel) ⟨Nat.le_of_ble_eq_true rfl, Nat.le_of_ble_eq_true rfl⟩) (wPreV hK hP (hD.weaken (fun _ _ _ _ => trivial)) (va_recv hK hP (ci := 6) (q0 := 0) rfl rfl)) rfl rfl hl.1 rfl (lv_room (Nat.le_of_ble_eq_true rfl)) dX8_work_42 ⟨Nat.le_of_ble_eq_true rfl, Nat.le_of_ble_eq_true rfl⟩) hS (fun q _ h => hFc q h) hFc (fun r u t H locs ht hvm hw hB _ _ hS => ?_)
          obtain ⟨hP, -, hD⟩ := hB
          rw [ht] at hP
          replace hD := hD.weaken (fun _ q _ h => hFc q.1 h)
          rw [hw.2] at hP hD
          rw [hw.1]
          clear hw hFc
          have hP : va_P Dg vwCl (mW m0 a y (-2) kd (σ.1 2 0) (σ.1 2 1) (σ.1 2 2) (σ.1 2 3) (σ.1 2 4) wh re (rfO (-2) (σ.1 1)) (σ.1 3) aTo aPo (σ.1 4) aRw aRr (σ.1 5) (σ.1 6) (σ.1 7) aWs aRs (σ.1 8) (σ.1 9) (σ.1 10) (σ.1 11) (σ.1 12)) H := hP
          have hD : va_D A (mW m0 a y (-2) kd (σ.1 2 0) (σ.1 2 1) (σ.1 2 2) (σ.1 2 3) (σ.1 2 4) wh re (rfO (-2) (σ.1 1)) (σ.1 3) aTo aPo (σ.1 4) aRw aRr (σ.1 5) (σ.1 6) (σ.1 7) aWs aRs (σ.1 8) (σ.1 9) (σ.1 10) (σ.1 11) (σ.1 12)) := hD
          have hw : wh_work σ p1 p2 p3 p4 = (-2) := by simp only [wh_work, if_pos c_1, if_pos c_2, if_pos c_3, if_neg c_4]
          have hn : ¬ wh_work σ p1 p2 p3 p4 = 0 := by rw [hw]; decide
          exact W.iret (v := (-2)) hx hb hr (fun t ht hW => ⟨⟨_, (mW m0 a y (-2) kd (σ.1 2 0) (σ.1 2 1) (σ.1 2 2) (σ.1 2 3) (σ.1 2 4) wh re (rfO (-2) (σ.1 1)) (σ.1 3) aTo aPo (σ.1 4) aRw aRr (σ.1 5) (σ.1 6) (σ.1 7) aWs aRs (σ.1 8) (σ.1 9) (σ.1 10) (σ.1 11) (σ.1 12)), rfl, ⟨by rw [an_work, if_neg hn, hw]; try rfl, kd, wh, re, aTo, aPo, aRw, aRr, aWs, aRs, by rw [nw_work, if_neg hn, hw]; rfl, by rw [nw_work, if_neg hn]; exact hM⟩, by rw [ht]; exact hP, va_K.moved hW.alike hK, hD⟩, hS.F ht⟩) hS.2.2 dX8_work_45
