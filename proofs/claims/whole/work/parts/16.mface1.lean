/-! the model's face: small laws -/
theorem ix_upd {f : Nat → Int32} {n : Nat} {v : Int32} {i : Nat} : upd f n v i = if i = n then v else f i := rfl
theorem lgc_eqq {x y : Int64} : lg_cmp x y = 0 ↔ x = y := by
  unfold lg_cmp
  by_cases a : x > y
  · rw [if_pos a]; exact iff_of_false (by decide) (fun e => by rw [e] at a; exact absurd a (Int64.lt_irrefl))
  · rw [if_neg a]
    by_cases b : x = y
    · rw [if_pos b]; exact iff_of_true rfl b
    · rw [if_neg b]; exact iff_of_false (by decide) b
theorem mC_wheel {σ : St} {aTo aPo : Nat → UInt64} {aRw : Nat → Int64} {aRr : Nat → UInt64} {aWs : Nat → Int64} {aRs : Nat → UInt64} {k : Int32} {b : Int64} (hV : vOK σ) (hM : mC σ aTo aPo aRw aRr aWs aRs) :
    mC (sI (sJ (sJ (sI (ok0 σ) 3 (cN σ 0) k) 0 (cN σ 0) b) 1 (cN σ 0) 0) 2 0 (σ.1 2 0 + 1)) (vf_upd aTo (cN σ 0) (vl k b)) (vf_upd aPo (cN σ 0) FP.dconst0) aRw aRr aWs aRs := by
  refine ⟨fun i hi => ?_, hM.2.1, hM.2.2⟩
  have hi : i < (σ.1 2 0 + 1).toNatClampNeg := hi
  rw [inc1N (n := 10) hV.1.1 (by decide)] at hi
  show vf_upd aTo (cN σ 0) (vl k b) i = vl (upd (σ.1 3) (cN σ 0) k i) (vp_updL (σ.2 0) (cN σ 0) b i) ∧ vf_upd aPo (cN σ 0) FP.dconst0 i = vl (upd (σ.1 3) (cN σ 0) k i) (vp_updL (σ.2 1) (cN σ 0) 0 i)
  unfold vf_upd upd vp_updL
  by_cases e : i = cN σ 0
  · rw [if_pos e, if_pos e, if_pos e, if_pos e, if_pos e]; exact ⟨rfl, vl_0.symm⟩
  · rw [if_neg e, if_neg e, if_neg e, if_neg e, if_neg e]; exact hM.1 i (Nat.lt_of_le_of_ne (Nat.lt_succ_iff.mp hi) e)
theorem mC_turn {σ : St} {aTo aPo : Nat → UInt64} {aRw : Nat → Int64} {aRr : Nat → UInt64} {aWs : Nat → Int64} {aRs : Nat → UInt64} {n : Nat} {b : Int64} (hM : mC σ aTo aPo aRw aRr aWs aRs) :
    mC (sJ (ok0 σ) 1 n b) aTo (vf_upd aPo n (vl (σ.1 3 n) b)) aRw aRr aWs aRs := by
  refine ⟨fun i hi => ⟨(hM.1 i hi).1, ?_⟩, hM.2.1, hM.2.2⟩
  show vf_upd aPo n (vl (σ.1 3 n) b) i = vl (σ.1 3 i) (vp_updL (σ.2 1) n b i)
  unfold vf_upd vp_updL
  by_cases e : i = n
  · rw [if_pos e, if_pos e, e]
  · rw [if_neg e, if_neg e]; exact (hM.1 i hi).2
theorem mC_reg {σ : St} {aTo aPo : Nat → UInt64} {aRw : Nat → Int64} {aRr : Nat → UInt64} {aWs : Nat → Int64} {aRs : Nat → UInt64} {k : Int32} (hV : vOK σ) (hM : mC σ aTo aPo aRw aRr aWs aRs) :
    mC (sI (sJ (sI (ok0 σ) 4 (cN σ 1) k) 2 (cN σ 1) 0) 2 1 (σ.1 2 1 + 1)) aTo aPo (vp_updL aRw (cN σ 1) 0) (vf_upd aRr (cN σ 1) FP.dconst0) aWs aRs := by
  refine ⟨hM.1, fun i hi => ?_, hM.2.2⟩
  have hi : i < (σ.1 2 1 + 1).toNatClampNeg := hi
  rw [inc1N (n := 16) hV.1.2.1 (by decide)] at hi
  show rep (upd (σ.1 4) (cN σ 1) k i) (vp_updL (σ.2 2) (cN σ 1) 0 i) (vp_updL aRw (cN σ 1) 0 i) (vf_upd aRr (cN σ 1) FP.dconst0 i)
  unfold vf_upd upd vp_updL
  by_cases e : i = cN σ 1
  · rw [if_pos e, if_pos e, if_pos e, if_pos e]; unfold rep; split
    · exact vl_0.symm
    · rfl
  · rw [if_neg e, if_neg e, if_neg e, if_neg e]; exact hM.2.1 i (Nat.lt_of_le_of_ne (Nat.lt_succ_iff.mp hi) e)
theorem mC_store {σ : St} {aTo aPo : Nat → UInt64} {aRw : Nat → Int64} {aRr : Nat → UInt64} {aWs : Nat → Int64} {aRs : Nat → UInt64} {n : Nat} {b w : Int64} {r : UInt64} (hM : mC σ aTo aPo aRw aRr aWs aRs) (h : rep (σ.1 4 n) b w r) :
    mC (sJ (ok0 σ) 2 n b) aTo aPo (vp_updL aRw n w) (vf_upd aRr n r) aWs aRs := by
  refine ⟨hM.1, fun i hi => ?_, hM.2.2⟩
  show rep (σ.1 4 i) (vp_updL (σ.2 2) n b i) (vp_updL aRw n w i) (vf_upd aRr n r i)
  unfold vf_upd vp_updL
  by_cases e : i = n
  · rw [if_pos e, if_pos e, if_pos e, e]; exact h
  · rw [if_neg e, if_neg e, if_neg e]; exact hM.2.1 i hi
theorem mC_keep {σ : St} {aTo aPo : Nat → UInt64} {aRw : Nat → Int64} {aRr : Nat → UInt64} {aWs : Nat → Int64} {aRs : Nat → UInt64} {x z n : Nat} {b w : Int64} {r : UInt64} (hM : mC σ aTo aPo aRw aRr aWs aRs) (hn : n = 16 * x + z) (hz : z < 16) (h : rep (σ.1 5 x) b w r) :
    mC (sJ (ok0 σ) 3 (16 * x + z) b) aTo aPo aRw aRr (vp_updL aWs n w) (vf_upd aRs n r) := by
  refine ⟨hM.1, hM.2.1, fun i hi j hj => ?_⟩
  subst hn
  show rep (σ.1 5 i) (vp_updL (σ.2 3) (16 * x + z) b (16 * i + j)) (vp_updL aWs (16 * x + z) w (16 * i + j)) (vf_upd aRs (16 * x + z) r (16 * i + j))
  unfold vf_upd vp_updL
  by_cases e : 16 * i + j = 16 * x + z
  · rw [if_pos e, if_pos e, if_pos e]
    have : i = x := by omega
    rw [this]; exact h
  · rw [if_neg e, if_neg e, if_neg e]; exact hM.2.2 i hi j hj
theorem repR {k : Int32} {b w : Int64} {r : UInt64} (hk : k = 2 ∨ k = 3) (h : r = vl k b) : rep k b w r := by
  rcases hk with rfl | rfl
  · exact h
  · exact h
theorem okBR {k : Int32} {b : Int64} (hk : k = 2 ∨ k = 3) (h : okR k b) : okB k b := by
  rcases hk with rfl | rfl
  · exact h
  · exact h
theorem okRB {k : Int32} {b : Int64} (hk : k = 2 ∨ k = 3) (h : okB k b) : okR k b := by
  rcases hk with rfl | rfl
  · exact h
  · exact h
theorem isKR {k : Int32} (hk : k = 2 ∨ k = 3) : isK k := Or.inr (Or.inr hk)
theorem agn_0 {g l n k i : Int32} (h : agn g l n k i = 0) : g = 0 ∧ l = k ∧ fX8_isIn i 0 (n - 1) = true := by
  unfold agn at h
  by_cases a : g = 0
  · rw [if_pos a] at h
    by_cases b : l = k
    · rw [if_pos b] at h
      by_cases d : fX8_isIn i 0 (n - 1) = true
      · exact ⟨a, b, d⟩
      · rw [if_neg d] at h; exact absurd h (by decide)
    · rw [if_neg b] at h; exact absurd h (by decide)
  · rw [if_neg a] at h; exact absurd h (by decide)
theorem agn_rf {g l n k i : Int32} : ¬ (-3) < agn g l n k i → vp_in ((-3) - agn g l n k i) 8 := by
  unfold agn vp_in
  by_cases a : g = 0
  · rw [if_pos a]
    by_cases b : l = k
    · rw [if_pos b]
      by_cases d : fX8_isIn i 0 (n - 1) = true
      · rw [if_pos d]; decide
      · rw [if_neg d]; decide
    · rw [if_neg b]; decide
  · rw [if_neg a]; decide
theorem s_rng {σ : St} (hV : vOK σ) {p : Int32} (h : fX8_isIn p 0 (σ.1 2 2 - 1) = true) : 0 ≤ p.toInt ∧ p.toInt < 8 := by
  have := (inC_iff hV.1.2.2.1).mp h; have := hV.1.2.2.1.2; omega
theorem t_rng {σ : St} (hV : vOK σ) {p : Int32} (h : fX8_isIn p 0 (σ.1 2 4 - 1) = true) : 0 ≤ p.toInt ∧ p.toInt < 8 := by
  have := (inC_iff hV.1.2.2.2.2).mp h; have := hV.1.2.2.2.2.2; omega
theorem i_rng {σ : St} (hV : vOK σ) {p i : Int32} (h : fX8_isIn p 0 (σ.1 2 2 - 1) = true) (hi : fX8_isIn i 0 (σ.1 6 (ix p) - 1) = true) : 0 ≤ i.toInt ∧ i.toInt < 16 := by
  have b := (hV.2.2.2.1 _ (inC_lt hV.1.2.2.1 h)).2.1
  have := (inC_iff b).mp hi; have := b.2; omega
theorem j_rng {σ : St} (hV : vOK σ) {p i : Int32} (h : fX8_isIn p 0 (σ.1 2 4 - 1) = true) (hi : fX8_isIn i 0 (σ.1 11 (ix p) - 1) = true) : 0 ≤ i.toInt ∧ i.toInt < 6 := by
  have b := (hV.2.2.2.2.2 _ (inC_lt hV.1.2.2.2.2 h)).2.1
  have := (inC_iff (n := 6) ⟨by omega, b.2⟩).mp hi; omega
theorem ix_lt {i : Int32} {n : Nat} (h : 0 ≤ i.toInt ∧ i.toInt < n) : ix i < n := by show i.toInt.toNat < n; omega
theorem k3_2 {k : Int32} (hk : isK k) (h : 2 ≤ k) (h2 : ¬ k = 2) : k = 3 := by
  rcases hk with rfl | rfl | rfl | rfl
  · exact absurd h (by decide)
  · exact absurd h (by decide)
  · exact absurd rfl h2
  · rfl
theorem often_in {h : Int32} (g : fX8_isIn h (-10) (-3) = true) : vp_in ((-3) - h) 8 := by
  have g := isIn_iff.mp g
  have e1 : (-10 : Int32).toInt = -10 := rfl
  have e2 : (-3 : Int32).toInt = -3 := rfl
  rw [vp_in_iff, fb_subI (by omega) (by omega)]
  omega

theorem in_X8_wheel : ∀ w ∈ wsX80, w ∈ wsX8_wheel := fun w h => List.mem_cons_of_mem _ (List.mem_append_right _ h)
set_option maxHeartbeats 8000000 in
set_option maxRecDepth 100000 in
theorem met_X8_wheel (l : Launch) (Dg : va_G) (m0 z : Nat) (a : Nat → Nat) (y : Nat → ClassId) (σ : St) (kd : Int32) (wh : Int64) (re : UInt64) (aTo aPo : Nat → UInt64) (aRw : Nat → Int64) (aRr : Nat → UInt64) (aWs : Nat → Int64) (aRs : Nat → UInt64) (p1 : Int32) (p2 : Int64) (hV : vOK σ) (hM : mC σ aTo aPo aRw aRr aWs aRs)  : Met l yX8_wheel wsX8_wheel ({ frames := 1, cells := 0, slots := 0, locals := 22 }) (va_Pc [.ref m0, .int p1, .long p2] (wB Dg (mT y) (mW m0 a y (σ.1 0 0) kd (σ.1 2 0) (σ.1 2 1) (σ.1 2 2) (σ.1 2 3) (σ.1 2 4) wh re (σ.1 1) (σ.1 3) aTo aPo (σ.1 4) aRw aRr (σ.1 5) (σ.1 6) (σ.1 7) aWs aRs (σ.1 8) (σ.1 9) (σ.1 10) (σ.1 11) (σ.1 12)) z)) (va_Qi (fun (r : Int32) (u : va_W) => r = an_wheel σ p1 p2 ∧ MI m0 a y (nw_wheel σ p1 p2) u) (wE Dg (mT y) (va_A (mW m0 a y (σ.1 0 0) kd (σ.1 2 0) (σ.1 2 1) (σ.1 2 2) (σ.1 2 3) (σ.1 2 4) wh re (σ.1 1) (σ.1 3) aTo aPo (σ.1 4) aRw aRr (σ.1 5) (σ.1 6) (σ.1 7) aWs aRs (σ.1 8) (σ.1 9) (σ.1 10) (σ.1 11) (σ.1 12)) z)) (va_A (mW m0 a y (σ.1 0 0) kd (σ.1 2 0) (σ.1 2 1) (σ.1 2 2) (σ.1 2 3) (σ.1 2 4) wh re (σ.1 1) (σ.1 3) aTo aPo (σ.1 4) aRw aRr (σ.1 5) (σ.1 6) (σ.1 7) aWs aRs (σ.1 8) (σ.1 9) (σ.1 10) (σ.1 11) (σ.1 12)) z)) 0 0 (va_A (mW m0 a y (σ.1 0 0) kd (σ.1 2 0) (σ.1 2 1) (σ.1 2 2) (σ.1 2 3) (σ.1 2 4) wh re (σ.1 1) (σ.1 3) aTo aPo (σ.1 4) aRw aRr (σ.1 5) (σ.1 6) (σ.1 7) aWs aRs (σ.1 8) (σ.1 9) (σ.1 10) (σ.1 11) (σ.1 12)) z) := by
  refine Met.ofW (cc := cX8_wheel) (maxL := 6) (ret := (some .int)) (by decide) rfl ?_
  intro p e s m args below meth c s₁ B hml hv
  obtain ⟨rfl, hsz, hP, hK, hD0⟩ := hv
  have hx := B.exec
  have hb := B.bytes
  have hr := B.returns
  have hts := atoms_spec (ws := wsX8_wheel) B.pre
  have hown : s.vm.findClass RX8 = some m.cls := findClass_of_methodNamed B.named
  have hlocks := B.notSynchronized
  subst hsz
  have hD := hD0.self (sz := s.heap.size)
  generalize hAe : va_A (mW m0 a y (σ.1 0 0) kd (σ.1 2 0) (σ.1 2 1) (σ.1 2 2) (σ.1 2 3) (σ.1 2 4) wh re (σ.1 1) (σ.1 3) aTo aPo (σ.1 4) aRw aRr (σ.1 5) (σ.1 6) (σ.1 7) aWs aRs (σ.1 8) (σ.1 9) (σ.1 10) (σ.1 11) (σ.1 12)) s.heap.size = A at hD ⊢
  have hA : ∀ q : Nat, s.heap.size ≤ q → A q := fun q h => by rw [← hAe]; exact Or.inr h
  have hS : va_S A s.heap s.heap [] := va_S.rf
  have hP : va_P Dg vwCl (mW m0 a y (σ.1 0 0) kd (σ.1 2 0) (σ.1 2 1) (σ.1 2 2) (σ.1 2 3) (σ.1 2 4) wh re (σ.1 1) (σ.1 3) aTo aPo (σ.1 4) aRw aRr (σ.1 5) (σ.1 6) (σ.1 7) aWs aRs (σ.1 8) (σ.1 9) (σ.1 10) (σ.1 11) (σ.1 12)) s.heap := hP
  have hl := lv_entry ([.ref m0, .int p1, .long p2]) (n := 6) (Nat.le_of_ble_eq_true rfl)
  rw [lg_entry_eq]
  generalize (lg_sl ([.ref m0, .int p1, .long p2]) ++ List.replicate (6 - (lg_sl ([.ref m0, .int p1, .long p2])).length) Slot.unset).toArray = ls at hl ⊢
  have hl : lv_has ls 6 [(0, .ref m0), (1, .int p1), (2, .long p2)] := hl
  refine lv_aload_n hx hb dX8_wheel_0 rfl (lv_at hl 0 rfl) ?_
  refine lv_iconst (v := 0) hx hb dX8_wheel_1 (by decide) ?_
  refine va_put (D := Dg) (ci := 6) (v := .int 0) (ty := .int) (C := RX8) (T := TX8) (N := 26) hx hb hts in_X8_wheel tyX8 tyX8_ok nmX8 hown hK hP hD hS 0 rfl rfl 0 (by decide) (hts (.fieldLink RX8 64 "OrreryWorksModel" "refused" "I") (by decide +kernel)) (fun _ h9 => h9) rfl (by decide +kernel) rfl rfl (Nat.le_of_ble_eq_true rfl) dX8_wheel_2 (fun H locs hP hD hS => ?_)
  have hP : va_P Dg vwCl (mW m0 a y 0 kd (σ.1 2 0) (σ.1 2 1) (σ.1 2 2) (σ.1 2 3) (σ.1 2 4) wh re (σ.1 1) (σ.1 3) aTo aPo (σ.1 4) aRw aRr (σ.1 5) (σ.1 6) (σ.1 7) aWs aRs (σ.1 8) (σ.1 9) (σ.1 10) (σ.1 11) (σ.1 12)) H := hP
  have hD : va_D A (mW m0 a y 0 kd (σ.1 2 0) (σ.1 2 1) (σ.1 2 2) (σ.1 2 3) (σ.1 2 4) wh re (σ.1 1) (σ.1 3) aTo aPo (σ.1 4) aRw aRr (σ.1 5) (σ.1 6) (σ.1 7) aWs aRs (σ.1 8) (σ.1 9) (σ.1 10) (σ.1 11) (σ.1 12)) := hD
  refine lv_iload_n hx hb dX8_wheel_5 rfl (lv_at hl 1 rfl) ?_
  refine lv_iconst (v := 2) hx hb dX8_wheel_6 (by decide) ?_
  refine lv_iconst (v := 3) hx hb dX8_wheel_7 (by decide) ?_
  refine vp_callSi ((va_runS (As := [.int p1, .int 2, .int 3]) (rest := []) ⟨hx, hb, hml, hown, hts⟩ (met_X8_isIn l p1 2 3) (va_cwS 3 hts gX8_wheel_X8_isIn rfl rfl rfl (by decide +kernel) ⟨Nat.le_of_ble_eq_true rfl, Nat.le_of_ble_eq_true rfl⟩) ⟨fun _ _ _ _ q => q, fun U hU hW => ⟨rfl, trivial⟩⟩ rfl rfl hl.1 rfl (lv_room (Nat.le_of_ble_eq_true rfl)) dX8_wheel_8 ⟨Nat.le_of_ble_eq_true rfl, Nat.le_of_ble_eq_true rfl⟩).run) (fun r hw => ?_)
  subst hw
  refine lv_if_eq (tgt := 21) hx hb dX8_wheel_11 (by decide) (fun c_1 => ?_) (fun c_1 => ?_)
  · replace c_1 := bI_eq c_1
    refine lv_aload_n hx hb dX8_wheel_21 rfl (lv_at hl 0 rfl) ?_
    refine lv_bipush (v := (-2)) hx hb dX8_wheel_22 (by decide) ?_
    have hFc := wFree hD hS hA
    refine va_calli (va_runV (As := [.int (-2)]) (rest := []) ⟨hx, hb, hml, hown, hts⟩ (met_X8_refuse l Dg m0 H.size a y 0 kd (σ.1 2 0) (σ.1 2 1) (σ.1 2 2) (σ.1 2 3) (σ.1 2 4) wh re (σ.1 1) (σ.1 3) aTo aPo (σ.1 4) aRw aRr (σ.1 5) (σ.1 6) (σ.1 7) aWs aRs (σ.1 8) (σ.1 9) (σ.1 10) (σ.1 11) (σ.1 12) (-2) (by unfold vp_in; decide)) (cwV 1 hts gX8_wheel_X8_refuse rfl rfl rfl (by decide +kernel) ⟨Nat.le_of_ble_eq_true rfl, Nat.le_of_ble_eq_true rfl⟩) (wPreV hK hP (hD.weaken (fun _ _ _ _ => trivial)) (va_recv hK hP (ci := 6) (q0 := 0) rfl rfl)) rfl rfl hl.1 rfl (lv_room (Nat.le_of_ble_eq_true rfl)) dX8_wheel_24 ⟨Nat.le_of_ble_eq_true rfl, Nat.le_of_ble_eq_true rfl⟩) hS (fun q _ h => hFc q h) hFc (fun r u t H locs ht hvm hw hB _ _ hS => ?_)
    obtain ⟨hP, -, hD⟩ := hB
    rw [ht] at hP
    replace hD := hD.weaken (fun _ q _ h => hFc q.1 h)
    rw [hw.2] at hP hD
    rw [hw.1]
    clear hw hFc
    have hP : va_P Dg vwCl (mW m0 a y (-2) kd (σ.1 2 0) (σ.1 2 1) (σ.1 2 2) (σ.1 2 3) (σ.1 2 4) wh re (rfO (-2) (σ.1 1)) (σ.1 3) aTo aPo (σ.1 4) aRw aRr (σ.1 5) (σ.1 6) (σ.1 7) aWs aRs (σ.1 8) (σ.1 9) (σ.1 10) (σ.1 11) (σ.1 12)) H := hP
    have hD : va_D A (mW m0 a y (-2) kd (σ.1 2 0) (σ.1 2 1) (σ.1 2 2) (σ.1 2 3) (σ.1 2 4) wh re (rfO (-2) (σ.1 1)) (σ.1 3) aTo aPo (σ.1 4) aRw aRr (σ.1 5) (σ.1 6) (σ.1 7) aWs aRs (σ.1 8) (σ.1 9) (σ.1 10) (σ.1 11) (σ.1 12)) := hD
    have hw : wh_wheel σ p1 p2 = (-2) := by simp only [wh_wheel, if_neg c_1]
    have hn : ¬ wh_wheel σ p1 p2 = 0 := by rw [hw]; decide
    exact W.iret (v := (-2)) hx hb hr (fun t ht hW => ⟨⟨_, (mW m0 a y (-2) kd (σ.1 2 0) (σ.1 2 1) (σ.1 2 2) (σ.1 2 3) (σ.1 2 4) wh re (rfO (-2) (σ.1 1)) (σ.1 3) aTo aPo (σ.1 4) aRw aRr (σ.1 5) (σ.1 6) (σ.1 7) aWs aRs (σ.1 8) (σ.1 9) (σ.1 10) (σ.1 11) (σ.1 12)), rfl, ⟨by rw [an_wheel, if_neg hn, hw]; try rfl, kd, wh, re, aTo, aPo, aRw, aRr, aWs, aRs, by rw [nw_wheel, if_neg hn, hw]; rfl, by rw [nw_wheel, if_neg hn]; exact hM⟩, by rw [ht]; exact hP, va_K.moved hW.alike hK, hD⟩, hS.F ht⟩) hS.2.2 dX8_wheel_27
  · replace c_1 := bI_ne c_1
    refine lv_lload_n hx hb dX8_wheel_14 rfl (lv_at hl 2 rfl) ?_
    refine vp_callSi ((va_runS (As := [.long p2]) (rest := []) ⟨hx, hb, hml, hown, hts⟩ (met_X8_isNumber l p2) (va_cwS 1 hts gX8_wheel_X8_isNumber rfl rfl rfl (by decide +kernel) ⟨Nat.le_of_ble_eq_true rfl, Nat.le_of_ble_eq_true rfl⟩) ⟨fun _ _ _ _ q => q, fun U hU hW => ⟨rfl, trivial⟩⟩ rfl rfl hl.1 rfl (lv_room (Nat.le_of_ble_eq_true rfl)) dX8_wheel_15 ⟨Nat.le_of_ble_eq_true rfl, Nat.le_of_ble_eq_true rfl⟩).run) (fun r hw => ?_)
    subst hw
    refine lv_if_ne (tgt := 28) hx hb dX8_wheel_18 (by decide) (fun c_2 => ?_) (fun c_2 => ?_)
    · replace c_2 := bI_ne c_2
      have hk := isIn23 c_1
      have ht := (num_eq p2).mp c_2
      have hn0 := (okR3 (k := 3) (by decide)).mp ht
      refine lv_iload_n hx hb dX8_wheel_28 rfl (lv_at hl 1 rfl) ?_
      refine lv_lload_n hx hb dX8_wheel_29 rfl (lv_at hl 2 rfl) ?_
      refine vn_l2d hx hb (hml.trans hl.1.symm) hown (hts (.methodLink RX8 109 ⟨"java/lang/Double", "longBitsToDouble", "(J)D"⟩) (by decide +kernel)) (hts (.native ⟨"java/lang/Double", "longBitsToDouble", "(J)D"⟩) (by decide +kernel)) (hts (.static ⟨"java/lang/Double", "longBitsToDouble", "(J)D"⟩) (by decide +kernel)) (hts (.initialized "java/lang/Double") (by decide +kernel)) (sn_of hn0) (Nat.le_of_ble_eq_true rfl) (Nat.le_of_ble_eq_true rfl) dX8_wheel_30 ?_
      refine vp_callSd ((va_runS (As := [.int p1, .double p2.toUInt64]) (rest := []) ⟨hx, hb, hml, hown, hts⟩ (met_X8_narrowed l p1 p2.toUInt64 hn0) (va_cwS 2 hts gX8_wheel_X8_narrowed rfl rfl rfl (by decide +kernel) ⟨Nat.le_of_ble_eq_true rfl, Nat.le_of_ble_eq_true rfl⟩) ⟨fun _ _ _ _ q => q, fun U hU hW => ⟨rfl, trivial⟩⟩ rfl rfl hl.1 rfl (lv_room (Nat.le_of_ble_eq_true rfl)) dX8_wheel_33 ⟨Nat.le_of_ble_eq_true rfl, Nat.le_of_ble_eq_true rfl⟩).run) (fun r_1 h_1 => ?_)
      subst h_1
      refine lv_topd (fun z_3 ez_3 => ?_)
      rw [show z_3 = vl p1 (cst 3 p2 p1) from ez_3.trans (nrw_3 hk ht)]
      refine lv_dstore (lv' := [(4, .double (vl p1 (cst 3 p2 p1))), (0, .ref m0), (1, .int p1), (2, .long p2)]) hx hb dX8_wheel_36 hl (by decide) rfl (fun ls hl => ?_)
      refine lv_dload hx hb dX8_wheel_38 (lv_at hl 0 rfl) ?_
      refine lv_dconst0 hx hb dX8_wheel_40 ?_
      refine lv_dcmp hx hb dX8_wheel_41 ?_
      refine lv_if_ne (tgt := 52) hx hb dX8_wheel_42 (by decide) (fun c_4 => ?_) (fun c_4 => ?_)
      · rw [zero_eq (cst_ok3 hk ht)] at c_4
        refine lv_aload_n hx hb dX8_wheel_52 rfl (lv_at hl 1 rfl) ?_
        refine va_get (D := Dg) (ci := 6) (v := .int (σ.1 2 0)) (C := RX8) (T := TX8) (N := 26) hx hb hts in_X8_wheel hown hK hP 0 rfl rfl 5 (by decide) (hts (.fieldLink RX8 113 "OrreryWorksModel" "wheels" "I") (by decide +kernel)) (fun _ h9 => h9) rfl dX8_wheel_53 ?_
        refine lv_bipush (v := 10) hx hb dX8_wheel_56 (by decide) ?_
        refine lv_icmp_ne (tgt := 68) hx hb dX8_wheel_58 (by decide) (fun c_5 => ?_) (fun c_5 => ?_)
        · refine lv_aload_n hx hb dX8_wheel_68 rfl (lv_at hl 1 rfl) ?_
          refine va_get (D := Dg) (ci := 6) (v := .ref (a 1)) (C := RX8) (T := TX8) (N := 26) hx hb hts in_X8_wheel hown hK hP 0 rfl rfl 6 (by decide) (hts (.fieldLink RX8 13 "OrreryWorksModel" "wheelKind" "[I") (by decide +kernel)) (fun _ h9 => h9) rfl dX8_wheel_69 ?_
          refine lv_aload_n hx hb dX8_wheel_72 rfl (lv_at hl 1 rfl) ?_
          refine va_get (D := Dg) (ci := 6) (v := .int (σ.1 2 0)) (C := RX8) (T := TX8) (N := 26) hx hb hts in_X8_wheel hown hK hP 0 rfl rfl 5 (by decide) (hts (.fieldLink RX8 113 "OrreryWorksModel" "wheels" "I") (by decide +kernel)) (fun _ h9 => h9) rfl dX8_wheel_73 ?_
          refine lv_iload_n hx hb dX8_wheel_76 rfl (lv_at hl 2 rfl) ?_
          refine va_iast hx hb hK hP hD hS 2 1 rfl rfl (top_in hV.1.1 (m := 10) rfl c_5) dX8_wheel_77 (fun H locs hP hD hS => ?_)
          have hP : va_P Dg vwCl (mW m0 a y 0 kd (σ.1 2 0) (σ.1 2 1) (σ.1 2 2) (σ.1 2 3) (σ.1 2 4) wh re (σ.1 1) (upd (σ.1 3) (σ.1 2 0).toNatClampNeg p1) aTo aPo (σ.1 4) aRw aRr (σ.1 5) (σ.1 6) (σ.1 7) aWs aRs (σ.1 8) (σ.1 9) (σ.1 10) (σ.1 11) (σ.1 12)) H := hP
          have hD : va_D A (mW m0 a y 0 kd (σ.1 2 0) (σ.1 2 1) (σ.1 2 2) (σ.1 2 3) (σ.1 2 4) wh re (σ.1 1) (upd (σ.1 3) (σ.1 2 0).toNatClampNeg p1) aTo aPo (σ.1 4) aRw aRr (σ.1 5) (σ.1 6) (σ.1 7) aWs aRs (σ.1 8) (σ.1 9) (σ.1 10) (σ.1 11) (σ.1 12)) := hD
          refine lv_aload_n hx hb dX8_wheel_78 rfl (lv_at hl 1 rfl) ?_
          refine va_get (D := Dg) (ci := 6) (v := .ref (a 2)) (C := RX8) (T := TX8) (N := 26) hx hb hts in_X8_wheel hown hK hP 0 rfl rfl 7 (by decide) (hts (.fieldLink RX8 16 "OrreryWorksModel" "turnOf" "[D") (by decide +kernel)) (fun _ h9 => h9) rfl dX8_wheel_79 ?_
          refine lv_aload_n hx hb dX8_wheel_82 rfl (lv_at hl 1 rfl) ?_
          refine va_get (D := Dg) (ci := 6) (v := .int (σ.1 2 0)) (C := RX8) (T := TX8) (N := 26) hx hb hts in_X8_wheel hown hK hP 0 rfl rfl 5 (by decide) (hts (.fieldLink RX8 113 "OrreryWorksModel" "wheels" "I") (by decide +kernel)) (fun _ h9 => h9) rfl dX8_wheel_83 ?_
          refine lv_dload hx hb dX8_wheel_86 (lv_at hl 0 rfl) ?_
          refine va_dast hx hb hK hP hD hS 3 2 rfl rfl (top_in hV.1.1 (m := 10) rfl c_5) dX8_wheel_88 (fun H locs hP hD hS => ?_)
          have hP : va_P Dg vwCl (mW m0 a y 0 kd (σ.1 2 0) (σ.1 2 1) (σ.1 2 2) (σ.1 2 3) (σ.1 2 4) wh re (σ.1 1) (upd (σ.1 3) (σ.1 2 0).toNatClampNeg p1) (vf_upd aTo (σ.1 2 0).toNatClampNeg (vl p1 (cst 3 p2 p1))) aPo (σ.1 4) aRw aRr (σ.1 5) (σ.1 6) (σ.1 7) aWs aRs (σ.1 8) (σ.1 9) (σ.1 10) (σ.1 11) (σ.1 12)) H := hP
          have hD : va_D A (mW m0 a y 0 kd (σ.1 2 0) (σ.1 2 1) (σ.1 2 2) (σ.1 2 3) (σ.1 2 4) wh re (σ.1 1) (upd (σ.1 3) (σ.1 2 0).toNatClampNeg p1) (vf_upd aTo (σ.1 2 0).toNatClampNeg (vl p1 (cst 3 p2 p1))) aPo (σ.1 4) aRw aRr (σ.1 5) (σ.1 6) (σ.1 7) aWs aRs (σ.1 8) (σ.1 9) (σ.1 10) (σ.1 11) (σ.1 12)) := hD
          refine lv_aload_n hx hb dX8_wheel_89 rfl (lv_at hl 1 rfl) ?_
          refine va_get (D := Dg) (ci := 6) (v := .ref (a 3)) (C := RX8) (T := TX8) (N := 26) hx hb hts in_X8_wheel hown hK hP 0 rfl rfl 8 (by decide) (hts (.fieldLink RX8 20 "OrreryWorksModel" "position" "[D") (by decide +kernel)) (fun _ h9 => h9) rfl dX8_wheel_90 ?_
          refine lv_aload_n hx hb dX8_wheel_93 rfl (lv_at hl 1 rfl) ?_
          refine va_get (D := Dg) (ci := 6) (v := .int (σ.1 2 0)) (C := RX8) (T := TX8) (N := 26) hx hb hts in_X8_wheel hown hK hP 0 rfl rfl 5 (by decide) (hts (.fieldLink RX8 113 "OrreryWorksModel" "wheels" "I") (by decide +kernel)) (fun _ h9 => h9) rfl dX8_wheel_94 ?_
          refine lv_dconst0 hx hb dX8_wheel_97 ?_
          refine va_dast hx hb hK hP hD hS 4 3 rfl rfl (top_in hV.1.1 (m := 10) rfl c_5) dX8_wheel_98 (fun H locs hP hD hS => ?_)
          have hP : va_P Dg vwCl (mW m0 a y 0 kd (σ.1 2 0) (σ.1 2 1) (σ.1 2 2) (σ.1 2 3) (σ.1 2 4) wh re (σ.1 1) (upd (σ.1 3) (σ.1 2 0).toNatClampNeg p1) (vf_upd aTo (σ.1 2 0).toNatClampNeg (vl p1 (cst 3 p2 p1))) (vf_upd aPo (σ.1 2 0).toNatClampNeg FP.dconst0) (σ.1 4) aRw aRr (σ.1 5) (σ.1 6) (σ.1 7) aWs aRs (σ.1 8) (σ.1 9) (σ.1 10) (σ.1 11) (σ.1 12)) H := hP
          have hD : va_D A (mW m0 a y 0 kd (σ.1 2 0) (σ.1 2 1) (σ.1 2 2) (σ.1 2 3) (σ.1 2 4) wh re (σ.1 1) (upd (σ.1 3) (σ.1 2 0).toNatClampNeg p1) (vf_upd aTo (σ.1 2 0).toNatClampNeg (vl p1 (cst 3 p2 p1))) (vf_upd aPo (σ.1 2 0).toNatClampNeg FP.dconst0) (σ.1 4) aRw aRr (σ.1 5) (σ.1 6) (σ.1 7) aWs aRs (σ.1 8) (σ.1 9) (σ.1 10) (σ.1 11) (σ.1 12)) := hD
          refine lv_aload_n hx hb dX8_wheel_99 rfl (lv_at hl 1 rfl) ?_
          refine lv_dup hx hb dX8_wheel_100 rfl ?_
          refine va_get (D := Dg) (ci := 6) (v := .int (σ.1 2 0)) (C := RX8) (T := TX8) (N := 26) hx hb hts in_X8_wheel hown hK hP 0 rfl rfl 5 (by decide) (hts (.fieldLink RX8 113 "OrreryWorksModel" "wheels" "I") (by decide +kernel)) (fun _ h9 => h9) rfl dX8_wheel_101 ?_
          refine lv_iconst (v := 1) hx hb dX8_wheel_104 (by decide) ?_
          refine lv_iadd hx hb dX8_wheel_105 ?_
          refine va_put (D := Dg) (ci := 6) (v := .int ((σ.1 2 0) + 1)) (ty := .int) (C := RX8) (T := TX8) (N := 26) hx hb hts in_X8_wheel tyX8 tyX8_ok nmX8 hown hK hP hD hS 0 rfl rfl 5 (by decide) (hts (.fieldLink RX8 113 "OrreryWorksModel" "wheels" "I") (by decide +kernel)) (fun _ h9 => h9) rfl (by decide +kernel) rfl rfl (Nat.le_of_ble_eq_true rfl) dX8_wheel_106 (fun H locs hP hD hS => ?_)
          have hP : va_P Dg vwCl (mW m0 a y 0 kd ((σ.1 2 0) + 1) (σ.1 2 1) (σ.1 2 2) (σ.1 2 3) (σ.1 2 4) wh re (σ.1 1) (upd (σ.1 3) (σ.1 2 0).toNatClampNeg p1) (vf_upd aTo (σ.1 2 0).toNatClampNeg (vl p1 (cst 3 p2 p1))) (vf_upd aPo (σ.1 2 0).toNatClampNeg FP.dconst0) (σ.1 4) aRw aRr (σ.1 5) (σ.1 6) (σ.1 7) aWs aRs (σ.1 8) (σ.1 9) (σ.1 10) (σ.1 11) (σ.1 12)) H := hP
          have hD : va_D A (mW m0 a y 0 kd ((σ.1 2 0) + 1) (σ.1 2 1) (σ.1 2 2) (σ.1 2 3) (σ.1 2 4) wh re (σ.1 1) (upd (σ.1 3) (σ.1 2 0).toNatClampNeg p1) (vf_upd aTo (σ.1 2 0).toNatClampNeg (vl p1 (cst 3 p2 p1))) (vf_upd aPo (σ.1 2 0).toNatClampNeg FP.dconst0) (σ.1 4) aRw aRr (σ.1 5) (σ.1 6) (σ.1 7) aWs aRs (σ.1 8) (σ.1 9) (σ.1 10) (σ.1 11) (σ.1 12)) := hD
          refine lv_aload_n hx hb dX8_wheel_109 rfl (lv_at hl 1 rfl) ?_
          refine va_get (D := Dg) (ci := 6) (v := .int ((σ.1 2 0) + 1)) (C := RX8) (T := TX8) (N := 26) hx hb hts in_X8_wheel hown hK hP 0 rfl rfl 5 (by decide) (hts (.fieldLink RX8 113 "OrreryWorksModel" "wheels" "I") (by decide +kernel)) (fun _ h9 => h9) rfl dX8_wheel_110 ?_
          refine lv_iconst (v := 1) hx hb dX8_wheel_113 (by decide) ?_
          refine lv_isub hx hb dX8_wheel_114 ?_
          have hw : wh_wheel σ p1 p2 = 0 := by simp only [wh_wheel, if_pos c_1, if_pos c_2, if_neg c_4, if_neg c_5]
          exact W.iret (v := ((σ.1 2 0) + 1) - 1) hx hb hr (fun t ht hW => ⟨⟨_, (mW m0 a y 0 kd ((σ.1 2 0) + 1) (σ.1 2 1) (σ.1 2 2) (σ.1 2 3) (σ.1 2 4) wh re (σ.1 1) (upd (σ.1 3) (σ.1 2 0).toNatClampNeg p1) (vf_upd aTo (σ.1 2 0).toNatClampNeg (vl p1 (cst 3 p2 p1))) (vf_upd aPo (σ.1 2 0).toNatClampNeg FP.dconst0) (σ.1 4) aRw aRr (σ.1 5) (σ.1 6) (σ.1 7) aWs aRs (σ.1 8) (σ.1 9) (σ.1 10) (σ.1 11) (σ.1 12)), rfl, ⟨by rw [an_wheel, if_pos hw]; exact inc_dec, kd, wh, re, vf_upd aTo (σ.1 2 0).toNatClampNeg (vl p1 (cst 3 p2 p1)), vf_upd aPo (σ.1 2 0).toNatClampNeg FP.dconst0, aRw, aRr, aWs, aRs, by rw [nw_wheel, if_pos hw]; rfl, by rw [nw_wheel, if_pos hw]; exact mC_wheel hV hM⟩, by rw [ht]; exact hP, va_K.moved hW.alike hK, hD⟩, hS.F ht⟩) hS.2.2 dX8_wheel_115
        · refine lv_aload_n hx hb dX8_wheel_61 rfl (lv_at hl 1 rfl) ?_
          refine lv_bipush (v := (-3)) hx hb dX8_wheel_62 (by decide) ?_
          have hFc := wFree hD hS hA
          refine va_calli (va_runV (As := [.int (-3)]) (rest := []) ⟨hx, hb, hml, hown, hts⟩ (met_X8_refuse l Dg m0 H.size a y 0 kd (σ.1 2 0) (σ.1 2 1) (σ.1 2 2) (σ.1 2 3) (σ.1 2 4) wh re (σ.1 1) (σ.1 3) aTo aPo (σ.1 4) aRw aRr (σ.1 5) (σ.1 6) (σ.1 7) aWs aRs (σ.1 8) (σ.1 9) (σ.1 10) (σ.1 11) (σ.1 12) (-3) (by unfold vp_in; decide)) (cwV 1 hts gX8_wheel_X8_refuse rfl rfl rfl (by decide +kernel) ⟨Nat.le_of_ble_eq_true rfl, Nat.le_of_ble_eq_true rfl⟩) (wPreV hK hP (hD.weaken (fun _ _ _ _ => trivial)) (va_recv hK hP (ci := 6) (q0 := 0) rfl rfl)) rfl rfl hl.1 rfl (lv_room (Nat.le_of_ble_eq_true rfl)) dX8_wheel_64 ⟨Nat.le_of_ble_eq_true rfl, Nat.le_of_ble_eq_true rfl⟩) hS (fun q _ h => hFc q h) hFc (fun r u t H locs ht hvm hw hB _ _ hS => ?_)
          obtain ⟨hP, -, hD⟩ := hB
          rw [ht] at hP
          replace hD := hD.weaken (fun _ q _ h => hFc q.1 h)
          rw [hw.2] at hP hD
          rw [hw.1]
          clear hw hFc
          have hP : va_P Dg vwCl (mW m0 a y (-3) kd (σ.1 2 0) (σ.1 2 1) (σ.1 2 2) (σ.1 2 3) (σ.1 2 4) wh re (rfO (-3) (σ.1 1)) (σ.1 3) aTo aPo (σ.1 4) aRw aRr (σ.1 5) (σ.1 6) (σ.1 7) aWs aRs (σ.1 8) (σ.1 9) (σ.1 10) (σ.1 11) (σ.1 12)) H := hP
          have hD : va_D A (mW m0 a y (-3) kd (σ.1 2 0) (σ.1 2 1) (σ.1 2 2) (σ.1 2 3) (σ.1 2 4) wh re (rfO (-3) (σ.1 1)) (σ.1 3) aTo aPo (σ.1 4) aRw aRr (σ.1 5) (σ.1 6) (σ.1 7) aWs aRs (σ.1 8) (σ.1 9) (σ.1 10) (σ.1 11) (σ.1 12)) := hD
          have hw : wh_wheel σ p1 p2 = (-3) := by simp only [wh_wheel, if_pos c_1, if_pos c_2, if_neg c_4, if_pos c_5]
          have hn : ¬ wh_wheel σ p1 p2 = 0 := by rw [hw]; decide
          exact W.iret (v := (-3)) hx hb hr (fun t ht hW => ⟨⟨_, (mW m0 a y (-3) kd (σ.1 2 0) (σ.1 2 1) (σ.1 2 2) (σ.1 2 3) (σ.1 2 4) wh re (rfO (-3) (σ.1 1)) (σ.1 3) aTo aPo (σ.1 4) aRw aRr (σ.1 5) (σ.1 6) (σ.1 7) aWs aRs (σ.1 8) (σ.1 9) (σ.1 10) (σ.1 11) (σ.1 12)), rfl, ⟨by rw [an_wheel, if_neg hn, hw]; try rfl, kd, wh, re, aTo, aPo, aRw, aRr, aWs, aRs, by rw [nw_wheel, if_neg hn, hw]; rfl, by rw [nw_wheel, if_neg hn]; exact hM⟩, by rw [ht]; exact hP, va_K.moved hW.alike hK, hD⟩, hS.F ht⟩) hS.2.2 dX8_wheel_67
      · rw [zero_eq (cst_ok3 hk ht)] at c_4
        refine lv_aload_n hx hb dX8_wheel_45 rfl (lv_at hl 1 rfl) ?_
        refine lv_bipush (v := (-2)) hx hb dX8_wheel_46 (by decide) ?_
        have hFc := wFree hD hS hA
        refine va_calli (va_runV (As := [.int (-2)]) (rest := []) ⟨hx, hb, hml, hown, hts⟩ (met_X8_refuse l Dg m0 H.size a y 0 kd (σ.1 2 0) (σ.1 2 1) (σ.1 2 2) (σ.1 2 3) (σ.1 2 4) wh re (σ.1 1) (σ.1 3) aTo aPo (σ.1 4) aRw aRr (σ.1 5) (σ.1 6) (σ.1 7) aWs aRs (σ.1 8) (σ.1 9) (σ.1 10) (σ.1 11) (σ.1 12) (-2) (by unfold vp_in; decide)) (cwV 1 hts gX8_wheel_X8_refuse rfl rfl rfl (by decide +kernel) ⟨Nat.le_of_ble_eq_true rfl, Nat.le_of_ble_eq_true rfl⟩) (wPreV hK hP (hD.weaken (fun _ _ _ _ => trivial)) (va_recv hK hP (ci := 6) (q0 := 0) rfl rfl)) rfl rfl hl.1 rfl (lv_room (Nat.le_of_ble_eq_true rfl)) dX8_wheel_48 ⟨Nat.le_of_ble_eq_true rfl, Nat.le_of_ble_eq_true rfl⟩) hS (fun q _ h => hFc q h) hFc (fun r u t H locs ht hvm hw hB _ _ hS => ?_)
        obtain ⟨hP, -, hD⟩ := hB
        rw [ht] at hP
        replace hD := hD.weaken (fun _ q _ h => hFc q.1 h)
        rw [hw.2] at hP hD
        rw [hw.1]
        clear hw hFc
        have hP : va_P Dg vwCl (mW m0 a y (-2) kd (σ.1 2 0) (σ.1 2 1) (σ.1 2 2) (σ.1 2 3) (σ.1 2 4) wh re (rfO (-2) (σ.1 1)) (σ.1 3) aTo aPo (σ.1 4) aRw aRr (σ.1 5) (σ.1 6) (σ.1 7) aWs aRs (σ.1 8) (σ.1 9) (σ.1 10) (σ.1 11) (σ.1 12)) H := hP
        have hD : va_D A (mW m0 a y (-2) kd (σ.1 2 0) (σ.1 2 1) (σ.1 2 2) (σ.1 2 3) (σ.1 2 4) wh re (rfO (-2) (σ.1 1)) (σ.1 3) aTo aPo (σ.1 4) aRw aRr (σ.1 5) (σ.1 6) (σ.1 7) aWs aRs (σ.1 8) (σ.1 9) (σ.1 10) (σ.1 11) (σ.1 12)) := hD
        have hw : wh_wheel σ p1 p2 = (-2) := by simp only [wh_wheel, if_pos c_1, if_pos c_2, if_pos c_4]
        have hn : ¬ wh_wheel σ p1 p2 = 0 := by rw [hw]; decide
        exact W.iret (v := (-2)) hx hb hr (fun t ht hW => ⟨⟨_, (mW m0 a y (-2) kd (σ.1 2 0) (σ.1 2 1) (σ.1 2 2) (σ.1 2 3) (σ.1 2 4) wh re (rfO (-2) (σ.1 1)) (σ.1 3) aTo aPo (σ.1 4) aRw aRr (σ.1 5) (σ.1 6) (σ.1 7) aWs aRs (σ.1 8) (σ.1 9) (σ.1 10) (σ.1 11) (σ.1 12)), rfl, ⟨by rw [an_wheel, if_neg hn, hw]; try rfl, kd, wh, re, aTo, aPo, aRw, aRr, aWs, aRs, by rw [nw_wheel, if_neg hn, hw]; rfl, by rw [nw_wheel, if_neg hn]; exact hM⟩, by rw [ht]; exact hP, va_K.moved hW.alike hK, hD⟩, hS.F ht⟩) hS.2.2 dX8_wheel_51
    · replace c_2 := bI_eq c_2
      refine lv_aload_n hx hb dX8_wheel_21 rfl (lv_at hl 0 rfl) ?_
      refine lv_bipush (v := (-2)) hx hb dX8_wheel_22 (by decide) ?_
      have hFc := wFree hD hS hA
      refine va_calli (va_runV (As := [.int (-2)]) (rest := []) ⟨hx, hb, hml, hown, hts⟩ (met_X8_refuse l Dg m0 H.size a y 0 kd (σ.1 2 0) (σ.1 2 1) (σ.1 2 2) (σ.1 2 3) (σ.1 2 4) wh re (σ.1 1) (σ.1 3) aTo aPo (σ.1 4) aRw aRr (σ.1 5) (σ.1 6) (σ.1 7) aWs aRs (σ.1 8) (σ.1 9) (σ.1 10) (σ.1 11) (σ.1 12) (-2) (by unfold vp_in; decide)) (cwV 1 hts gX8_wheel_X8_refuse rfl rfl rfl (by decide +kernel) ⟨Nat.le_of_ble_eq_true rfl, Nat.le_of_ble_eq_true rfl⟩) (wPreV hK hP (hD.weaken (fun _ _ _ _ => trivial)) (va_recv hK hP (ci := 6) (q0 := 0) rfl rfl)) rfl rfl hl.1 rfl (lv_room (Nat.le_of_ble_eq_true rfl)) dX8_wheel_24 ⟨Nat.le_of_ble_eq_true rfl, Nat.le_of_ble_eq_true rfl⟩) hS (fun q _ h => hFc q h) hFc (fun r u t H locs ht hvm hw hB _ _ hS => ?_)
      obtain ⟨hP, -, hD⟩ := hB
      rw [ht] at hP
      replace hD := hD.weaken (fun _ q _ h => hFc q.1 h)
      rw [hw.2] at hP hD
      rw [hw.1]
      clear hw hFc
      have hP : va_P Dg vwCl (mW m0 a y (-2) kd (σ.1 2 0) (σ.1 2 1) (σ.1 2 2) (σ.1 2 3) (σ.1 2 4) wh re (rfO (-2) (σ.1 1)) (σ.1 3) aTo aPo (σ.1 4) aRw aRr (σ.1 5) (σ.1 6) (σ.1 7) aWs aRs (σ.1 8) (σ.1 9) (σ.1 10) (σ.1 11) (σ.1 12)) H := hP
      have hD : va_D A (mW m0 a y (-2) kd (σ.1 2 0) (σ.1 2 1) (σ.1 2 2) (σ.1 2 3) (σ.1 2 4) wh re (rfO (-2) (σ.1 1)) (σ.1 3) aTo aPo (σ.1 4) aRw aRr (σ.1 5) (σ.1 6) (σ.1 7) aWs aRs (σ.1 8) (σ.1 9) (σ.1 10) (σ.1 11) (σ.1 12)) := hD
      have hw : wh_wheel σ p1 p2 = (-2) := by simp only [wh_wheel, if_pos c_1, if_neg c_2]
      have hn : ¬ wh_wheel σ p1 p2 = 0 := by rw [hw]; decide
      exact W.iret (v := (-2)) hx hb hr (fun t ht hW => ⟨⟨_, (mW m0 a y (-2) kd (σ.1 2 0) (σ.1 2 1) (σ.1 2 2) (σ.1 2 3) (σ.1 2 4) wh re (rfO (-2) (σ.1 1)) (σ.1 3) aTo aPo (σ.1 4) aRw aRr (σ.1 5) (σ.1 6) (σ.1 7) aWs aRs (σ.1 8) (σ.1 9) (σ.1 10) (σ.1 11) (σ.1 12)), rfl, ⟨by rw [an_wheel, if_neg hn, hw]; try rfl, kd, wh, re, aTo, aPo, aRw, aRr, aWs, aRs, by rw [nw_wheel, if_neg hn, hw]; rfl, by rw [nw_wheel, if_neg hn]; exact hM⟩, by rw [ht]; exact hP, va_K.moved hW.alike hK, hD⟩, hS.F ht⟩) hS.2.2 dX8_wheel_27

theorem in_X8_wheelOf : ∀ w ∈ wsX80, w ∈ wsX8_wheelOf := fun w h => List.mem_cons_of_mem _ (List.mem_append_right _ h)
set_option maxHeartbeats 8000000 in
set_option maxRecDepth 100000 in
theorem met_X8_wheelOf (l : Launch) (Dg : va_G) (m0 z : Nat) (a : Nat → Nat) (y : Nat → ClassId) (σ : St) (kd : Int32) (wh : Int64) (re : UInt64) (aTo aPo : Nat → UInt64) (aRw : Nat → Int64) (aRr : Nat → UInt64) (aWs : Nat → Int64) (aRs : Nat → UInt64) (p1 : Int32) (p2 : Int32) (hV : vOK σ) (hM : mC σ aTo aPo aRw aRr aWs aRs)  : Met l yX8_wheelOf wsX8_wheelOf ({ frames := 3, cells := 0, slots := 0, locals := 62 }) (va_Pc [.ref m0, .int p1, .int p2] (wB Dg (mT y) (mW m0 a y (σ.1 0 0) kd (σ.1 2 0) (σ.1 2 1) (σ.1 2 2) (σ.1 2 3) (σ.1 2 4) wh re (σ.1 1) (σ.1 3) aTo aPo (σ.1 4) aRw aRr (σ.1 5) (σ.1 6) (σ.1 7) aWs aRs (σ.1 8) (σ.1 9) (σ.1 10) (σ.1 11) (σ.1 12)) z)) (va_Ql (fun (r : Int64) (u : va_W) => r = an_wheelOf σ p1 p2 ∧ MI m0 a y (nw_wheelOf σ p1 p2) u) (wE Dg (mT y) (va_A (mW m0 a y (σ.1 0 0) kd (σ.1 2 0) (σ.1 2 1) (σ.1 2 2) (σ.1 2 3) (σ.1 2 4) wh re (σ.1 1) (σ.1 3) aTo aPo (σ.1 4) aRw aRr (σ.1 5) (σ.1 6) (σ.1 7) aWs aRs (σ.1 8) (σ.1 9) (σ.1 10) (σ.1 11) (σ.1 12)) z)) (va_A (mW m0 a y (σ.1 0 0) kd (σ.1 2 0) (σ.1 2 1) (σ.1 2 2) (σ.1 2 3) (σ.1 2 4) wh re (σ.1 1) (σ.1 3) aTo aPo (σ.1 4) aRw aRr (σ.1 5) (σ.1 6) (σ.1 7) aWs aRs (σ.1 8) (σ.1 9) (σ.1 10) (σ.1 11) (σ.1 12)) z)) 0 0 (va_A (mW m0 a y (σ.1 0 0) kd (σ.1 2 0) (σ.1 2 1) (σ.1 2 2) (σ.1 2 3) (σ.1 2 4) wh re (σ.1 1) (σ.1 3) aTo aPo (σ.1 4) aRw aRr (σ.1 5) (σ.1 6) (σ.1 7) aWs aRs (σ.1 8) (σ.1 9) (σ.1 10) (σ.1 11) (σ.1 12)) z) := by
  refine Met.ofW (cc := cX8_wheelOf) (maxL := 3) (ret := (some .long)) (by decide) rfl ?_
  intro p e s m args below meth c s₁ B hml hv
  obtain ⟨rfl, hsz, hP, hK, hD0⟩ := hv
  have hx := B.exec
  have hb := B.bytes
  have hr := B.returns
  have hts := atoms_spec (ws := wsX8_wheelOf) B.pre
  have hown : s.vm.findClass RX8 = some m.cls := findClass_of_methodNamed B.named
  have hlocks := B.notSynchronized
  subst hsz
  have hD := hD0.self (sz := s.heap.size)
  generalize hAe : va_A (mW m0 a y (σ.1 0 0) kd (σ.1 2 0) (σ.1 2 1) (σ.1 2 2) (σ.1 2 3) (σ.1 2 4) wh re (σ.1 1) (σ.1 3) aTo aPo (σ.1 4) aRw aRr (σ.1 5) (σ.1 6) (σ.1 7) aWs aRs (σ.1 8) (σ.1 9) (σ.1 10) (σ.1 11) (σ.1 12)) s.heap.size = A at hD ⊢
  have hA : ∀ q : Nat, s.heap.size ≤ q → A q := fun q h => by rw [← hAe]; exact Or.inr h
  have hS : va_S A s.heap s.heap [] := va_S.rf
  have hP : va_P Dg vwCl (mW m0 a y (σ.1 0 0) kd (σ.1 2 0) (σ.1 2 1) (σ.1 2 2) (σ.1 2 3) (σ.1 2 4) wh re (σ.1 1) (σ.1 3) aTo aPo (σ.1 4) aRw aRr (σ.1 5) (σ.1 6) (σ.1 7) aWs aRs (σ.1 8) (σ.1 9) (σ.1 10) (σ.1 11) (σ.1 12)) s.heap := hP
  have hl := lv_entry ([.ref m0, .int p1, .int p2]) (n := 3) (Nat.le_of_ble_eq_true rfl)
  rw [lg_entry_eq]
  generalize (lg_sl ([.ref m0, .int p1, .int p2]) ++ List.replicate (3 - (lg_sl ([.ref m0, .int p1, .int p2])).length) Slot.unset).toArray = ls at hl ⊢
  have hl : lv_has ls 3 [(0, .ref m0), (1, .int p1), (2, .int p2)] := hl
  refine lv_aload_n hx hb dX8_wheelOf_0 rfl (lv_at hl 0 rfl) ?_
  refine lv_iconst (v := 0) hx hb dX8_wheelOf_1 (by decide) ?_
  refine va_put (D := Dg) (ci := 6) (v := .int 0) (ty := .int) (C := RX8) (T := TX8) (N := 26) hx hb hts in_X8_wheelOf tyX8 tyX8_ok nmX8 hown hK hP hD hS 0 rfl rfl 0 (by decide) (hts (.fieldLink RX8 64 "OrreryWorksModel" "refused" "I") (by decide +kernel)) (fun _ h9 => h9) rfl (by decide +kernel) rfl rfl (Nat.le_of_ble_eq_true rfl) dX8_wheelOf_2 (fun H locs hP hD hS => ?_)
  have hP : va_P Dg vwCl (mW m0 a y 0 kd (σ.1 2 0) (σ.1 2 1) (σ.1 2 2) (σ.1 2 3) (σ.1 2 4) wh re (σ.1 1) (σ.1 3) aTo aPo (σ.1 4) aRw aRr (σ.1 5) (σ.1 6) (σ.1 7) aWs aRs (σ.1 8) (σ.1 9) (σ.1 10) (σ.1 11) (σ.1 12)) H := hP
  have hD : va_D A (mW m0 a y 0 kd (σ.1 2 0) (σ.1 2 1) (σ.1 2 2) (σ.1 2 3) (σ.1 2 4) wh re (σ.1 1) (σ.1 3) aTo aPo (σ.1 4) aRw aRr (σ.1 5) (σ.1 6) (σ.1 7) aWs aRs (σ.1 8) (σ.1 9) (σ.1 10) (σ.1 11) (σ.1 12)) := hD
  refine lv_aload_n hx hb dX8_wheelOf_5 rfl (lv_at hl 0 rfl) ?_
  refine lv_iload_n hx hb dX8_wheelOf_6 rfl (lv_at hl 1 rfl) ?_
  refine vp_callSi ((va_runV (As := [.int p1]) (rest := []) ⟨hx, hb, hml, hown, hts⟩ (met_X8_isWheel l Dg m0 H.size a y 0 kd (σ.1 2 0) (σ.1 2 1) (σ.1 2 2) (σ.1 2 3) (σ.1 2 4) wh re (σ.1 1) (σ.1 3) aTo aPo (σ.1 4) aRw aRr (σ.1 5) (σ.1 6) (σ.1 7) aWs aRs (σ.1 8) (σ.1 9) (σ.1 10) (σ.1 11) (σ.1 12) p1 ) (cwV 1 hts gX8_wheelOf_X8_isWheel rfl rfl rfl (by decide +kernel) ⟨Nat.le_of_ble_eq_true rfl, Nat.le_of_ble_eq_true rfl⟩) (wPreV hK hP (hD.weaken (fun _ _ _ _ => trivial)) (va_recv hK hP (ci := 6) (q0 := 0) rfl rfl)) rfl rfl hl.1 rfl (lv_room (Nat.le_of_ble_eq_true rfl)) dX8_wheelOf_7 ⟨Nat.le_of_ble_eq_true rfl, Nat.le_of_ble_eq_true rfl⟩).run) (fun r hw => ?_)
  rw [hw]
  refine lv_if_eq (tgt := 22) hx hb dX8_wheelOf_10 (by decide) (fun c_1 => ?_) (fun c_1 => ?_)
  · replace c_1 := bI_eq c_1
    refine lv_aload_n hx hb dX8_wheelOf_22 rfl (lv_at hl 0 rfl) ?_
    refine lv_bipush (v := (-2)) hx hb dX8_wheelOf_23 (by decide) ?_
    refine va_put (D := Dg) (ci := 6) (v := .int (-2)) (ty := .int) (C := RX8) (T := TX8) (N := 26) hx hb hts in_X8_wheelOf tyX8 tyX8_ok nmX8 hown hK hP hD hS 0 rfl rfl 0 (by decide) (hts (.fieldLink RX8 64 "OrreryWorksModel" "refused" "I") (by decide +kernel)) (fun _ h9 => h9) rfl (by decide +kernel) rfl rfl (Nat.le_of_ble_eq_true rfl) dX8_wheelOf_25 (fun H locs hP hD hS => ?_)
    have hP : va_P Dg vwCl (mW m0 a y (-2) kd (σ.1 2 0) (σ.1 2 1) (σ.1 2 2) (σ.1 2 3) (σ.1 2 4) wh re (σ.1 1) (σ.1 3) aTo aPo (σ.1 4) aRw aRr (σ.1 5) (σ.1 6) (σ.1 7) aWs aRs (σ.1 8) (σ.1 9) (σ.1 10) (σ.1 11) (σ.1 12)) H := hP
    have hD : va_D A (mW m0 a y (-2) kd (σ.1 2 0) (σ.1 2 1) (σ.1 2 2) (σ.1 2 3) (σ.1 2 4) wh re (σ.1 1) (σ.1 3) aTo aPo (σ.1 4) aRw aRr (σ.1 5) (σ.1 6) (σ.1 7) aWs aRs (σ.1 8) (σ.1 9) (σ.1 10) (σ.1 11) (σ.1 12)) := hD
    refine lv_lconst (v := 0) hx hb dX8_wheelOf_28 (by decide) ?_
    have hw : wh_wheelOf σ p1 p2 = (-2) := by simp only [wh_wheelOf, if_neg c_1]
    have hn : ¬ wh_wheelOf σ p1 p2 = 0 := by rw [hw]; decide
    exact W.lret (v := 0) hx hb hr (fun t ht hW => ⟨⟨_, (mW m0 a y (-2) kd (σ.1 2 0) (σ.1 2 1) (σ.1 2 2) (σ.1 2 3) (σ.1 2 4) wh re (σ.1 1) (σ.1 3) aTo aPo (σ.1 4) aRw aRr (σ.1 5) (σ.1 6) (σ.1 7) aWs aRs (σ.1 8) (σ.1 9) (σ.1 10) (σ.1 11) (σ.1 12)), rfl, ⟨by rw [an_wheelOf, if_neg hn]; try rfl, kd, wh, re, aTo, aPo, aRw, aRr, aWs, aRs, by rw [nw_wheelOf, if_neg hn, hw]; simp only [mG, rf, rfO2]; rfl, by rw [nw_wheelOf, if_neg hn]; exact hM⟩, by rw [ht]; exact hP, va_K.moved hW.alike hK, hD⟩, hS.F ht⟩) hS.2.2 dX8_wheelOf_29
  · replace c_1 := bI_ne c_1
    refine lv_iload_n hx hb dX8_wheelOf_13 rfl (lv_at hl 2 rfl) ?_
    refine lv_iconst (v := 0) hx hb dX8_wheelOf_14 (by decide) ?_
    refine lv_iconst (v := 1) hx hb dX8_wheelOf_15 (by decide) ?_
    refine vp_callSi ((va_runS (As := [.int p2, .int 0, .int 1]) (rest := []) ⟨hx, hb, hml, hown, hts⟩ (met_X8_isIn l p2 0 1) (va_cwS 3 hts gX8_wheelOf_X8_isIn rfl rfl rfl (by decide +kernel) ⟨Nat.le_of_ble_eq_true rfl, Nat.le_of_ble_eq_true rfl⟩) ⟨fun _ _ _ _ q => q, fun U hU hW => ⟨rfl, trivial⟩⟩ rfl rfl hl.1 rfl (lv_room (Nat.le_of_ble_eq_true rfl)) dX8_wheelOf_16 ⟨Nat.le_of_ble_eq_true rfl, Nat.le_of_ble_eq_true rfl⟩).run) (fun r hw => ?_)
    subst hw
    refine lv_if_ne (tgt := 30) hx hb dX8_wheelOf_19 (by decide) (fun c_2 => ?_) (fun c_2 => ?_)
    · replace c_2 := bI_ne c_2
      have w1 := hV.2.1 _ (inC_lt hV.1.1 c_1)
      have e1 := hM.1 _ (inC_lt hV.1.1 c_1)
      refine lv_aload_n hx hb dX8_wheelOf_30 rfl (lv_at hl 0 rfl) ?_
      refine lv_aload_n hx hb dX8_wheelOf_31 rfl (lv_at hl 0 rfl) ?_
      refine va_get (D := Dg) (ci := 6) (v := .ref (a 1)) (C := RX8) (T := TX8) (N := 26) hx hb hts in_X8_wheelOf hown hK hP 0 rfl rfl 6 (by decide) (hts (.fieldLink RX8 13 "OrreryWorksModel" "wheelKind" "[I") (by decide +kernel)) (fun _ h9 => h9) rfl dX8_wheelOf_32 ?_
      refine lv_iload_n hx hb dX8_wheelOf_35 rfl (lv_at hl 1 rfl) ?_
      refine va_iald hx hb hK hP 2 1 rfl rfl (inC_in hV.1.1 c_1) dX8_wheelOf_36 ?_
      refine lv_lconst (v := 0) hx hb dX8_wheelOf_37 (by decide) ?_
      refine lv_iload_n hx hb dX8_wheelOf_38 rfl (lv_at hl 2 rfl) ?_
      refine lv_if_ne (tgt := 51) hx hb dX8_wheelOf_39 (by decide) (fun c_3 => ?_) (fun c_3 => ?_)
      · refine lv_aload_n hx hb dX8_wheelOf_51 rfl (lv_at hl 0 rfl) ?_
        refine va_get (D := Dg) (ci := 6) (v := .ref (a 2)) (C := RX8) (T := TX8) (N := 26) hx hb hts in_X8_wheelOf hown hK hP 0 rfl rfl 7 (by decide) (hts (.fieldLink RX8 16 "OrreryWorksModel" "turnOf" "[D") (by decide +kernel)) (fun _ h9 => h9) rfl dX8_wheelOf_52 ?_
        refine lv_iload_n hx hb dX8_wheelOf_55 rfl (lv_at hl 1 rfl) ?_
        refine va_dald hx hb hK hP 3 2 rfl rfl (inC_in hV.1.1 c_1) dX8_wheelOf_56 ?_
        have hFc := wFree hD hS hA
        refine va_callv (va_runV (As := [.int ((σ.1 3) p1.toNatClampNeg), .long 0, .double (aTo p1.toNatClampNeg)]) (rest := []) ⟨hx, hb, hml, hown, hts⟩ (met_X8_hold l Dg m0 H.size a y 0 kd (σ.1 2 0) (σ.1 2 1) (σ.1 2 2) (σ.1 2 3) (σ.1 2 4) wh re (σ.1 1) (σ.1 3) aTo aPo (σ.1 4) aRw aRr (σ.1 5) (σ.1 6) (σ.1 7) aWs aRs (σ.1 8) (σ.1 9) (σ.1 10) (σ.1 11) (σ.1 12) ((σ.1 3) p1.toNatClampNeg) 0 (aTo p1.toNatClampNeg) ) (cwV 3 hts gX8_wheelOf_X8_hold rfl rfl rfl (by decide +kernel) ⟨Nat.le_of_ble_eq_true rfl, Nat.le_of_ble_eq_true rfl⟩) (wPreV hK hP (hD.weaken (fun _ _ _ _ => trivial)) (va_recv hK hP (ci := 6) (q0 := 0) rfl rfl)) rfl rfl hl.1 rfl (lv_room (Nat.le_of_ble_eq_true rfl)) dX8_wheelOf_57 ⟨Nat.le_of_ble_eq_true rfl, Nat.le_of_ble_eq_true rfl⟩) hS (fun q _ h => hFc q h) hFc (fun u t H locs ht hvm hw hB _ _ hS => ?_)
        obtain ⟨hP, -, hD⟩ := hB
        rw [ht] at hP
        replace hD := hD.weaken (fun _ q _ h => hFc q.1 h)
        rw [hw] at hP hD
        clear hw hFc
        have hP : va_P Dg vwCl (mW m0 a y 0 ((σ.1 3) p1.toNatClampNeg) (σ.1 2 0) (σ.1 2 1) (σ.1 2 2) (σ.1 2 3) (σ.1 2 4) 0 (aTo p1.toNatClampNeg) (σ.1 1) (σ.1 3) aTo aPo (σ.1 4) aRw aRr (σ.1 5) (σ.1 6) (σ.1 7) aWs aRs (σ.1 8) (σ.1 9) (σ.1 10) (σ.1 11) (σ.1 12)) H := hP
        have hD : va_D A (mW m0 a y 0 ((σ.1 3) p1.toNatClampNeg) (σ.1 2 0) (σ.1 2 1) (σ.1 2 2) (σ.1 2 3) (σ.1 2 4) 0 (aTo p1.toNatClampNeg) (σ.1 1) (σ.1 3) aTo aPo (σ.1 4) aRw aRr (σ.1 5) (σ.1 6) (σ.1 7) aWs aRs (σ.1 8) (σ.1 9) (σ.1 10) (σ.1 11) (σ.1 12)) := hD
        refine lv_aload_n hx hb dX8_wheelOf_60 rfl (lv_at hl 0 rfl) ?_
        refine vp_callSl ((va_runV (As := []) (rest := []) ⟨hx, hb, hml, hown, hts⟩ (met_X8_bits l Dg m0 H.size a y 0 ((σ.1 3) p1.toNatClampNeg) (σ.1 2 0) (σ.1 2 1) (σ.1 2 2) (σ.1 2 3) (σ.1 2 4) 0 (aTo p1.toNatClampNeg) (σ.1 1) (σ.1 3) aTo aPo (σ.1 4) aRw aRr (σ.1 5) (σ.1 6) (σ.1 7) aWs aRs (σ.1 8) (σ.1 9) (σ.1 10) (σ.1 11) (σ.1 12)  (fun _ => by rw [e1.1]; exact vl_nn w1.2.1)) (cwV 0 hts gX8_wheelOf_X8_bits rfl rfl rfl (by decide +kernel) ⟨Nat.le_of_ble_eq_true rfl, Nat.le_of_ble_eq_true rfl⟩) (wPreV hK hP (hD.weaken (fun _ _ _ _ => trivial)) (va_recv hK hP (ci := 6) (q0 := 0) rfl rfl)) rfl rfl hl.1 rfl (lv_room (Nat.le_of_ble_eq_true rfl)) dX8_wheelOf_61 ⟨Nat.le_of_ble_eq_true rfl, Nat.le_of_ble_eq_true rfl⟩).run) (fun r hw => ?_)
        rw [hw]
        have hw : wh_wheelOf σ p1 p2 = 0 := by simp only [wh_wheelOf, if_pos c_1, if_pos c_2]
        exact W.lret (v := mbt ((σ.1 3) p1.toNatClampNeg) 0 (aTo p1.toNatClampNeg)) hx hb hr (fun t ht hW => ⟨⟨_, (mW m0 a y 0 ((σ.1 3) p1.toNatClampNeg) (σ.1 2 0) (σ.1 2 1) (σ.1 2 2) (σ.1 2 3) (σ.1 2 4) 0 (aTo p1.toNatClampNeg) (σ.1 1) (σ.1 3) aTo aPo (σ.1 4) aRw aRr (σ.1 5) (σ.1 6) (σ.1 7) aWs aRs (σ.1 8) (σ.1 9) (σ.1 10) (σ.1 11) (σ.1 12)), rfl, ⟨by rw [an_wheelOf, if_pos hw]; rw [if_neg c_3]; exact rep_bits (isKR w1.1) (okBR w1.1 w1.2.1) (repR w1.1 e1.1), (σ.1 3) p1.toNatClampNeg, 0, aTo p1.toNatClampNeg, aTo, aPo, aRw, aRr, aWs, aRs, by rw [nw_wheelOf, if_pos hw]; rfl, by rw [nw_wheelOf, if_pos hw]; exact hM⟩, by rw [ht]; exact hP, va_K.moved hW.alike hK, hD⟩, hS.F ht⟩) hS.2.2 dX8_wheelOf_64
      · refine lv_aload_n hx hb dX8_wheelOf_42 rfl (lv_at hl 0 rfl) ?_
        refine va_get (D := Dg) (ci := 6) (v := .ref (a 3)) (C := RX8) (T := TX8) (N := 26) hx hb hts in_X8_wheelOf hown hK hP 0 rfl rfl 8 (by decide) (hts (.fieldLink RX8 20 "OrreryWorksModel" "position" "[D") (by decide +kernel)) (fun _ h9 => h9) rfl dX8_wheelOf_43 ?_
        refine lv_iload_n hx hb dX8_wheelOf_46 rfl (lv_at hl 1 rfl) ?_
        refine va_dald hx hb hK hP 4 3 rfl rfl (inC_in hV.1.1 c_1) dX8_wheelOf_47 ?_
        refine lv_goto (tgt := 57) hx hb dX8_wheelOf_48 (by decide) ?_
        have hFc := wFree hD hS hA
        refine va_callv (va_runV (As := [.int ((σ.1 3) p1.toNatClampNeg), .long 0, .double (aPo p1.toNatClampNeg)]) (rest := []) ⟨hx, hb, hml, hown, hts⟩ (met_X8_hold l Dg m0 H.size a y 0 kd (σ.1 2 0) (σ.1 2 1) (σ.1 2 2) (σ.1 2 3) (σ.1 2 4) wh re (σ.1 1) (σ.1 3) aTo aPo (σ.1 4) aRw aRr (σ.1 5) (σ.1 6) (σ.1 7) aWs aRs (σ.1 8) (σ.1 9) (σ.1 10) (σ.1 11) (σ.1 12) ((σ.1 3) p1.toNatClampNeg) 0 (aPo p1.toNatClampNeg) ) (cwV 3 hts gX8_wheelOf_X8_hold rfl rfl rfl (by decide +kernel) ⟨Nat.le_of_ble_eq_true rfl, Nat.le_of_ble_eq_true rfl⟩) (wPreV hK hP (hD.weaken (fun _ _ _ _ => trivial)) (va_recv hK hP (ci := 6) (q0 := 0) rfl rfl)) rfl rfl hl.1 rfl (lv_room (Nat.le_of_ble_eq_true rfl)) dX8_wheelOf_57 ⟨Nat.le_of_ble_eq_true rfl, Nat.le_of_ble_eq_true rfl⟩) hS (fun q _ h => hFc q h) hFc (fun u t H locs ht hvm hw hB _ _ hS => ?_)
        obtain ⟨hP, -, hD⟩ := hB
        rw [ht] at hP
        replace hD := hD.weaken (fun _ q _ h => hFc q.1 h)
        rw [hw] at hP hD
        clear hw hFc
        have hP : va_P Dg vwCl (mW m0 a y 0 ((σ.1 3) p1.toNatClampNeg) (σ.1 2 0) (σ.1 2 1) (σ.1 2 2) (σ.1 2 3) (σ.1 2 4) 0 (aPo p1.toNatClampNeg) (σ.1 1) (σ.1 3) aTo aPo (σ.1 4) aRw aRr (σ.1 5) (σ.1 6) (σ.1 7) aWs aRs (σ.1 8) (σ.1 9) (σ.1 10) (σ.1 11) (σ.1 12)) H := hP
        have hD : va_D A (mW m0 a y 0 ((σ.1 3) p1.toNatClampNeg) (σ.1 2 0) (σ.1 2 1) (σ.1 2 2) (σ.1 2 3) (σ.1 2 4) 0 (aPo p1.toNatClampNeg) (σ.1 1) (σ.1 3) aTo aPo (σ.1 4) aRw aRr (σ.1 5) (σ.1 6) (σ.1 7) aWs aRs (σ.1 8) (σ.1 9) (σ.1 10) (σ.1 11) (σ.1 12)) := hD
        refine lv_aload_n hx hb dX8_wheelOf_60 rfl (lv_at hl 0 rfl) ?_
        refine vp_callSl ((va_runV (As := []) (rest := []) ⟨hx, hb, hml, hown, hts⟩ (met_X8_bits l Dg m0 H.size a y 0 ((σ.1 3) p1.toNatClampNeg) (σ.1 2 0) (σ.1 2 1) (σ.1 2 2) (σ.1 2 3) (σ.1 2 4) 0 (aPo p1.toNatClampNeg) (σ.1 1) (σ.1 3) aTo aPo (σ.1 4) aRw aRr (σ.1 5) (σ.1 6) (σ.1 7) aWs aRs (σ.1 8) (σ.1 9) (σ.1 10) (σ.1 11) (σ.1 12)  (fun _ => by rw [e1.2]; exact vl_nn w1.2.2.2.1)) (cwV 0 hts gX8_wheelOf_X8_bits rfl rfl rfl (by decide +kernel) ⟨Nat.le_of_ble_eq_true rfl, Nat.le_of_ble_eq_true rfl⟩) (wPreV hK hP (hD.weaken (fun _ _ _ _ => trivial)) (va_recv hK hP (ci := 6) (q0 := 0) rfl rfl)) rfl rfl hl.1 rfl (lv_room (Nat.le_of_ble_eq_true rfl)) dX8_wheelOf_61 ⟨Nat.le_of_ble_eq_true rfl, Nat.le_of_ble_eq_true rfl⟩).run) (fun r hw => ?_)
        rw [hw]
        have hw : wh_wheelOf σ p1 p2 = 0 := by simp only [wh_wheelOf, if_pos c_1, if_pos c_2]
        exact W.lret (v := mbt ((σ.1 3) p1.toNatClampNeg) 0 (aPo p1.toNatClampNeg)) hx hb hr (fun t ht hW => ⟨⟨_, (mW m0 a y 0 ((σ.1 3) p1.toNatClampNeg) (σ.1 2 0) (σ.1 2 1) (σ.1 2 2) (σ.1 2 3) (σ.1 2 4) 0 (aPo p1.toNatClampNeg) (σ.1 1) (σ.1 3) aTo aPo (σ.1 4) aRw aRr (σ.1 5) (σ.1 6) (σ.1 7) aWs aRs (σ.1 8) (σ.1 9) (σ.1 10) (σ.1 11) (σ.1 12)), rfl, ⟨by rw [an_wheelOf, if_pos hw]; rw [if_pos c_3]; exact rep_bits (isKR w1.1) (okBR w1.1 w1.2.2.2.1) (repR w1.1 e1.2), (σ.1 3) p1.toNatClampNeg, 0, aPo p1.toNatClampNeg, aTo, aPo, aRw, aRr, aWs, aRs, by rw [nw_wheelOf, if_pos hw]; rfl, by rw [nw_wheelOf, if_pos hw]; exact hM⟩, by rw [ht]; exact hP, va_K.moved hW.alike hK, hD⟩, hS.F ht⟩) hS.2.2 dX8_wheelOf_64
    · replace c_2 := bI_eq c_2
      refine lv_aload_n hx hb dX8_wheelOf_22 rfl (lv_at hl 0 rfl) ?_
      refine lv_bipush (v := (-2)) hx hb dX8_wheelOf_23 (by decide) ?_
      refine va_put (D := Dg) (ci := 6) (v := .int (-2)) (ty := .int) (C := RX8) (T := TX8) (N := 26) hx hb hts in_X8_wheelOf tyX8 tyX8_ok nmX8 hown hK hP hD hS 0 rfl rfl 0 (by decide) (hts (.fieldLink RX8 64 "OrreryWorksModel" "refused" "I") (by decide +kernel)) (fun _ h9 => h9) rfl (by decide +kernel) rfl rfl (Nat.le_of_ble_eq_true rfl) dX8_wheelOf_25 (fun H locs hP hD hS => ?_)
      have hP : va_P Dg vwCl (mW m0 a y (-2) kd (σ.1 2 0) (σ.1 2 1) (σ.1 2 2) (σ.1 2 3) (σ.1 2 4) wh re (σ.1 1) (σ.1 3) aTo aPo (σ.1 4) aRw aRr (σ.1 5) (σ.1 6) (σ.1 7) aWs aRs (σ.1 8) (σ.1 9) (σ.1 10) (σ.1 11) (σ.1 12)) H := hP
      have hD : va_D A (mW m0 a y (-2) kd (σ.1 2 0) (σ.1 2 1) (σ.1 2 2) (σ.1 2 3) (σ.1 2 4) wh re (σ.1 1) (σ.1 3) aTo aPo (σ.1 4) aRw aRr (σ.1 5) (σ.1 6) (σ.1 7) aWs aRs (σ.1 8) (σ.1 9) (σ.1 10) (σ.1 11) (σ.1 12)) := hD
      refine lv_lconst (v := 0) hx hb dX8_wheelOf_28 (by decide) ?_
      have hw : wh_wheelOf σ p1 p2 = (-2) := by simp only [wh_wheelOf, if_pos c_1, if_neg c_2]
      have hn : ¬ wh_wheelOf σ p1 p2 = 0 := by rw [hw]; decide
      exact W.lret (v := 0) hx hb hr (fun t ht hW => ⟨⟨_, (mW m0 a y (-2) kd (σ.1 2 0) (σ.1 2 1) (σ.1 2 2) (σ.1 2 3) (σ.1 2 4) wh re (σ.1 1) (σ.1 3) aTo aPo (σ.1 4) aRw aRr (σ.1 5) (σ.1 6) (σ.1 7) aWs aRs (σ.1 8) (σ.1 9) (σ.1 10) (σ.1 11) (σ.1 12)), rfl, ⟨by rw [an_wheelOf, if_neg hn]; try rfl, kd, wh, re, aTo, aPo, aRw, aRr, aWs, aRs, by rw [nw_wheelOf, if_neg hn, hw]; simp only [mG, rf, rfO2]; rfl, by rw [nw_wheelOf, if_neg hn]; exact hM⟩, by rw [ht]; exact hP, va_K.moved hW.alike hK, hD⟩, hS.F ht⟩) hS.2.2 dX8_wheelOf_29

theorem in_X8_register : ∀ w ∈ wsX80, w ∈ wsX8_register := fun w h => List.mem_cons_of_mem _ (List.mem_append_right _ h)
set_option maxHeartbeats 8000000 in
set_option maxRecDepth 100000 in
theorem met_X8_register (l : Launch) (Dg : va_G) (m0 z : Nat) (a : Nat → Nat) (y : Nat → ClassId) (σ : St) (kd : Int32) (wh : Int64) (re : UInt64) (aTo aPo : Nat → UInt64) (aRw : Nat → Int64) (aRr : Nat → UInt64) (aWs : Nat → Int64) (aRs : Nat → UInt64) (p1 : Int32) (hV : vOK σ) (hM : mC σ aTo aPo aRw aRr aWs aRs)  : Met l yX8_register wsX8_register ({ frames := 2, cells := 0, slots := 0, locals := 42 }) (va_Pc [.ref m0, .int p1] (wB Dg (mT y) (mW m0 a y (σ.1 0 0) kd (σ.1 2 0) (σ.1 2 1) (σ.1 2 2) (σ.1 2 3) (σ.1 2 4) wh re (σ.1 1) (σ.1 3) aTo aPo (σ.1 4) aRw aRr (σ.1 5) (σ.1 6) (σ.1 7) aWs aRs (σ.1 8) (σ.1 9) (σ.1 10) (σ.1 11) (σ.1 12)) z)) (va_Qi (fun (r : Int32) (u : va_W) => r = an_register σ p1 ∧ MI m0 a y (nw_register σ p1) u) (wE Dg (mT y) (va_A (mW m0 a y (σ.1 0 0) kd (σ.1 2 0) (σ.1 2 1) (σ.1 2 2) (σ.1 2 3) (σ.1 2 4) wh re (σ.1 1) (σ.1 3) aTo aPo (σ.1 4) aRw aRr (σ.1 5) (σ.1 6) (σ.1 7) aWs aRs (σ.1 8) (σ.1 9) (σ.1 10) (σ.1 11) (σ.1 12)) z)) (va_A (mW m0 a y (σ.1 0 0) kd (σ.1 2 0) (σ.1 2 1) (σ.1 2 2) (σ.1 2 3) (σ.1 2 4) wh re (σ.1 1) (σ.1 3) aTo aPo (σ.1 4) aRw aRr (σ.1 5) (σ.1 6) (σ.1 7) aWs aRs (σ.1 8) (σ.1 9) (σ.1 10) (σ.1 11) (σ.1 12)) z)) 0 0 (va_A (mW m0 a y (σ.1 0 0) kd (σ.1 2 0) (σ.1 2 1) (σ.1 2 2) (σ.1 2 3) (σ.1 2 4) wh re (σ.1 1) (σ.1 3) aTo aPo (σ.1 4) aRw aRr (σ.1 5) (σ.1 6) (σ.1 7) aWs aRs (σ.1 8) (σ.1 9) (σ.1 10) (σ.1 11) (σ.1 12)) z) := by
  refine Met.ofW (cc := cX8_register) (maxL := 2) (ret := (some .int)) (by decide) rfl ?_
  intro p e s m args below meth c s₁ B hml hv
  obtain ⟨rfl, hsz, hP, hK, hD0⟩ := hv
  have hx := B.exec
  have hb := B.bytes
  have hr := B.returns
  have hts := atoms_spec (ws := wsX8_register) B.pre
  have hown : s.vm.findClass RX8 = some m.cls := findClass_of_methodNamed B.named
  have hlocks := B.notSynchronized
  subst hsz
  have hD := hD0.self (sz := s.heap.size)
  generalize hAe : va_A (mW m0 a y (σ.1 0 0) kd (σ.1 2 0) (σ.1 2 1) (σ.1 2 2) (σ.1 2 3) (σ.1 2 4) wh re (σ.1 1) (σ.1 3) aTo aPo (σ.1 4) aRw aRr (σ.1 5) (σ.1 6) (σ.1 7) aWs aRs (σ.1 8) (σ.1 9) (σ.1 10) (σ.1 11) (σ.1 12)) s.heap.size = A at hD ⊢
  have hA : ∀ q : Nat, s.heap.size ≤ q → A q := fun q h => by rw [← hAe]; exact Or.inr h
  have hS : va_S A s.heap s.heap [] := va_S.rf
  have hP : va_P Dg vwCl (mW m0 a y (σ.1 0 0) kd (σ.1 2 0) (σ.1 2 1) (σ.1 2 2) (σ.1 2 3) (σ.1 2 4) wh re (σ.1 1) (σ.1 3) aTo aPo (σ.1 4) aRw aRr (σ.1 5) (σ.1 6) (σ.1 7) aWs aRs (σ.1 8) (σ.1 9) (σ.1 10) (σ.1 11) (σ.1 12)) s.heap := hP
  have hl := lv_entry ([.ref m0, .int p1]) (n := 2) (Nat.le_of_ble_eq_true rfl)
  rw [lg_entry_eq]
  generalize (lg_sl ([.ref m0, .int p1]) ++ List.replicate (2 - (lg_sl ([.ref m0, .int p1])).length) Slot.unset).toArray = ls at hl ⊢
  have hl : lv_has ls 2 [(0, .ref m0), (1, .int p1)] := hl
  refine lv_aload_n hx hb dX8_register_0 rfl (lv_at hl 0 rfl) ?_
  refine lv_iconst (v := 0) hx hb dX8_register_1 (by decide) ?_
  refine va_put (D := Dg) (ci := 6) (v := .int 0) (ty := .int) (C := RX8) (T := TX8) (N := 26) hx hb hts in_X8_register tyX8 tyX8_ok nmX8 hown hK hP hD hS 0 rfl rfl 0 (by decide) (hts (.fieldLink RX8 64 "OrreryWorksModel" "refused" "I") (by decide +kernel)) (fun _ h9 => h9) rfl (by decide +kernel) rfl rfl (Nat.le_of_ble_eq_true rfl) dX8_register_2 (fun H locs hP hD hS => ?_)
  have hP : va_P Dg vwCl (mW m0 a y 0 kd (σ.1 2 0) (σ.1 2 1) (σ.1 2 2) (σ.1 2 3) (σ.1 2 4) wh re (σ.1 1) (σ.1 3) aTo aPo (σ.1 4) aRw aRr (σ.1 5) (σ.1 6) (σ.1 7) aWs aRs (σ.1 8) (σ.1 9) (σ.1 10) (σ.1 11) (σ.1 12)) H := hP
  have hD : va_D A (mW m0 a y 0 kd (σ.1 2 0) (σ.1 2 1) (σ.1 2 2) (σ.1 2 3) (σ.1 2 4) wh re (σ.1 1) (σ.1 3) aTo aPo (σ.1 4) aRw aRr (σ.1 5) (σ.1 6) (σ.1 7) aWs aRs (σ.1 8) (σ.1 9) (σ.1 10) (σ.1 11) (σ.1 12)) := hD
  refine lv_iload_n hx hb dX8_register_5 rfl (lv_at hl 1 rfl) ?_
  refine vp_callSi ((va_runS (As := [.int p1]) (rest := []) ⟨hx, hb, hml, hown, hts⟩ (met_X8_isKind l p1) (va_cwS 1 hts gX8_register_X8_isKind rfl rfl rfl (by decide +kernel) ⟨Nat.le_of_ble_eq_true rfl, Nat.le_of_ble_eq_true rfl⟩) ⟨fun _ _ _ _ q => q, fun U hU hW => ⟨rfl, trivial⟩⟩ rfl rfl hl.1 rfl (lv_room (Nat.le_of_ble_eq_true rfl)) dX8_register_6 ⟨Nat.le_of_ble_eq_true rfl, Nat.le_of_ble_eq_true rfl⟩).run) (fun r hw => ?_)
  subst hw
  refine lv_if_ne (tgt := 19) hx hb dX8_register_9 (by decide) (fun c_1 => ?_) (fun c_1 => ?_)
  · replace c_1 := bI_ne c_1
    refine lv_aload_n hx hb dX8_register_19 rfl (lv_at hl 0 rfl) ?_
    refine va_get (D := Dg) (ci := 6) (v := .int (σ.1 2 1)) (C := RX8) (T := TX8) (N := 26) hx hb hts in_X8_register hown hK hP 0 rfl rfl 9 (by decide) (hts (.fieldLink RX8 144 "OrreryWorksModel" "registers" "I") (by decide +kernel)) (fun _ h9 => h9) rfl dX8_register_20 ?_
    refine lv_bipush (v := 16) hx hb dX8_register_23 (by decide) ?_
    refine lv_icmp_ne (tgt := 35) hx hb dX8_register_25 (by decide) (fun c_2 => ?_) (fun c_2 => ?_)
    · refine lv_aload_n hx hb dX8_register_35 rfl (lv_at hl 0 rfl) ?_
      refine va_get (D := Dg) (ci := 6) (v := .ref (a 4)) (C := RX8) (T := TX8) (N := 26) hx hb hts in_X8_register hown hK hP 0 rfl rfl 10 (by decide) (hts (.fieldLink RX8 23 "OrreryWorksModel" "regKind" "[I") (by decide +kernel)) (fun _ h9 => h9) rfl dX8_register_36 ?_
      refine lv_aload_n hx hb dX8_register_39 rfl (lv_at hl 0 rfl) ?_
      refine va_get (D := Dg) (ci := 6) (v := .int (σ.1 2 1)) (C := RX8) (T := TX8) (N := 26) hx hb hts in_X8_register hown hK hP 0 rfl rfl 9 (by decide) (hts (.fieldLink RX8 144 "OrreryWorksModel" "registers" "I") (by decide +kernel)) (fun _ h9 => h9) rfl dX8_register_40 ?_
      refine lv_iload_n hx hb dX8_register_43 rfl (lv_at hl 1 rfl) ?_
      refine va_iast hx hb hK hP hD hS 5 4 rfl rfl (top_in hV.1.2.1 (m := 16) rfl c_2) dX8_register_44 (fun H locs hP hD hS => ?_)
      have hP : va_P Dg vwCl (mW m0 a y 0 kd (σ.1 2 0) (σ.1 2 1) (σ.1 2 2) (σ.1 2 3) (σ.1 2 4) wh re (σ.1 1) (σ.1 3) aTo aPo (upd (σ.1 4) (σ.1 2 1).toNatClampNeg p1) aRw aRr (σ.1 5) (σ.1 6) (σ.1 7) aWs aRs (σ.1 8) (σ.1 9) (σ.1 10) (σ.1 11) (σ.1 12)) H := hP
      have hD : va_D A (mW m0 a y 0 kd (σ.1 2 0) (σ.1 2 1) (σ.1 2 2) (σ.1 2 3) (σ.1 2 4) wh re (σ.1 1) (σ.1 3) aTo aPo (upd (σ.1 4) (σ.1 2 1).toNatClampNeg p1) aRw aRr (σ.1 5) (σ.1 6) (σ.1 7) aWs aRs (σ.1 8) (σ.1 9) (σ.1 10) (σ.1 11) (σ.1 12)) := hD
      refine lv_aload_n hx hb dX8_register_45 rfl (lv_at hl 0 rfl) ?_
      refine va_get (D := Dg) (ci := 6) (v := .ref (a 5)) (C := RX8) (T := TX8) (N := 26) hx hb hts in_X8_register hown hK hP 0 rfl rfl 11 (by decide) (hts (.fieldLink RX8 26 "OrreryWorksModel" "regWhole" "[J") (by decide +kernel)) (fun _ h9 => h9) rfl dX8_register_46 ?_
      refine lv_aload_n hx hb dX8_register_49 rfl (lv_at hl 0 rfl) ?_
      refine va_get (D := Dg) (ci := 6) (v := .int (σ.1 2 1)) (C := RX8) (T := TX8) (N := 26) hx hb hts in_X8_register hown hK hP 0 rfl rfl 9 (by decide) (hts (.fieldLink RX8 144 "OrreryWorksModel" "registers" "I") (by decide +kernel)) (fun _ h9 => h9) rfl dX8_register_50 ?_
      refine lv_lconst (v := 0) hx hb dX8_register_53 (by decide) ?_
      refine va_last hx hb hK hP hD hS 6 5 rfl rfl (top_in hV.1.2.1 (m := 16) rfl c_2) dX8_register_54 (fun H locs hP hD hS => ?_)
      have hP : va_P Dg vwCl (mW m0 a y 0 kd (σ.1 2 0) (σ.1 2 1) (σ.1 2 2) (σ.1 2 3) (σ.1 2 4) wh re (σ.1 1) (σ.1 3) aTo aPo (upd (σ.1 4) (σ.1 2 1).toNatClampNeg p1) (vp_updL aRw (σ.1 2 1).toNatClampNeg 0) aRr (σ.1 5) (σ.1 6) (σ.1 7) aWs aRs (σ.1 8) (σ.1 9) (σ.1 10) (σ.1 11) (σ.1 12)) H := hP
      have hD : va_D A (mW m0 a y 0 kd (σ.1 2 0) (σ.1 2 1) (σ.1 2 2) (σ.1 2 3) (σ.1 2 4) wh re (σ.1 1) (σ.1 3) aTo aPo (upd (σ.1 4) (σ.1 2 1).toNatClampNeg p1) (vp_updL aRw (σ.1 2 1).toNatClampNeg 0) aRr (σ.1 5) (σ.1 6) (σ.1 7) aWs aRs (σ.1 8) (σ.1 9) (σ.1 10) (σ.1 11) (σ.1 12)) := hD
      refine lv_aload_n hx hb dX8_register_55 rfl (lv_at hl 0 rfl) ?_
      refine va_get (D := Dg) (ci := 6) (v := .ref (a 6)) (C := RX8) (T := TX8) (N := 26) hx hb hts in_X8_register hown hK hP 0 rfl rfl 12 (by decide) (hts (.fieldLink RX8 30 "OrreryWorksModel" "regReal" "[D") (by decide +kernel)) (fun _ h9 => h9) rfl dX8_register_56 ?_
      refine lv_aload_n hx hb dX8_register_59 rfl (lv_at hl 0 rfl) ?_
      refine va_get (D := Dg) (ci := 6) (v := .int (σ.1 2 1)) (C := RX8) (T := TX8) (N := 26) hx hb hts in_X8_register hown hK hP 0 rfl rfl 9 (by decide) (hts (.fieldLink RX8 144 "OrreryWorksModel" "registers" "I") (by decide +kernel)) (fun _ h9 => h9) rfl dX8_register_60 ?_
      refine lv_dconst0 hx hb dX8_register_63 ?_
      refine va_dast hx hb hK hP hD hS 7 6 rfl rfl (top_in hV.1.2.1 (m := 16) rfl c_2) dX8_register_64 (fun H locs hP hD hS => ?_)
      have hP : va_P Dg vwCl (mW m0 a y 0 kd (σ.1 2 0) (σ.1 2 1) (σ.1 2 2) (σ.1 2 3) (σ.1 2 4) wh re (σ.1 1) (σ.1 3) aTo aPo (upd (σ.1 4) (σ.1 2 1).toNatClampNeg p1) (vp_updL aRw (σ.1 2 1).toNatClampNeg 0) (vf_upd aRr (σ.1 2 1).toNatClampNeg FP.dconst0) (σ.1 5) (σ.1 6) (σ.1 7) aWs aRs (σ.1 8) (σ.1 9) (σ.1 10) (σ.1 11) (σ.1 12)) H := hP
      have hD : va_D A (mW m0 a y 0 kd (σ.1 2 0) (σ.1 2 1) (σ.1 2 2) (σ.1 2 3) (σ.1 2 4) wh re (σ.1 1) (σ.1 3) aTo aPo (upd (σ.1 4) (σ.1 2 1).toNatClampNeg p1) (vp_updL aRw (σ.1 2 1).toNatClampNeg 0) (vf_upd aRr (σ.1 2 1).toNatClampNeg FP.dconst0) (σ.1 5) (σ.1 6) (σ.1 7) aWs aRs (σ.1 8) (σ.1 9) (σ.1 10) (σ.1 11) (σ.1 12)) := hD
      refine lv_aload_n hx hb dX8_register_65 rfl (lv_at hl 0 rfl) ?_
      refine lv_dup hx hb dX8_register_66 rfl ?_
      refine va_get (D := Dg) (ci := 6) (v := .int (σ.1 2 1)) (C := RX8) (T := TX8) (N := 26) hx hb hts in_X8_register hown hK hP 0 rfl rfl 9 (by decide) (hts (.fieldLink RX8 144 "OrreryWorksModel" "registers" "I") (by decide +kernel)) (fun _ h9 => h9) rfl dX8_register_67 ?_
      refine lv_iconst (v := 1) hx hb dX8_register_70 (by decide) ?_
      refine lv_iadd hx hb dX8_register_71 ?_
      refine va_put (D := Dg) (ci := 6) (v := .int ((σ.1 2 1) + 1)) (ty := .int) (C := RX8) (T := TX8) (N := 26) hx hb hts in_X8_register tyX8 tyX8_ok nmX8 hown hK hP hD hS 0 rfl rfl 9 (by decide) (hts (.fieldLink RX8 144 "OrreryWorksModel" "registers" "I") (by decide +kernel)) (fun _ h9 => h9) rfl (by decide +kernel) rfl rfl (Nat.le_of_ble_eq_true rfl) dX8_register_72 (fun H locs hP hD hS => ?_)
      have hP : va_P Dg vwCl (mW m0 a y 0 kd (σ.1 2 0) ((σ.1 2 1) + 1) (σ.1 2 2) (σ.1 2 3) (σ.1 2 4) wh re (σ.1 1) (σ.1 3) aTo aPo (upd (σ.1 4) (σ.1 2 1).toNatClampNeg p1) (vp_updL aRw (σ.1 2 1).toNatClampNeg 0) (vf_upd aRr (σ.1 2 1).toNatClampNeg FP.dconst0) (σ.1 5) (σ.1 6) (σ.1 7) aWs aRs (σ.1 8) (σ.1 9) (σ.1 10) (σ.1 11) (σ.1 12)) H := hP
      have hD : va_D A (mW m0 a y 0 kd (σ.1 2 0) ((σ.1 2 1) + 1) (σ.1 2 2) (σ.1 2 3) (σ.1 2 4) wh re (σ.1 1) (σ.1 3) aTo aPo (upd (σ.1 4) (σ.1 2 1).toNatClampNeg p1) (vp_updL aRw (σ.1 2 1).toNatClampNeg 0) (vf_upd aRr (σ.1 2 1).toNatClampNeg FP.dconst0) (σ.1 5) (σ.1 6) (σ.1 7) aWs aRs (σ.1 8) (σ.1 9) (σ.1 10) (σ.1 11) (σ.1 12)) := hD
      refine lv_aload_n hx hb dX8_register_75 rfl (lv_at hl 0 rfl) ?_
      refine va_get (D := Dg) (ci := 6) (v := .int ((σ.1 2 1) + 1)) (C := RX8) (T := TX8) (N := 26) hx hb hts in_X8_register hown hK hP 0 rfl rfl 9 (by decide) (hts (.fieldLink RX8 144 "OrreryWorksModel" "registers" "I") (by decide +kernel)) (fun _ h9 => h9) rfl dX8_register_76 ?_
      refine lv_iconst (v := 1) hx hb dX8_register_79 (by decide) ?_
      refine lv_isub hx hb dX8_register_80 ?_
      have hw : wh_register σ p1 = 0 := by simp only [wh_register, if_pos c_1, if_neg c_2]
      exact W.iret (v := ((σ.1 2 1) + 1) - 1) hx hb hr (fun t ht hW => ⟨⟨_, (mW m0 a y 0 kd (σ.1 2 0) ((σ.1 2 1) + 1) (σ.1 2 2) (σ.1 2 3) (σ.1 2 4) wh re (σ.1 1) (σ.1 3) aTo aPo (upd (σ.1 4) (σ.1 2 1).toNatClampNeg p1) (vp_updL aRw (σ.1 2 1).toNatClampNeg 0) (vf_upd aRr (σ.1 2 1).toNatClampNeg FP.dconst0) (σ.1 5) (σ.1 6) (σ.1 7) aWs aRs (σ.1 8) (σ.1 9) (σ.1 10) (σ.1 11) (σ.1 12)), rfl, ⟨by rw [an_register, if_pos hw]; exact inc_dec, kd, wh, re, aTo, aPo, vp_updL aRw (σ.1 2 1).toNatClampNeg 0, vf_upd aRr (σ.1 2 1).toNatClampNeg FP.dconst0, aWs, aRs, by rw [nw_register, if_pos hw]; rfl, by rw [nw_register, if_pos hw]; exact mC_reg hV hM⟩, by rw [ht]; exact hP, va_K.moved hW.alike hK, hD⟩, hS.F ht⟩) hS.2.2 dX8_register_81
    · refine lv_aload_n hx hb dX8_register_28 rfl (lv_at hl 0 rfl) ?_
      refine lv_bipush (v := (-3)) hx hb dX8_register_29 (by decide) ?_
      have hFc := wFree hD hS hA
      refine va_calli (va_runV (As := [.int (-3)]) (rest := []) ⟨hx, hb, hml, hown, hts⟩ (met_X8_refuse l Dg m0 H.size a y 0 kd (σ.1 2 0) (σ.1 2 1) (σ.1 2 2) (σ.1 2 3) (σ.1 2 4) wh re (σ.1 1) (σ.1 3) aTo aPo (σ.1 4) aRw aRr (σ.1 5) (σ.1 6) (σ.1 7) aWs aRs (σ.1 8) (σ.1 9) (σ.1 10) (σ.1 11) (σ.1 12) (-3) (by unfold vp_in; decide)) (cwV 1 hts gX8_register_X8_refuse rfl rfl rfl (by decide +kernel) ⟨Nat.le_of_ble_eq_true rfl, Nat.le_of_ble_eq_true rfl⟩) (wPreV hK hP (hD.weaken (fun _ _ _ _ => trivial)) (va_recv hK hP (ci := 6) (q0 := 0) rfl rfl)) rfl rfl hl.1 rfl (lv_room (Nat.le_of_ble_eq_true rfl)) dX8_register_31 ⟨Nat.le_of_ble_eq_true rfl, Nat.le_of_ble_eq_true rfl⟩) hS (fun q _ h => hFc q h) hFc (fun r u t H locs ht hvm hw hB _ _ hS => ?_)
      obtain ⟨hP, -, hD⟩ := hB
      rw [ht] at hP
      replace hD := hD.weaken (fun _ q _ h => hFc q.1 h)
      rw [hw.2] at hP hD
      rw [hw.1]
      clear hw hFc
      have hP : va_P Dg vwCl (mW m0 a y (-3) kd (σ.1 2 0) (σ.1 2 1) (σ.1 2 2) (σ.1 2 3) (σ.1 2 4) wh re (rfO (-3) (σ.1 1)) (σ.1 3) aTo aPo (σ.1 4) aRw aRr (σ.1 5) (σ.1 6) (σ.1 7) aWs aRs (σ.1 8) (σ.1 9) (σ.1 10) (σ.1 11) (σ.1 12)) H := hP
      have hD : va_D A (mW m0 a y (-3) kd (σ.1 2 0) (σ.1 2 1) (σ.1 2 2) (σ.1 2 3) (σ.1 2 4) wh re (rfO (-3) (σ.1 1)) (σ.1 3) aTo aPo (σ.1 4) aRw aRr (σ.1 5) (σ.1 6) (σ.1 7) aWs aRs (σ.1 8) (σ.1 9) (σ.1 10) (σ.1 11) (σ.1 12)) := hD
      have hw : wh_register σ p1 = (-3) := by simp only [wh_register, if_pos c_1, if_pos c_2]
      have hn : ¬ wh_register σ p1 = 0 := by rw [hw]; decide
      exact W.iret (v := (-3)) hx hb hr (fun t ht hW => ⟨⟨_, (mW m0 a y (-3) kd (σ.1 2 0) (σ.1 2 1) (σ.1 2 2) (σ.1 2 3) (σ.1 2 4) wh re (rfO (-3) (σ.1 1)) (σ.1 3) aTo aPo (σ.1 4) aRw aRr (σ.1 5) (σ.1 6) (σ.1 7) aWs aRs (σ.1 8) (σ.1 9) (σ.1 10) (σ.1 11) (σ.1 12)), rfl, ⟨by rw [an_register, if_neg hn, hw]; try rfl, kd, wh, re, aTo, aPo, aRw, aRr, aWs, aRs, by rw [nw_register, if_neg hn, hw]; rfl, by rw [nw_register, if_neg hn]; exact hM⟩, by rw [ht]; exact hP, va_K.moved hW.alike hK, hD⟩, hS.F ht⟩) hS.2.2 dX8_register_34
  · replace c_1 := bI_eq c_1
    refine lv_aload_n hx hb dX8_register_12 rfl (lv_at hl 0 rfl) ?_
    refine lv_bipush (v := (-2)) hx hb dX8_register_13 (by decide) ?_
    have hFc := wFree hD hS hA
    refine va_calli (va_runV (As := [.int (-2)]) (rest := []) ⟨hx, hb, hml, hown, hts⟩ (met_X8_refuse l Dg m0 H.size a y 0 kd (σ.1 2 0) (σ.1 2 1) (σ.1 2 2) (σ.1 2 3) (σ.1 2 4) wh re (σ.1 1) (σ.1 3) aTo aPo (σ.1 4) aRw aRr (σ.1 5) (σ.1 6) (σ.1 7) aWs aRs (σ.1 8) (σ.1 9) (σ.1 10) (σ.1 11) (σ.1 12) (-2) (by unfold vp_in; decide)) (cwV 1 hts gX8_register_X8_refuse rfl rfl rfl (by decide +kernel) ⟨Nat.le_of_ble_eq_true rfl, Nat.le_of_ble_eq_true rfl⟩) (wPreV hK hP (hD.weaken (fun _ _ _ _ => trivial)) (va_recv hK hP (ci := 6) (q0 := 0) rfl rfl)) rfl rfl hl.1 rfl (lv_room (Nat.le_of_ble_eq_true rfl)) dX8_register_15 ⟨Nat.le_of_ble_eq_true rfl, Nat.le_of_ble_eq_true rfl⟩) hS (fun q _ h => hFc q h) hFc (fun r u t H locs ht hvm hw hB _ _ hS => ?_)
    obtain ⟨hP, -, hD⟩ := hB
    rw [ht] at hP
    replace hD := hD.weaken (fun _ q _ h => hFc q.1 h)
    rw [hw.2] at hP hD
    rw [hw.1]
    clear hw hFc
    have hP : va_P Dg vwCl (mW m0 a y (-2) kd (σ.1 2 0) (σ.1 2 1) (σ.1 2 2) (σ.1 2 3) (σ.1 2 4) wh re (rfO (-2) (σ.1 1)) (σ.1 3) aTo aPo (σ.1 4) aRw aRr (σ.1 5) (σ.1 6) (σ.1 7) aWs aRs (σ.1 8) (σ.1 9) (σ.1 10) (σ.1 11) (σ.1 12)) H := hP
    have hD : va_D A (mW m0 a y (-2) kd (σ.1 2 0) (σ.1 2 1) (σ.1 2 2) (σ.1 2 3) (σ.1 2 4) wh re (rfO (-2) (σ.1 1)) (σ.1 3) aTo aPo (σ.1 4) aRw aRr (σ.1 5) (σ.1 6) (σ.1 7) aWs aRs (σ.1 8) (σ.1 9) (σ.1 10) (σ.1 11) (σ.1 12)) := hD
    have hw : wh_register σ p1 = (-2) := by simp only [wh_register, if_neg c_1]
    have hn : ¬ wh_register σ p1 = 0 := by rw [hw]; decide
    exact W.iret (v := (-2)) hx hb hr (fun t ht hW => ⟨⟨_, (mW m0 a y (-2) kd (σ.1 2 0) (σ.1 2 1) (σ.1 2 2) (σ.1 2 3) (σ.1 2 4) wh re (rfO (-2) (σ.1 1)) (σ.1 3) aTo aPo (σ.1 4) aRw aRr (σ.1 5) (σ.1 6) (σ.1 7) aWs aRs (σ.1 8) (σ.1 9) (σ.1 10) (σ.1 11) (σ.1 12)), rfl, ⟨by rw [an_register, if_neg hn, hw]; try rfl, kd, wh, re, aTo, aPo, aRw, aRr, aWs, aRs, by rw [nw_register, if_neg hn, hw]; rfl, by rw [nw_register, if_neg hn]; exact hM⟩, by rw [ht]; exact hP, va_K.moved hW.alike hK, hD⟩, hS.F ht⟩) hS.2.2 dX8_register_18

theorem in_X8_read : ∀ w ∈ wsX80, w ∈ wsX8_read := fun w h => List.mem_cons_of_mem _ (List.mem_append_right _ h)
set_option maxHeartbeats 8000000 in
set_option maxRecDepth 100000 in
theorem met_X8_read (l : Launch) (Dg : va_G) (m0 z : Nat) (a : Nat → Nat) (y : Nat → ClassId) (σ : St) (kd : Int32) (wh : Int64) (re : UInt64) (aTo aPo : Nat → UInt64) (aRw : Nat → Int64) (aRr : Nat → UInt64) (aWs : Nat → Int64) (aRs : Nat → UInt64) (p1 : Int32) (p2 : Int32) (hV : vOK σ) (hM : mC σ aTo aPo aRw aRr aWs aRs)  : Met l yX8_read wsX8_read ({ frames := 3, cells := 0, slots := 0, locals := 62 }) (va_Pc [.ref m0, .int p1, .int p2] (wB Dg (mT y) (mW m0 a y (σ.1 0 0) kd (σ.1 2 0) (σ.1 2 1) (σ.1 2 2) (σ.1 2 3) (σ.1 2 4) wh re (σ.1 1) (σ.1 3) aTo aPo (σ.1 4) aRw aRr (σ.1 5) (σ.1 6) (σ.1 7) aWs aRs (σ.1 8) (σ.1 9) (σ.1 10) (σ.1 11) (σ.1 12)) z)) (va_Ql (fun (r : Int64) (u : va_W) => r = an_read σ p1 p2 ∧ MI m0 a y (nw_read σ p1 p2) u) (wE Dg (mT y) (va_A (mW m0 a y (σ.1 0 0) kd (σ.1 2 0) (σ.1 2 1) (σ.1 2 2) (σ.1 2 3) (σ.1 2 4) wh re (σ.1 1) (σ.1 3) aTo aPo (σ.1 4) aRw aRr (σ.1 5) (σ.1 6) (σ.1 7) aWs aRs (σ.1 8) (σ.1 9) (σ.1 10) (σ.1 11) (σ.1 12)) z)) (va_A (mW m0 a y (σ.1 0 0) kd (σ.1 2 0) (σ.1 2 1) (σ.1 2 2) (σ.1 2 3) (σ.1 2 4) wh re (σ.1 1) (σ.1 3) aTo aPo (σ.1 4) aRw aRr (σ.1 5) (σ.1 6) (σ.1 7) aWs aRs (σ.1 8) (σ.1 9) (σ.1 10) (σ.1 11) (σ.1 12)) z)) 0 0 (va_A (mW m0 a y (σ.1 0 0) kd (σ.1 2 0) (σ.1 2 1) (σ.1 2 2) (σ.1 2 3) (σ.1 2 4) wh re (σ.1 1) (σ.1 3) aTo aPo (σ.1 4) aRw aRr (σ.1 5) (σ.1 6) (σ.1 7) aWs aRs (σ.1 8) (σ.1 9) (σ.1 10) (σ.1 11) (σ.1 12)) z) := by
  refine Met.ofW (cc := cX8_read) (maxL := 3) (ret := (some .long)) (by decide) rfl ?_
  intro p e s m args below meth c s₁ B hml hv
  obtain ⟨rfl, hsz, hP, hK, hD0⟩ := hv
  have hx := B.exec
  have hb := B.bytes
  have hr := B.returns
  have hts := atoms_spec (ws := wsX8_read) B.pre
  have hown : s.vm.findClass RX8 = some m.cls := findClass_of_methodNamed B.named
  have hlocks := B.notSynchronized
  subst hsz
  have hD := hD0.self (sz := s.heap.size)
  generalize hAe : va_A (mW m0 a y (σ.1 0 0) kd (σ.1 2 0) (σ.1 2 1) (σ.1 2 2) (σ.1 2 3) (σ.1 2 4) wh re (σ.1 1) (σ.1 3) aTo aPo (σ.1 4) aRw aRr (σ.1 5) (σ.1 6) (σ.1 7) aWs aRs (σ.1 8) (σ.1 9) (σ.1 10) (σ.1 11) (σ.1 12)) s.heap.size = A at hD ⊢
  have hA : ∀ q : Nat, s.heap.size ≤ q → A q := fun q h => by rw [← hAe]; exact Or.inr h
  have hS : va_S A s.heap s.heap [] := va_S.rf
  have hP : va_P Dg vwCl (mW m0 a y (σ.1 0 0) kd (σ.1 2 0) (σ.1 2 1) (σ.1 2 2) (σ.1 2 3) (σ.1 2 4) wh re (σ.1 1) (σ.1 3) aTo aPo (σ.1 4) aRw aRr (σ.1 5) (σ.1 6) (σ.1 7) aWs aRs (σ.1 8) (σ.1 9) (σ.1 10) (σ.1 11) (σ.1 12)) s.heap := hP
  have hl := lv_entry ([.ref m0, .int p1, .int p2]) (n := 3) (Nat.le_of_ble_eq_true rfl)
  rw [lg_entry_eq]
  generalize (lg_sl ([.ref m0, .int p1, .int p2]) ++ List.replicate (3 - (lg_sl ([.ref m0, .int p1, .int p2])).length) Slot.unset).toArray = ls at hl ⊢
  have hl : lv_has ls 3 [(0, .ref m0), (1, .int p1), (2, .int p2)] := hl
  refine lv_aload_n hx hb dX8_read_0 rfl (lv_at hl 0 rfl) ?_
  refine lv_iconst (v := 0) hx hb dX8_read_1 (by decide) ?_
  refine va_put (D := Dg) (ci := 6) (v := .int 0) (ty := .int) (C := RX8) (T := TX8) (N := 26) hx hb hts in_X8_read tyX8 tyX8_ok nmX8 hown hK hP hD hS 0 rfl rfl 0 (by decide) (hts (.fieldLink RX8 64 "OrreryWorksModel" "refused" "I") (by decide +kernel)) (fun _ h9 => h9) rfl (by decide +kernel) rfl rfl (Nat.le_of_ble_eq_true rfl) dX8_read_2 (fun H locs hP hD hS => ?_)
  have hP : va_P Dg vwCl (mW m0 a y 0 kd (σ.1 2 0) (σ.1 2 1) (σ.1 2 2) (σ.1 2 3) (σ.1 2 4) wh re (σ.1 1) (σ.1 3) aTo aPo (σ.1 4) aRw aRr (σ.1 5) (σ.1 6) (σ.1 7) aWs aRs (σ.1 8) (σ.1 9) (σ.1 10) (σ.1 11) (σ.1 12)) H := hP
  have hD : va_D A (mW m0 a y 0 kd (σ.1 2 0) (σ.1 2 1) (σ.1 2 2) (σ.1 2 3) (σ.1 2 4) wh re (σ.1 1) (σ.1 3) aTo aPo (σ.1 4) aRw aRr (σ.1 5) (σ.1 6) (σ.1 7) aWs aRs (σ.1 8) (σ.1 9) (σ.1 10) (σ.1 11) (σ.1 12)) := hD
  refine lv_aload_n hx hb dX8_read_5 rfl (lv_at hl 0 rfl) ?_
  refine lv_iload_n hx hb dX8_read_6 rfl (lv_at hl 1 rfl) ?_
  refine vp_callSi ((va_runV (As := [.int p1]) (rest := []) ⟨hx, hb, hml, hown, hts⟩ (met_X8_isRegister l Dg m0 H.size a y 0 kd (σ.1 2 0) (σ.1 2 1) (σ.1 2 2) (σ.1 2 3) (σ.1 2 4) wh re (σ.1 1) (σ.1 3) aTo aPo (σ.1 4) aRw aRr (σ.1 5) (σ.1 6) (σ.1 7) aWs aRs (σ.1 8) (σ.1 9) (σ.1 10) (σ.1 11) (σ.1 12) p1 ) (cwV 1 hts gX8_read_X8_isRegister rfl rfl rfl (by decide +kernel) ⟨Nat.le_of_ble_eq_true rfl, Nat.le_of_ble_eq_true rfl⟩) (wPreV hK hP (hD.weaken (fun _ _ _ _ => trivial)) (va_recv hK hP (ci := 6) (q0 := 0) rfl rfl)) rfl rfl hl.1 rfl (lv_room (Nat.le_of_ble_eq_true rfl)) dX8_read_7 ⟨Nat.le_of_ble_eq_true rfl, Nat.le_of_ble_eq_true rfl⟩).run) (fun r hw => ?_)
  rw [hw]
  refine lv_if_eq (tgt := 20) hx hb dX8_read_10 (by decide) (fun c_1 => ?_) (fun c_1 => ?_)
  · replace c_1 := bI_eq c_1
    refine lv_aload_n hx hb dX8_read_20 rfl (lv_at hl 0 rfl) ?_
    refine lv_bipush (v := (-2)) hx hb dX8_read_21 (by decide) ?_
    refine va_put (D := Dg) (ci := 6) (v := .int (-2)) (ty := .int) (C := RX8) (T := TX8) (N := 26) hx hb hts in_X8_read tyX8 tyX8_ok nmX8 hown hK hP hD hS 0 rfl rfl 0 (by decide) (hts (.fieldLink RX8 64 "OrreryWorksModel" "refused" "I") (by decide +kernel)) (fun _ h9 => h9) rfl (by decide +kernel) rfl rfl (Nat.le_of_ble_eq_true rfl) dX8_read_23 (fun H locs hP hD hS => ?_)
    have hP : va_P Dg vwCl (mW m0 a y (-2) kd (σ.1 2 0) (σ.1 2 1) (σ.1 2 2) (σ.1 2 3) (σ.1 2 4) wh re (σ.1 1) (σ.1 3) aTo aPo (σ.1 4) aRw aRr (σ.1 5) (σ.1 6) (σ.1 7) aWs aRs (σ.1 8) (σ.1 9) (σ.1 10) (σ.1 11) (σ.1 12)) H := hP
    have hD : va_D A (mW m0 a y (-2) kd (σ.1 2 0) (σ.1 2 1) (σ.1 2 2) (σ.1 2 3) (σ.1 2 4) wh re (σ.1 1) (σ.1 3) aTo aPo (σ.1 4) aRw aRr (σ.1 5) (σ.1 6) (σ.1 7) aWs aRs (σ.1 8) (σ.1 9) (σ.1 10) (σ.1 11) (σ.1 12)) := hD
    refine lv_lconst (v := 0) hx hb dX8_read_26 (by decide) ?_
    have hw : wh_read σ p1 p2 = (-2) := by simp only [wh_read, if_neg c_1]
    have hn : ¬ wh_read σ p1 p2 = 0 := by rw [hw]; decide
    exact W.lret (v := 0) hx hb hr (fun t ht hW => ⟨⟨_, (mW m0 a y (-2) kd (σ.1 2 0) (σ.1 2 1) (σ.1 2 2) (σ.1 2 3) (σ.1 2 4) wh re (σ.1 1) (σ.1 3) aTo aPo (σ.1 4) aRw aRr (σ.1 5) (σ.1 6) (σ.1 7) aWs aRs (σ.1 8) (σ.1 9) (σ.1 10) (σ.1 11) (σ.1 12)), rfl, ⟨by rw [an_read, if_neg hn]; try rfl, kd, wh, re, aTo, aPo, aRw, aRr, aWs, aRs, by rw [nw_read, if_neg hn, hw]; simp only [mG, rf, rfO2]; rfl, by rw [nw_read, if_neg hn]; exact hM⟩, by rw [ht]; exact hP, va_K.moved hW.alike hK, hD⟩, hS.F ht⟩) hS.2.2 dX8_read_27
  · replace c_1 := bI_ne c_1
    refine lv_iload_n hx hb dX8_read_13 rfl (lv_at hl 2 rfl) ?_
    refine vp_callSi ((va_runS (As := [.int p2]) (rest := []) ⟨hx, hb, hml, hown, hts⟩ (met_X8_isKind l p2) (va_cwS 1 hts gX8_read_X8_isKind rfl rfl rfl (by decide +kernel) ⟨Nat.le_of_ble_eq_true rfl, Nat.le_of_ble_eq_true rfl⟩) ⟨fun _ _ _ _ q => q, fun U hU hW => ⟨rfl, trivial⟩⟩ rfl rfl hl.1 rfl (lv_room (Nat.le_of_ble_eq_true rfl)) dX8_read_14 ⟨Nat.le_of_ble_eq_true rfl, Nat.le_of_ble_eq_true rfl⟩).run) (fun r hw => ?_)
    subst hw
    refine lv_if_ne (tgt := 28) hx hb dX8_read_17 (by decide) (fun c_2 => ?_) (fun c_2 => ?_)
    · replace c_2 := bI_ne c_2
      have R1 := hV.2.2.1 _ (inC_lt hV.1.2.1 c_1)
      have P1 := hM.2.1 _ (inC_lt hV.1.2.1 c_1)
      have hk := isK_of c_2
      have S1 := rep_cast R1.1 hk R1.2 P1
      have K1 := cst_okB R1.1 hk R1.2
      refine lv_aload_n hx hb dX8_read_28 rfl (lv_at hl 0 rfl) ?_
      refine lv_iload_n hx hb dX8_read_29 rfl (lv_at hl 1 rfl) ?_
      have hFc := wFree hD hS hA
      refine va_callv (va_runV (As := [.int p1]) (rest := []) ⟨hx, hb, hml, hown, hts⟩ (met_X8_open l Dg m0 H.size a y 0 kd (σ.1 2 0) (σ.1 2 1) (σ.1 2 2) (σ.1 2 3) (σ.1 2 4) wh re (σ.1 1) (σ.1 3) aTo aPo (σ.1 4) aRw aRr (σ.1 5) (σ.1 6) (σ.1 7) aWs aRs (σ.1 8) (σ.1 9) (σ.1 10) (σ.1 11) (σ.1 12) p1 (inC_in hV.1.2.1 c_1)) (cwV 1 hts gX8_read_X8_open rfl rfl rfl (by decide +kernel) ⟨Nat.le_of_ble_eq_true rfl, Nat.le_of_ble_eq_true rfl⟩) (wPreV hK hP (hD.weaken (fun _ _ _ _ => trivial)) (va_recv hK hP (ci := 6) (q0 := 0) rfl rfl)) rfl rfl hl.1 rfl (lv_room (Nat.le_of_ble_eq_true rfl)) dX8_read_30 ⟨Nat.le_of_ble_eq_true rfl, Nat.le_of_ble_eq_true rfl⟩) hS (fun q _ h => hFc q h) hFc (fun u t H locs ht hvm hw hB _ _ hS => ?_)
      obtain ⟨hP, -, hD⟩ := hB
      rw [ht] at hP
      replace hD := hD.weaken (fun _ q _ h => hFc q.1 h)
      rw [hw] at hP hD
      clear hw hFc
      have hP : va_P Dg vwCl (mW m0 a y 0 ((σ.1 4) p1.toNatClampNeg) (σ.1 2 0) (σ.1 2 1) (σ.1 2 2) (σ.1 2 3) (σ.1 2 4) (aRw p1.toNatClampNeg) (aRr p1.toNatClampNeg) (σ.1 1) (σ.1 3) aTo aPo (σ.1 4) aRw aRr (σ.1 5) (σ.1 6) (σ.1 7) aWs aRs (σ.1 8) (σ.1 9) (σ.1 10) (σ.1 11) (σ.1 12)) H := hP
      have hD : va_D A (mW m0 a y 0 ((σ.1 4) p1.toNatClampNeg) (σ.1 2 0) (σ.1 2 1) (σ.1 2 2) (σ.1 2 3) (σ.1 2 4) (aRw p1.toNatClampNeg) (aRr p1.toNatClampNeg) (σ.1 1) (σ.1 3) aTo aPo (σ.1 4) aRw aRr (σ.1 5) (σ.1 6) (σ.1 7) aWs aRs (σ.1 8) (σ.1 9) (σ.1 10) (σ.1 11) (σ.1 12)) := hD
      refine lv_aload_n hx hb dX8_read_33 rfl (lv_at hl 0 rfl) ?_
      refine lv_iload_n hx hb dX8_read_34 rfl (lv_at hl 2 rfl) ?_
      have hFc := wFree hD hS hA
      refine va_callv (va_runV (As := [.int p2]) (rest := []) ⟨hx, hb, hml, hown, hts⟩ (met_X8_cast l Dg m0 H.size a y 0 ((σ.1 4) p1.toNatClampNeg) (σ.1 2 0) (σ.1 2 1) (σ.1 2 2) (σ.1 2 3) (σ.1 2 4) (aRw p1.toNatClampNeg) (aRr p1.toNatClampNeg) (σ.1 1) (σ.1 3) aTo aPo (σ.1 4) aRw aRr (σ.1 5) (σ.1 6) (σ.1 7) aWs aRs (σ.1 8) (σ.1 9) (σ.1 10) (σ.1 11) (σ.1 12) p2 (rep_nn R1.1 R1.2 P1)) (cwV 1 hts gX8_read_X8_cast rfl rfl rfl (by decide +kernel) ⟨Nat.le_of_ble_eq_true rfl, Nat.le_of_ble_eq_true rfl⟩) (wPreV hK hP (hD.weaken (fun _ _ _ _ => trivial)) (va_recv hK hP (ci := 6) (q0 := 0) rfl rfl)) rfl rfl hl.1 rfl (lv_room (Nat.le_of_ble_eq_true rfl)) dX8_read_35 ⟨Nat.le_of_ble_eq_true rfl, Nat.le_of_ble_eq_true rfl⟩) hS (fun q _ h => hFc q h) hFc (fun u t H locs ht hvm hw hB _ _ hS => ?_)
      obtain ⟨hP, -, hD⟩ := hB
      rw [ht] at hP
      replace hD := hD.weaken (fun _ q _ h => hFc q.1 h)
      rw [hw] at hP hD
      clear hw hFc
      have hP : va_P Dg vwCl (mW m0 a y 0 p2 (σ.1 2 0) (σ.1 2 1) (σ.1 2 2) (σ.1 2 3) (σ.1 2 4) (mcW ((σ.1 4) p1.toNatClampNeg) (aRw p1.toNatClampNeg) (aRr p1.toNatClampNeg) p2) (mcR ((σ.1 4) p1.toNatClampNeg) (aRw p1.toNatClampNeg) (aRr p1.toNatClampNeg) p2) (σ.1 1) (σ.1 3) aTo aPo (σ.1 4) aRw aRr (σ.1 5) (σ.1 6) (σ.1 7) aWs aRs (σ.1 8) (σ.1 9) (σ.1 10) (σ.1 11) (σ.1 12)) H := hP
      have hD : va_D A (mW m0 a y 0 p2 (σ.1 2 0) (σ.1 2 1) (σ.1 2 2) (σ.1 2 3) (σ.1 2 4) (mcW ((σ.1 4) p1.toNatClampNeg) (aRw p1.toNatClampNeg) (aRr p1.toNatClampNeg) p2) (mcR ((σ.1 4) p1.toNatClampNeg) (aRw p1.toNatClampNeg) (aRr p1.toNatClampNeg) p2) (σ.1 1) (σ.1 3) aTo aPo (σ.1 4) aRw aRr (σ.1 5) (σ.1 6) (σ.1 7) aWs aRs (σ.1 8) (σ.1 9) (σ.1 10) (σ.1 11) (σ.1 12)) := hD
      refine lv_aload_n hx hb dX8_read_38 rfl (lv_at hl 0 rfl) ?_
      refine vp_callSl ((va_runV (As := []) (rest := []) ⟨hx, hb, hml, hown, hts⟩ (met_X8_bits l Dg m0 H.size a y 0 p2 (σ.1 2 0) (σ.1 2 1) (σ.1 2 2) (σ.1 2 3) (σ.1 2 4) (mcW ((σ.1 4) p1.toNatClampNeg) (aRw p1.toNatClampNeg) (aRr p1.toNatClampNeg) p2) (mcR ((σ.1 4) p1.toNatClampNeg) (aRw p1.toNatClampNeg) (aRr p1.toNatClampNeg) p2) (σ.1 1) (σ.1 3) aTo aPo (σ.1 4) aRw aRr (σ.1 5) (σ.1 6) (σ.1 7) aWs aRs (σ.1 8) (σ.1 9) (σ.1 10) (σ.1 11) (σ.1 12)  (rep_nn hk K1 S1)) (cwV 0 hts gX8_read_X8_bits rfl rfl rfl (by decide +kernel) ⟨Nat.le_of_ble_eq_true rfl, Nat.le_of_ble_eq_true rfl⟩) (wPreV hK hP (hD.weaken (fun _ _ _ _ => trivial)) (va_recv hK hP (ci := 6) (q0 := 0) rfl rfl)) rfl rfl hl.1 rfl (lv_room (Nat.le_of_ble_eq_true rfl)) dX8_read_39 ⟨Nat.le_of_ble_eq_true rfl, Nat.le_of_ble_eq_true rfl⟩).run) (fun r hw => ?_)
      rw [hw]
      have hw : wh_read σ p1 p2 = 0 := by simp only [wh_read, if_pos c_1, if_pos c_2]
      exact W.lret (v := mbt p2 (mcW ((σ.1 4) p1.toNatClampNeg) (aRw p1.toNatClampNeg) (aRr p1.toNatClampNeg) p2) (mcR ((σ.1 4) p1.toNatClampNeg) (aRw p1.toNatClampNeg) (aRr p1.toNatClampNeg) p2)) hx hb hr (fun t ht hW => ⟨⟨_, (mW m0 a y 0 p2 (σ.1 2 0) (σ.1 2 1) (σ.1 2 2) (σ.1 2 3) (σ.1 2 4) (mcW ((σ.1 4) p1.toNatClampNeg) (aRw p1.toNatClampNeg) (aRr p1.toNatClampNeg) p2) (mcR ((σ.1 4) p1.toNatClampNeg) (aRw p1.toNatClampNeg) (aRr p1.toNatClampNeg) p2) (σ.1 1) (σ.1 3) aTo aPo (σ.1 4) aRw aRr (σ.1 5) (σ.1 6) (σ.1 7) aWs aRs (σ.1 8) (σ.1 9) (σ.1 10) (σ.1 11) (σ.1 12)), rfl, ⟨by rw [an_read, if_pos hw]; exact rep_bits hk K1 S1, p2, mcW ((σ.1 4) p1.toNatClampNeg) (aRw p1.toNatClampNeg) (aRr p1.toNatClampNeg) p2, mcR ((σ.1 4) p1.toNatClampNeg) (aRw p1.toNatClampNeg) (aRr p1.toNatClampNeg) p2, aTo, aPo, aRw, aRr, aWs, aRs, by rw [nw_read, if_pos hw]; rfl, by rw [nw_read, if_pos hw]; exact hM⟩, by rw [ht]; exact hP, va_K.moved hW.alike hK, hD⟩, hS.F ht⟩) hS.2.2 dX8_read_42
    · replace c_2 := bI_eq c_2
      refine lv_aload_n hx hb dX8_read_20 rfl (lv_at hl 0 rfl) ?_
      refine lv_bipush (v := (-2)) hx hb dX8_read_21 (by decide) ?_
      refine va_put (D := Dg) (ci := 6) (v := .int (-2)) (ty := .int) (C := RX8) (T := TX8) (N := 26) hx hb hts in_X8_read tyX8 tyX8_ok nmX8 hown hK hP hD hS 0 rfl rfl 0 (by decide) (hts (.fieldLink RX8 64 "OrreryWorksModel" "refused" "I") (by decide +kernel)) (fun _ h9 => h9) rfl (by decide +kernel) rfl rfl (Nat.le_of_ble_eq_true rfl) dX8_read_23 (fun H locs hP hD hS => ?_)
      have hP : va_P Dg vwCl (mW m0 a y (-2) kd (σ.1 2 0) (σ.1 2 1) (σ.1 2 2) (σ.1 2 3) (σ.1 2 4) wh re (σ.1 1) (σ.1 3) aTo aPo (σ.1 4) aRw aRr (σ.1 5) (σ.1 6) (σ.1 7) aWs aRs (σ.1 8) (σ.1 9) (σ.1 10) (σ.1 11) (σ.1 12)) H := hP
      have hD : va_D A (mW m0 a y (-2) kd (σ.1 2 0) (σ.1 2 1) (σ.1 2 2) (σ.1 2 3) (σ.1 2 4) wh re (σ.1 1) (σ.1 3) aTo aPo (σ.1 4) aRw aRr (σ.1 5) (σ.1 6) (σ.1 7) aWs aRs (σ.1 8) (σ.1 9) (σ.1 10) (σ.1 11) (σ.1 12)) := hD
      refine lv_lconst (v := 0) hx hb dX8_read_26 (by decide) ?_
      have hw : wh_read σ p1 p2 = (-2) := by simp only [wh_read, if_pos c_1, if_neg c_2]
      have hn : ¬ wh_read σ p1 p2 = 0 := by rw [hw]; decide
      exact W.lret (v := 0) hx hb hr (fun t ht hW => ⟨⟨_, (mW m0 a y (-2) kd (σ.1 2 0) (σ.1 2 1) (σ.1 2 2) (σ.1 2 3) (σ.1 2 4) wh re (σ.1 1) (σ.1 3) aTo aPo (σ.1 4) aRw aRr (σ.1 5) (σ.1 6) (σ.1 7) aWs aRs (σ.1 8) (σ.1 9) (σ.1 10) (σ.1 11) (σ.1 12)), rfl, ⟨by rw [an_read, if_neg hn]; try rfl, kd, wh, re, aTo, aPo, aRw, aRr, aWs, aRs, by rw [nw_read, if_neg hn, hw]; simp only [mG, rf, rfO2]; rfl, by rw [nw_read, if_neg hn]; exact hM⟩, by rw [ht]; exact hP, va_K.moved hW.alike hK, hD⟩, hS.F ht⟩) hS.2.2 dX8_read_27

theorem in_X8_load : ∀ w ∈ wsX80, w ∈ wsX8_load := fun w h => List.mem_cons_of_mem _ (List.mem_append_right _ h)
set_option maxHeartbeats 8000000 in
set_option maxRecDepth 100000 in
theorem met_X8_load (l : Launch) (Dg : va_G) (m0 z : Nat) (a : Nat → Nat) (y : Nat → ClassId) (σ : St) (kd : Int32) (wh : Int64) (re : UInt64) (aTo aPo : Nat → UInt64) (aRw : Nat → Int64) (aRr : Nat → UInt64) (aWs : Nat → Int64) (aRs : Nat → UInt64) (p1 : Int32) (p2 : Int32) (p3 : Int64) (hV : vOK σ) (hM : mC σ aTo aPo aRw aRr aWs aRs)  : Met l yX8_load wsX8_load ({ frames := 2, cells := 0, slots := 0, locals := 48 }) (va_Pc [.ref m0, .int p1, .int p2, .long p3] (wB Dg (mT y) (mW m0 a y (σ.1 0 0) kd (σ.1 2 0) (σ.1 2 1) (σ.1 2 2) (σ.1 2 3) (σ.1 2 4) wh re (σ.1 1) (σ.1 3) aTo aPo (σ.1 4) aRw aRr (σ.1 5) (σ.1 6) (σ.1 7) aWs aRs (σ.1 8) (σ.1 9) (σ.1 10) (σ.1 11) (σ.1 12)) z)) (va_Qi (fun (r : Int32) (u : va_W) => r = an_load σ p1 p2 p3 ∧ MI m0 a y (nw_load σ p1 p2 p3) u) (wE Dg (mT y) (va_A (mW m0 a y (σ.1 0 0) kd (σ.1 2 0) (σ.1 2 1) (σ.1 2 2) (σ.1 2 3) (σ.1 2 4) wh re (σ.1 1) (σ.1 3) aTo aPo (σ.1 4) aRw aRr (σ.1 5) (σ.1 6) (σ.1 7) aWs aRs (σ.1 8) (σ.1 9) (σ.1 10) (σ.1 11) (σ.1 12)) z)) (va_A (mW m0 a y (σ.1 0 0) kd (σ.1 2 0) (σ.1 2 1) (σ.1 2 2) (σ.1 2 3) (σ.1 2 4) wh re (σ.1 1) (σ.1 3) aTo aPo (σ.1 4) aRw aRr (σ.1 5) (σ.1 6) (σ.1 7) aWs aRs (σ.1 8) (σ.1 9) (σ.1 10) (σ.1 11) (σ.1 12)) z)) 0 0 (va_A (mW m0 a y (σ.1 0 0) kd (σ.1 2 0) (σ.1 2 1) (σ.1 2 2) (σ.1 2 3) (σ.1 2 4) wh re (σ.1 1) (σ.1 3) aTo aPo (σ.1 4) aRw aRr (σ.1 5) (σ.1 6) (σ.1 7) aWs aRs (σ.1 8) (σ.1 9) (σ.1 10) (σ.1 11) (σ.1 12)) z) := by
  refine Met.ofW (cc := cX8_load) (maxL := 5) (ret := (some .int)) (by decide) rfl ?_
  intro p e s m args below meth c s₁ B hml hv
  obtain ⟨rfl, hsz, hP, hK, hD0⟩ := hv
  have hx := B.exec
  have hb := B.bytes
  have hr := B.returns
  have hts := atoms_spec (ws := wsX8_load) B.pre
  have hown : s.vm.findClass RX8 = some m.cls := findClass_of_methodNamed B.named
  have hlocks := B.notSynchronized
  subst hsz
  have hD := hD0.self (sz := s.heap.size)
  generalize hAe : va_A (mW m0 a y (σ.1 0 0) kd (σ.1 2 0) (σ.1 2 1) (σ.1 2 2) (σ.1 2 3) (σ.1 2 4) wh re (σ.1 1) (σ.1 3) aTo aPo (σ.1 4) aRw aRr (σ.1 5) (σ.1 6) (σ.1 7) aWs aRs (σ.1 8) (σ.1 9) (σ.1 10) (σ.1 11) (σ.1 12)) s.heap.size = A at hD ⊢
  have hA : ∀ q : Nat, s.heap.size ≤ q → A q := fun q h => by rw [← hAe]; exact Or.inr h
  have hS : va_S A s.heap s.heap [] := va_S.rf
  have hP : va_P Dg vwCl (mW m0 a y (σ.1 0 0) kd (σ.1 2 0) (σ.1 2 1) (σ.1 2 2) (σ.1 2 3) (σ.1 2 4) wh re (σ.1 1) (σ.1 3) aTo aPo (σ.1 4) aRw aRr (σ.1 5) (σ.1 6) (σ.1 7) aWs aRs (σ.1 8) (σ.1 9) (σ.1 10) (σ.1 11) (σ.1 12)) s.heap := hP
  have hl := lv_entry ([.ref m0, .int p1, .int p2, .long p3]) (n := 5) (Nat.le_of_ble_eq_true rfl)
  rw [lg_entry_eq]
  generalize (lg_sl ([.ref m0, .int p1, .int p2, .long p3]) ++ List.replicate (5 - (lg_sl ([.ref m0, .int p1, .int p2, .long p3])).length) Slot.unset).toArray = ls at hl ⊢
  have hl : lv_has ls 5 [(0, .ref m0), (1, .int p1), (2, .int p2), (3, .long p3)] := hl
  refine lv_aload_n hx hb dX8_load_0 rfl (lv_at hl 0 rfl) ?_
  refine lv_iconst (v := 0) hx hb dX8_load_1 (by decide) ?_
  refine va_put (D := Dg) (ci := 6) (v := .int 0) (ty := .int) (C := RX8) (T := TX8) (N := 26) hx hb hts in_X8_load tyX8 tyX8_ok nmX8 hown hK hP hD hS 0 rfl rfl 0 (by decide) (hts (.fieldLink RX8 64 "OrreryWorksModel" "refused" "I") (by decide +kernel)) (fun _ h9 => h9) rfl (by decide +kernel) rfl rfl (Nat.le_of_ble_eq_true rfl) dX8_load_2 (fun H locs hP hD hS => ?_)
  have hP : va_P Dg vwCl (mW m0 a y 0 kd (σ.1 2 0) (σ.1 2 1) (σ.1 2 2) (σ.1 2 3) (σ.1 2 4) wh re (σ.1 1) (σ.1 3) aTo aPo (σ.1 4) aRw aRr (σ.1 5) (σ.1 6) (σ.1 7) aWs aRs (σ.1 8) (σ.1 9) (σ.1 10) (σ.1 11) (σ.1 12)) H := hP
  have hD : va_D A (mW m0 a y 0 kd (σ.1 2 0) (σ.1 2 1) (σ.1 2 2) (σ.1 2 3) (σ.1 2 4) wh re (σ.1 1) (σ.1 3) aTo aPo (σ.1 4) aRw aRr (σ.1 5) (σ.1 6) (σ.1 7) aWs aRs (σ.1 8) (σ.1 9) (σ.1 10) (σ.1 11) (σ.1 12)) := hD
  refine lv_aload_n hx hb dX8_load_5 rfl (lv_at hl 0 rfl) ?_
  refine lv_iload_n hx hb dX8_load_6 rfl (lv_at hl 1 rfl) ?_
  refine vp_callSi ((va_runV (As := [.int p1]) (rest := []) ⟨hx, hb, hml, hown, hts⟩ (met_X8_isRegister l Dg m0 H.size a y 0 kd (σ.1 2 0) (σ.1 2 1) (σ.1 2 2) (σ.1 2 3) (σ.1 2 4) wh re (σ.1 1) (σ.1 3) aTo aPo (σ.1 4) aRw aRr (σ.1 5) (σ.1 6) (σ.1 7) aWs aRs (σ.1 8) (σ.1 9) (σ.1 10) (σ.1 11) (σ.1 12) p1 ) (cwV 1 hts gX8_load_X8_isRegister rfl rfl rfl (by decide +kernel) ⟨Nat.le_of_ble_eq_true rfl, Nat.le_of_ble_eq_true rfl⟩) (wPreV hK hP (hD.weaken (fun _ _ _ _ => trivial)) (va_recv hK hP (ci := 6) (q0 := 0) rfl rfl)) rfl rfl hl.1 rfl (lv_room (Nat.le_of_ble_eq_true rfl)) dX8_load_7 ⟨Nat.le_of_ble_eq_true rfl, Nat.le_of_ble_eq_true rfl⟩).run) (fun r hw => ?_)
  rw [hw]
  refine lv_if_eq (tgt := 45) hx hb dX8_load_10 (by decide) (fun c_1 => ?_) (fun c_1 => ?_)
  · replace c_1 := bI_eq c_1
    refine lv_aload_n hx hb dX8_load_45 rfl (lv_at hl 0 rfl) ?_
    refine lv_bipush (v := (-2)) hx hb dX8_load_46 (by decide) ?_
    have hFc := wFree hD hS hA
    refine va_calli (va_runV (As := [.int (-2)]) (rest := []) ⟨hx, hb, hml, hown, hts⟩ (met_X8_refuse l Dg m0 H.size a y 0 kd (σ.1 2 0) (σ.1 2 1) (σ.1 2 2) (σ.1 2 3) (σ.1 2 4) wh re (σ.1 1) (σ.1 3) aTo aPo (σ.1 4) aRw aRr (σ.1 5) (σ.1 6) (σ.1 7) aWs aRs (σ.1 8) (σ.1 9) (σ.1 10) (σ.1 11) (σ.1 12) (-2) (by unfold vp_in; decide)) (cwV 1 hts gX8_load_X8_refuse rfl rfl rfl (by decide +kernel) ⟨Nat.le_of_ble_eq_true rfl, Nat.le_of_ble_eq_true rfl⟩) (wPreV hK hP (hD.weaken (fun _ _ _ _ => trivial)) (va_recv hK hP (ci := 6) (q0 := 0) rfl rfl)) rfl rfl hl.1 rfl (lv_room (Nat.le_of_ble_eq_true rfl)) dX8_load_48 ⟨Nat.le_of_ble_eq_true rfl, Nat.le_of_ble_eq_true rfl⟩) hS (fun q _ h => hFc q h) hFc (fun r u t H locs ht hvm hw hB _ _ hS => ?_)
    obtain ⟨hP, -, hD⟩ := hB
    rw [ht] at hP
    replace hD := hD.weaken (fun _ q _ h => hFc q.1 h)
    rw [hw.2] at hP hD
    rw [hw.1]
    clear hw hFc
    have hP : va_P Dg vwCl (mW m0 a y (-2) kd (σ.1 2 0) (σ.1 2 1) (σ.1 2 2) (σ.1 2 3) (σ.1 2 4) wh re (rfO (-2) (σ.1 1)) (σ.1 3) aTo aPo (σ.1 4) aRw aRr (σ.1 5) (σ.1 6) (σ.1 7) aWs aRs (σ.1 8) (σ.1 9) (σ.1 10) (σ.1 11) (σ.1 12)) H := hP
    have hD : va_D A (mW m0 a y (-2) kd (σ.1 2 0) (σ.1 2 1) (σ.1 2 2) (σ.1 2 3) (σ.1 2 4) wh re (rfO (-2) (σ.1 1)) (σ.1 3) aTo aPo (σ.1 4) aRw aRr (σ.1 5) (σ.1 6) (σ.1 7) aWs aRs (σ.1 8) (σ.1 9) (σ.1 10) (σ.1 11) (σ.1 12)) := hD
    have hw : wh_load σ p1 p2 p3 = (-2) := by simp only [wh_load, if_neg c_1]
    have hn : ¬ wh_load σ p1 p2 p3 = 0 := by rw [hw]; decide
    exact W.iret (v := (-2)) hx hb hr (fun t ht hW => ⟨⟨_, (mW m0 a y (-2) kd (σ.1 2 0) (σ.1 2 1) (σ.1 2 2) (σ.1 2 3) (σ.1 2 4) wh re (rfO (-2) (σ.1 1)) (σ.1 3) aTo aPo (σ.1 4) aRw aRr (σ.1 5) (σ.1 6) (σ.1 7) aWs aRs (σ.1 8) (σ.1 9) (σ.1 10) (σ.1 11) (σ.1 12)), rfl, ⟨by rw [an_load, if_neg hn, hw]; try rfl, kd, wh, re, aTo, aPo, aRw, aRr, aWs, aRs, by rw [nw_load, if_neg hn, hw]; rfl, by rw [nw_load, if_neg hn]; exact hM⟩, by rw [ht]; exact hP, va_K.moved hW.alike hK, hD⟩, hS.F ht⟩) hS.2.2 dX8_load_51
  · replace c_1 := bI_ne c_1
    refine lv_iload_n hx hb dX8_load_13 rfl (lv_at hl 2 rfl) ?_
    refine vp_callSi ((va_runS (As := [.int p2]) (rest := []) ⟨hx, hb, hml, hown, hts⟩ (met_X8_isKind l p2) (va_cwS 1 hts gX8_load_X8_isKind rfl rfl rfl (by decide +kernel) ⟨Nat.le_of_ble_eq_true rfl, Nat.le_of_ble_eq_true rfl⟩) ⟨fun _ _ _ _ q => q, fun U hU hW => ⟨rfl, trivial⟩⟩ rfl rfl hl.1 rfl (lv_room (Nat.le_of_ble_eq_true rfl)) dX8_load_14 ⟨Nat.le_of_ble_eq_true rfl, Nat.le_of_ble_eq_true rfl⟩).run) (fun r hw => ?_)
    subst hw
    refine lv_if_eq (tgt := 45) hx hb dX8_load_17 (by decide) (fun c_2 => ?_) (fun c_2 => ?_)
    · replace c_2 := bI_eq c_2
      refine lv_aload_n hx hb dX8_load_45 rfl (lv_at hl 0 rfl) ?_
      refine lv_bipush (v := (-2)) hx hb dX8_load_46 (by decide) ?_
      have hFc := wFree hD hS hA
      refine va_calli (va_runV (As := [.int (-2)]) (rest := []) ⟨hx, hb, hml, hown, hts⟩ (met_X8_refuse l Dg m0 H.size a y 0 kd (σ.1 2 0) (σ.1 2 1) (σ.1 2 2) (σ.1 2 3) (σ.1 2 4) wh re (σ.1 1) (σ.1 3) aTo aPo (σ.1 4) aRw aRr (σ.1 5) (σ.1 6) (σ.1 7) aWs aRs (σ.1 8) (σ.1 9) (σ.1 10) (σ.1 11) (σ.1 12) (-2) (by unfold vp_in; decide)) (cwV 1 hts gX8_load_X8_refuse rfl rfl rfl (by decide +kernel) ⟨Nat.le_of_ble_eq_true rfl, Nat.le_of_ble_eq_true rfl⟩) (wPreV hK hP (hD.weaken (fun _ _ _ _ => trivial)) (va_recv hK hP (ci := 6) (q0 := 0) rfl rfl)) rfl rfl hl.1 rfl (lv_room (Nat.le_of_ble_eq_true rfl)) dX8_load_48 ⟨Nat.le_of_ble_eq_true rfl, Nat.le_of_ble_eq_true rfl⟩) hS (fun q _ h => hFc q h) hFc (fun r u t H locs ht hvm hw hB _ _ hS => ?_)
      obtain ⟨hP, -, hD⟩ := hB
      rw [ht] at hP
      replace hD := hD.weaken (fun _ q _ h => hFc q.1 h)
      rw [hw.2] at hP hD
      rw [hw.1]
      clear hw hFc
      have hP : va_P Dg vwCl (mW m0 a y (-2) kd (σ.1 2 0) (σ.1 2 1) (σ.1 2 2) (σ.1 2 3) (σ.1 2 4) wh re (rfO (-2) (σ.1 1)) (σ.1 3) aTo aPo (σ.1 4) aRw aRr (σ.1 5) (σ.1 6) (σ.1 7) aWs aRs (σ.1 8) (σ.1 9) (σ.1 10) (σ.1 11) (σ.1 12)) H := hP
      have hD : va_D A (mW m0 a y (-2) kd (σ.1 2 0) (σ.1 2 1) (σ.1 2 2) (σ.1 2 3) (σ.1 2 4) wh re (rfO (-2) (σ.1 1)) (σ.1 3) aTo aPo (σ.1 4) aRw aRr (σ.1 5) (σ.1 6) (σ.1 7) aWs aRs (σ.1 8) (σ.1 9) (σ.1 10) (σ.1 11) (σ.1 12)) := hD
      have hw : wh_load σ p1 p2 p3 = (-2) := by simp only [wh_load, if_pos c_1, if_neg c_2]
      have hn : ¬ wh_load σ p1 p2 p3 = 0 := by rw [hw]; decide
      exact W.iret (v := (-2)) hx hb hr (fun t ht hW => ⟨⟨_, (mW m0 a y (-2) kd (σ.1 2 0) (σ.1 2 1) (σ.1 2 2) (σ.1 2 3) (σ.1 2 4) wh re (rfO (-2) (σ.1 1)) (σ.1 3) aTo aPo (σ.1 4) aRw aRr (σ.1 5) (σ.1 6) (σ.1 7) aWs aRs (σ.1 8) (σ.1 9) (σ.1 10) (σ.1 11) (σ.1 12)), rfl, ⟨by rw [an_load, if_neg hn, hw]; try rfl, kd, wh, re, aTo, aPo, aRw, aRr, aWs, aRs, by rw [nw_load, if_neg hn, hw]; rfl, by rw [nw_load, if_neg hn]; exact hM⟩, by rw [ht]; exact hP, va_K.moved hW.alike hK, hD⟩, hS.F ht⟩) hS.2.2 dX8_load_51
    · replace c_2 := bI_ne c_2
      refine lv_iload_n hx hb dX8_load_20 rfl (lv_at hl 2 rfl) ?_
      refine lv_iconst (v := 2) hx hb dX8_load_21 (by decide) ?_
      refine lv_icmp_ne (tgt := 33) hx hb dX8_load_22 (by decide) (fun c_3 => ?_) (fun c_3 => ?_)
      · refine lv_iload_n hx hb dX8_load_33 rfl (lv_at hl 2 rfl) ?_
        refine lv_iconst (v := 3) hx hb dX8_load_34 (by decide) ?_
        refine lv_icmp_ne (tgt := 52) hx hb dX8_load_35 (by decide) (fun c_4 => ?_) (fun c_4 => ?_)
        · have hk := isK_of c_2
          have h2 : p2 = 2 → FP.Core.val32 p3.toInt32.toUInt32 ≠ .nan := fun g => absurd g c_3
          have h3 : p2 = 3 → okR 3 p3 := fun g => absurd g c_4
          have hT := rep_told hk h2 h3
          have R1 := hV.2.2.1 _ (inC_lt hV.1.2.1 c_1)
          have P1 := hM.2.1 _ (inC_lt hV.1.2.1 c_1)
          have S1 := rep_cast hk R1.1 hT.1 hT.2
          refine lv_aload_n hx hb dX8_load_52 rfl (lv_at hl 0 rfl) ?_
          refine lv_iload_n hx hb dX8_load_53 rfl (lv_at hl 2 rfl) ?_
          refine lv_lload_n hx hb dX8_load_54 rfl (lv_at hl 3 rfl) ?_
          have hFc := wFree hD hS hA
          refine va_callv (va_runV (As := [.int p2, .long p3]) (rest := []) ⟨hx, hb, hml, hown, hts⟩ (met_X8_holdBits l Dg m0 H.size a y 0 kd (σ.1 2 0) (σ.1 2 1) (σ.1 2 2) (σ.1 2 3) (σ.1 2 4) wh re (σ.1 1) (σ.1 3) aTo aPo (σ.1 4) aRw aRr (σ.1 5) (σ.1 6) (σ.1 7) aWs aRs (σ.1 8) (σ.1 9) (σ.1 10) (σ.1 11) (σ.1 12) p2 p3 (fun g => ⟨sn_of32 (h2 g), h2 g⟩) (fun g g2 => sn_of ((okR3 (k := 3) (by decide)).mp (h3 (k3_2 hk g g2))))) (cwV 2 hts gX8_load_X8_holdBits rfl rfl rfl (by decide +kernel) ⟨Nat.le_of_ble_eq_true rfl, Nat.le_of_ble_eq_true rfl⟩) (wPreV hK hP (hD.weaken (fun _ _ _ _ => trivial)) (va_recv hK hP (ci := 6) (q0 := 0) rfl rfl)) rfl rfl hl.1 rfl (lv_room (Nat.le_of_ble_eq_true rfl)) dX8_load_55 ⟨Nat.le_of_ble_eq_true rfl, Nat.le_of_ble_eq_true rfl⟩) hS (fun q _ h => hFc q h) hFc (fun u t H locs ht hvm hw hB _ _ hS => ?_)
          obtain ⟨hP, -, hD⟩ := hB
          rw [ht] at hP
          replace hD := hD.weaken (fun _ q _ h => hFc q.1 h)
          rw [hw] at hP hD
          clear hw hFc
          have hP : va_P Dg vwCl (mW m0 a y 0 p2 (σ.1 2 0) (σ.1 2 1) (σ.1 2 2) (σ.1 2 3) (σ.1 2 4) (hbW p2 p3) (hbR p2 p3) (σ.1 1) (σ.1 3) aTo aPo (σ.1 4) aRw aRr (σ.1 5) (σ.1 6) (σ.1 7) aWs aRs (σ.1 8) (σ.1 9) (σ.1 10) (σ.1 11) (σ.1 12)) H := hP
          have hD : va_D A (mW m0 a y 0 p2 (σ.1 2 0) (σ.1 2 1) (σ.1 2 2) (σ.1 2 3) (σ.1 2 4) (hbW p2 p3) (hbR p2 p3) (σ.1 1) (σ.1 3) aTo aPo (σ.1 4) aRw aRr (σ.1 5) (σ.1 6) (σ.1 7) aWs aRs (σ.1 8) (σ.1 9) (σ.1 10) (σ.1 11) (σ.1 12)) := hD
          refine lv_aload_n hx hb dX8_load_58 rfl (lv_at hl 0 rfl) ?_
          refine lv_iload_n hx hb dX8_load_59 rfl (lv_at hl 1 rfl) ?_
          have hFc := wFree hD hS hA
          refine va_callv (va_runV (As := [.int p1]) (rest := []) ⟨hx, hb, hml, hown, hts⟩ (met_X8_store l Dg m0 H.size a y 0 p2 (σ.1 2 0) (σ.1 2 1) (σ.1 2 2) (σ.1 2 3) (σ.1 2 4) (hbW p2 p3) (hbR p2 p3) (σ.1 1) (σ.1 3) aTo aPo (σ.1 4) aRw aRr (σ.1 5) (σ.1 6) (σ.1 7) aWs aRs (σ.1 8) (σ.1 9) (σ.1 10) (σ.1 11) (σ.1 12) p1 (inC_in hV.1.2.1 c_1) (rep_nn hk hT.1 hT.2)) (cwV 1 hts gX8_load_X8_store rfl rfl rfl (by decide +kernel) ⟨Nat.le_of_ble_eq_true rfl, Nat.le_of_ble_eq_true rfl⟩) (wPreV hK hP (hD.weaken (fun _ _ _ _ => trivial)) (va_recv hK hP (ci := 6) (q0 := 0) rfl rfl)) rfl rfl hl.1 rfl (lv_room (Nat.le_of_ble_eq_true rfl)) dX8_load_60 ⟨Nat.le_of_ble_eq_true rfl, Nat.le_of_ble_eq_true rfl⟩) hS (fun q _ h => hFc q h) hFc (fun u t H locs ht hvm hw hB _ _ hS => ?_)
          obtain ⟨hP, -, hD⟩ := hB
          rw [ht] at hP
          replace hD := hD.weaken (fun _ q _ h => hFc q.1 h)
          rw [hw] at hP hD
          clear hw hFc
          have hP : va_P Dg vwCl (mW m0 a y 0 ((σ.1 4) p1.toNatClampNeg) (σ.1 2 0) (σ.1 2 1) (σ.1 2 2) (σ.1 2 3) (σ.1 2 4) (mcW p2 (hbW p2 p3) (hbR p2 p3) ((σ.1 4) p1.toNatClampNeg)) (mcR p2 (hbW p2 p3) (hbR p2 p3) ((σ.1 4) p1.toNatClampNeg)) (σ.1 1) (σ.1 3) aTo aPo (σ.1 4) (vp_updL aRw p1.toNatClampNeg (mcW p2 (hbW p2 p3) (hbR p2 p3) ((σ.1 4) p1.toNatClampNeg))) (vf_upd aRr p1.toNatClampNeg (mcR p2 (hbW p2 p3) (hbR p2 p3) ((σ.1 4) p1.toNatClampNeg))) (σ.1 5) (σ.1 6) (σ.1 7) aWs aRs (σ.1 8) (σ.1 9) (σ.1 10) (σ.1 11) (σ.1 12)) H := hP
          have hD : va_D A (mW m0 a y 0 ((σ.1 4) p1.toNatClampNeg) (σ.1 2 0) (σ.1 2 1) (σ.1 2 2) (σ.1 2 3) (σ.1 2 4) (mcW p2 (hbW p2 p3) (hbR p2 p3) ((σ.1 4) p1.toNatClampNeg)) (mcR p2 (hbW p2 p3) (hbR p2 p3) ((σ.1 4) p1.toNatClampNeg)) (σ.1 1) (σ.1 3) aTo aPo (σ.1 4) (vp_updL aRw p1.toNatClampNeg (mcW p2 (hbW p2 p3) (hbR p2 p3) ((σ.1 4) p1.toNatClampNeg))) (vf_upd aRr p1.toNatClampNeg (mcR p2 (hbW p2 p3) (hbR p2 p3) ((σ.1 4) p1.toNatClampNeg))) (σ.1 5) (σ.1 6) (σ.1 7) aWs aRs (σ.1 8) (σ.1 9) (σ.1 10) (σ.1 11) (σ.1 12)) := hD
          refine lv_iconst (v := 1) hx hb dX8_load_63 (by decide) ?_
          have hw : wh_load σ p1 p2 p3 = 0 := by simp only [wh_load, if_pos c_1, if_pos c_2, if_neg c_3, if_neg c_4]
          exact W.iret (v := 1) hx hb hr (fun t ht hW => ⟨⟨_, (mW m0 a y 0 ((σ.1 4) p1.toNatClampNeg) (σ.1 2 0) (σ.1 2 1) (σ.1 2 2) (σ.1 2 3) (σ.1 2 4) (mcW p2 (hbW p2 p3) (hbR p2 p3) ((σ.1 4) p1.toNatClampNeg)) (mcR p2 (hbW p2 p3) (hbR p2 p3) ((σ.1 4) p1.toNatClampNeg)) (σ.1 1) (σ.1 3) aTo aPo (σ.1 4) (vp_updL aRw p1.toNatClampNeg (mcW p2 (hbW p2 p3) (hbR p2 p3) ((σ.1 4) p1.toNatClampNeg))) (vf_upd aRr p1.toNatClampNeg (mcR p2 (hbW p2 p3) (hbR p2 p3) ((σ.1 4) p1.toNatClampNeg))) (σ.1 5) (σ.1 6) (σ.1 7) aWs aRs (σ.1 8) (σ.1 9) (σ.1 10) (σ.1 11) (σ.1 12)), rfl, ⟨by rw [an_load, if_pos hw]; try rfl, (σ.1 4) p1.toNatClampNeg, mcW p2 (hbW p2 p3) (hbR p2 p3) ((σ.1 4) p1.toNatClampNeg), mcR p2 (hbW p2 p3) (hbR p2 p3) ((σ.1 4) p1.toNatClampNeg), aTo, aPo, vp_updL aRw p1.toNatClampNeg (mcW p2 (hbW p2 p3) (hbR p2 p3) ((σ.1 4) p1.toNatClampNeg)), vf_upd aRr p1.toNatClampNeg (mcR p2 (hbW p2 p3) (hbR p2 p3) ((σ.1 4) p1.toNatClampNeg)), aWs, aRs, by rw [nw_load, if_pos hw]; rfl, by rw [nw_load, if_pos hw]; exact mC_store hM S1⟩, by rw [ht]; exact hP, va_K.moved hW.alike hK, hD⟩, hS.F ht⟩) hS.2.2 dX8_load_64
        · refine lv_lload_n hx hb dX8_load_38 rfl (lv_at hl 3 rfl) ?_
          refine vp_callSi ((va_runS (As := [.long p3]) (rest := []) ⟨hx, hb, hml, hown, hts⟩ (met_X8_isNumber l p3) (va_cwS 1 hts gX8_load_X8_isNumber rfl rfl rfl (by decide +kernel) ⟨Nat.le_of_ble_eq_true rfl, Nat.le_of_ble_eq_true rfl⟩) ⟨fun _ _ _ _ q => q, fun U hU hW => ⟨rfl, trivial⟩⟩ rfl rfl hl.1 rfl (lv_room (Nat.le_of_ble_eq_true rfl)) dX8_load_39 ⟨Nat.le_of_ble_eq_true rfl, Nat.le_of_ble_eq_true rfl⟩).run) (fun r hw => ?_)
          subst hw
          refine lv_if_ne (tgt := 52) hx hb dX8_load_42 (by decide) (fun c_5 => ?_) (fun c_5 => ?_)
          · replace c_5 := bI_ne c_5
            have hk := isK_of c_2
            have h2 : p2 = 2 → FP.Core.val32 p3.toInt32.toUInt32 ≠ .nan := fun g => absurd g c_3
            have h3 : p2 = 3 → okR 3 p3 := fun _ => (num_eq _).mp c_5
            have hT := rep_told hk h2 h3
            have R1 := hV.2.2.1 _ (inC_lt hV.1.2.1 c_1)
            have P1 := hM.2.1 _ (inC_lt hV.1.2.1 c_1)
            have S1 := rep_cast hk R1.1 hT.1 hT.2
            refine lv_aload_n hx hb dX8_load_52 rfl (lv_at hl 0 rfl) ?_
            refine lv_iload_n hx hb dX8_load_53 rfl (lv_at hl 2 rfl) ?_
            refine lv_lload_n hx hb dX8_load_54 rfl (lv_at hl 3 rfl) ?_
            have hFc := wFree hD hS hA
            refine va_callv (va_runV (As := [.int p2, .long p3]) (rest := []) ⟨hx, hb, hml, hown, hts⟩ (met_X8_holdBits l Dg m0 H.size a y 0 kd (σ.1 2 0) (σ.1 2 1) (σ.1 2 2) (σ.1 2 3) (σ.1 2 4) wh re (σ.1 1) (σ.1 3) aTo aPo (σ.1 4) aRw aRr (σ.1 5) (σ.1 6) (σ.1 7) aWs aRs (σ.1 8) (σ.1 9) (σ.1 10) (σ.1 11) (σ.1 12) p2 p3 (fun g => ⟨sn_of32 (h2 g), h2 g⟩) (fun g g2 => sn_of ((okR3 (k := 3) (by decide)).mp (h3 (k3_2 hk g g2))))) (cwV 2 hts gX8_load_X8_holdBits rfl rfl rfl (by decide +kernel) ⟨Nat.le_of_ble_eq_true rfl, Nat.le_of_ble_eq_true rfl⟩) (wPreV hK hP (hD.weaken (fun _ _ _ _ => trivial)) (va_recv hK hP (ci := 6) (q0 := 0) rfl rfl)) rfl rfl hl.1 rfl (lv_room (Nat.le_of_ble_eq_true rfl)) dX8_load_55 ⟨Nat.le_of_ble_eq_true rfl, Nat.le_of_ble_eq_true rfl⟩) hS (fun q _ h => hFc q h) hFc (fun u t H locs ht hvm hw hB _ _ hS => ?_)
            obtain ⟨hP, -, hD⟩ := hB
            rw [ht] at hP
            replace hD := hD.weaken (fun _ q _ h => hFc q.1 h)
            rw [hw] at hP hD
            clear hw hFc
            have hP : va_P Dg vwCl (mW m0 a y 0 p2 (σ.1 2 0) (σ.1 2 1) (σ.1 2 2) (σ.1 2 3) (σ.1 2 4) (hbW p2 p3) (hbR p2 p3) (σ.1 1) (σ.1 3) aTo aPo (σ.1 4) aRw aRr (σ.1 5) (σ.1 6) (σ.1 7) aWs aRs (σ.1 8) (σ.1 9) (σ.1 10) (σ.1 11) (σ.1 12)) H := hP
            have hD : va_D A (mW m0 a y 0 p2 (σ.1 2 0) (σ.1 2 1) (σ.1 2 2) (σ.1 2 3) (σ.1 2 4) (hbW p2 p3) (hbR p2 p3) (σ.1 1) (σ.1 3) aTo aPo (σ.1 4) aRw aRr (σ.1 5) (σ.1 6) (σ.1 7) aWs aRs (σ.1 8) (σ.1 9) (σ.1 10) (σ.1 11) (σ.1 12)) := hD
            refine lv_aload_n hx hb dX8_load_58 rfl (lv_at hl 0 rfl) ?_
            refine lv_iload_n hx hb dX8_load_59 rfl (lv_at hl 1 rfl) ?_
            have hFc := wFree hD hS hA
            refine va_callv (va_runV (As := [.int p1]) (rest := []) ⟨hx, hb, hml, hown, hts⟩ (met_X8_store l Dg m0 H.size a y 0 p2 (σ.1 2 0) (σ.1 2 1) (σ.1 2 2) (σ.1 2 3) (σ.1 2 4) (hbW p2 p3) (hbR p2 p3) (σ.1 1) (σ.1 3) aTo aPo (σ.1 4) aRw aRr (σ.1 5) (σ.1 6) (σ.1 7) aWs aRs (σ.1 8) (σ.1 9) (σ.1 10) (σ.1 11) (σ.1 12) p1 (inC_in hV.1.2.1 c_1) (rep_nn hk hT.1 hT.2)) (cwV 1 hts gX8_load_X8_store rfl rfl rfl (by decide +kernel) ⟨Nat.le_of_ble_eq_true rfl, Nat.le_of_ble_eq_true rfl⟩) (wPreV hK hP (hD.weaken (fun _ _ _ _ => trivial)) (va_recv hK hP (ci := 6) (q0 := 0) rfl rfl)) rfl rfl hl.1 rfl (lv_room (Nat.le_of_ble_eq_true rfl)) dX8_load_60 ⟨Nat.le_of_ble_eq_true rfl, Nat.le_of_ble_eq_true rfl⟩) hS (fun q _ h => hFc q h) hFc (fun u t H locs ht hvm hw hB _ _ hS => ?_)
            obtain ⟨hP, -, hD⟩ := hB
            rw [ht] at hP
            replace hD := hD.weaken (fun _ q _ h => hFc q.1 h)
            rw [hw] at hP hD
            clear hw hFc
            have hP : va_P Dg vwCl (mW m0 a y 0 ((σ.1 4) p1.toNatClampNeg) (σ.1 2 0) (σ.1 2 1) (σ.1 2 2) (σ.1 2 3) (σ.1 2 4) (mcW p2 (hbW p2 p3) (hbR p2 p3) ((σ.1 4) p1.toNatClampNeg)) (mcR p2 (hbW p2 p3) (hbR p2 p3) ((σ.1 4) p1.toNatClampNeg)) (σ.1 1) (σ.1 3) aTo aPo (σ.1 4) (vp_updL aRw p1.toNatClampNeg (mcW p2 (hbW p2 p3) (hbR p2 p3) ((σ.1 4) p1.toNatClampNeg))) (vf_upd aRr p1.toNatClampNeg (mcR p2 (hbW p2 p3) (hbR p2 p3) ((σ.1 4) p1.toNatClampNeg))) (σ.1 5) (σ.1 6) (σ.1 7) aWs aRs (σ.1 8) (σ.1 9) (σ.1 10) (σ.1 11) (σ.1 12)) H := hP
            have hD : va_D A (mW m0 a y 0 ((σ.1 4) p1.toNatClampNeg) (σ.1 2 0) (σ.1 2 1) (σ.1 2 2) (σ.1 2 3) (σ.1 2 4) (mcW p2 (hbW p2 p3) (hbR p2 p3) ((σ.1 4) p1.toNatClampNeg)) (mcR p2 (hbW p2 p3) (hbR p2 p3) ((σ.1 4) p1.toNatClampNeg)) (σ.1 1) (σ.1 3) aTo aPo (σ.1 4) (vp_updL aRw p1.toNatClampNeg (mcW p2 (hbW p2 p3) (hbR p2 p3) ((σ.1 4) p1.toNatClampNeg))) (vf_upd aRr p1.toNatClampNeg (mcR p2 (hbW p2 p3) (hbR p2 p3) ((σ.1 4) p1.toNatClampNeg))) (σ.1 5) (σ.1 6) (σ.1 7) aWs aRs (σ.1 8) (σ.1 9) (σ.1 10) (σ.1 11) (σ.1 12)) := hD
            refine lv_iconst (v := 1) hx hb dX8_load_63 (by decide) ?_
            have hw : wh_load σ p1 p2 p3 = 0 := by simp only [wh_load, if_pos c_1, if_pos c_2, if_neg c_3, if_pos c_4, if_pos c_5]
            exact W.iret (v := 1) hx hb hr (fun t ht hW => ⟨⟨_, (mW m0 a y 0 ((σ.1 4) p1.toNatClampNeg) (σ.1 2 0) (σ.1 2 1) (σ.1 2 2) (σ.1 2 3) (σ.1 2 4) (mcW p2 (hbW p2 p3) (hbR p2 p3) ((σ.1 4) p1.toNatClampNeg)) (mcR p2 (hbW p2 p3) (hbR p2 p3) ((σ.1 4) p1.toNatClampNeg)) (σ.1 1) (σ.1 3) aTo aPo (σ.1 4) (vp_updL aRw p1.toNatClampNeg (mcW p2 (hbW p2 p3) (hbR p2 p3) ((σ.1 4) p1.toNatClampNeg))) (vf_upd aRr p1.toNatClampNeg (mcR p2 (hbW p2 p3) (hbR p2 p3) ((σ.1 4) p1.toNatClampNeg))) (σ.1 5) (σ.1 6) (σ.1 7) aWs aRs (σ.1 8) (σ.1 9) (σ.1 10) (σ.1 11) (σ.1 12)), rfl, ⟨by rw [an_load, if_pos hw]; try rfl, (σ.1 4) p1.toNatClampNeg, mcW p2 (hbW p2 p3) (hbR p2 p3) ((σ.1 4) p1.toNatClampNeg), mcR p2 (hbW p2 p3) (hbR p2 p3) ((σ.1 4) p1.toNatClampNeg), aTo, aPo, vp_updL aRw p1.toNatClampNeg (mcW p2 (hbW p2 p3) (hbR p2 p3) ((σ.1 4) p1.toNatClampNeg)), vf_upd aRr p1.toNatClampNeg (mcR p2 (hbW p2 p3) (hbR p2 p3) ((σ.1 4) p1.toNatClampNeg)), aWs, aRs, by rw [nw_load, if_pos hw]; rfl, by rw [nw_load, if_pos hw]; exact mC_store hM S1⟩, by rw [ht]; exact hP, va_K.moved hW.alike hK, hD⟩, hS.F ht⟩) hS.2.2 dX8_load_64
          · replace c_5 := bI_eq c_5
            refine lv_aload_n hx hb dX8_load_45 rfl (lv_at hl 0 rfl) ?_
            refine lv_bipush (v := (-2)) hx hb dX8_load_46 (by decide) ?_
            have hFc := wFree hD hS hA
            refine va_calli (va_runV (As := [.int (-2)]) (rest := []) ⟨hx, hb, hml, hown, hts⟩ (met_X8_refuse l Dg m0 H.size a y 0 kd (σ.1 2 0) (σ.1 2 1) (σ.1 2 2) (σ.1 2 3) (σ.1 2 4) wh re (σ.1 1) (σ.1 3) aTo aPo (σ.1 4) aRw aRr (σ.1 5) (σ.1 6) (σ.1 7) aWs aRs (σ.1 8) (σ.1 9) (σ.1 10) (σ.1 11) (σ.1 12) (-2) (by unfold vp_in; decide)) (cwV 1 hts gX8_load_X8_refuse rfl rfl rfl (by decide +kernel) ⟨Nat.le_of_ble_eq_true rfl, Nat.le_of_ble_eq_true rfl⟩) (wPreV hK hP (hD.weaken (fun _ _ _ _ => trivial)) (va_recv hK hP (ci := 6) (q0 := 0) rfl rfl)) rfl rfl hl.1 rfl (lv_room (Nat.le_of_ble_eq_true rfl)) dX8_load_48 ⟨Nat.le_of_ble_eq_true rfl, Nat.le_of_ble_eq_true rfl⟩) hS (fun q _ h => hFc q h) hFc (fun r u t H locs ht hvm hw hB _ _ hS => ?_)
            obtain ⟨hP, -, hD⟩ := hB
            rw [ht] at hP
            replace hD := hD.weaken (fun _ q _ h => hFc q.1 h)
            rw [hw.2] at hP hD
            rw [hw.1]
            clear hw hFc
            have hP : va_P Dg vwCl (mW m0 a y (-2) kd (σ.1 2 0) (σ.1 2 1) (σ.1 2 2) (σ.1 2 3) (σ.1 2 4) wh re (rfO (-2) (σ.1 1)) (σ.1 3) aTo aPo (σ.1 4) aRw aRr (σ.1 5) (σ.1 6) (σ.1 7) aWs aRs (σ.1 8) (σ.1 9) (σ.1 10) (σ.1 11) (σ.1 12)) H := hP
            have hD : va_D A (mW m0 a y (-2) kd (σ.1 2 0) (σ.1 2 1) (σ.1 2 2) (σ.1 2 3) (σ.1 2 4) wh re (rfO (-2) (σ.1 1)) (σ.1 3) aTo aPo (σ.1 4) aRw aRr (σ.1 5) (σ.1 6) (σ.1 7) aWs aRs (σ.1 8) (σ.1 9) (σ.1 10) (σ.1 11) (σ.1 12)) := hD
            have hw : wh_load σ p1 p2 p3 = (-2) := by simp only [wh_load, if_pos c_1, if_pos c_2, if_neg c_3, if_pos c_4, if_neg c_5]
            have hn : ¬ wh_load σ p1 p2 p3 = 0 := by rw [hw]; decide
            exact W.iret (v := (-2)) hx hb hr (fun t ht hW => ⟨⟨_, (mW m0 a y (-2) kd (σ.1 2 0) (σ.1 2 1) (σ.1 2 2) (σ.1 2 3) (σ.1 2 4) wh re (rfO (-2) (σ.1 1)) (σ.1 3) aTo aPo (σ.1 4) aRw aRr (σ.1 5) (σ.1 6) (σ.1 7) aWs aRs (σ.1 8) (σ.1 9) (σ.1 10) (σ.1 11) (σ.1 12)), rfl, ⟨by rw [an_load, if_neg hn, hw]; try rfl, kd, wh, re, aTo, aPo, aRw, aRr, aWs, aRs, by rw [nw_load, if_neg hn, hw]; rfl, by rw [nw_load, if_neg hn]; exact hM⟩, by rw [ht]; exact hP, va_K.moved hW.alike hK, hD⟩, hS.F ht⟩) hS.2.2 dX8_load_51
      · refine lv_lload_n hx hb dX8_load_25 rfl (lv_at hl 3 rfl) ?_
        refine lv_l2i hx hb dX8_load_26 rfl ?_
        refine vp_callSi ((va_runS (As := [.int p3.toInt32]) (rest := []) ⟨hx, hb, hml, hown, hts⟩ (met_X8_isFloat l p3.toInt32) (va_cwS 1 hts gX8_load_X8_isFloat rfl rfl rfl (by decide +kernel) ⟨Nat.le_of_ble_eq_true rfl, Nat.le_of_ble_eq_true rfl⟩) ⟨fun _ _ _ _ q => q, fun U hU hW => ⟨rfl, trivial⟩⟩ rfl rfl hl.1 rfl (lv_room (Nat.le_of_ble_eq_true rfl)) dX8_load_27 ⟨Nat.le_of_ble_eq_true rfl, Nat.le_of_ble_eq_true rfl⟩).run) (fun r hw => ?_)
        subst hw
        refine lv_if_eq (tgt := 45) hx hb dX8_load_30 (by decide) (fun c_6 => ?_) (fun c_6 => ?_)
        · replace c_6 := bI_eq c_6
          refine lv_aload_n hx hb dX8_load_45 rfl (lv_at hl 0 rfl) ?_
          refine lv_bipush (v := (-2)) hx hb dX8_load_46 (by decide) ?_
          have hFc := wFree hD hS hA
          refine va_calli (va_runV (As := [.int (-2)]) (rest := []) ⟨hx, hb, hml, hown, hts⟩ (met_X8_refuse l Dg m0 H.size a y 0 kd (σ.1 2 0) (σ.1 2 1) (σ.1 2 2) (σ.1 2 3) (σ.1 2 4) wh re (σ.1 1) (σ.1 3) aTo aPo (σ.1 4) aRw aRr (σ.1 5) (σ.1 6) (σ.1 7) aWs aRs (σ.1 8) (σ.1 9) (σ.1 10) (σ.1 11) (σ.1 12) (-2) (by unfold vp_in; decide)) (cwV 1 hts gX8_load_X8_refuse rfl rfl rfl (by decide +kernel) ⟨Nat.le_of_ble_eq_true rfl, Nat.le_of_ble_eq_true rfl⟩) (wPreV hK hP (hD.weaken (fun _ _ _ _ => trivial)) (va_recv hK hP (ci := 6) (q0 := 0) rfl rfl)) rfl rfl hl.1 rfl (lv_room (Nat.le_of_ble_eq_true rfl)) dX8_load_48 ⟨Nat.le_of_ble_eq_true rfl, Nat.le_of_ble_eq_true rfl⟩) hS (fun q _ h => hFc q h) hFc (fun r u t H locs ht hvm hw hB _ _ hS => ?_)
          obtain ⟨hP, -, hD⟩ := hB
          rw [ht] at hP
          replace hD := hD.weaken (fun _ q _ h => hFc q.1 h)
          rw [hw.2] at hP hD
          rw [hw.1]
          clear hw hFc
          have hP : va_P Dg vwCl (mW m0 a y (-2) kd (σ.1 2 0) (σ.1 2 1) (σ.1 2 2) (σ.1 2 3) (σ.1 2 4) wh re (rfO (-2) (σ.1 1)) (σ.1 3) aTo aPo (σ.1 4) aRw aRr (σ.1 5) (σ.1 6) (σ.1 7) aWs aRs (σ.1 8) (σ.1 9) (σ.1 10) (σ.1 11) (σ.1 12)) H := hP
          have hD : va_D A (mW m0 a y (-2) kd (σ.1 2 0) (σ.1 2 1) (σ.1 2 2) (σ.1 2 3) (σ.1 2 4) wh re (rfO (-2) (σ.1 1)) (σ.1 3) aTo aPo (σ.1 4) aRw aRr (σ.1 5) (σ.1 6) (σ.1 7) aWs aRs (σ.1 8) (σ.1 9) (σ.1 10) (σ.1 11) (σ.1 12)) := hD
          have hw : wh_load σ p1 p2 p3 = (-2) := by simp only [wh_load, if_pos c_1, if_pos c_2, if_pos c_3, if_neg c_6]
          have hn : ¬ wh_load σ p1 p2 p3 = 0 := by rw [hw]; decide
          exact W.iret (v := (-2)) hx hb hr (fun t ht hW => ⟨⟨_, (mW m0 a y (-2) kd (σ.1 2 0) (σ.1 2 1) (σ.1 2 2) (σ.1 2 3) (σ.1 2 4) wh re (rfO (-2) (σ.1 1)) (σ.1 3) aTo aPo (σ.1 4) aRw aRr (σ.1 5) (σ.1 6) (σ.1 7) aWs aRs (σ.1 8) (σ.1 9) (σ.1 10) (σ.1 11) (σ.1 12)), rfl, ⟨by rw [an_load, if_neg hn, hw]; try rfl, kd, wh, re, aTo, aPo, aRw, aRr, aWs, aRs, by rw [nw_load, if_neg hn, hw]; rfl, by rw [nw_load, if_neg hn]; exact hM⟩, by rw [ht]; exact hP, va_K.moved hW.alike hK, hD⟩, hS.F ht⟩) hS.2.2 dX8_load_51
        · replace c_6 := bI_ne c_6
          refine lv_iload_n hx hb dX8_load_33 rfl (lv_at hl 2 rfl) ?_
          refine lv_iconst (v := 3) hx hb dX8_load_34 (by decide) ?_
          refine lv_icmp_ne (tgt := 52) hx hb dX8_load_35 (by decide) (fun _ => ?_) (fun h0 => absurd h0 (by rw [c_3]; decide))
          have hk := isK_of c_2
          have h2 : p2 = 2 → FP.Core.val32 p3.toInt32.toUInt32 ≠ .nan := fun _ => (flt_eq _).mp c_6
          have h3 : p2 = 3 → okR 3 p3 := fun g => absurd g (by rw [c_3]; decide)
          have hT := rep_told hk h2 h3
          have R1 := hV.2.2.1 _ (inC_lt hV.1.2.1 c_1)
          have P1 := hM.2.1 _ (inC_lt hV.1.2.1 c_1)
          have S1 := rep_cast hk R1.1 hT.1 hT.2
          refine lv_aload_n hx hb dX8_load_52 rfl (lv_at hl 0 rfl) ?_
          refine lv_iload_n hx hb dX8_load_53 rfl (lv_at hl 2 rfl) ?_
          refine lv_lload_n hx hb dX8_load_54 rfl (lv_at hl 3 rfl) ?_
          have hFc := wFree hD hS hA
          refine va_callv (va_runV (As := [.int p2, .long p3]) (rest := []) ⟨hx, hb, hml, hown, hts⟩ (met_X8_holdBits l Dg m0 H.size a y 0 kd (σ.1 2 0) (σ.1 2 1) (σ.1 2 2) (σ.1 2 3) (σ.1 2 4) wh re (σ.1 1) (σ.1 3) aTo aPo (σ.1 4) aRw aRr (σ.1 5) (σ.1 6) (σ.1 7) aWs aRs (σ.1 8) (σ.1 9) (σ.1 10) (σ.1 11) (σ.1 12) p2 p3 (fun g => ⟨sn_of32 (h2 g), h2 g⟩) (fun g g2 => sn_of ((okR3 (k := 3) (by decide)).mp (h3 (k3_2 hk g g2))))) (cwV 2 hts gX8_load_X8_holdBits rfl rfl rfl (by decide +kernel) ⟨Nat.le_of_ble_eq_true rfl, Nat.le_of_ble_eq_true rfl⟩) (wPreV hK hP (hD.weaken (fun _ _ _ _ => trivial)) (va_recv hK hP (ci := 6) (q0 := 0) rfl rfl)) rfl rfl hl.1 rfl (lv_room (Nat.le_of_ble_eq_true rfl)) dX8_load_55 ⟨Nat.le_of_ble_eq_true rfl, Nat.le_of_ble_eq_true rfl⟩) hS (fun q _ h => hFc q h) hFc (fun u t H locs ht hvm hw hB _ _ hS => ?_)
          obtain ⟨hP, -, hD⟩ := hB
          rw [ht] at hP
          replace hD := hD.weaken (fun _ q _ h => hFc q.1 h)
          rw [hw] at hP hD
          clear hw hFc
          have hP : va_P Dg vwCl (mW m0 a y 0 p2 (σ.1 2 0) (σ.1 2 1) (σ.1 2 2) (σ.1 2 3) (σ.1 2 4) (hbW p2 p3) (hbR p2 p3) (σ.1 1) (σ.1 3) aTo aPo (σ.1 4) aRw aRr (σ.1 5) (σ.1 6) (σ.1 7) aWs aRs (σ.1 8) (σ.1 9) (σ.1 10) (σ.1 11) (σ.1 12)) H := hP
          have hD : va_D A (mW m0 a y 0 p2 (σ.1 2 0) (σ.1 2 1) (σ.1 2 2) (σ.1 2 3) (σ.1 2 4) (hbW p2 p3) (hbR p2 p3) (σ.1 1) (σ.1 3) aTo aPo (σ.1 4) aRw aRr (σ.1 5) (σ.1 6) (σ.1 7) aWs aRs (σ.1 8) (σ.1 9) (σ.1 10) (σ.1 11) (σ.1 12)) := hD
          refine lv_aload_n hx hb dX8_load_58 rfl (lv_at hl 0 rfl) ?_
          refine lv_iload_n hx hb dX8_load_59 rfl (lv_at hl 1 rfl) ?_
          have hFc := wFree hD hS hA
          refine va_callv (va_runV (As := [.int p1]) (rest := []) ⟨hx, hb, hml, hown, hts⟩ (met_X8_store l Dg m0 H.size a y 0 p2 (σ.1 2 0) (σ.1 2 1) (σ.1 2 2) (σ.1 2 3) (σ.1 2 4) (hbW p2 p3) (hbR p2 p3) (σ.1 1) (σ.1 3) aTo aPo (σ.1 4) aRw aRr (σ.1 5) (σ.1 6) (σ.1 7) aWs aRs (σ.1 8) (σ.1 9) (σ.1 10) (σ.1 11) (σ.1 12) p1 (inC_in hV.1.2.1 c_1) (rep_nn hk hT.1 hT.2)) (cwV 1 hts gX8_load_X8_store rfl rfl rfl (by decide +kernel) ⟨Nat.le_of_ble_eq_true rfl, Nat.le_of_ble_eq_true rfl⟩) (wPreV hK hP (hD.weaken (fun _ _ _ _ => trivial)) (va_recv hK hP (ci := 6) (q0 := 0) rfl rfl)) rfl rfl hl.1 rfl (lv_room (Nat.le_of_ble_eq_true rfl)) dX8_load_60 ⟨Nat.le_of_ble_eq_true rfl, Nat.le_of_ble_eq_true rfl⟩) hS (fun q _ h => hFc q h) hFc (fun u t H locs ht hvm hw hB _ _ hS => ?_)
          obtain ⟨hP, -, hD⟩ := hB
          rw [ht] at hP
          replace hD := hD.weaken (fun _ q _ h => hFc q.1 h)
          rw [hw] at hP hD
          clear hw hFc
          have hP : va_P Dg vwCl (mW m0 a y 0 ((σ.1 4) p1.toNatClampNeg) (σ.1 2 0) (σ.1 2 1) (σ.1 2 2) (σ.1 2 3) (σ.1 2 4) (mcW p2 (hbW p2 p3) (hbR p2 p3) ((σ.1 4) p1.toNatClampNeg)) (mcR p2 (hbW p2 p3) (hbR p2 p3) ((σ.1 4) p1.toNatClampNeg)) (σ.1 1) (σ.1 3) aTo aPo (σ.1 4) (vp_updL aRw p1.toNatClampNeg (mcW p2 (hbW p2 p3) (hbR p2 p3) ((σ.1 4) p1.toNatClampNeg))) (vf_upd aRr p1.toNatClampNeg (mcR p2 (hbW p2 p3) (hbR p2 p3) ((σ.1 4) p1.toNatClampNeg))) (σ.1 5) (σ.1 6) (σ.1 7) aWs aRs (σ.1 8) (σ.1 9) (σ.1 10) (σ.1 11) (σ.1 12)) H := hP
          have hD : va_D A (mW m0 a y 0 ((σ.1 4) p1.toNatClampNeg) (σ.1 2 0) (σ.1 2 1) (σ.1 2 2) (σ.1 2 3) (σ.1 2 4) (mcW p2 (hbW p2 p3) (hbR p2 p3) ((σ.1 4) p1.toNatClampNeg)) (mcR p2 (hbW p2 p3) (hbR p2 p3) ((σ.1 4) p1.toNatClampNeg)) (σ.1 1) (σ.1 3) aTo aPo (σ.1 4) (vp_updL aRw p1.toNatClampNeg (mcW p2 (hbW p2 p3) (hbR p2 p3) ((σ.1 4) p1.toNatClampNeg))) (vf_upd aRr p1.toNatClampNeg (mcR p2 (hbW p2 p3) (hbR p2 p3) ((σ.1 4) p1.toNatClampNeg))) (σ.1 5) (σ.1 6) (σ.1 7) aWs aRs (σ.1 8) (σ.1 9) (σ.1 10) (σ.1 11) (σ.1 12)) := hD
          refine lv_iconst (v := 1) hx hb dX8_load_63 (by decide) ?_
          have hw : wh_load σ p1 p2 p3 = 0 := by simp only [wh_load, if_pos c_1, if_pos c_2, if_pos c_3, if_pos c_6]
          exact W.iret (v := 1) hx hb hr (fun t ht hW => ⟨⟨_, (mW m0 a y 0 ((σ.1 4) p1.toNatClampNeg) (σ.1 2 0) (σ.1 2 1) (σ.1 2 2) (σ.1 2 3) (σ.1 2 4) (mcW p2 (hbW p2 p3) (hbR p2 p3) ((σ.1 4) p1.toNatClampNeg)) (mcR p2 (hbW p2 p3) (hbR p2 p3) ((σ.1 4) p1.toNatClampNeg)) (σ.1 1) (σ.1 3) aTo aPo (σ.1 4) (vp_updL aRw p1.toNatClampNeg (mcW p2 (hbW p2 p3) (hbR p2 p3) ((σ.1 4) p1.toNatClampNeg))) (vf_upd aRr p1.toNatClampNeg (mcR p2 (hbW p2 p3) (hbR p2 p3) ((σ.1 4) p1.toNatClampNeg))) (σ.1 5) (σ.1 6) (σ.1 7) aWs aRs (σ.1 8) (σ.1 9) (σ.1 10) (σ.1 11) (σ.1 12)), rfl, ⟨by rw [an_load, if_pos hw]; try rfl, (σ.1 4) p1.toNatClampNeg, mcW p2 (hbW p2 p3) (hbR p2 p3) ((σ.1 4) p1.toNatClampNeg), mcR p2 (hbW p2 p3) (hbR p2 p3) ((σ.1 4) p1.toNatClampNeg), aTo, aPo, vp_updL aRw p1.toNatClampNeg (mcW p2 (hbW p2 p3) (hbR p2 p3) ((σ.1 4) p1.toNatClampNeg)), vf_upd aRr p1.toNatClampNeg (mcR p2 (hbW p2 p3) (hbR p2 p3) ((σ.1 4) p1.toNatClampNeg)), aWs, aRs, by rw [nw_load, if_pos hw]; rfl, by rw [nw_load, if_pos hw]; exact mC_store hM S1⟩, by rw [ht]; exact hP, va_K.moved hW.alike hK, hD⟩, hS.F ht⟩) hS.2.2 dX8_load_64

theorem in_X8_move : ∀ w ∈ wsX80, w ∈ wsX8_move := fun w h => List.mem_cons_of_mem _ (List.mem_append_right _ h)
set_option maxHeartbeats 8000000 in
set_option maxRecDepth 100000 in
theorem met_X8_move (l : Launch) (Dg : va_G) (m0 z : Nat) (a : Nat → Nat) (y : Nat → ClassId) (σ : St) (kd : Int32) (wh : Int64) (re : UInt64) (aTo aPo : Nat → UInt64) (aRw : Nat → Int64) (aRr : Nat → UInt64) (aWs : Nat → Int64) (aRs : Nat → UInt64) (p1 : Int32) (p2 : Int32) (hV : vOK σ) (hM : mC σ aTo aPo aRw aRr aWs aRs)  : Met l yX8_move wsX8_move ({ frames := 3, cells := 0, slots := 0, locals := 62 }) (va_Pc [.ref m0, .int p1, .int p2] (wB Dg (mT y) (mW m0 a y (σ.1 0 0) kd (σ.1 2 0) (σ.1 2 1) (σ.1 2 2) (σ.1 2 3) (σ.1 2 4) wh re (σ.1 1) (σ.1 3) aTo aPo (σ.1 4) aRw aRr (σ.1 5) (σ.1 6) (σ.1 7) aWs aRs (σ.1 8) (σ.1 9) (σ.1 10) (σ.1 11) (σ.1 12)) z)) (va_Qi (fun (r : Int32) (u : va_W) => r = an_move σ p1 p2 ∧ MI m0 a y (nw_move σ p1 p2) u) (wE Dg (mT y) (va_A (mW m0 a y (σ.1 0 0) kd (σ.1 2 0) (σ.1 2 1) (σ.1 2 2) (σ.1 2 3) (σ.1 2 4) wh re (σ.1 1) (σ.1 3) aTo aPo (σ.1 4) aRw aRr (σ.1 5) (σ.1 6) (σ.1 7) aWs aRs (σ.1 8) (σ.1 9) (σ.1 10) (σ.1 11) (σ.1 12)) z)) (va_A (mW m0 a y (σ.1 0 0) kd (σ.1 2 0) (σ.1 2 1) (σ.1 2 2) (σ.1 2 3) (σ.1 2 4) wh re (σ.1 1) (σ.1 3) aTo aPo (σ.1 4) aRw aRr (σ.1 5) (σ.1 6) (σ.1 7) aWs aRs (σ.1 8) (σ.1 9) (σ.1 10) (σ.1 11) (σ.1 12)) z)) 0 0 (va_A (mW m0 a y (σ.1 0 0) kd (σ.1 2 0) (σ.1 2 1) (σ.1 2 2) (σ.1 2 3) (σ.1 2 4) wh re (σ.1 1) (σ.1 3) aTo aPo (σ.1 4) aRw aRr (σ.1 5) (σ.1 6) (σ.1 7) aWs aRs (σ.1 8) (σ.1 9) (σ.1 10) (σ.1 11) (σ.1 12)) z) := by
  refine Met.ofW (cc := cX8_move) (maxL := 6) (ret := (some .int)) (by decide) rfl ?_
  intro p e s m args below meth c s₁ B hml hv
  obtain ⟨rfl, hsz, hP, hK, hD0⟩ := hv
  have hx := B.exec
  have hb := B.bytes
  have hr := B.returns
  have hts := atoms_spec (ws := wsX8_move) B.pre
  have hown : s.vm.findClass RX8 = some m.cls := findClass_of_methodNamed B.named
  have hlocks := B.notSynchronized
  subst hsz
  have hD := hD0.self (sz := s.heap.size)
  generalize hAe : va_A (mW m0 a y (σ.1 0 0) kd (σ.1 2 0) (σ.1 2 1) (σ.1 2 2) (σ.1 2 3) (σ.1 2 4) wh re (σ.1 1) (σ.1 3) aTo aPo (σ.1 4) aRw aRr (σ.1 5) (σ.1 6) (σ.1 7) aWs aRs (σ.1 8) (σ.1 9) (σ.1 10) (σ.1 11) (σ.1 12)) s.heap.size = A at hD ⊢
  have hA : ∀ q : Nat, s.heap.size ≤ q → A q := fun q h => by rw [← hAe]; exact Or.inr h
  have hS : va_S A s.heap s.heap [] := va_S.rf
  have hP : va_P Dg vwCl (mW m0 a y (σ.1 0 0) kd (σ.1 2 0) (σ.1 2 1) (σ.1 2 2) (σ.1 2 3) (σ.1 2 4) wh re (σ.1 1) (σ.1 3) aTo aPo (σ.1 4) aRw aRr (σ.1 5) (σ.1 6) (σ.1 7) aWs aRs (σ.1 8) (σ.1 9) (σ.1 10) (σ.1 11) (σ.1 12)) s.heap := hP
  have hl := lv_entry ([.ref m0, .int p1, .int p2]) (n := 6) (Nat.le_of_ble_eq_true rfl)
  rw [lg_entry_eq]
  generalize (lg_sl ([.ref m0, .int p1, .int p2]) ++ List.replicate (6 - (lg_sl ([.ref m0, .int p1, .int p2])).length) Slot.unset).toArray = ls at hl ⊢
  have hl : lv_has ls 6 [(0, .ref m0), (1, .int p1), (2, .int p2)] := hl
  refine lv_aload_n hx hb dX8_move_0 rfl (lv_at hl 0 rfl) ?_
  refine lv_iconst (v := 0) hx hb dX8_move_1 (by decide) ?_
  refine va_put (D := Dg) (ci := 6) (v := .int 0) (ty := .int) (C := RX8) (T := TX8) (N := 26) hx hb hts in_X8_move tyX8 tyX8_ok nmX8 hown hK hP hD hS 0 rfl rfl 0 (by decide) (hts (.fieldLink RX8 64 "OrreryWorksModel" "refused" "I") (by decide +kernel)) (fun _ h9 => h9) rfl (by decide +kernel) rfl rfl (Nat.le_of_ble_eq_true rfl) dX8_move_2 (fun H locs hP hD hS => ?_)
  have hP : va_P Dg vwCl (mW m0 a y 0 kd (σ.1 2 0) (σ.1 2 1) (σ.1 2 2) (σ.1 2 3) (σ.1 2 4) wh re (σ.1 1) (σ.1 3) aTo aPo (σ.1 4) aRw aRr (σ.1 5) (σ.1 6) (σ.1 7) aWs aRs (σ.1 8) (σ.1 9) (σ.1 10) (σ.1 11) (σ.1 12)) H := hP
  have hD : va_D A (mW m0 a y 0 kd (σ.1 2 0) (σ.1 2 1) (σ.1 2 2) (σ.1 2 3) (σ.1 2 4) wh re (σ.1 1) (σ.1 3) aTo aPo (σ.1 4) aRw aRr (σ.1 5) (σ.1 6) (σ.1 7) aWs aRs (σ.1 8) (σ.1 9) (σ.1 10) (σ.1 11) (σ.1 12)) := hD
  refine lv_aload_n hx hb dX8_move_5 rfl (lv_at hl 0 rfl) ?_
  refine lv_iload_n hx hb dX8_move_6 rfl (lv_at hl 1 rfl) ?_
  refine vp_callSi ((va_runV (As := [.int p1]) (rest := []) ⟨hx, hb, hml, hown, hts⟩ (met_X8_isRegister l Dg m0 H.size a y 0 kd (σ.1 2 0) (σ.1 2 1) (σ.1 2 2) (σ.1 2 3) (σ.1 2 4) wh re (σ.1 1) (σ.1 3) aTo aPo (σ.1 4) aRw aRr (σ.1 5) (σ.1 6) (σ.1 7) aWs aRs (σ.1 8) (σ.1 9) (σ.1 10) (σ.1 11) (σ.1 12) p1 ) (cwV 1 hts gX8_move_X8_isRegister rfl rfl rfl (by decide +kernel) ⟨Nat.le_of_ble_eq_true rfl, Nat.le_of_ble_eq_true rfl⟩) (wPreV hK hP (hD.weaken (fun _ _ _ _ => trivial)) (va_recv hK hP (ci := 6) (q0 := 0) rfl rfl)) rfl rfl hl.1 rfl (lv_room (Nat.le_of_ble_eq_true rfl)) dX8_move_7 ⟨Nat.le_of_ble_eq_true rfl, Nat.le_of_ble_eq_true rfl⟩).run) (fun r hw => ?_)
  rw [hw]
  refine lv_if_eq (tgt := 21) hx hb dX8_move_10 (by decide) (fun c_1 => ?_) (fun c_1 => ?_)
  · replace c_1 := bI_eq c_1
    refine lv_aload_n hx hb dX8_move_21 rfl (lv_at hl 0 rfl) ?_
    refine lv_bipush (v := (-2)) hx hb dX8_move_22 (by decide) ?_
    have hFc := wFree hD hS hA
    refine va_calli (va_runV (As := [.int (-2)]) (rest := []) ⟨hx, hb, hml, hown, hts⟩ (met_X8_refuse l Dg m0 H.size a y 0 kd (σ.1 2 0) (σ.1 2 1) (σ.1 2 2) (σ.1 2 3) (σ.1 2 4) wh re (σ.1 1) (σ.1 3) aTo aPo (σ.1 4) aRw aRr (σ.1 5) (σ.1 6) (σ.1 7) aWs aRs (σ.1 8) (σ.1 9) (σ.1 10) (σ.1 11) (σ.1 12) (-2) (by unfold vp_in; decide)) (cwV 1 hts gX8_move_X8_refuse rfl rfl rfl (by decide +kernel) ⟨Nat.le_of_ble_eq_true rfl, Nat.le_of_ble_eq_true rfl⟩) (wPreV hK hP (hD.weaken (fun _ _ _ _ => trivial)) (va_recv hK hP (ci := 6) (q0 := 0) rfl rfl)) rfl rfl hl.1 rfl (lv_room (Nat.le_of_ble_eq_true rfl)) dX8_move_24 ⟨Nat.le_of_ble_eq_true rfl, Nat.le_of_ble_eq_true rfl⟩) hS (fun q _ h => hFc q h) hFc (fun r u t H locs ht hvm hw hB _ _ hS => ?_)
    obtain ⟨hP, -, hD⟩ := hB
    rw [ht] at hP
    replace hD := hD.weaken (fun _ q _ h => hFc q.1 h)
    rw [hw.2] at hP hD
    rw [hw.1]
    clear hw hFc
    have hP : va_P Dg vwCl (mW m0 a y (-2) kd (σ.1 2 0) (σ.1 2 1) (σ.1 2 2) (σ.1 2 3) (σ.1 2 4) wh re (rfO (-2) (σ.1 1)) (σ.1 3) aTo aPo (σ.1 4) aRw aRr (σ.1 5) (σ.1 6) (σ.1 7) aWs aRs (σ.1 8) (σ.1 9) (σ.1 10) (σ.1 11) (σ.1 12)) H := hP
    have hD : va_D A (mW m0 a y (-2) kd (σ.1 2 0) (σ.1 2 1) (σ.1 2 2) (σ.1 2 3) (σ.1 2 4) wh re (rfO (-2) (σ.1 1)) (σ.1 3) aTo aPo (σ.1 4) aRw aRr (σ.1 5) (σ.1 6) (σ.1 7) aWs aRs (σ.1 8) (σ.1 9) (σ.1 10) (σ.1 11) (σ.1 12)) := hD
    have hw : wh_move σ p1 p2 = (-2) := by simp only [wh_move, if_neg c_1]
    have hn : ¬ wh_move σ p1 p2 = 0 := by rw [hw]; decide
    exact W.iret (v := (-2)) hx hb hr (fun t ht hW => ⟨⟨_, (mW m0 a y (-2) kd (σ.1 2 0) (σ.1 2 1) (σ.1 2 2) (σ.1 2 3) (σ.1 2 4) wh re (rfO (-2) (σ.1 1)) (σ.1 3) aTo aPo (σ.1 4) aRw aRr (σ.1 5) (σ.1 6) (σ.1 7) aWs aRs (σ.1 8) (σ.1 9) (σ.1 10) (σ.1 11) (σ.1 12)), rfl, ⟨by rw [an_move, if_neg hn, hw]; try rfl, kd, wh, re, aTo, aPo, aRw, aRr, aWs, aRs, by rw [nw_move, if_neg hn, hw]; rfl, by rw [nw_move, if_neg hn]; exact hM⟩, by rw [ht]; exact hP, va_K.moved hW.alike hK, hD⟩, hS.F ht⟩) hS.2.2 dX8_move_27
  · replace c_1 := bI_ne c_1
    refine lv_aload_n hx hb dX8_move_13 rfl (lv_at hl 0 rfl) ?_
    refine lv_iload_n hx hb dX8_move_14 rfl (lv_at hl 2 rfl) ?_
    refine vp_callSi ((va_runV (As := [.int p2]) (rest := []) ⟨hx, hb, hml, hown, hts⟩ (met_X8_isRegister l Dg m0 H.size a y 0 kd (σ.1 2 0) (σ.1 2 1) (σ.1 2 2) (σ.1 2 3) (σ.1 2 4) wh re (σ.1 1) (σ.1 3) aTo aPo (σ.1 4) aRw aRr (σ.1 5) (σ.1 6) (σ.1 7) aWs aRs (σ.1 8) (σ.1 9) (σ.1 10) (σ.1 11) (σ.1 12) p2 ) (cwV 1 hts gX8_move_X8_isRegister rfl rfl rfl (by decide +kernel) ⟨Nat.le_of_ble_eq_true rfl, Nat.le_of_ble_eq_true rfl⟩) (wPreV hK hP (hD.weaken (fun _ _ _ _ => trivial)) (va_recv hK hP (ci := 6) (q0 := 0) rfl rfl)) rfl rfl hl.1 rfl (lv_room (Nat.le_of_ble_eq_true rfl)) dX8_move_15 ⟨Nat.le_of_ble_eq_true rfl, Nat.le_of_ble_eq_true rfl⟩).run) (fun r hw => ?_)
    rw [hw]
    refine lv_if_ne (tgt := 28) hx hb dX8_move_18 (by decide) (fun c_2 => ?_) (fun c_2 => ?_)
    · replace c_2 := bI_ne c_2
      have R1 := hV.2.2.1 _ (inC_lt hV.1.2.1 c_1)
      have P1 := hM.2.1 _ (inC_lt hV.1.2.1 c_1)
      have R2 := hV.2.2.1 _ (inC_lt hV.1.2.1 c_2)
      have P2 := hM.2.1 _ (inC_lt hV.1.2.1 c_2)
      have S1 := rep_cast R1.1 R2.1 R1.2 P1
      have K1 := cst_okB R1.1 R2.1 R1.2
      have S2 := rep_cast R2.1 R1.1 K1 S1
      have K2 := cst_okB R2.1 R1.1 K1
      refine lv_aload_n hx hb dX8_move_28 rfl (lv_at hl 0 rfl) ?_
      refine lv_iload_n hx hb dX8_move_29 rfl (lv_at hl 1 rfl) ?_
      have hFc := wFree hD hS hA
      refine va_callv (va_runV (As := [.int p1]) (rest := []) ⟨hx, hb, hml, hown, hts⟩ (met_X8_open l Dg m0 H.size a y 0 kd (σ.1 2 0) (σ.1 2 1) (σ.1 2 2) (σ.1 2 3) (σ.1 2 4) wh re (σ.1 1) (σ.1 3) aTo aPo (σ.1 4) aRw aRr (σ.1 5) (σ.1 6) (σ.1 7) aWs aRs (σ.1 8) (σ.1 9) (σ.1 10) (σ.1 11) (σ.1 12) p1 (inC_in hV.1.2.1 c_1)) (cwV 1 hts gX8_move_X8_open rfl rfl rfl (by decide +kernel) ⟨Nat.le_of_ble_eq_true rfl, Nat.le_of_ble_eq_true rfl⟩) (wPreV hK hP (hD.weaken (fun _ _ _ _ => trivial)) (va_recv hK hP (ci := 6) (q0 := 0) rfl rfl)) rfl rfl hl.1 rfl (lv_room (Nat.le_of_ble_eq_true rfl)) dX8_move_30 ⟨Nat.le_of_ble_eq_true rfl, Nat.le_of_ble_eq_true rfl⟩) hS (fun q _ h => hFc q h) hFc (fun u t H locs ht hvm hw hB _ _ hS => ?_)
      obtain ⟨hP, -, hD⟩ := hB
      rw [ht] at hP
      replace hD := hD.weaken (fun _ q _ h => hFc q.1 h)
      rw [hw] at hP hD
      clear hw hFc
      have hP : va_P Dg vwCl (mW m0 a y 0 ((σ.1 4) p1.toNatClampNeg) (σ.1 2 0) (σ.1 2 1) (σ.1 2 2) (σ.1 2 3) (σ.1 2 4) (aRw p1.toNatClampNeg) (aRr p1.toNatClampNeg) (σ.1 1) (σ.1 3) aTo aPo (σ.1 4) aRw aRr (σ.1 5) (σ.1 6) (σ.1 7) aWs aRs (σ.1 8) (σ.1 9) (σ.1 10) (σ.1 11) (σ.1 12)) H := hP
      have hD : va_D A (mW m0 a y 0 ((σ.1 4) p1.toNatClampNeg) (σ.1 2 0) (σ.1 2 1) (σ.1 2 2) (σ.1 2 3) (σ.1 2 4) (aRw p1.toNatClampNeg) (aRr p1.toNatClampNeg) (σ.1 1) (σ.1 3) aTo aPo (σ.1 4) aRw aRr (σ.1 5) (σ.1 6) (σ.1 7) aWs aRs (σ.1 8) (σ.1 9) (σ.1 10) (σ.1 11) (σ.1 12)) := hD
      refine lv_aload_n hx hb dX8_move_33 rfl (lv_at hl 0 rfl) ?_
      refine vp_callSl ((va_runV (As := []) (rest := []) ⟨hx, hb, hml, hown, hts⟩ (met_X8_bits l Dg m0 H.size a y 0 ((σ.1 4) p1.toNatClampNeg) (σ.1 2 0) (σ.1 2 1) (σ.1 2 2) (σ.1 2 3) (σ.1 2 4) (aRw p1.toNatClampNeg) (aRr p1.toNatClampNeg) (σ.1 1) (σ.1 3) aTo aPo (σ.1 4) aRw aRr (σ.1 5) (σ.1 6) (σ.1 7) aWs aRs (σ.1 8) (σ.1 9) (σ.1 10) (σ.1 11) (σ.1 12)  (rep_nn R1.1 R1.2 P1)) (cwV 0 hts gX8_move_X8_bits rfl rfl rfl (by decide +kernel) ⟨Nat.le_of_ble_eq_true rfl, Nat.le_of_ble_eq_true rfl⟩) (wPreV hK hP (hD.weaken (fun _ _ _ _ => trivial)) (va_recv hK hP (ci := 6) (q0 := 0) rfl rfl)) rfl rfl hl.1 rfl (lv_room (Nat.le_of_ble_eq_true rfl)) dX8_move_34 ⟨Nat.le_of_ble_eq_true rfl, Nat.le_of_ble_eq_true rfl⟩).run) (fun r hw => ?_)
      rw [hw]
      refine lv_topl (fun z_3 ez_3 => ?_)
      rw [show z_3 = (σ.2 2 p1.toNatClampNeg) from ez_3.trans (rep_bits R1.1 R1.2 P1)]
      refine lv_lstore_n (lv' := [(3, .long (σ.2 2 p1.toNatClampNeg)), (0, .ref m0), (1, .int p1), (2, .int p2)]) hx hb dX8_move_37 rfl hl (by decide) rfl (fun ls hl => ?_)
      refine lv_aload_n hx hb dX8_move_38 rfl (lv_at hl 1 rfl) ?_
      refine va_get (D := Dg) (ci := 6) (v := .int ((σ.1 4) p1.toNatClampNeg)) (C := RX8) (T := TX8) (N := 26) hx hb hts in_X8_move hown hK hP 0 rfl rfl 2 (by decide) (hts (.fieldLink RX8 80 "OrreryWorksModel" "kind" "I") (by decide +kernel)) (fun _ h9 => h9) rfl dX8_move_39 ?_
      refine lv_istore (lv' := [(5, .int ((σ.1 4) p1.toNatClampNeg)), (3, .long (σ.2 2 p1.toNatClampNeg)), (0, .ref m0), (1, .int p1), (2, .int p2)]) hx hb dX8_move_42 hl (by decide) rfl (fun ls hl => ?_)
      refine lv_aload_n hx hb dX8_move_44 rfl (lv_at hl 2 rfl) ?_
      refine lv_iload_n hx hb dX8_move_45 rfl (lv_at hl 4 rfl) ?_
      have hFc := wFree hD hS hA
      refine va_callv (va_runV (As := [.int p2]) (rest := []) ⟨hx, hb, hml, hown, hts⟩ (met_X8_store l Dg m0 H.size a y 0 ((σ.1 4) p1.toNatClampNeg) (σ.1 2 0) (σ.1 2 1) (σ.1 2 2) (σ.1 2 3) (σ.1 2 4) (aRw p1.toNatClampNeg) (aRr p1.toNatClampNeg) (σ.1 1) (σ.1 3) aTo aPo (σ.1 4) aRw aRr (σ.1 5) (σ.1 6) (σ.1 7) aWs aRs (σ.1 8) (σ.1 9) (σ.1 10) (σ.1 11) (σ.1 12) p2 (inC_in hV.1.2.1 c_2) (rep_nn R1.1 R1.2 P1)) (cwV 1 hts gX8_move_X8_store rfl rfl rfl (by decide +kernel) ⟨Nat.le_of_ble_eq_true rfl, Nat.le_of_ble_eq_true rfl⟩) (wPreV hK hP (hD.weaken (fun _ _ _ _ => trivial)) (va_recv hK hP (ci := 6) (q0 := 0) rfl rfl)) rfl rfl hl.1 rfl (lv_room (Nat.le_of_ble_eq_true rfl)) dX8_move_46 ⟨Nat.le_of_ble_eq_true rfl, Nat.le_of_ble_eq_true rfl⟩) hS (fun q _ h => hFc q h) hFc (fun u t H locs ht hvm hw hB _ _ hS => ?_)
      obtain ⟨hP, -, hD⟩ := hB
      rw [ht] at hP
      replace hD := hD.weaken (fun _ q _ h => hFc q.1 h)
      rw [hw] at hP hD
      clear hw hFc
      have hP : va_P Dg vwCl (mW m0 a y 0 ((σ.1 4) p2.toNatClampNeg) (σ.1 2 0) (σ.1 2 1) (σ.1 2 2) (σ.1 2 3) (σ.1 2 4) (mcW ((σ.1 4) p1.toNatClampNeg) (aRw p1.toNatClampNeg) (aRr p1.toNatClampNeg) ((σ.1 4) p2.toNatClampNeg)) (mcR ((σ.1 4) p1.toNatClampNeg) (aRw p1.toNatClampNeg) (aRr p1.toNatClampNeg) ((σ.1 4) p2.toNatClampNeg)) (σ.1 1) (σ.1 3) aTo aPo (σ.1 4) (vp_updL aRw p2.toNatClampNeg (mcW ((σ.1 4) p1.toNatClampNeg) (aRw p1.toNatClampNeg) (aRr p1.toNatClampNeg) ((σ.1 4) p2.toNatClampNeg))) (vf_upd aRr p2.toNatClampNeg (mcR ((σ.1 4) p1.toNatClampNeg) (aRw p1.toNatClampNeg) (aRr p1.toNatClampNeg) ((σ.1 4) p2.toNatClampNeg))) (σ.1 5) (σ.1 6) (σ.1 7) aWs aRs (σ.1 8) (σ.1 9) (σ.1 10) (σ.1 11) (σ.1 12)) H := hP
      have hD : va_D A (mW m0 a y 0 ((σ.1 4) p2.toNatClampNeg) (σ.1 2 0) (σ.1 2 1) (σ.1 2 2) (σ.1 2 3) (σ.1 2 4) (mcW ((σ.1 4) p1.toNatClampNeg) (aRw p1.toNatClampNeg) (aRr p1.toNatClampNeg) ((σ.1 4) p2.toNatClampNeg)) (mcR ((σ.1 4) p1.toNatClampNeg) (aRw p1.toNatClampNeg) (aRr p1.toNatClampNeg) ((σ.1 4) p2.toNatClampNeg)) (σ.1 1) (σ.1 3) aTo aPo (σ.1 4) (vp_updL aRw p2.toNatClampNeg (mcW ((σ.1 4) p1.toNatClampNeg) (aRw p1.toNatClampNeg) (aRr p1.toNatClampNeg) ((σ.1 4) p2.toNatClampNeg))) (vf_upd aRr p2.toNatClampNeg (mcR ((σ.1 4) p1.toNatClampNeg) (aRw p1.toNatClampNeg) (aRr p1.toNatClampNeg) ((σ.1 4) p2.toNatClampNeg))) (σ.1 5) (σ.1 6) (σ.1 7) aWs aRs (σ.1 8) (σ.1 9) (σ.1 10) (σ.1 11) (σ.1 12)) := hD
      refine lv_aload_n hx hb dX8_move_49 rfl (lv_at hl 2 rfl) ?_
      refine lv_iload hx hb dX8_move_50 (lv_at hl 0 rfl) ?_
      have hFc := wFree hD hS hA
      refine va_callv (va_runV (As := [.int ((σ.1 4) p1.toNatClampNeg)]) (rest := []) ⟨hx, hb, hml, hown, hts⟩ (met_X8_cast l Dg m0 H.size a y 0 ((σ.1 4) p2.toNatClampNeg) (σ.1 2 0) (σ.1 2 1) (σ.1 2 2) (σ.1 2 3) (σ.1 2 4) (mcW ((σ.1 4) p1.toNatClampNeg) (aRw p1.toNatClampNeg) (aRr p1.toNatClampNeg) ((σ.1 4) p2.toNatClampNeg)) (mcR ((σ.1 4) p1.toNatClampNeg) (aRw p1.toNatClampNeg) (aRr p1.toNatClampNeg) ((σ.1 4) p2.toNatClampNeg)) (σ.1 1) (σ.1 3) aTo aPo (σ.1 4) (vp_updL aRw p2.toNatClampNeg (mcW ((σ.1 4) p1.toNatClampNeg) (aRw p1.toNatClampNeg) (aRr p1.toNatClampNeg) ((σ.1 4) p2.toNatClampNeg))) (vf_upd aRr p2.toNatClampNeg (mcR ((σ.1 4) p1.toNatClampNeg) (aRw p1.toNatClampNeg) (aRr p1.toNatClampNeg) ((σ.1 4) p2.toNatClampNeg))) (σ.1 5) (σ.1 6) (σ.1 7) aWs aRs (σ.1 8) (σ.1 9) (σ.1 10) (σ.1 11) (σ.1 12) ((σ.1 4) p1.toNatClampNeg) (rep_nn R2.1 K1 S1)) (cwV 1 hts gX8_move_X8_cast rfl rfl rfl (by decide +kernel) ⟨Nat.le_of_ble_eq_true rfl, Nat.le_of_ble_eq_true rfl⟩) (wPreV hK hP (hD.weaken (fun _ _ _ _ => trivial)) (va_recv hK hP (ci := 6) (q0 := 0) rfl rfl)) rfl rfl hl.1 rfl (lv_room (Nat.le_of_ble_eq_true rfl)) dX8_move_52 ⟨Nat.le_of_ble_eq_true rfl, Nat.le_of_ble_eq_true rfl⟩) hS (fun q _ h => hFc q h) hFc (fun u t H locs ht hvm hw hB _ _ hS => ?_)
      obtain ⟨hP, -, hD⟩ := hB
      rw [ht] at hP
      replace hD := hD.weaken (fun _ q _ h => hFc q.1 h)
      rw [hw] at hP hD
      clear hw hFc
      have hP : va_P Dg vwCl (mW m0 a y 0 ((σ.1 4) p1.toNatClampNeg) (σ.1 2 0) (σ.1 2 1) (σ.1 2 2) (σ.1 2 3) (σ.1 2 4) (mcW ((σ.1 4) p2.toNatClampNeg) (mcW ((σ.1 4) p1.toNatClampNeg) (aRw p1.toNatClampNeg) (aRr p1.toNatClampNeg) ((σ.1 4) p2.toNatClampNeg)) (mcR ((σ.1 4) p1.toNatClampNeg) (aRw p1.toNatClampNeg) (aRr p1.toNatClampNeg) ((σ.1 4) p2.toNatClampNeg)) ((σ.1 4) p1.toNatClampNeg)) (mcR ((σ.1 4) p2.toNatClampNeg) (mcW ((σ.1 4) p1.toNatClampNeg) (aRw p1.toNatClampNeg) (aRr p1.toNatClampNeg) ((σ.1 4) p2.toNatClampNeg)) (mcR ((σ.1 4) p1.toNatClampNeg) (aRw p1.toNatClampNeg) (aRr p1.toNatClampNeg) ((σ.1 4) p2.toNatClampNeg)) ((σ.1 4) p1.toNatClampNeg)) (σ.1 1) (σ.1 3) aTo aPo (σ.1 4) (vp_updL aRw p2.toNatClampNeg (mcW ((σ.1 4) p1.toNatClampNeg) (aRw p1.toNatClampNeg) (aRr p1.toNatClampNeg) ((σ.1 4) p2.toNatClampNeg))) (vf_upd aRr p2.toNatClampNeg (mcR ((σ.1 4) p1.toNatClampNeg) (aRw p1.toNatClampNeg) (aRr p1.toNatClampNeg) ((σ.1 4) p2.toNatClampNeg))) (σ.1 5) (σ.1 6) (σ.1 7) aWs aRs (σ.1 8) (σ.1 9) (σ.1 10) (σ.1 11) (σ.1 12)) H := hP
      have hD : va_D A (mW m0 a y 0 ((σ.1 4) p1.toNatClampNeg) (σ.1 2 0) (σ.1 2 1) (σ.1 2 2) (σ.1 2 3) (σ.1 2 4) (mcW ((σ.1 4) p2.toNatClampNeg) (mcW ((σ.1 4) p1.toNatClampNeg) (aRw p1.toNatClampNeg) (aRr p1.toNatClampNeg) ((σ.1 4) p2.toNatClampNeg)) (mcR ((σ.1 4) p1.toNatClampNeg) (aRw p1.toNatClampNeg) (aRr p1.toNatClampNeg) ((σ.1 4) p2.toNatClampNeg)) ((σ.1 4) p1.toNatClampNeg)) (mcR ((σ.1 4) p2.toNatClampNeg) (mcW ((σ.1 4) p1.toNatClampNeg) (aRw p1.toNatClampNeg) (aRr p1.toNatClampNeg) ((σ.1 4) p2.toNatClampNeg)) (mcR ((σ.1 4) p1.toNatClampNeg) (aRw p1.toNatClampNeg) (aRr p1.toNatClampNeg) ((σ.1 4) p2.toNatClampNeg)) ((σ.1 4) p1.toNatClampNeg)) (σ.1 1) (σ.1 3) aTo aPo (σ.1 4) (vp_updL aRw p2.toNatClampNeg (mcW ((σ.1 4) p1.toNatClampNeg) (aRw p1.toNatClampNeg) (aRr p1.toNatClampNeg) ((σ.1 4) p2.toNatClampNeg))) (vf_upd aRr p2.toNatClampNeg (mcR ((σ.1 4) p1.toNatClampNeg) (aRw p1.toNatClampNeg) (aRr p1.toNatClampNeg) ((σ.1 4) p2.toNatClampNeg))) (σ.1 5) (σ.1 6) (σ.1 7) aWs aRs (σ.1 8) (σ.1 9) (σ.1 10) (σ.1 11) (σ.1 12)) := hD
      refine lv_aload_n hx hb dX8_move_55 rfl (lv_at hl 2 rfl) ?_
      refine vp_callSl ((va_runV (As := []) (rest := []) ⟨hx, hb, hml, hown, hts⟩ (met_X8_bits l Dg m0 H.size a y 0 ((σ.1 4) p1.toNatClampNeg) (σ.1 2 0) (σ.1 2 1) (σ.1 2 2) (σ.1 2 3) (σ.1 2 4) (mcW ((σ.1 4) p2.toNatClampNeg) (mcW ((σ.1 4) p1.toNatClampNeg) (aRw p1.toNatClampNeg) (aRr p1.toNatClampNeg) ((σ.1 4) p2.toNatClampNeg)) (mcR ((σ.1 4) p1.toNatClampNeg) (aRw p1.toNatClampNeg) (aRr p1.toNatClampNeg) ((σ.1 4) p2.toNatClampNeg)) ((σ.1 4) p1.toNatClampNeg)) (mcR ((σ.1 4) p2.toNatClampNeg) (mcW ((σ.1 4) p1.toNatClampNeg) (aRw p1.toNatClampNeg) (aRr p1.toNatClampNeg) ((σ.1 4) p2.toNatClampNeg)) (mcR ((σ.1 4) p1.toNatClampNeg) (aRw p1.toNatClampNeg) (aRr p1.toNatClampNeg) ((σ.1 4) p2.toNatClampNeg)) ((σ.1 4) p1.toNatClampNeg)) (σ.1 1) (σ.1 3) aTo aPo (σ.1 4) (vp_updL aRw p2.toNatClampNeg (mcW ((σ.1 4) p1.toNatClampNeg) (aRw p1.toNatClampNeg) (aRr p1.toNatClampNeg) ((σ.1 4) p2.toNatClampNeg))) (vf_upd aRr p2.toNatClampNeg (mcR ((σ.1 4) p1.toNatClampNeg) (aRw p1.toNatClampNeg) (aRr p1.toNatClampNeg) ((σ.1 4) p2.toNatClampNeg))) (σ.1 5) (σ.1 6) (σ.1 7) aWs aRs (σ.1 8) (σ.1 9) (σ.1 10) (σ.1 11) (σ.1 12)  (rep_nn R1.1 K2 S2)) (cwV 0 hts gX8_move_X8_bits rfl rfl rfl (by decide +kernel) ⟨Nat.le_of_ble_eq_true rfl, Nat.le_of_ble_eq_true rfl⟩) (wPreV hK hP (hD.weaken (fun _ _ _ _ => trivial)) (va_recv hK hP (ci := 6) (q0 := 0) rfl rfl)) rfl rfl hl.1 rfl (lv_room (Nat.le_of_ble_eq_true rfl)) dX8_move_56 ⟨Nat.le_of_ble_eq_true rfl, Nat.le_of_ble_eq_true rfl⟩).run) (fun r hw => ?_)
      rw [hw]
      refine lv_topl (fun z_4 ez_4 => ?_)
      rw [show z_4 = (cst (σ.1 4 p2.toNatClampNeg) (mvB σ p1 p2) (σ.1 4 p1.toNatClampNeg)) from ez_4.trans (rep_bits R1.1 K2 S2)]
      refine lv_lload_n hx hb dX8_move_59 rfl (lv_at hl 1 rfl) ?_
      refine W.lcmp hx hb dX8_move_60 ?_
      refine lv_if_ne (tgt := 68) hx hb dX8_move_61 (by decide) (fun c_5 => ?_) (fun c_5 => ?_)
      · refine lv_iconst (v := 0) hx hb dX8_move_68 (by decide) ?_
        have hw : wh_move σ p1 p2 = 0 := by simp only [wh_move, if_pos c_1, if_pos c_2]
        exact W.iret (v := 0) hx hb hr (fun t ht hW => ⟨⟨_, (mW m0 a y 0 ((σ.1 4) p1.toNatClampNeg) (σ.1 2 0) (σ.1 2 1) (σ.1 2 2) (σ.1 2 3) (σ.1 2 4) (mcW ((σ.1 4) p2.toNatClampNeg) (mcW ((σ.1 4) p1.toNatClampNeg) (aRw p1.toNatClampNeg) (aRr p1.toNatClampNeg) ((σ.1 4) p2.toNatClampNeg)) (mcR ((σ.1 4) p1.toNatClampNeg) (aRw p1.toNatClampNeg) (aRr p1.toNatClampNeg) ((σ.1 4) p2.toNatClampNeg)) ((σ.1 4) p1.toNatClampNeg)) (mcR ((σ.1 4) p2.toNatClampNeg) (mcW ((σ.1 4) p1.toNatClampNeg) (aRw p1.toNatClampNeg) (aRr p1.toNatClampNeg) ((σ.1 4) p2.toNatClampNeg)) (mcR ((σ.1 4) p1.toNatClampNeg) (aRw p1.toNatClampNeg) (aRr p1.toNatClampNeg) ((σ.1 4) p2.toNatClampNeg)) ((σ.1 4) p1.toNatClampNeg)) (σ.1 1) (σ.1 3) aTo aPo (σ.1 4) (vp_updL aRw p2.toNatClampNeg (mcW ((σ.1 4) p1.toNatClampNeg) (aRw p1.toNatClampNeg) (aRr p1.toNatClampNeg) ((σ.1 4) p2.toNatClampNeg))) (vf_upd aRr p2.toNatClampNeg (mcR ((σ.1 4) p1.toNatClampNeg) (aRw p1.toNatClampNeg) (aRr p1.toNatClampNeg) ((σ.1 4) p2.toNatClampNeg))) (σ.1 5) (σ.1 6) (σ.1 7) aWs aRs (σ.1 8) (σ.1 9) (σ.1 10) (σ.1 11) (σ.1 12)), rfl, ⟨by rw [an_move, if_pos hw]; rw [if_neg (fun g => c_5 (lgc_eqq.mpr g))], (σ.1 4) p1.toNatClampNeg, mcW ((σ.1 4) p2.toNatClampNeg) (mcW ((σ.1 4) p1.toNatClampNeg) (aRw p1.toNatClampNeg) (aRr p1.toNatClampNeg) ((σ.1 4) p2.toNatClampNeg)) (mcR ((σ.1 4) p1.toNatClampNeg) (aRw p1.toNatClampNeg) (aRr p1.toNatClampNeg) ((σ.1 4) p2.toNatClampNeg)) ((σ.1 4) p1.toNatClampNeg), mcR ((σ.1 4) p2.toNatClampNeg) (mcW ((σ.1 4) p1.toNatClampNeg) (aRw p1.toNatClampNeg) (aRr p1.toNatClampNeg) ((σ.1 4) p2.toNatClampNeg)) (mcR ((σ.1 4) p1.toNatClampNeg) (aRw p1.toNatClampNeg) (aRr p1.toNatClampNeg) ((σ.1 4) p2.toNatClampNeg)) ((σ.1 4) p1.toNatClampNeg), aTo, aPo, vp_updL aRw p2.toNatClampNeg (mcW ((σ.1 4) p1.toNatClampNeg) (aRw p1.toNatClampNeg) (aRr p1.toNatClampNeg) ((σ.1 4) p2.toNatClampNeg)), vf_upd aRr p2.toNatClampNeg (mcR ((σ.1 4) p1.toNatClampNeg) (aRw p1.toNatClampNeg) (aRr p1.toNatClampNeg) ((σ.1 4) p2.toNatClampNeg)), aWs, aRs, by rw [nw_move, if_pos hw]; rfl, by rw [nw_move, if_pos hw]; exact mC_store hM S1⟩, by rw [ht]; exact hP, va_K.moved hW.alike hK, hD⟩, hS.F ht⟩) hS.2.2 dX8_move_69
      · refine lv_iconst (v := 1) hx hb dX8_move_64 (by decide) ?_
        refine lv_goto (tgt := 69) hx hb dX8_move_65 (by decide) ?_
        have hw : wh_move σ p1 p2 = 0 := by simp only [wh_move, if_pos c_1, if_pos c_2]
        exact W.iret (v := 1) hx hb hr (fun t ht hW => ⟨⟨_, (mW m0 a y 0 ((σ.1 4) p1.toNatClampNeg) (σ.1 2 0) (σ.1 2 1) (σ.1 2 2) (σ.1 2 3) (σ.1 2 4) (mcW ((σ.1 4) p2.toNatClampNeg) (mcW ((σ.1 4) p1.toNatClampNeg) (aRw p1.toNatClampNeg) (aRr p1.toNatClampNeg) ((σ.1 4) p2.toNatClampNeg)) (mcR ((σ.1 4) p1.toNatClampNeg) (aRw p1.toNatClampNeg) (aRr p1.toNatClampNeg) ((σ.1 4) p2.toNatClampNeg)) ((σ.1 4) p1.toNatClampNeg)) (mcR ((σ.1 4) p2.toNatClampNeg) (mcW ((σ.1 4) p1.toNatClampNeg) (aRw p1.toNatClampNeg) (aRr p1.toNatClampNeg) ((σ.1 4) p2.toNatClampNeg)) (mcR ((σ.1 4) p1.toNatClampNeg) (aRw p1.toNatClampNeg) (aRr p1.toNatClampNeg) ((σ.1 4) p2.toNatClampNeg)) ((σ.1 4) p1.toNatClampNeg)) (σ.1 1) (σ.1 3) aTo aPo (σ.1 4) (vp_updL aRw p2.toNatClampNeg (mcW ((σ.1 4) p1.toNatClampNeg) (aRw p1.toNatClampNeg) (aRr p1.toNatClampNeg) ((σ.1 4) p2.toNatClampNeg))) (vf_upd aRr p2.toNatClampNeg (mcR ((σ.1 4) p1.toNatClampNeg) (aRw p1.toNatClampNeg) (aRr p1.toNatClampNeg) ((σ.1 4) p2.toNatClampNeg))) (σ.1 5) (σ.1 6) (σ.1 7) aWs aRs (σ.1 8) (σ.1 9) (σ.1 10) (σ.1 11) (σ.1 12)), rfl, ⟨by rw [an_move, if_pos hw]; rw [if_pos (lgc_eqq.mp c_5)], (σ.1 4) p1.toNatClampNeg, mcW ((σ.1 4) p2.toNatClampNeg) (mcW ((σ.1 4) p1.toNatClampNeg) (aRw p1.toNatClampNeg) (aRr p1.toNatClampNeg) ((σ.1 4) p2.toNatClampNeg)) (mcR ((σ.1 4) p1.toNatClampNeg) (aRw p1.toNatClampNeg) (aRr p1.toNatClampNeg) ((σ.1 4) p2.toNatClampNeg)) ((σ.1 4) p1.toNatClampNeg), mcR ((σ.1 4) p2.toNatClampNeg) (mcW ((σ.1 4) p1.toNatClampNeg) (aRw p1.toNatClampNeg) (aRr p1.toNatClampNeg) ((σ.1 4) p2.toNatClampNeg)) (mcR ((σ.1 4) p1.toNatClampNeg) (aRw p1.toNatClampNeg) (aRr p1.toNatClampNeg) ((σ.1 4) p2.toNatClampNeg)) ((σ.1 4) p1.toNatClampNeg), aTo, aPo, vp_updL aRw p2.toNatClampNeg (mcW ((σ.1 4) p1.toNatClampNeg) (aRw p1.toNatClampNeg) (aRr p1.toNatClampNeg) ((σ.1 4) p2.toNatClampNeg)), vf_upd aRr p2.toNatClampNeg (mcR ((σ.1 4) p1.toNatClampNeg) (aRw p1.toNatClampNeg) (aRr p1.toNatClampNeg) ((σ.1 4) p2.toNatClampNeg)), aWs, aRs, by rw [nw_move, if_pos hw]; rfl, by rw [nw_move, if_pos hw]; exact mC_store hM S1⟩, by rw [ht]; exact hP, va_K.moved hW.alike hK, hD⟩, hS.F ht⟩) hS.2.2 dX8_move_69
    · replace c_2 := bI_eq c_2
      refine lv_aload_n hx hb dX8_move_21 rfl (lv_at hl 0 rfl) ?_
      refine lv_bipush (v := (-2)) hx hb dX8_move_22 (by decide) ?_
      have hFc := wFree hD hS hA
      refine va_calli (va_runV (As := [.int (-2)]) (rest := []) ⟨hx, hb, hml, hown, hts⟩ (met_X8_refuse l Dg m0 H.size a y 0 kd (σ.1 2 0) (σ.1 2 1) (σ.1 2 2) (σ.1 2 3) (σ.1 2 4) wh re (σ.1 1) (σ.1 3) aTo aPo (σ.1 4) aRw aRr (σ.1 5) (σ.1 6) (σ.1 7) aWs aRs (σ.1 8) (σ.1 9) (σ.1 10) (σ.1 11) (σ.1 12) (-2) (by unfold vp_in; decide)) (cwV 1 hts gX8_move_X8_refuse rfl rfl rfl (by decide +kernel) ⟨Nat.le_of_ble_eq_true rfl, Nat.le_of_ble_eq_true rfl⟩) (wPreV hK hP (hD.weaken (fun _ _ _ _ => trivial)) (va_recv hK hP (ci := 6) (q0 := 0) rfl rfl)) rfl rfl hl.1 rfl (lv_room (Nat.le_of_ble_eq_true rfl)) dX8_move_24 ⟨Nat.le_of_ble_eq_true rfl, Nat.le_of_ble_eq_true rfl⟩) hS (fun q _ h => hFc q h) hFc (fun r u t H locs ht hvm hw hB _ _ hS => ?_)
      obtain ⟨hP, -, hD⟩ := hB
      rw [ht] at hP
      replace hD := hD.weaken (fun _ q _ h => hFc q.1 h)
      rw [hw.2] at hP hD
      rw [hw.1]
      clear hw hFc
      have hP : va_P Dg vwCl (mW m0 a y (-2) kd (σ.1 2 0) (σ.1 2 1) (σ.1 2 2) (σ.1 2 3) (σ.1 2 4) wh re (rfO (-2) (σ.1 1)) (σ.1 3) aTo aPo (σ.1 4) aRw aRr (σ.1 5) (σ.1 6) (σ.1 7) aWs aRs (σ.1 8) (σ.1 9) (σ.1 10) (σ.1 11) (σ.1 12)) H := hP
      have hD : va_D A (mW m0 a y (-2) kd (σ.1 2 0) (σ.1 2 1) (σ.1 2 2) (σ.1 2 3) (σ.1 2 4) wh re (rfO (-2) (σ.1 1)) (σ.1 3) aTo aPo (σ.1 4) aRw aRr (σ.1 5) (σ.1 6) (σ.1 7) aWs aRs (σ.1 8) (σ.1 9) (σ.1 10) (σ.1 11) (σ.1 12)) := hD
      have hw : wh_move σ p1 p2 = (-2) := by simp only [wh_move, if_pos c_1, if_neg c_2]
      have hn : ¬ wh_move σ p1 p2 = 0 := by rw [hw]; decide
      exact W.iret (v := (-2)) hx hb hr (fun t ht hW => ⟨⟨_, (mW m0 a y (-2) kd (σ.1 2 0) (σ.1 2 1) (σ.1 2 2) (σ.1 2 3) (σ.1 2 4) wh re (rfO (-2) (σ.1 1)) (σ.1 3) aTo aPo (σ.1 4) aRw aRr (σ.1 5) (σ.1 6) (σ.1 7) aWs aRs (σ.1 8) (σ.1 9) (σ.1 10) (σ.1 11) (σ.1 12)), rfl, ⟨by rw [an_move, if_neg hn, hw]; try rfl, kd, wh, re, aTo, aPo, aRw, aRr, aWs, aRs, by rw [nw_move, if_neg hn, hw]; rfl, by rw [nw_move, if_neg hn]; exact hM⟩, by rw [ht]; exact hP, va_K.moved hW.alike hK, hD⟩, hS.F ht⟩) hS.2.2 dX8_move_27

theorem in_X8_take : ∀ w ∈ wsX80, w ∈ wsX8_take := fun w h => List.mem_cons_of_mem _ (List.mem_append_right _ h)
set_option maxHeartbeats 8000000 in
set_option maxRecDepth 100000 in
theorem met_X8_take (l : Launch) (Dg : va_G) (m0 z : Nat) (a : Nat → Nat) (y : Nat → ClassId) (σ : St) (kd : Int32) (wh : Int64) (re : UInt64) (aTo aPo : Nat → UInt64) (aRw : Nat → Int64) (aRr : Nat → UInt64) (aWs : Nat → Int64) (aRs : Nat → UInt64) (p1 : Int32) (p2 : Int32) (hV : vOK σ) (hM : mC σ aTo aPo aRw aRr aWs aRs)  : Met l yX8_take wsX8_take ({ frames := 2, cells := 0, slots := 0, locals := 44 }) (va_Pc [.ref m0, .int p1, .int p2] (wB Dg (mT y) (mW m0 a y (σ.1 0 0) kd (σ.1 2 0) (σ.1 2 1) (σ.1 2 2) (σ.1 2 3) (σ.1 2 4) wh re (σ.1 1) (σ.1 3) aTo aPo (σ.1 4) aRw aRr (σ.1 5) (σ.1 6) (σ.1 7) aWs aRs (σ.1 8) (σ.1 9) (σ.1 10) (σ.1 11) (σ.1 12)) z)) (va_Qi (fun (r : Int32) (u : va_W) => r = an_take σ p1 p2 ∧ MI m0 a y (nw_take σ p1 p2) u) (wE Dg (mT y) (va_A (mW m0 a y (σ.1 0 0) kd (σ.1 2 0) (σ.1 2 1) (σ.1 2 2) (σ.1 2 3) (σ.1 2 4) wh re (σ.1 1) (σ.1 3) aTo aPo (σ.1 4) aRw aRr (σ.1 5) (σ.1 6) (σ.1 7) aWs aRs (σ.1 8) (σ.1 9) (σ.1 10) (σ.1 11) (σ.1 12)) z)) (va_A (mW m0 a y (σ.1 0 0) kd (σ.1 2 0) (σ.1 2 1) (σ.1 2 2) (σ.1 2 3) (σ.1 2 4) wh re (σ.1 1) (σ.1 3) aTo aPo (σ.1 4) aRw aRr (σ.1 5) (σ.1 6) (σ.1 7) aWs aRs (σ.1 8) (σ.1 9) (σ.1 10) (σ.1 11) (σ.1 12)) z)) 0 0 (va_A (mW m0 a y (σ.1 0 0) kd (σ.1 2 0) (σ.1 2 1) (σ.1 2 2) (σ.1 2 3) (σ.1 2 4) wh re (σ.1 1) (σ.1 3) aTo aPo (σ.1 4) aRw aRr (σ.1 5) (σ.1 6) (σ.1 7) aWs aRs (σ.1 8) (σ.1 9) (σ.1 10) (σ.1 11) (σ.1 12)) z) := by
  refine Met.ofW (cc := cX8_take) (maxL := 3) (ret := (some .int)) (by decide) rfl ?_
  intro p e s m args below meth c s₁ B hml hv
  obtain ⟨rfl, hsz, hP, hK, hD0⟩ := hv
  have hx := B.exec
  have hb := B.bytes
  have hr := B.returns
  have hts := atoms_spec (ws := wsX8_take) B.pre
  have hown : s.vm.findClass RX8 = some m.cls := findClass_of_methodNamed B.named
  have hlocks := B.notSynchronized
  subst hsz
  have hD := hD0.self (sz := s.heap.size)
  generalize hAe : va_A (mW m0 a y (σ.1 0 0) kd (σ.1 2 0) (σ.1 2 1) (σ.1 2 2) (σ.1 2 3) (σ.1 2 4) wh re (σ.1 1) (σ.1 3) aTo aPo (σ.1 4) aRw aRr (σ.1 5) (σ.1 6) (σ.1 7) aWs aRs (σ.1 8) (σ.1 9) (σ.1 10) (σ.1 11) (σ.1 12)) s.heap.size = A at hD ⊢
  have hA : ∀ q : Nat, s.heap.size ≤ q → A q := fun q h => by rw [← hAe]; exact Or.inr h
  have hS : va_S A s.heap s.heap [] := va_S.rf
  have hP : va_P Dg vwCl (mW m0 a y (σ.1 0 0) kd (σ.1 2 0) (σ.1 2 1) (σ.1 2 2) (σ.1 2 3) (σ.1 2 4) wh re (σ.1 1) (σ.1 3) aTo aPo (σ.1 4) aRw aRr (σ.1 5) (σ.1 6) (σ.1 7) aWs aRs (σ.1 8) (σ.1 9) (σ.1 10) (σ.1 11) (σ.1 12)) s.heap := hP
  have hl := lv_entry ([.ref m0, .int p1, .int p2]) (n := 3) (Nat.le_of_ble_eq_true rfl)
  rw [lg_entry_eq]
  generalize (lg_sl ([.ref m0, .int p1, .int p2]) ++ List.replicate (3 - (lg_sl ([.ref m0, .int p1, .int p2])).length) Slot.unset).toArray = ls at hl ⊢
  have hl : lv_has ls 3 [(0, .ref m0), (1, .int p1), (2, .int p2)] := hl
  refine lv_aload_n hx hb dX8_take_0 rfl (lv_at hl 0 rfl) ?_
  refine lv_iconst (v := 0) hx hb dX8_take_1 (by decide) ?_
  refine va_put (D := Dg) (ci := 6) (v := .int 0) (ty := .int) (C := RX8) (T := TX8) (N := 26) hx hb hts in_X8_take tyX8 tyX8_ok nmX8 hown hK hP hD hS 0 rfl rfl 0 (by decide) (hts (.fieldLink RX8 64 "OrreryWorksModel" "refused" "I") (by decide +kernel)) (fun _ h9 => h9) rfl (by decide +kernel) rfl rfl (Nat.le_of_ble_eq_true rfl) dX8_take_2 (fun H locs hP hD hS => ?_)
  have hP : va_P Dg vwCl (mW m0 a y 0 kd (σ.1 2 0) (σ.1 2 1) (σ.1 2 2) (σ.1 2 3) (σ.1 2 4) wh re (σ.1 1) (σ.1 3) aTo aPo (σ.1 4) aRw aRr (σ.1 5) (σ.1 6) (σ.1 7) aWs aRs (σ.1 8) (σ.1 9) (σ.1 10) (σ.1 11) (σ.1 12)) H := hP
  have hD : va_D A (mW m0 a y 0 kd (σ.1 2 0) (σ.1 2 1) (σ.1 2 2) (σ.1 2 3) (σ.1 2 4) wh re (σ.1 1) (σ.1 3) aTo aPo (σ.1 4) aRw aRr (σ.1 5) (σ.1 6) (σ.1 7) aWs aRs (σ.1 8) (σ.1 9) (σ.1 10) (σ.1 11) (σ.1 12)) := hD
  refine lv_aload_n hx hb dX8_take_5 rfl (lv_at hl 0 rfl) ?_
  refine lv_iload_n hx hb dX8_take_6 rfl (lv_at hl 1 rfl) ?_
  refine vp_callSi ((va_runV (As := [.int p1]) (rest := []) ⟨hx, hb, hml, hown, hts⟩ (met_X8_isWheel l Dg m0 H.size a y 0 kd (σ.1 2 0) (σ.1 2 1) (σ.1 2 2) (σ.1 2 3) (σ.1 2 4) wh re (σ.1 1) (σ.1 3) aTo aPo (σ.1 4) aRw aRr (σ.1 5) (σ.1 6) (σ.1 7) aWs aRs (σ.1 8) (σ.1 9) (σ.1 10) (σ.1 11) (σ.1 12) p1 ) (cwV 1 hts gX8_take_X8_isWheel rfl rfl rfl (by decide +kernel) ⟨Nat.le_of_ble_eq_true rfl, Nat.le_of_ble_eq_true rfl⟩) (wPreV hK hP (hD.weaken (fun _ _ _ _ => trivial)) (va_recv hK hP (ci := 6) (q0 := 0) rfl rfl)) rfl rfl hl.1 rfl (lv_room (Nat.le_of_ble_eq_true rfl)) dX8_take_7 ⟨Nat.le_of_ble_eq_true rfl, Nat.le_of_ble_eq_true rfl⟩).run) (fun r hw => ?_)
  rw [hw]
  refine lv_if_eq (tgt := 21) hx hb dX8_take_10 (by decide) (fun c_1 => ?_) (fun c_1 => ?_)
  · replace c_1 := bI_eq c_1
    refine lv_aload_n hx hb dX8_take_21 rfl (lv_at hl 0 rfl) ?_
    refine lv_bipush (v := (-2)) hx hb dX8_take_22 (by decide) ?_
    have hFc := wFree hD hS hA
    refine va_calli (va_runV (As := [.int (-2)]) (rest := []) ⟨hx, hb, hml, hown, hts⟩ (met_X8_refuse l Dg m0 H.size a y 0 kd (σ.1 2 0) (σ.1 2 1) (σ.1 2 2) (σ.1 2 3) (σ.1 2 4) wh re (σ.1 1) (σ.1 3) aTo aPo (σ.1 4) aRw aRr (σ.1 5) (σ.1 6) (σ.1 7) aWs aRs (σ.1 8) (σ.1 9) (σ.1 10) (σ.1 11) (σ.1 12) (-2) (by unfold vp_in; decide)) (cwV 1 hts gX8_take_X8_refuse rfl rfl rfl (by decide +kernel) ⟨Nat.le_of_ble_eq_true rfl, Nat.le_of_ble_eq_true rfl⟩) (wPreV hK hP (hD.weaken (fun _ _ _ _ => trivial)) (va_recv hK hP (ci := 6) (q0 := 0) rfl rfl)) rfl rfl hl.1 rfl (lv_room (Nat.le_of_ble_eq_true rfl)) dX8_take_24 ⟨Nat.le_of_ble_eq_true rfl, Nat.le_of_ble_eq_true rfl⟩) hS (fun q _ h => hFc q h) hFc (fun r u t H locs ht hvm hw hB _ _ hS => ?_)
    obtain ⟨hP, -, hD⟩ := hB
    rw [ht] at hP
    replace hD := hD.weaken (fun _ q _ h => hFc q.1 h)
    rw [hw.2] at hP hD
    rw [hw.1]
    clear hw hFc
    have hP : va_P Dg vwCl (mW m0 a y (-2) kd (σ.1 2 0) (σ.1 2 1) (σ.1 2 2) (σ.1 2 3) (σ.1 2 4) wh re (rfO (-2) (σ.1 1)) (σ.1 3) aTo aPo (σ.1 4) aRw aRr (σ.1 5) (σ.1 6) (σ.1 7) aWs aRs (σ.1 8) (σ.1 9) (σ.1 10) (σ.1 11) (σ.1 12)) H := hP
    have hD : va_D A (mW m0 a y (-2) kd (σ.1 2 0) (σ.1 2 1) (σ.1 2 2) (σ.1 2 3) (σ.1 2 4) wh re (rfO (-2) (σ.1 1)) (σ.1 3) aTo aPo (σ.1 4) aRw aRr (σ.1 5) (σ.1 6) (σ.1 7) aWs aRs (σ.1 8) (σ.1 9) (σ.1 10) (σ.1 11) (σ.1 12)) := hD
    have hw : wh_take σ p1 p2 = (-2) := by simp only [wh_take, if_neg c_1]
    have hn : ¬ wh_take σ p1 p2 = 0 := by rw [hw]; decide
    exact W.iret (v := (-2)) hx hb hr (fun t ht hW => ⟨⟨_, (mW m0 a y (-2) kd (σ.1 2 0) (σ.1 2 1) (σ.1 2 2) (σ.1 2 3) (σ.1 2 4) wh re (rfO (-2) (σ.1 1)) (σ.1 3) aTo aPo (σ.1 4) aRw aRr (σ.1 5) (σ.1 6) (σ.1 7) aWs aRs (σ.1 8) (σ.1 9) (σ.1 10) (σ.1 11) (σ.1 12)), rfl, ⟨by rw [an_take, if_neg hn, hw]; try rfl, kd, wh, re, aTo, aPo, aRw, aRr, aWs, aRs, by rw [nw_take, if_neg hn, hw]; rfl, by rw [nw_take, if_neg hn]; exact hM⟩, by rw [ht]; exact hP, va_K.moved hW.alike hK, hD⟩, hS.F ht⟩) hS.2.2 dX8_take_27
  · replace c_1 := bI_ne c_1
    refine lv_aload_n hx hb dX8_take_13 rfl (lv_at hl 0 rfl) ?_
    refine lv_iload_n hx hb dX8_take_14 rfl (lv_at hl 2 rfl) ?_
    refine vp_callSi ((va_runV (As := [.int p2]) (rest := []) ⟨hx, hb, hml, hown, hts⟩ (met_X8_isRegister l Dg m0 H.size a y 0 kd (σ.1 2 0) (σ.1 2 1) (σ.1 2 2) (σ.1 2 3) (σ.1 2 4) wh re (σ.1 1) (σ.1 3) aTo aPo (σ.1 4) aRw aRr (σ.1 5) (σ.1 6) (σ.1 7) aWs aRs (σ.1 8) (σ.1 9) (σ.1 10) (σ.1 11) (σ.1 12) p2 ) (cwV 1 hts gX8_take_X8_isRegister rfl rfl rfl (by decide +kernel) ⟨Nat.le_of_ble_eq_true rfl, Nat.le_of_ble_eq_true rfl⟩) (wPreV hK hP (hD.weaken (fun _ _ _ _ => trivial)) (va_recv hK hP (ci := 6) (q0 := 0) rfl rfl)) rfl rfl hl.1 rfl (lv_room (Nat.le_of_ble_eq_true rfl)) dX8_take_15 ⟨Nat.le_of_ble_eq_true rfl, Nat.le_of_ble_eq_true rfl⟩).run) (fun r hw => ?_)
    rw [hw]
    refine lv_if_ne (tgt := 28) hx hb dX8_take_18 (by decide) (fun c_2 => ?_) (fun c_2 => ?_)
    · replace c_2 := bI_ne c_2
      have w1 := hV.2.1 _ (inC_lt hV.1.1 c_1)
      have e1 := hM.1 _ (inC_lt hV.1.1 c_1)
      have R2 := hV.2.2.1 _ (inC_lt hV.1.2.1 c_2)
      have P2 := hM.2.1 _ (inC_lt hV.1.2.1 c_2)
      have S1 := rep_cast (w := 0) (isKR w1.1) R2.1 (okBR w1.1 w1.2.2.2.1) (repR w1.1 e1.2)
      refine lv_aload_n hx hb dX8_take_28 rfl (lv_at hl 0 rfl) ?_
      refine lv_aload_n hx hb dX8_take_29 rfl (lv_at hl 0 rfl) ?_
      refine va_get (D := Dg) (ci := 6) (v := .ref (a 1)) (C := RX8) (T := TX8) (N := 26) hx hb hts in_X8_take hown hK hP 0 rfl rfl 6 (by decide) (hts (.fieldLink RX8 13 "OrreryWorksModel" "wheelKind" "[I") (by decide +kernel)) (fun _ h9 => h9) rfl dX8_take_30 ?_
      refine lv_iload_n hx hb dX8_take_33 rfl (lv_at hl 1 rfl) ?_
      refine va_iald hx hb hK hP 2 1 rfl rfl (inC_in hV.1.1 c_1) dX8_take_34 ?_
      refine lv_lconst (v := 0) hx hb dX8_take_35 (by decide) ?_
      refine lv_aload_n hx hb dX8_take_36 rfl (lv_at hl 0 rfl) ?_
      refine va_get (D := Dg) (ci := 6) (v := .ref (a 3)) (C := RX8) (T := TX8) (N := 26) hx hb hts in_X8_take hown hK hP 0 rfl rfl 8 (by decide) (hts (.fieldLink RX8 20 "OrreryWorksModel" "position" "[D") (by decide +kernel)) (fun _ h9 => h9) rfl dX8_take_37 ?_
      refine lv_iload_n hx hb dX8_take_40 rfl (lv_at hl 1 rfl) ?_
      refine va_dald hx hb hK hP 4 3 rfl rfl (inC_in hV.1.1 c_1) dX8_take_41 ?_
      have hFc := wFree hD hS hA
      refine va_callv (va_runV (As := [.int ((σ.1 3) p1.toNatClampNeg), .long 0, .double (aPo p1.toNatClampNeg)]) (rest := []) ⟨hx, hb, hml, hown, hts⟩ (met_X8_hold l Dg m0 H.size a y 0 kd (σ.1 2 0) (σ.1 2 1) (σ.1 2 2) (σ.1 2 3) (σ.1 2 4) wh re (σ.1 1) (σ.1 3) aTo aPo (σ.1 4) aRw aRr (σ.1 5) (σ.1 6) (σ.1 7) aWs aRs (σ.1 8) (σ.1 9) (σ.1 10) (σ.1 11) (σ.1 12) ((σ.1 3) p1.toNatClampNeg) 0 (aPo p1.toNatClampNeg) ) (cwV 3 hts gX8_take_X8_hold rfl rfl rfl (by decide +kernel) ⟨Nat.le_of_ble_eq_true rfl, Nat.le_of_ble_eq_true rfl⟩) (wPreV hK hP (hD.weaken (fun _ _ _ _ => trivial)) (va_recv hK hP (ci := 6) (q0 := 0) rfl rfl)) rfl rfl hl.1 rfl (lv_room (Nat.le_of_ble_eq_true rfl)) dX8_take_42 ⟨Nat.le_of_ble_eq_true rfl, Nat.le_of_ble_eq_true rfl⟩) hS (fun q _ h => hFc q h) hFc (fun u t H locs ht hvm hw hB _ _ hS => ?_)
      obtain ⟨hP, -, hD⟩ := hB
      rw [ht] at hP
      replace hD := hD.weaken (fun _ q _ h => hFc q.1 h)
      rw [hw] at hP hD
      clear hw hFc
      have hP : va_P Dg vwCl (mW m0 a y 0 ((σ.1 3) p1.toNatClampNeg) (σ.1 2 0) (σ.1 2 1) (σ.1 2 2) (σ.1 2 3) (σ.1 2 4) 0 (aPo p1.toNatClampNeg) (σ.1 1) (σ.1 3) aTo aPo (σ.1 4) aRw aRr (σ.1 5) (σ.1 6) (σ.1 7) aWs aRs (σ.1 8) (σ.1 9) (σ.1 10) (σ.1 11) (σ.1 12)) H := hP
      have hD : va_D A (mW m0 a y 0 ((σ.1 3) p1.toNatClampNeg) (σ.1 2 0) (σ.1 2 1) (σ.1 2 2) (σ.1 2 3) (σ.1 2 4) 0 (aPo p1.toNatClampNeg) (σ.1 1) (σ.1 3) aTo aPo (σ.1 4) aRw aRr (σ.1 5) (σ.1 6) (σ.1 7) aWs aRs (σ.1 8) (σ.1 9) (σ.1 10) (σ.1 11) (σ.1 12)) := hD
      refine lv_aload_n hx hb dX8_take_45 rfl (lv_at hl 0 rfl) ?_
      refine lv_iload_n hx hb dX8_take_46 rfl (lv_at hl 2 rfl) ?_
      have hFc := wFree hD hS hA
      refine va_callv (va_runV (As := [.int p2]) (rest := []) ⟨hx, hb, hml, hown, hts⟩ (met_X8_store l Dg m0 H.size a y 0 ((σ.1 3) p1.toNatClampNeg) (σ.1 2 0) (σ.1 2 1) (σ.1 2 2) (σ.1 2 3) (σ.1 2 4) 0 (aPo p1.toNatClampNeg) (σ.1 1) (σ.1 3) aTo aPo (σ.1 4) aRw aRr (σ.1 5) (σ.1 6) (σ.1 7) aWs aRs (σ.1 8) (σ.1 9) (σ.1 10) (σ.1 11) (σ.1 12) p2 (inC_in hV.1.2.1 c_2) (fun _ => by rw [e1.2]; exact vl_nn w1.2.2.2.1)) (cwV 1 hts gX8_take_X8_store rfl rfl rfl (by decide +kernel) ⟨Nat.le_of_ble_eq_true rfl, Nat.le_of_ble_eq_true rfl⟩) (wPreV hK hP (hD.weaken (fun _ _ _ _ => trivial)) (va_recv hK hP (ci := 6) (q0 := 0) rfl rfl)) rfl rfl hl.1 rfl (lv_room (Nat.le_of_ble_eq_true rfl)) dX8_take_47 ⟨Nat.le_of_ble_eq_true rfl, Nat.le_of_ble_eq_true rfl⟩) hS (fun q _ h => hFc q h) hFc (fun u t H locs ht hvm hw hB _ _ hS => ?_)
      obtain ⟨hP, -, hD⟩ := hB
      rw [ht] at hP
      replace hD := hD.weaken (fun _ q _ h => hFc q.1 h)
      rw [hw] at hP hD
      clear hw hFc
      have hP : va_P Dg vwCl (mW m0 a y 0 ((σ.1 4) p2.toNatClampNeg) (σ.1 2 0) (σ.1 2 1) (σ.1 2 2) (σ.1 2 3) (σ.1 2 4) (mcW ((σ.1 3) p1.toNatClampNeg) 0 (aPo p1.toNatClampNeg) ((σ.1 4) p2.toNatClampNeg)) (mcR ((σ.1 3) p1.toNatClampNeg) 0 (aPo p1.toNatClampNeg) ((σ.1 4) p2.toNatClampNeg)) (σ.1 1) (σ.1 3) aTo aPo (σ.1 4) (vp_updL aRw p2.toNatClampNeg (mcW ((σ.1 3) p1.toNatClampNeg) 0 (aPo p1.toNatClampNeg) ((σ.1 4) p2.toNatClampNeg))) (vf_upd aRr p2.toNatClampNeg (mcR ((σ.1 3) p1.toNatClampNeg) 0 (aPo p1.toNatClampNeg) ((σ.1 4) p2.toNatClampNeg))) (σ.1 5) (σ.1 6) (σ.1 7) aWs aRs (σ.1 8) (σ.1 9) (σ.1 10) (σ.1 11) (σ.1 12)) H := hP
      have hD : va_D A (mW m0 a y 0 ((σ.1 4) p2.toNatClampNeg) (σ.1 2 0) (σ.1 2 1) (σ.1 2 2) (σ.1 2 3) (σ.1 2 4) (mcW ((σ.1 3) p1.toNatClampNeg) 0 (aPo p1.toNatClampNeg) ((σ.1 4) p2.toNatClampNeg)) (mcR ((σ.1 3) p1.toNatClampNeg) 0 (aPo p1.toNatClampNeg) ((σ.1 4) p2.toNatClampNeg)) (σ.1 1) (σ.1 3) aTo aPo (σ.1 4) (vp_updL aRw p2.toNatClampNeg (mcW ((σ.1 3) p1.toNatClampNeg) 0 (aPo p1.toNatClampNeg) ((σ.1 4) p2.toNatClampNeg))) (vf_upd aRr p2.toNatClampNeg (mcR ((σ.1 3) p1.toNatClampNeg) 0 (aPo p1.toNatClampNeg) ((σ.1 4) p2.toNatClampNeg))) (σ.1 5) (σ.1 6) (σ.1 7) aWs aRs (σ.1 8) (σ.1 9) (σ.1 10) (σ.1 11) (σ.1 12)) := hD
      refine lv_iconst (v := 1) hx hb dX8_take_50 (by decide) ?_
      have hw : wh_take σ p1 p2 = 0 := by simp only [wh_take, if_pos c_1, if_pos c_2]
      exact W.iret (v := 1) hx hb hr (fun t ht hW => ⟨⟨_, (mW m0 a y 0 ((σ.1 4) p2.toNatClampNeg) (σ.1 2 0) (σ.1 2 1) (σ.1 2 2) (σ.1 2 3) (σ.1 2 4) (mcW ((σ.1 3) p1.toNatClampNeg) 0 (aPo p1.toNatClampNeg) ((σ.1 4) p2.toNatClampNeg)) (mcR ((σ.1 3) p1.toNatClampNeg) 0 (aPo p1.toNatClampNeg) ((σ.1 4) p2.toNatClampNeg)) (σ.1 1) (σ.1 3) aTo aPo (σ.1 4) (vp_updL aRw p2.toNatClampNeg (mcW ((σ.1 3) p1.toNatClampNeg) 0 (aPo p1.toNatClampNeg) ((σ.1 4) p2.toNatClampNeg))) (vf_upd aRr p2.toNatClampNeg (mcR ((σ.1 3) p1.toNatClampNeg) 0 (aPo p1.toNatClampNeg) ((σ.1 4) p2.toNatClampNeg))) (σ.1 5) (σ.1 6) (σ.1 7) aWs aRs (σ.1 8) (σ.1 9) (σ.1 10) (σ.1 11) (σ.1 12)), rfl, ⟨by rw [an_take, if_pos hw]; try rfl, (σ.1 4) p2.toNatClampNeg, mcW ((σ.1 3) p1.toNatClampNeg) 0 (aPo p1.toNatClampNeg) ((σ.1 4) p2.toNatClampNeg), mcR ((σ.1 3) p1.toNatClampNeg) 0 (aPo p1.toNatClampNeg) ((σ.1 4) p2.toNatClampNeg), aTo, aPo, vp_updL aRw p2.toNatClampNeg (mcW ((σ.1 3) p1.toNatClampNeg) 0 (aPo p1.toNatClampNeg) ((σ.1 4) p2.toNatClampNeg)), vf_upd aRr p2.toNatClampNeg (mcR ((σ.1 3) p1.toNatClampNeg) 0 (aPo p1.toNatClampNeg) ((σ.1 4) p2.toNatClampNeg)), aWs, aRs, by rw [nw_take, if_pos hw]; rfl, by rw [nw_take, if_pos hw]; exact mC_store hM S1⟩, by rw [ht]; exact hP, va_K.moved hW.alike hK, hD⟩, hS.F ht⟩) hS.2.2 dX8_take_51
    · replace c_2 := bI_eq c_2
      refine lv_aload_n hx hb dX8_take_21 rfl (lv_at hl 0 rfl) ?_
      refine lv_bipush (v := (-2)) hx hb dX8_take_22 (by decide) ?_
      have hFc := wFree hD hS hA
      refine va_calli (va_runV (As := [.int (-2)]) (rest := []) ⟨hx, hb, hml, hown, hts⟩ (met_X8_refuse l Dg m0 H.size a y 0 kd (σ.1 2 0) (σ.1 2 1) (σ.1 2 2) (σ.1 2 3) (σ.1 2 4) wh re (σ.1 1) (σ.1 3) aTo aPo (σ.1 4) aRw aRr (σ.1 5) (σ.1 6) (σ.1 7) aWs aRs (σ.1 8) (σ.1 9) (σ.1 10) (σ.1 11) (σ.1 12) (-2) (by unfold vp_in; decide)) (cwV 1 hts gX8_take_X8_refuse rfl rfl rfl (by decide +kernel) ⟨Nat.le_of_ble_eq_true rfl, Nat.le_of_ble_eq_true rfl⟩) (wPreV hK hP (hD.weaken (fun _ _ _ _ => trivial)) (va_recv hK hP (ci := 6) (q0 := 0) rfl rfl)) rfl rfl hl.1 rfl (lv_room (Nat.le_of_ble_eq_true rfl)) dX8_take_24 ⟨Nat.le_of_ble_eq_true rfl, Nat.le_of_ble_eq_true rfl⟩) hS (fun q _ h => hFc q h) hFc (fun r u t H locs ht hvm hw hB _ _ hS => ?_)
      obtain ⟨hP, -, hD⟩ := hB
      rw [ht] at hP
      replace hD := hD.weaken (fun _ q _ h => hFc q.1 h)
      rw [hw.2] at hP hD
      rw [hw.1]
      clear hw hFc
      have hP : va_P Dg vwCl (mW m0 a y (-2) kd (σ.1 2 0) (σ.1 2 1) (σ.1 2 2) (σ.1 2 3) (σ.1 2 4) wh re (rfO (-2) (σ.1 1)) (σ.1 3) aTo aPo (σ.1 4) aRw aRr (σ.1 5) (σ.1 6) (σ.1 7) aWs aRs (σ.1 8) (σ.1 9) (σ.1 10) (σ.1 11) (σ.1 12)) H := hP
      have hD : va_D A (mW m0 a y (-2) kd (σ.1 2 0) (σ.1 2 1) (σ.1 2 2) (σ.1 2 3) (σ.1 2 4) wh re (rfO (-2) (σ.1 1)) (σ.1 3) aTo aPo (σ.1 4) aRw aRr (σ.1 5) (σ.1 6) (σ.1 7) aWs aRs (σ.1 8) (σ.1 9) (σ.1 10) (σ.1 11) (σ.1 12)) := hD
      have hw : wh_take σ p1 p2 = (-2) := by simp only [wh_take, if_pos c_1, if_neg c_2]
      have hn : ¬ wh_take σ p1 p2 = 0 := by rw [hw]; decide
      exact W.iret (v := (-2)) hx hb hr (fun t ht hW => ⟨⟨_, (mW m0 a y (-2) kd (σ.1 2 0) (σ.1 2 1) (σ.1 2 2) (σ.1 2 3) (σ.1 2 4) wh re (rfO (-2) (σ.1 1)) (σ.1 3) aTo aPo (σ.1 4) aRw aRr (σ.1 5) (σ.1 6) (σ.1 7) aWs aRs (σ.1 8) (σ.1 9) (σ.1 10) (σ.1 11) (σ.1 12)), rfl, ⟨by rw [an_take, if_neg hn, hw]; try rfl, kd, wh, re, aTo, aPo, aRw, aRr, aWs, aRs, by rw [nw_take, if_neg hn, hw]; rfl, by rw [nw_take, if_neg hn]; exact hM⟩, by rw [ht]; exact hP, va_K.moved hW.alike hK, hD⟩, hS.F ht⟩) hS.2.2 dX8_take_27

theorem in_X8_tear : ∀ w ∈ wsX80, w ∈ wsX8_tear := fun w h => List.mem_cons_of_mem _ (List.mem_append_right _ h)
set_option maxHeartbeats 8000000 in
set_option maxRecDepth 100000 in
theorem met_X8_tear (l : Launch) (Dg : va_G) (m0 z : Nat) (a : Nat → Nat) (y : Nat → ClassId) (σ : St) (kd : Int32) (wh : Int64) (re : UInt64) (aTo aPo : Nat → UInt64) (aRw : Nat → Int64) (aRr : Nat → UInt64) (aWs : Nat → Int64) (aRs : Nat → UInt64) (p1 : Int32) (hV : vOK σ) (hM : mC σ aTo aPo aRw aRr aWs aRs)  : Met l yX8_tear wsX8_tear ({ frames := 2, cells := 0, slots := 0, locals := 43 }) (va_Pc [.ref m0, .int p1] (wB Dg (mT y) (mW m0 a y (σ.1 0 0) kd (σ.1 2 0) (σ.1 2 1) (σ.1 2 2) (σ.1 2 3) (σ.1 2 4) wh re (σ.1 1) (σ.1 3) aTo aPo (σ.1 4) aRw aRr (σ.1 5) (σ.1 6) (σ.1 7) aWs aRs (σ.1 8) (σ.1 9) (σ.1 10) (σ.1 11) (σ.1 12)) z)) (va_Qi (fun (r : Int32) (u : va_W) => r = an_tear σ p1 ∧ MI m0 a y (nw_tear σ p1) u) (wE Dg (mT y) (va_A (mW m0 a y (σ.1 0 0) kd (σ.1 2 0) (σ.1 2 1) (σ.1 2 2) (σ.1 2 3) (σ.1 2 4) wh re (σ.1 1) (σ.1 3) aTo aPo (σ.1 4) aRw aRr (σ.1 5) (σ.1 6) (σ.1 7) aWs aRs (σ.1 8) (σ.1 9) (σ.1 10) (σ.1 11) (σ.1 12)) z)) (va_A (mW m0 a y (σ.1 0 0) kd (σ.1 2 0) (σ.1 2 1) (σ.1 2 2) (σ.1 2 3) (σ.1 2 4) wh re (σ.1 1) (σ.1 3) aTo aPo (σ.1 4) aRw aRr (σ.1 5) (σ.1 6) (σ.1 7) aWs aRs (σ.1 8) (σ.1 9) (σ.1 10) (σ.1 11) (σ.1 12)) z)) 0 0 (va_A (mW m0 a y (σ.1 0 0) kd (σ.1 2 0) (σ.1 2 1) (σ.1 2 2) (σ.1 2 3) (σ.1 2 4) wh re (σ.1 1) (σ.1 3) aTo aPo (σ.1 4) aRw aRr (σ.1 5) (σ.1 6) (σ.1 7) aWs aRs (σ.1 8) (σ.1 9) (σ.1 10) (σ.1 11) (σ.1 12)) z) := by
  refine Met.ofW (cc := cX8_tear) (maxL := 3) (ret := (some .int)) (by decide) rfl ?_
  intro p e s m args below meth c s₁ B hml hv
  obtain ⟨rfl, hsz, hP, hK, hD0⟩ := hv
  have hx := B.exec
  have hb := B.bytes
  have hr := B.returns
  have hts := atoms_spec (ws := wsX8_tear) B.pre
  have hown : s.vm.findClass RX8 = some m.cls := findClass_of_methodNamed B.named
  have hlocks := B.notSynchronized
  subst hsz
  have hD := hD0.self (sz := s.heap.size)
  generalize hAe : va_A (mW m0 a y (σ.1 0 0) kd (σ.1 2 0) (σ.1 2 1) (σ.1 2 2) (σ.1 2 3) (σ.1 2 4) wh re (σ.1 1) (σ.1 3) aTo aPo (σ.1 4) aRw aRr (σ.1 5) (σ.1 6) (σ.1 7) aWs aRs (σ.1 8) (σ.1 9) (σ.1 10) (σ.1 11) (σ.1 12)) s.heap.size = A at hD ⊢
  have hA : ∀ q : Nat, s.heap.size ≤ q → A q := fun q h => by rw [← hAe]; exact Or.inr h
  have hS : va_S A s.heap s.heap [] := va_S.rf
  have hP : va_P Dg vwCl (mW m0 a y (σ.1 0 0) kd (σ.1 2 0) (σ.1 2 1) (σ.1 2 2) (σ.1 2 3) (σ.1 2 4) wh re (σ.1 1) (σ.1 3) aTo aPo (σ.1 4) aRw aRr (σ.1 5) (σ.1 6) (σ.1 7) aWs aRs (σ.1 8) (σ.1 9) (σ.1 10) (σ.1 11) (σ.1 12)) s.heap := hP
  have hl := lv_entry ([.ref m0, .int p1]) (n := 3) (Nat.le_of_ble_eq_true rfl)
  rw [lg_entry_eq]
  generalize (lg_sl ([.ref m0, .int p1]) ++ List.replicate (3 - (lg_sl ([.ref m0, .int p1])).length) Slot.unset).toArray = ls at hl ⊢
  have hl : lv_has ls 3 [(0, .ref m0), (1, .int p1)] := hl
  refine lv_aload_n hx hb dX8_tear_0 rfl (lv_at hl 0 rfl) ?_
  refine lv_iconst (v := 0) hx hb dX8_tear_1 (by decide) ?_
  refine va_put (D := Dg) (ci := 6) (v := .int 0) (ty := .int) (C := RX8) (T := TX8) (N := 26) hx hb hts in_X8_tear tyX8 tyX8_ok nmX8 hown hK hP hD hS 0 rfl rfl 0 (by decide) (hts (.fieldLink RX8 64 "OrreryWorksModel" "refused" "I") (by decide +kernel)) (fun _ h9 => h9) rfl (by decide +kernel) rfl rfl (Nat.le_of_ble_eq_true rfl) dX8_tear_2 (fun H locs hP hD hS => ?_)
  have hP : va_P Dg vwCl (mW m0 a y 0 kd (σ.1 2 0) (σ.1 2 1) (σ.1 2 2) (σ.1 2 3) (σ.1 2 4) wh re (σ.1 1) (σ.1 3) aTo aPo (σ.1 4) aRw aRr (σ.1 5) (σ.1 6) (σ.1 7) aWs aRs (σ.1 8) (σ.1 9) (σ.1 10) (σ.1 11) (σ.1 12)) H := hP
  have hD : va_D A (mW m0 a y 0 kd (σ.1 2 0) (σ.1 2 1) (σ.1 2 2) (σ.1 2 3) (σ.1 2 4) wh re (σ.1 1) (σ.1 3) aTo aPo (σ.1 4) aRw aRr (σ.1 5) (σ.1 6) (σ.1 7) aWs aRs (σ.1 8) (σ.1 9) (σ.1 10) (σ.1 11) (σ.1 12)) := hD
  refine lv_aload_n hx hb dX8_tear_5 rfl (lv_at hl 0 rfl) ?_
  refine lv_iload_n hx hb dX8_tear_6 rfl (lv_at hl 1 rfl) ?_
  refine vp_callSi ((va_runV (As := [.int p1]) (rest := []) ⟨hx, hb, hml, hown, hts⟩ (met_X8_isStrip l Dg m0 H.size a y 0 kd (σ.1 2 0) (σ.1 2 1) (σ.1 2 2) (σ.1 2 3) (σ.1 2 4) wh re (σ.1 1) (σ.1 3) aTo aPo (σ.1 4) aRw aRr (σ.1 5) (σ.1 6) (σ.1 7) aWs aRs (σ.1 8) (σ.1 9) (σ.1 10) (σ.1 11) (σ.1 12) p1 ) (cwV 1 hts gX8_tear_X8_isStrip rfl rfl rfl (by decide +kernel) ⟨Nat.le_of_ble_eq_true rfl, Nat.le_of_ble_eq_true rfl⟩) (wPreV hK hP (hD.weaken (fun _ _ _ _ => trivial)) (va_recv hK hP (ci := 6) (q0 := 0) rfl rfl)) rfl rfl hl.1 rfl (lv_room (Nat.le_of_ble_eq_true rfl)) dX8_tear_7 ⟨Nat.le_of_ble_eq_true rfl, Nat.le_of_ble_eq_true rfl⟩).run) (fun r hw => ?_)
  rw [hw]
  refine lv_if_ne (tgt := 20) hx hb dX8_tear_10 (by decide) (fun c_1 => ?_) (fun c_1 => ?_)
  · replace c_1 := bI_ne c_1
    refine lv_aload_n hx hb dX8_tear_20 rfl (lv_at hl 0 rfl) ?_
    refine va_get (D := Dg) (ci := 6) (v := .ref (a 9)) (C := RX8) (T := TX8) (N := 26) hx hb hts in_X8_tear hown hK hP 0 rfl rfl 16 (by decide) (hts (.fieldLink RX8 39 "OrreryWorksModel" "isGone" "[Z") (by decide +kernel)) (fun _ h9 => h9) rfl dX8_tear_21 ?_
    refine lv_iload_n hx hb dX8_tear_24 rfl (lv_at hl 1 rfl) ?_
    refine va_zald hx hb hK hP 10 9 rfl rfl (inC_in hV.1.2.2.1 c_1) dX8_tear_25 ?_
    refine lv_if_eq (tgt := 33) hx hb dX8_tear_26 (by decide) (fun c_2 => ?_) (fun c_2 => ?_)
    · refine lv_iconst (v := 1) hx hb dX8_tear_33 (by decide) ?_
      refine lv_istore_n (lv' := [(2, .int 1), (0, .ref m0), (1, .int p1)]) hx hb dX8_tear_34 rfl hl (by decide) rfl (fun ls hl => ?_)
      refine lv_aload_n hx hb dX8_tear_35 rfl (lv_at hl 1 rfl) ?_
      refine va_get (D := Dg) (ci := 6) (v := .ref (a 9)) (C := RX8) (T := TX8) (N := 26) hx hb hts in_X8_tear hown hK hP 0 rfl rfl 16 (by decide) (hts (.fieldLink RX8 39 "OrreryWorksModel" "isGone" "[Z") (by decide +kernel)) (fun _ h9 => h9) rfl dX8_tear_36 ?_
      refine lv_iload_n hx hb dX8_tear_39 rfl (lv_at hl 2 rfl) ?_
      refine lv_iconst (v := 1) hx hb dX8_tear_40 (by decide) ?_
      refine va_zast hx hb hK hP hD hS 10 9 rfl rfl (inC_in hV.1.2.2.1 c_1) dX8_tear_41 (fun H locs hP hD hS => ?_)
      have hP : va_P Dg vwCl (mW m0 a y 0 kd (σ.1 2 0) (σ.1 2 1) (σ.1 2 2) (σ.1 2 3) (σ.1 2 4) wh re (σ.1 1) (σ.1 3) aTo aPo (σ.1 4) aRw aRr (σ.1 5) (σ.1 6) (upd (σ.1 7) p1.toNatClampNeg (vp_nar .boolean 1)) aWs aRs (σ.1 8) (σ.1 9) (σ.1 10) (σ.1 11) (σ.1 12)) H := hP
      have hD : va_D A (mW m0 a y 0 kd (σ.1 2 0) (σ.1 2 1) (σ.1 2 2) (σ.1 2 3) (σ.1 2 4) wh re (σ.1 1) (σ.1 3) aTo aPo (σ.1 4) aRw aRr (σ.1 5) (σ.1 6) (upd (σ.1 7) p1.toNatClampNeg (vp_nar .boolean 1)) aWs aRs (σ.1 8) (σ.1 9) (σ.1 10) (σ.1 11) (σ.1 12)) := hD
      refine lv_iload_n hx hb dX8_tear_42 rfl (lv_at hl 0 rfl) ?_
      have hw : wh_tear σ p1 = 0 := by simp only [wh_tear, if_pos c_1]
      exact W.iret (v := 1) hx hb hr (fun t ht hW => ⟨⟨_, (mW m0 a y 0 kd (σ.1 2 0) (σ.1 2 1) (σ.1 2 2) (σ.1 2 3) (σ.1 2 4) wh re (σ.1 1) (σ.1 3) aTo aPo (σ.1 4) aRw aRr (σ.1 5) (σ.1 6) (upd (σ.1 7) p1.toNatClampNeg (vp_nar .boolean 1)) aWs aRs (σ.1 8) (σ.1 9) (σ.1 10) (σ.1 11) (σ.1 12)), rfl, ⟨by rw [an_tear, if_pos hw]; rw [if_pos c_2], kd, wh, re, aTo, aPo, aRw, aRr, aWs, aRs, by rw [nw_tear, if_pos hw]; rfl, by rw [nw_tear, if_pos hw]; exact hM⟩, by rw [ht]; exact hP, va_K.moved hW.alike hK, hD⟩, hS.F ht⟩) hS.2.2 dX8_tear_43
    · refine lv_iconst (v := 0) hx hb dX8_tear_29 (by decide) ?_
      refine lv_goto (tgt := 34) hx hb dX8_tear_30 (by decide) ?_
      refine lv_istore_n (lv' := [(2, .int 0), (0, .ref m0), (1, .int p1)]) hx hb dX8_tear_34 rfl hl (by decide) rfl (fun ls hl => ?_)
      refine lv_aload_n hx hb dX8_tear_35 rfl (lv_at hl 1 rfl) ?_
      refine va_get (D := Dg) (ci := 6) (v := .ref (a 9)) (C := RX8) (T := TX8) (N := 26) hx hb hts in_X8_tear hown hK hP 0 rfl rfl 16 (by decide) (hts (.fieldLink RX8 39 "OrreryWorksModel" "isGone" "[Z") (by decide +kernel)) (fun _ h9 => h9) rfl dX8_tear_36 ?_
      refine lv_iload_n hx hb dX8_tear_39 rfl (lv_at hl 2 rfl) ?_
      refine lv_iconst (v := 1) hx hb dX8_tear_40 (by decide) ?_
      refine va_zast hx hb hK hP hD hS 10 9 rfl rfl (inC_in hV.1.2.2.1 c_1) dX8_tear_41 (fun H locs hP hD hS => ?_)
      have hP : va_P Dg vwCl (mW m0 a y 0 kd (σ.1 2 0) (σ.1 2 1) (σ.1 2 2) (σ.1 2 3) (σ.1 2 4) wh re (σ.1 1) (σ.1 3) aTo aPo (σ.1 4) aRw aRr (σ.1 5) (σ.1 6) (upd (σ.1 7) p1.toNatClampNeg (vp_nar .boolean 1)) aWs aRs (σ.1 8) (σ.1 9) (σ.1 10) (σ.1 11) (σ.1 12)) H := hP
      have hD : va_D A (mW m0 a y 0 kd (σ.1 2 0) (σ.1 2 1) (σ.1 2 2) (σ.1 2 3) (σ.1 2 4) wh re (σ.1 1) (σ.1 3) aTo aPo (σ.1 4) aRw aRr (σ.1 5) (σ.1 6) (upd (σ.1 7) p1.toNatClampNeg (vp_nar .boolean 1)) aWs aRs (σ.1 8) (σ.1 9) (σ.1 10) (σ.1 11) (σ.1 12)) := hD
      refine lv_iload_n hx hb dX8_tear_42 rfl (lv_at hl 0 rfl) ?_
      have hw : wh_tear σ p1 = 0 := by simp only [wh_tear, if_pos c_1]
      exact W.iret (v := 0) hx hb hr (fun t ht hW => ⟨⟨_, (mW m0 a y 0 kd (σ.1 2 0) (σ.1 2 1) (σ.1 2 2) (σ.1 2 3) (σ.1 2 4) wh re (σ.1 1) (σ.1 3) aTo aPo (σ.1 4) aRw aRr (σ.1 5) (σ.1 6) (upd (σ.1 7) p1.toNatClampNeg (vp_nar .boolean 1)) aWs aRs (σ.1 8) (σ.1 9) (σ.1 10) (σ.1 11) (σ.1 12)), rfl, ⟨by rw [an_tear, if_pos hw]; rw [if_neg c_2], kd, wh, re, aTo, aPo, aRw, aRr, aWs, aRs, by rw [nw_tear, if_pos hw]; rfl, by rw [nw_tear, if_pos hw]; exact hM⟩, by rw [ht]; exact hP, va_K.moved hW.alike hK, hD⟩, hS.F ht⟩) hS.2.2 dX8_tear_43
  · replace c_1 := bI_eq c_1
    refine lv_aload_n hx hb dX8_tear_13 rfl (lv_at hl 0 rfl) ?_
    refine lv_bipush (v := (-2)) hx hb dX8_tear_14 (by decide) ?_
    have hFc := wFree hD hS hA
    refine va_calli (va_runV (As := [.int (-2)]) (rest := []) ⟨hx, hb, hml, hown, hts⟩ (met_X8_refuse l Dg m0 H.size a y 0 kd (σ.1 2 0) (σ.1 2 1) (σ.1 2 2) (σ.1 2 3) (σ.1 2 4) wh re (σ.1 1) (σ.1 3) aTo aPo (σ.1 4) aRw aRr (σ.1 5) (σ.1 6) (σ.1 7) aWs aRs (σ.1 8) (σ.1 9) (σ.1 10) (σ.1 11) (σ.1 12) (-2) (by unfold vp_in; decide)) (cwV 1 hts gX8_tear_X8_refuse rfl rfl rfl (by decide +kernel) ⟨Nat.le_of_ble_eq_true rfl, Nat.le_of_ble_eq_true rfl⟩) (wPreV hK hP (hD.weaken (fun _ _ _ _ => trivial)) (va_recv hK hP (ci := 6) (q0 := 0) rfl rfl)) rfl rfl hl.1 rfl (lv_room (Nat.le_of_ble_eq_true rfl)) dX8_tear_16 ⟨Nat.le_of_ble_eq_true rfl, Nat.le_of_ble_eq_true rfl⟩) hS (fun q _ h => hFc q h) hFc (fun r u t H locs ht hvm hw hB _ _ hS => ?_)
    obtain ⟨hP, -, hD⟩ := hB
    rw [ht] at hP
    replace hD := hD.weaken (fun _ q _ h => hFc q.1 h)
    rw [hw.2] at hP hD
    rw [hw.1]
    clear hw hFc
    have hP : va_P Dg vwCl (mW m0 a y (-2) kd (σ.1 2 0) (σ.1 2 1) (σ.1 2 2) (σ.1 2 3) (σ.1 2 4) wh re (rfO (-2) (σ.1 1)) (σ.1 3) aTo aPo (σ.1 4) aRw aRr (σ.1 5) (σ.1 6) (σ.1 7) aWs aRs (σ.1 8) (σ.1 9) (σ.1 10) (σ.1 11) (σ.1 12)) H := hP
    have hD : va_D A (mW m0 a y (-2) kd (σ.1 2 0) (σ.1 2 1) (σ.1 2 2) (σ.1 2 3) (σ.1 2 4) wh re (rfO (-2) (σ.1 1)) (σ.1 3) aTo aPo (σ.1 4) aRw aRr (σ.1 5) (σ.1 6) (σ.1 7) aWs aRs (σ.1 8) (σ.1 9) (σ.1 10) (σ.1 11) (σ.1 12)) := hD
    have hw : wh_tear σ p1 = (-2) := by simp only [wh_tear, if_neg c_1]
    have hn : ¬ wh_tear σ p1 = 0 := by rw [hw]; decide
    exact W.iret (v := (-2)) hx hb hr (fun t ht hW => ⟨⟨_, (mW m0 a y (-2) kd (σ.1 2 0) (σ.1 2 1) (σ.1 2 2) (σ.1 2 3) (σ.1 2 4) wh re (rfO (-2) (σ.1 1)) (σ.1 3) aTo aPo (σ.1 4) aRw aRr (σ.1 5) (σ.1 6) (σ.1 7) aWs aRs (σ.1 8) (σ.1 9) (σ.1 10) (σ.1 11) (σ.1 12)), rfl, ⟨by rw [an_tear, if_neg hn, hw]; try rfl, kd, wh, re, aTo, aPo, aRw, aRr, aWs, aRs, by rw [nw_tear, if_neg hn, hw]; rfl, by rw [nw_tear, if_neg hn]; exact hM⟩, by rw [ht]; exact hP, va_K.moved hW.alike hK, hD⟩, hS.F ht⟩) hS.2.2 dX8_tear_19

theorem in_X8_keep : ∀ w ∈ wsX80, w ∈ wsX8_keep := fun w h => List.mem_cons_of_mem _ (List.mem_append_right _ h)
set_option maxHeartbeats 8000000 in
set_option maxRecDepth 100000 in
theorem met_X8_keep (l : Launch) (Dg : va_G) (m0 z : Nat) (a : Nat → Nat) (y : Nat → ClassId) (σ : St) (kd : Int32) (wh : Int64) (re : UInt64) (aTo aPo : Nat → UInt64) (aRw : Nat → Int64) (aRr : Nat → UInt64) (aWs : Nat → Int64) (aRs : Nat → UInt64) (p1 : Int32) (p2 : Int32) (p3 : Int32) (p4 : Int32) (hV : vOK σ) (hM : mC σ aTo aPo aRw aRr aWs aRs)  : Met l yX8_keep wsX8_keep ({ frames := 2, cells := 0, slots := 0, locals := 46 }) (va_Pc [.ref m0, .int p1, .int p2, .int p3, .int p4] (wB Dg (mT y) (mW m0 a y (σ.1 0 0) kd (σ.1 2 0) (σ.1 2 1) (σ.1 2 2) (σ.1 2 3) (σ.1 2 4) wh re (σ.1 1) (σ.1 3) aTo aPo (σ.1 4) aRw aRr (σ.1 5) (σ.1 6) (σ.1 7) aWs aRs (σ.1 8) (σ.1 9) (σ.1 10) (σ.1 11) (σ.1 12)) z)) (va_Qi (fun (r : Int32) (u : va_W) => r = an_keep σ p1 p2 p3 p4 ∧ MI m0 a y (nw_keep σ p1 p2 p3 p4) u) (wE Dg (mT y) (va_A (mW m0 a y (σ.1 0 0) kd (σ.1 2 0) (σ.1 2 1) (σ.1 2 2) (σ.1 2 3) (σ.1 2 4) wh re (σ.1 1) (σ.1 3) aTo aPo (σ.1 4) aRw aRr (σ.1 5) (σ.1 6) (σ.1 7) aWs aRs (σ.1 8) (σ.1 9) (σ.1 10) (σ.1 11) (σ.1 12)) z)) (va_A (mW m0 a y (σ.1 0 0) kd (σ.1 2 0) (σ.1 2 1) (σ.1 2 2) (σ.1 2 3) (σ.1 2 4) wh re (σ.1 1) (σ.1 3) aTo aPo (σ.1 4) aRw aRr (σ.1 5) (σ.1 6) (σ.1 7) aWs aRs (σ.1 8) (σ.1 9) (σ.1 10) (σ.1 11) (σ.1 12)) z)) 0 0 (va_A (mW m0 a y (σ.1 0 0) kd (σ.1 2 0) (σ.1 2 1) (σ.1 2 2) (σ.1 2 3) (σ.1 2 4) wh re (σ.1 1) (σ.1 3) aTo aPo (σ.1 4) aRw aRr (σ.1 5) (σ.1 6) (σ.1 7) aWs aRs (σ.1 8) (σ.1 9) (σ.1 10) (σ.1 11) (σ.1 12)) z) := by
  refine Met.ofW (cc := cX8_keep) (maxL := 6) (ret := (some .int)) (by decide) rfl ?_
  intro p e s m args below meth c s₁ B hml hv
  obtain ⟨rfl, hsz, hP, hK, hD0⟩ := hv
  have hx := B.exec
  have hb := B.bytes
  have hr := B.returns
  have hts := atoms_spec (ws := wsX8_keep) B.pre
  have hown : s.vm.findClass RX8 = some m.cls := findClass_of_methodNamed B.named
  have hlocks := B.notSynchronized
  subst hsz
  have hD := hD0.self (sz := s.heap.size)
  generalize hAe : va_A (mW m0 a y (σ.1 0 0) kd (σ.1 2 0) (σ.1 2 1) (σ.1 2 2) (σ.1 2 3) (σ.1 2 4) wh re (σ.1 1) (σ.1 3) aTo aPo (σ.1 4) aRw aRr (σ.1 5) (σ.1 6) (σ.1 7) aWs aRs (σ.1 8) (σ.1 9) (σ.1 10) (σ.1 11) (σ.1 12)) s.heap.size = A at hD ⊢
  have hA : ∀ q : Nat, s.heap.size ≤ q → A q := fun q h => by rw [← hAe]; exact Or.inr h
  have hS : va_S A s.heap s.heap [] := va_S.rf
  have hP : va_P Dg vwCl (mW m0 a y (σ.1 0 0) kd (σ.1 2 0) (σ.1 2 1) (σ.1 2 2) (σ.1 2 3) (σ.1 2 4) wh re (σ.1 1) (σ.1 3) aTo aPo (σ.1 4) aRw aRr (σ.1 5) (σ.1 6) (σ.1 7) aWs aRs (σ.1 8) (σ.1 9) (σ.1 10) (σ.1 11) (σ.1 12)) s.heap := hP
  have hl := lv_entry ([.ref m0, .int p1, .int p2, .int p3, .int p4]) (n := 6) (Nat.le_of_ble_eq_true rfl)
  rw [lg_entry_eq]
  generalize (lg_sl ([.ref m0, .int p1, .int p2, .int p3, .int p4]) ++ List.replicate (6 - (lg_sl ([.ref m0, .int p1, .int p2, .int p3, .int p4])).length) Slot.unset).toArray = ls at hl ⊢
  have hl : lv_has ls 6 [(0, .ref m0), (1, .int p1), (2, .int p2), (3, .int p3), (4, .int p4)] := hl
  refine lv_aload_n hx hb dX8_keep_0 rfl (lv_at hl 0 rfl) ?_
  refine lv_iconst (v := 0) hx hb dX8_keep_1 (by decide) ?_
  refine va_put (D := Dg) (ci := 6) (v := .int 0) (ty := .int) (C := RX8) (T := TX8) (N := 26) hx hb hts in_X8_keep tyX8 tyX8_ok nmX8 hown hK hP hD hS 0 rfl rfl 0 (by decide) (hts (.fieldLink RX8 64 "OrreryWorksModel" "refused" "I") (by decide +kernel)) (fun _ h9 => h9) rfl (by decide +kernel) rfl rfl (Nat.le_of_ble_eq_true rfl) dX8_keep_2 (fun H locs hP hD hS => ?_)
  have hP : va_P Dg vwCl (mW m0 a y 0 kd (σ.1 2 0) (σ.1 2 1) (σ.1 2 2) (σ.1 2 3) (σ.1 2 4) wh re (σ.1 1) (σ.1 3) aTo aPo (σ.1 4) aRw aRr (σ.1 5) (σ.1 6) (σ.1 7) aWs aRs (σ.1 8) (σ.1 9) (σ.1 10) (σ.1 11) (σ.1 12)) H := hP
  have hD : va_D A (mW m0 a y 0 kd (σ.1 2 0) (σ.1 2 1) (σ.1 2 2) (σ.1 2 3) (σ.1 2 4) wh re (σ.1 1) (σ.1 3) aTo aPo (σ.1 4) aRw aRr (σ.1 5) (σ.1 6) (σ.1 7) aWs aRs (σ.1 8) (σ.1 9) (σ.1 10) (σ.1 11) (σ.1 12)) := hD
  refine lv_aload_n hx hb dX8_keep_5 rfl (lv_at hl 0 rfl) ?_
  refine lv_iload_n hx hb dX8_keep_6 rfl (lv_at hl 1 rfl) ?_
  refine vp_callSi ((va_runV (As := [.int p1]) (rest := []) ⟨hx, hb, hml, hown, hts⟩ (met_X8_isStrip l Dg m0 H.size a y 0 kd (σ.1 2 0) (σ.1 2 1) (σ.1 2 2) (σ.1 2 3) (σ.1 2 4) wh re (σ.1 1) (σ.1 3) aTo aPo (σ.1 4) aRw aRr (σ.1 5) (σ.1 6) (σ.1 7) aWs aRs (σ.1 8) (σ.1 9) (σ.1 10) (σ.1 11) (σ.1 12) p1 ) (cwV 1 hts gX8_keep_X8_isStrip rfl rfl rfl (by decide +kernel) ⟨Nat.le_of_ble_eq_true rfl, Nat.le_of_ble_eq_true rfl⟩) (wPreV hK hP (hD.weaken (fun _ _ _ _ => trivial)) (va_recv hK hP (ci := 6) (q0 := 0) rfl rfl)) rfl rfl hl.1 rfl (lv_room (Nat.le_of_ble_eq_true rfl)) dX8_keep_7 ⟨Nat.le_of_ble_eq_true rfl, Nat.le_of_ble_eq_true rfl⟩).run) (fun r hw => ?_)
  rw [hw]
  refine lv_if_eq (tgt := 29) hx hb dX8_keep_10 (by decide) (fun c_1 => ?_) (fun c_1 => ?_)
  · replace c_1 := bI_eq c_1
    refine lv_aload_n hx hb dX8_keep_29 rfl (lv_at hl 0 rfl) ?_
    refine lv_bipush (v := (-2)) hx hb dX8_keep_30 (by decide) ?_
    have hFc := wFree hD hS hA
    refine va_calli (va_runV (As := [.int (-2)]) (rest := []) ⟨hx, hb, hml, hown, hts⟩ (met_X8_refuse l Dg m0 H.size a y 0 kd (σ.1 2 0) (σ.1 2 1) (σ.1 2 2) (σ.1 2 3) (σ.1 2 4) wh re (σ.1 1) (σ.1 3) aTo aPo (σ.1 4) aRw aRr (σ.1 5) (σ.1 6) (σ.1 7) aWs aRs (σ.1 8) (σ.1 9) (σ.1 10) (σ.1 11) (σ.1 12) (-2) (by unfold vp_in; decide)) (cwV 1 hts gX8_keep_X8_refuse rfl rfl rfl (by decide +kernel) ⟨Nat.le_of_ble_eq_true rfl, Nat.le_of_ble_eq_true rfl⟩) (wPreV hK hP (hD.weaken (fun _ _ _ _ => trivial)) (va_recv hK hP (ci := 6) (q0 := 0) rfl rfl)) rfl rfl hl.1 rfl (lv_room (Nat.le_of_ble_eq_true rfl)) dX8_keep_32 ⟨Nat.le_of_ble_eq_true rfl, Nat.le_of_ble_eq_true rfl⟩) hS (fun q _ h => hFc q h) hFc (fun r u t H locs ht hvm hw hB _ _ hS => ?_)
    obtain ⟨hP, -, hD⟩ := hB
    rw [ht] at hP
    replace hD := hD.weaken (fun _ q _ h => hFc q.1 h)
    rw [hw.2] at hP hD
    rw [hw.1]
    clear hw hFc
    have hP : va_P Dg vwCl (mW m0 a y (-2) kd (σ.1 2 0) (σ.1 2 1) (σ.1 2 2) (σ.1 2 3) (σ.1 2 4) wh re (rfO (-2) (σ.1 1)) (σ.1 3) aTo aPo (σ.1 4) aRw aRr (σ.1 5) (σ.1 6) (σ.1 7) aWs aRs (σ.1 8) (σ.1 9) (σ.1 10) (σ.1 11) (σ.1 12)) H := hP
    have hD : va_D A (mW m0 a y (-2) kd (σ.1 2 0) (σ.1 2 1) (σ.1 2 2) (σ.1 2 3) (σ.1 2 4) wh re (rfO (-2) (σ.1 1)) (σ.1 3) aTo aPo (σ.1 4) aRw aRr (σ.1 5) (σ.1 6) (σ.1 7) aWs aRs (σ.1 8) (σ.1 9) (σ.1 10) (σ.1 11) (σ.1 12)) := hD
    have hw : wh_keep σ p1 p2 p3 p4 = (-2) := by simp only [wh_keep, if_neg c_1]
    have hn : ¬ wh_keep σ p1 p2 p3 p4 = 0 := by rw [hw]; decide
    exact W.iret (v := (-2)) hx hb hr (fun t ht hW => ⟨⟨_, (mW m0 a y (-2) kd (σ.1 2 0) (σ.1 2 1) (σ.1 2 2) (σ.1 2 3) (σ.1 2 4) wh re (rfO (-2) (σ.1 1)) (σ.1 3) aTo aPo (σ.1 4) aRw aRr (σ.1 5) (σ.1 6) (σ.1 7) aWs aRs (σ.1 8) (σ.1 9) (σ.1 10) (σ.1 11) (σ.1 12)), rfl, ⟨by rw [an_keep, if_neg hn, hw]; try rfl, kd, wh, re, aTo, aPo, aRw, aRr, aWs, aRs, by rw [nw_keep, if_neg hn, hw]; rfl, by rw [nw_keep, if_neg hn]; exact hM⟩, by rw [ht]; exact hP, va_K.moved hW.alike hK, hD⟩, hS.F ht⟩) hS.2.2 dX8_keep_35
  · replace c_1 := bI_ne c_1
    refine lv_iload_n hx hb dX8_keep_13 rfl (lv_at hl 2 rfl) ?_
    refine vp_callSi ((va_runS (As := [.int p2]) (rest := []) ⟨hx, hb, hml, hown, hts⟩ (met_X8_isKind l p2) (va_cwS 1 hts gX8_keep_X8_isKind rfl rfl rfl (by decide +kernel) ⟨Nat.le_of_ble_eq_true rfl, Nat.le_of_ble_eq_true rfl⟩) ⟨fun _ _ _ _ q => q, fun U hU hW => ⟨rfl, trivial⟩⟩ rfl rfl hl.1 rfl (lv_room (Nat.le_of_ble_eq_true rfl)) dX8_keep_14 ⟨Nat.le_of_ble_eq_true rfl, Nat.le_of_ble_eq_true rfl⟩).run) (fun r hw => ?_)
    subst hw
    refine lv_if_eq (tgt := 29) hx hb dX8_keep_17 (by decide) (fun c_2 => ?_) (fun c_2 => ?_)
    · replace c_2 := bI_eq c_2
      refine lv_aload_n hx hb dX8_keep_29 rfl (lv_at hl 0 rfl) ?_
      refine lv_bipush (v := (-2)) hx hb dX8_keep_30 (by decide) ?_
      have hFc := wFree hD hS hA
      refine va_calli (va_runV (As := [.int (-2)]) (rest := []) ⟨hx, hb, hml, hown, hts⟩ (met_X8_refuse l Dg m0 H.size a y 0 kd (σ.1 2 0) (σ.1 2 1) (σ.1 2 2) (σ.1 2 3) (σ.1 2 4) wh re (σ.1 1) (σ.1 3) aTo aPo (σ.1 4) aRw aRr (σ.1 5) (σ.1 6) (σ.1 7) aWs aRs (σ.1 8) (σ.1 9) (σ.1 10) (σ.1 11) (σ.1 12) (-2) (by unfold vp_in; decide)) (cwV 1 hts gX8_keep_X8_refuse rfl rfl rfl (by decide +kernel) ⟨Nat.le_of_ble_eq_true rfl, Nat.le_of_ble_eq_true rfl⟩) (wPreV hK hP (hD.weaken (fun _ _ _ _ => trivial)) (va_recv hK hP (ci := 6) (q0 := 0) rfl rfl)) rfl rfl hl.1 rfl (lv_room (Nat.le_of_ble_eq_true rfl)) dX8_keep_32 ⟨Nat.le_of_ble_eq_true rfl, Nat.le_of_ble_eq_true rfl⟩) hS (fun q _ h => hFc q h) hFc (fun r u t H locs ht hvm hw hB _ _ hS => ?_)
      obtain ⟨hP, -, hD⟩ := hB
      rw [ht] at hP
      replace hD := hD.weaken (fun _ q _ h => hFc q.1 h)
      rw [hw.2] at hP hD
      rw [hw.1]
      clear hw hFc
      have hP : va_P Dg vwCl (mW m0 a y (-2) kd (σ.1 2 0) (σ.1 2 1) (σ.1 2 2) (σ.1 2 3) (σ.1 2 4) wh re (rfO (-2) (σ.1 1)) (σ.1 3) aTo aPo (σ.1 4) aRw aRr (σ.1 5) (σ.1 6) (σ.1 7) aWs aRs (σ.1 8) (σ.1 9) (σ.1 10) (σ.1 11) (σ.1 12)) H := hP
      have hD : va_D A (mW m0 a y (-2) kd (σ.1 2 0) (σ.1 2 1) (σ.1 2 2) (σ.1 2 3) (σ.1 2 4) wh re (rfO (-2) (σ.1 1)) (σ.1 3) aTo aPo (σ.1 4) aRw aRr (σ.1 5) (σ.1 6) (σ.1 7) aWs aRs (σ.1 8) (σ.1 9) (σ.1 10) (σ.1 11) (σ.1 12)) := hD
      have hw : wh_keep σ p1 p2 p3 p4 = (-2) := by simp only [wh_keep, if_pos c_1, if_neg c_2]
      have hn : ¬ wh_keep σ p1 p2 p3 p4 = 0 := by rw [hw]; decide
      exact W.iret (v := (-2)) hx hb hr (fun t ht hW => ⟨⟨_, (mW m0 a y (-2) kd (σ.1 2 0) (σ.1 2 1) (σ.1 2 2) (σ.1 2 3) (σ.1 2 4) wh re (rfO (-2) (σ.1 1)) (σ.1 3) aTo aPo (σ.1 4) aRw aRr (σ.1 5) (σ.1 6) (σ.1 7) aWs aRs (σ.1 8) (σ.1 9) (σ.1 10) (σ.1 11) (σ.1 12)), rfl, ⟨by rw [an_keep, if_neg hn, hw]; try rfl, kd, wh, re, aTo, aPo, aRw, aRr, aWs, aRs, by rw [nw_keep, if_neg hn, hw]; rfl, by rw [nw_keep, if_neg hn]; exact hM⟩, by rw [ht]; exact hP, va_K.moved hW.alike hK, hD⟩, hS.F ht⟩) hS.2.2 dX8_keep_35
    · replace c_2 := bI_ne c_2
      refine lv_aload_n hx hb dX8_keep_20 rfl (lv_at hl 0 rfl) ?_
      refine lv_iload hx hb dX8_keep_21 (lv_at hl 4 rfl) ?_
      refine vp_callSi ((va_runV (As := [.int p4]) (rest := []) ⟨hx, hb, hml, hown, hts⟩ (met_X8_isRegister l Dg m0 H.size a y 0 kd (σ.1 2 0) (σ.1 2 1) (σ.1 2 2) (σ.1 2 3) (σ.1 2 4) wh re (σ.1 1) (σ.1 3) aTo aPo (σ.1 4) aRw aRr (σ.1 5) (σ.1 6) (σ.1 7) aWs aRs (σ.1 8) (σ.1 9) (σ.1 10) (σ.1 11) (σ.1 12) p4 ) (cwV 1 hts gX8_keep_X8_isRegister rfl rfl rfl (by decide +kernel) ⟨Nat.le_of_ble_eq_true rfl, Nat.le_of_ble_eq_true rfl⟩) (wPreV hK hP (hD.weaken (fun _ _ _ _ => trivial)) (va_recv hK hP (ci := 6) (q0 := 0) rfl rfl)) rfl rfl hl.1 rfl (lv_room (Nat.le_of_ble_eq_true rfl)) dX8_keep_23 ⟨Nat.le_of_ble_eq_true rfl, Nat.le_of_ble_eq_true rfl⟩).run) (fun r hw => ?_)
      rw [hw]
      refine lv_if_ne (tgt := 36) hx hb dX8_keep_26 (by decide) (fun c_3 => ?_) (fun c_3 => ?_)
      · replace c_3 := bI_ne c_3
        refine lv_aload_n hx hb dX8_keep_36 rfl (lv_at hl 0 rfl) ?_
        refine lv_iload_n hx hb dX8_keep_37 rfl (lv_at hl 1 rfl) ?_
        refine lv_iload_n hx hb dX8_keep_38 rfl (lv_at hl 2 rfl) ?_
        refine lv_iload_n hx hb dX8_keep_39 rfl (lv_at hl 3 rfl) ?_
        refine vp_callSi ((va_runV (As := [.int p1, .int p2, .int p3]) (rest := []) ⟨hx, hb, hml, hown, hts⟩ (met_X8_against l Dg m0 H.size a y 0 kd (σ.1 2 0) (σ.1 2 1) (σ.1 2 2) (σ.1 2 3) (σ.1 2 4) wh re (σ.1 1) (σ.1 3) aTo aPo (σ.1 4) aRw aRr (σ.1 5) (σ.1 6) (σ.1 7) aWs aRs (σ.1 8) (σ.1 9) (σ.1 10) (σ.1 11) (σ.1 12) p1 p2 p3 (inC_in hV.1.2.2.1 c_1)) (cwV 3 hts gX8_keep_X8_against rfl rfl rfl (by decide +kernel) ⟨Nat.le_of_ble_eq_true rfl, Nat.le_of_ble_eq_true rfl⟩) (wPreV hK hP (hD.weaken (fun _ _ _ _ => trivial)) (va_recv hK hP (ci := 6) (q0 := 0) rfl rfl)) rfl rfl hl.1 rfl (lv_room (Nat.le_of_ble_eq_true rfl)) dX8_keep_40 ⟨Nat.le_of_ble_eq_true rfl, Nat.le_of_ble_eq_true rfl⟩).run) (fun r hw => ?_)
        rw [hw]
        refine lv_istore (lv' := [(5, .int (agn ((σ.1 7) p1.toNatClampNeg) ((σ.1 5) p1.toNatClampNeg) ((σ.1 6) p1.toNatClampNeg) p2 p3)), (0, .ref m0), (1, .int p1), (2, .int p2), (3, .int p3), (4, .int p4)]) hx hb dX8_keep_43 hl (by decide) rfl (fun ls hl => ?_)
        refine lv_iload hx hb dX8_keep_45 (lv_at hl 0 rfl) ?_
        refine lv_if_eq (tgt := 57) hx hb dX8_keep_47 (by decide) (fun c_4 => ?_) (fun c_4 => ?_)
        · have hg := agn_0 c_4
          have hm := mix16 (s_rng hV c_1) (i_rng hV c_1 hg.2.2)
          have hk := isK_of c_2
          have T1 := hV.2.2.2.1 _ (inC_lt hV.1.2.2.1 c_1)
          have hj := ix_lt (n := 16) (i_rng hV c_1 hg.2.2)
          have R4 := hV.2.2.1 _ (inC_lt hV.1.2.1 c_3)
          have P4 := hM.2.1 _ (inC_lt hV.1.2.1 c_3)
          have S1 := rep_cast R4.1 hk R4.2 P4
          refine lv_aload_n hx hb dX8_keep_57 rfl (lv_at hl 1 rfl) ?_
          refine lv_iload hx hb dX8_keep_58 (lv_at hl 5 rfl) ?_
          have hFc := wFree hD hS hA
          refine va_callv (va_runV (As := [.int p4]) (rest := []) ⟨hx, hb, hml, hown, hts⟩ (met_X8_open l Dg m0 H.size a y 0 kd (σ.1 2 0) (σ.1 2 1) (σ.1 2 2) (σ.1 2 3) (σ.1 2 4) wh re (σ.1 1) (σ.1 3) aTo aPo (σ.1 4) aRw aRr (σ.1 5) (σ.1 6) (σ.1 7) aWs aRs (σ.1 8) (σ.1 9) (σ.1 10) (σ.1 11) (σ.1 12) p4 (inC_in hV.1.2.1 c_3)) (cwV 1 hts gX8_keep_X8_open rfl rfl rfl (by decide +kernel) ⟨Nat.le_of_ble_eq_true rfl, Nat.le_of_ble_eq_true rfl⟩) (wPreV hK hP (hD.weaken (fun _ _ _ _ => trivial)) (va_recv hK hP (ci := 6) (q0 := 0) rfl rfl)) rfl rfl hl.1 rfl (lv_room (Nat.le_of_ble_eq_true rfl)) dX8_keep_60 ⟨Nat.le_of_ble_eq_true rfl, Nat.le_of_ble_eq_true rfl⟩) hS (fun q _ h => hFc q h) hFc (fun u t H locs ht hvm hw hB _ _ hS => ?_)
          obtain ⟨hP, -, hD⟩ := hB
          rw [ht] at hP
          replace hD := hD.weaken (fun _ q _ h => hFc q.1 h)
          rw [hw] at hP hD
          clear hw hFc
          have hP : va_P Dg vwCl (mW m0 a y 0 ((σ.1 4) p4.toNatClampNeg) (σ.1 2 0) (σ.1 2 1) (σ.1 2 2) (σ.1 2 3) (σ.1 2 4) (aRw p4.toNatClampNeg) (aRr p4.toNatClampNeg) (σ.1 1) (σ.1 3) aTo aPo (σ.1 4) aRw aRr (σ.1 5) (σ.1 6) (σ.1 7) aWs aRs (σ.1 8) (σ.1 9) (σ.1 10) (σ.1 11) (σ.1 12)) H := hP
          have hD : va_D A (mW m0 a y 0 ((σ.1 4) p4.toNatClampNeg) (σ.1 2 0) (σ.1 2 1) (σ.1 2 2) (σ.1 2 3) (σ.1 2 4) (aRw p4.toNatClampNeg) (aRr p4.toNatClampNeg) (σ.1 1) (σ.1 3) aTo aPo (σ.1 4) aRw aRr (σ.1 5) (σ.1 6) (σ.1 7) aWs aRs (σ.1 8) (σ.1 9) (σ.1 10) (σ.1 11) (σ.1 12)) := hD
          refine lv_aload_n hx hb dX8_keep_63 rfl (lv_at hl 1 rfl) ?_
          refine lv_iload_n hx hb dX8_keep_64 rfl (lv_at hl 3 rfl) ?_
          have hFc := wFree hD hS hA
          refine va_callv (va_runV (As := [.int p2]) (rest := []) ⟨hx, hb, hml, hown, hts⟩ (met_X8_cast l Dg m0 H.size a y 0 ((σ.1 4) p4.toNatClampNeg) (σ.1 2 0) (σ.1 2 1) (σ.1 2 2) (σ.1 2 3) (σ.1 2 4) (aRw p4.toNatClampNeg) (aRr p4.toNatClampNeg) (σ.1 1) (σ.1 3) aTo aPo (σ.1 4) aRw aRr (σ.1 5) (σ.1 6) (σ.1 7) aWs aRs (σ.1 8) (σ.1 9) (σ.1 10) (σ.1 11) (σ.1 12) p2 (rep_nn R4.1 R4.2 P4)) (cwV 1 hts gX8_keep_X8_cast rfl rfl rfl (by decide +kernel) ⟨Nat.le_of_ble_eq_true rfl, Nat.le_of_ble_eq_true rfl⟩) (wPreV hK hP (hD.weaken (fun _ _ _ _ => trivial)) (va_recv hK hP (ci := 6) (q0 := 0) rfl rfl)) rfl rfl hl.1 rfl (lv_room (Nat.le_of_ble_eq_true rfl)) dX8_keep_65 ⟨Nat.le_of_ble_eq_true rfl, Nat.le_of_ble_eq_true rfl⟩) hS (fun q _ h => hFc q h) hFc (fun u t H locs ht hvm hw hB _ _ hS => ?_)
          obtain ⟨hP, -, hD⟩ := hB
          rw [ht] at hP
          replace hD := hD.weaken (fun _ q _ h => hFc q.1 h)
          rw [hw] at hP hD
          clear hw hFc
          have hP : va_P Dg vwCl (mW m0 a y 0 p2 (σ.1 2 0) (σ.1 2 1) (σ.1 2 2) (σ.1 2 3) (σ.1 2 4) (mcW ((σ.1 4) p4.toNatClampNeg) (aRw p4.toNatClampNeg) (aRr p4.toNatClampNeg) p2) (mcR ((σ.1 4) p4.toNatClampNeg) (aRw p4.toNatClampNeg) (aRr p4.toNatClampNeg) p2) (σ.1 1) (σ.1 3) aTo aPo (σ.1 4) aRw aRr (σ.1 5) (σ.1 6) (σ.1 7) aWs aRs (σ.1 8) (σ.1 9) (σ.1 10) (σ.1 11) (σ.1 12)) H := hP
          have hD : va_D A (mW m0 a y 0 p2 (σ.1 2 0) (σ.1 2 1) (σ.1 2 2) (σ.1 2 3) (σ.1 2 4) (mcW ((σ.1 4) p4.toNatClampNeg) (aRw p4.toNatClampNeg) (aRr p4.toNatClampNeg) p2) (mcR ((σ.1 4) p4.toNatClampNeg) (aRw p4.toNatClampNeg) (aRr p4.toNatClampNeg) p2) (σ.1 1) (σ.1 3) aTo aPo (σ.1 4) aRw aRr (σ.1 5) (σ.1 6) (σ.1 7) aWs aRs (σ.1 8) (σ.1 9) (σ.1 10) (σ.1 11) (σ.1 12)) := hD
          refine lv_aload_n hx hb dX8_keep_68 rfl (lv_at hl 1 rfl) ?_
          refine va_get (D := Dg) (ci := 6) (v := .ref (a 10)) (C := RX8) (T := TX8) (N := 26) hx hb hts in_X8_keep hown hK hP 0 rfl rfl 17 (by decide) (hts (.fieldLink RX8 43 "OrreryWorksModel" "wholes" "[J") (by decide +kernel)) (fun _ h9 => h9) rfl dX8_keep_69 ?_
          refine lv_bipush (v := 16) hx hb dX8_keep_72 (by decide) ?_
          refine lv_iload_n hx hb dX8_keep_74 rfl (lv_at hl 2 rfl) ?_
          refine lv_imul hx hb dX8_keep_75 ?_
          refine lv_iload_n hx hb dX8_keep_76 rfl (lv_at hl 4 rfl) ?_
          refine lv_iadd hx hb dX8_keep_77 ?_
          refine lv_aload_n hx hb dX8_keep_78 rfl (lv_at hl 1 rfl) ?_
          refine va_get (D := Dg) (ci := 6) (v := .long (mcW ((σ.1 4) p4.toNatClampNeg) (aRw p4.toNatClampNeg) (aRr p4.toNatClampNeg) p2)) (C := RX8) (T := TX8) (N := 26) hx hb hts in_X8_keep hown hK hP 0 rfl rfl 3 (by decide) (hts (.fieldLink RX8 83 "OrreryWorksModel" "whole" "J") (by decide +kernel)) (fun _ h9 => h9) rfl dX8_keep_79 ?_
          refine va_last hx hb hK hP hD hS 11 10 rfl rfl hm.1 dX8_keep_82 (fun H locs hP hD hS => ?_)
          have hP : va_P Dg vwCl (mW m0 a y 0 p2 (σ.1 2 0) (σ.1 2 1) (σ.1 2 2) (σ.1 2 3) (σ.1 2 4) (mcW ((σ.1 4) p4.toNatClampNeg) (aRw p4.toNatClampNeg) (aRr p4.toNatClampNeg) p2) (mcR ((σ.1 4) p4.toNatClampNeg) (aRw p4.toNatClampNeg) (aRr p4.toNatClampNeg) p2) (σ.1 1) (σ.1 3) aTo aPo (σ.1 4) aRw aRr (σ.1 5) (σ.1 6) (σ.1 7) (vp_updL aWs ((16 * p1) + p3).toNatClampNeg (mcW ((σ.1 4) p4.toNatClampNeg) (aRw p4.toNatClampNeg) (aRr p4.toNatClampNeg) p2)) aRs (σ.1 8) (σ.1 9) (σ.1 10) (σ.1 11) (σ.1 12)) H := hP
          have hD : va_D A (mW m0 a y 0 p2 (σ.1 2 0) (σ.1 2 1) (σ.1 2 2) (σ.1 2 3) (σ.1 2 4) (mcW ((σ.1 4) p4.toNatClampNeg) (aRw p4.toNatClampNeg) (aRr p4.toNatClampNeg) p2) (mcR ((σ.1 4) p4.toNatClampNeg) (aRw p4.toNatClampNeg) (aRr p4.toNatClampNeg) p2) (σ.1 1) (σ.1 3) aTo aPo (σ.1 4) aRw aRr (σ.1 5) (σ.1 6) (σ.1 7) (vp_updL aWs ((16 * p1) + p3).toNatClampNeg (mcW ((σ.1 4) p4.toNatClampNeg) (aRw p4.toNatClampNeg) (aRr p4.toNatClampNeg) p2)) aRs (σ.1 8) (σ.1 9) (σ.1 10) (σ.1 11) (σ.1 12)) := hD
          refine lv_aload_n hx hb dX8_keep_83 rfl (lv_at hl 1 rfl) ?_
          refine va_get (D := Dg) (ci := 6) (v := .ref (a 11)) (C := RX8) (T := TX8) (N := 26) hx hb hts in_X8_keep hown hK hP 0 rfl rfl 18 (by decide) (hts (.fieldLink RX8 46 "OrreryWorksModel" "reals" "[D") (by decide +kernel)) (fun _ h9 => h9) rfl dX8_keep_84 ?_
          refine lv_bipush (v := 16) hx hb dX8_keep_87 (by decide) ?_
          refine lv_iload_n hx hb dX8_keep_89 rfl (lv_at hl 2 rfl) ?_
          refine lv_imul hx hb dX8_keep_90 ?_
          refine lv_iload_n hx hb dX8_keep_91 rfl (lv_at hl 4 rfl) ?_
          refine lv_iadd hx hb dX8_keep_92 ?_
          refine lv_aload_n hx hb dX8_keep_93 rfl (lv_at hl 1 rfl) ?_
          refine va_get (D := Dg) (ci := 6) (v := .double (mcR ((σ.1 4) p4.toNatClampNeg) (aRw p4.toNatClampNeg) (aRr p4.toNatClampNeg) p2)) (C := RX8) (T := TX8) (N := 26) hx hb hts in_X8_keep hown hK hP 0 rfl rfl 4 (by decide) (hts (.fieldLink RX8 87 "OrreryWorksModel" "real" "D") (by decide +kernel)) (fun _ h9 => h9) rfl dX8_keep_94 ?_
          refine va_dast hx hb hK hP hD hS 12 11 rfl rfl hm.1 dX8_keep_97 (fun H locs hP hD hS => ?_)
          have hP : va_P Dg vwCl (mW m0 a y 0 p2 (σ.1 2 0) (σ.1 2 1) (σ.1 2 2) (σ.1 2 3) (σ.1 2 4) (mcW ((σ.1 4) p4.toNatClampNeg) (aRw p4.toNatClampNeg) (aRr p4.toNatClampNeg) p2) (mcR ((σ.1 4) p4.toNatClampNeg) (aRw p4.toNatClampNeg) (aRr p4.toNatClampNeg) p2) (σ.1 1) (σ.1 3) aTo aPo (σ.1 4) aRw aRr (σ.1 5) (σ.1 6) (σ.1 7) (vp_updL aWs ((16 * p1) + p3).toNatClampNeg (mcW ((σ.1 4) p4.toNatClampNeg) (aRw p4.toNatClampNeg) (aRr p4.toNatClampNeg) p2)) (vf_upd aRs ((16 * p1) + p3).toNatClampNeg (mcR ((σ.1 4) p4.toNatClampNeg) (aRw p4.toNatClampNeg) (aRr p4.toNatClampNeg) p2)) (σ.1 8) (σ.1 9) (σ.1 10) (σ.1 11) (σ.1 12)) H := hP
          have hD : va_D A (mW m0 a y 0 p2 (σ.1 2 0) (σ.1 2 1) (σ.1 2 2) (σ.1 2 3) (σ.1 2 4) (mcW ((σ.1 4) p4.toNatClampNeg) (aRw p4.toNatClampNeg) (aRr p4.toNatClampNeg) p2) (mcR ((σ.1 4) p4.toNatClampNeg) (aRw p4.toNatClampNeg) (aRr p4.toNatClampNeg) p2) (σ.1 1) (σ.1 3) aTo aPo (σ.1 4) aRw aRr (σ.1 5) (σ.1 6) (σ.1 7) (vp_updL aWs ((16 * p1) + p3).toNatClampNeg (mcW ((σ.1 4) p4.toNatClampNeg) (aRw p4.toNatClampNeg) (aRr p4.toNatClampNeg) p2)) (vf_upd aRs ((16 * p1) + p3).toNatClampNeg (mcR ((σ.1 4) p4.toNatClampNeg) (aRw p4.toNatClampNeg) (aRr p4.toNatClampNeg) p2)) (σ.1 8) (σ.1 9) (σ.1 10) (σ.1 11) (σ.1 12)) := hD
          refine lv_iconst (v := 1) hx hb dX8_keep_98 (by decide) ?_
          have hw : wh_keep σ p1 p2 p3 p4 = 0 := by simp only [wh_keep, if_pos c_1, if_pos c_2, if_pos c_3]; exact c_4
          exact W.iret (v := 1) hx hb hr (fun t ht hW => ⟨⟨_, (mW m0 a y 0 p2 (σ.1 2 0) (σ.1 2 1) (σ.1 2 2) (σ.1 2 3) (σ.1 2 4) (mcW ((σ.1 4) p4.toNatClampNeg) (aRw p4.toNatClampNeg) (aRr p4.toNatClampNeg) p2) (mcR ((σ.1 4) p4.toNatClampNeg) (aRw p4.toNatClampNeg) (aRr p4.toNatClampNeg) p2) (σ.1 1) (σ.1 3) aTo aPo (σ.1 4) aRw aRr (σ.1 5) (σ.1 6) (σ.1 7) (vp_updL aWs ((16 * p1) + p3).toNatClampNeg (mcW ((σ.1 4) p4.toNatClampNeg) (aRw p4.toNatClampNeg) (aRr p4.toNatClampNeg) p2)) (vf_upd aRs ((16 * p1) + p3).toNatClampNeg (mcR ((σ.1 4) p4.toNatClampNeg) (aRw p4.toNatClampNeg) (aRr p4.toNatClampNeg) p2)) (σ.1 8) (σ.1 9) (σ.1 10) (σ.1 11) (σ.1 12)), rfl, ⟨by rw [an_keep, if_pos hw]; try rfl, p2, mcW ((σ.1 4) p4.toNatClampNeg) (aRw p4.toNatClampNeg) (aRr p4.toNatClampNeg) p2, mcR ((σ.1 4) p4.toNatClampNeg) (aRw p4.toNatClampNeg) (aRr p4.toNatClampNeg) p2, aTo, aPo, aRw, aRr, vp_updL aWs ((16 * p1) + p3).toNatClampNeg (mcW ((σ.1 4) p4.toNatClampNeg) (aRw p4.toNatClampNeg) (aRr p4.toNatClampNeg) p2), vf_upd aRs ((16 * p1) + p3).toNatClampNeg (mcR ((σ.1 4) p4.toNatClampNeg) (aRw p4.toNatClampNeg) (aRr p4.toNatClampNeg) p2), by rw [nw_keep, if_pos hw]; rfl, by rw [nw_keep, if_pos hw]; exact mC_keep hM hm.2 hj (by rw [hg.2.1]; exact S1)⟩, by rw [ht]; exact hP, va_K.moved hW.alike hK, hD⟩, hS.F ht⟩) hS.2.2 dX8_keep_99
        · refine lv_aload_n hx hb dX8_keep_50 rfl (lv_at hl 1 rfl) ?_
          refine lv_iload hx hb dX8_keep_51 (lv_at hl 0 rfl) ?_
          have hFc := wFree hD hS hA
          refine va_calli (va_runV (As := [.int (agn ((σ.1 7) p1.toNatClampNeg) ((σ.1 5) p1.toNatClampNeg) ((σ.1 6) p1.toNatClampNeg) p2 p3)]) (rest := []) ⟨hx, hb, hml, hown, hts⟩ (met_X8_refuse l Dg m0 H.size a y 0 kd (σ.1 2 0) (σ.1 2 1) (σ.1 2 2) (σ.1 2 3) (σ.1 2 4) wh re (σ.1 1) (σ.1 3) aTo aPo (σ.1 4) aRw aRr (σ.1 5) (σ.1 6) (σ.1 7) aWs aRs (σ.1 8) (σ.1 9) (σ.1 10) (σ.1 11) (σ.1 12) (agn ((σ.1 7) p1.toNatClampNeg) ((σ.1 5) p1.toNatClampNeg) ((σ.1 6) p1.toNatClampNeg) p2 p3) agn_rf) (cwV 1 hts gX8_keep_X8_refuse rfl rfl rfl (by decide +kernel) ⟨Nat.le_of_ble_eq_true rfl, Nat.le_of_ble_eq_true rfl⟩) (wPreV hK hP (hD.weaken (fun _ _ _ _ => trivial)) (va_recv hK hP (ci := 6) (q0 := 0) rfl rfl)) rfl rfl hl.1 rfl (lv_room (Nat.le_of_ble_eq_true rfl)) dX8_keep_53 ⟨Nat.le_of_ble_eq_true rfl, Nat.le_of_ble_eq_true rfl⟩) hS (fun q _ h => hFc q h) hFc (fun r u t H locs ht hvm hw hB _ _ hS => ?_)
          obtain ⟨hP, -, hD⟩ := hB
          rw [ht] at hP
          replace hD := hD.weaken (fun _ q _ h => hFc q.1 h)
          rw [hw.2] at hP hD
          rw [hw.1]
          clear hw hFc
          have hP : va_P Dg vwCl (mW m0 a y (agn ((σ.1 7) p1.toNatClampNeg) ((σ.1 5) p1.toNatClampNeg) ((σ.1 6) p1.toNatClampNeg) p2 p3) kd (σ.1 2 0) (σ.1 2 1) (σ.1 2 2) (σ.1 2 3) (σ.1 2 4) wh re (rfO (agn ((σ.1 7) p1.toNatClampNeg) ((σ.1 5) p1.toNatClampNeg) ((σ.1 6) p1.toNatClampNeg) p2 p3) (σ.1 1)) (σ.1 3) aTo aPo (σ.1 4) aRw aRr (σ.1 5) (σ.1 6) (σ.1 7) aWs aRs (σ.1 8) (σ.1 9) (σ.1 10) (σ.1 11) (σ.1 12)) H := hP
          have hD : va_D A (mW m0 a y (agn ((σ.1 7) p1.toNatClampNeg) ((σ.1 5) p1.toNatClampNeg) ((σ.1 6) p1.toNatClampNeg) p2 p3) kd (σ.1 2 0) (σ.1 2 1) (σ.1 2 2) (σ.1 2 3) (σ.1 2 4) wh re (rfO (agn ((σ.1 7) p1.toNatClampNeg) ((σ.1 5) p1.toNatClampNeg) ((σ.1 6) p1.toNatClampNeg) p2 p3) (σ.1 1)) (σ.1 3) aTo aPo (σ.1 4) aRw aRr (σ.1 5) (σ.1 6) (σ.1 7) aWs aRs (σ.1 8) (σ.1 9) (σ.1 10) (σ.1 11) (σ.1 12)) := hD
          have hw : wh_keep σ p1 p2 p3 p4 = agS σ p1 p2 p3 := by simp only [wh_keep, if_pos c_1, if_pos c_2, if_pos c_3]
          have hn : ¬ wh_keep σ p1 p2 p3 p4 = 0 := by rw [hw]; exact c_4
          exact W.iret (v := agn ((σ.1 7) p1.toNatClampNeg) ((σ.1 5) p1.toNatClampNeg) ((σ.1 6) p1.toNatClampNeg) p2 p3) hx hb hr (fun t ht hW => ⟨⟨_, (mW m0 a y (agn ((σ.1 7) p1.toNatClampNeg) ((σ.1 5) p1.toNatClampNeg) ((σ.1 6) p1.toNatClampNeg) p2 p3) kd (σ.1 2 0) (σ.1 2 1) (σ.1 2 2) (σ.1 2 3) (σ.1 2 4) wh re (rfO (agn ((σ.1 7) p1.toNatClampNeg) ((σ.1 5) p1.toNatClampNeg) ((σ.1 6) p1.toNatClampNeg) p2 p3) (σ.1 1)) (σ.1 3) aTo aPo (σ.1 4) aRw aRr (σ.1 5) (σ.1 6) (σ.1 7) aWs aRs (σ.1 8) (σ.1 9) (σ.1 10) (σ.1 11) (σ.1 12)), rfl, ⟨by rw [an_keep, if_neg hn, hw]; try rfl, kd, wh, re, aTo, aPo, aRw, aRr, aWs, aRs, by rw [nw_keep, if_neg hn, hw]; rfl, by rw [nw_keep, if_neg hn]; exact hM⟩, by rw [ht]; exact hP, va_K.moved hW.alike hK, hD⟩, hS.F ht⟩) hS.2.2 dX8_keep_56
      · replace c_3 := bI_eq c_3
        refine lv_aload_n hx hb dX8_keep_29 rfl (lv_at hl 0 rfl) ?_
        refine lv_bipush (v := (-2)) hx hb dX8_keep_30 (by decide) ?_
        have hFc := wFree hD hS hA
        refine va_calli (va_runV (As := [.int (-2)]) (rest := []) ⟨hx, hb, hml, hown, hts⟩ (met_X8_refuse l Dg m0 H.size a y 0 kd (σ.1 2 0) (σ.1 2 1) (σ.1 2 2) (σ.1 2 3) (σ.1 2 4) wh re (σ.1 1) (σ.1 3) aTo aPo (σ.1 4) aRw aRr (σ.1 5) (σ.1 6) (σ.1 7) aWs aRs (σ.1 8) (σ.1 9) (σ.1 10) (σ.1 11) (σ.1 12) (-2) (by unfold vp_in; decide)) (cwV 1 hts gX8_keep_X8_refuse rfl rfl rfl (by decide +kernel) ⟨Nat.le_of_ble_eq_true rfl, Nat.le_of_ble_eq_true rfl⟩) (wPreV hK hP (hD.weaken (fun _ _ _ _ => trivial)) (va_recv hK hP (ci := 6) (q0 := 0) rfl rfl)) rfl rfl hl.1 rfl (lv_room (Nat.le_of_ble_eq_true rfl)) dX8_keep_32 ⟨Nat.le_of_ble_eq_true rfl, Nat.le_of_ble_eq_true rfl⟩) hS (fun q _ h => hFc q h) hFc (fun r u t H locs ht hvm hw hB _ _ hS => ?_)
        obtain ⟨hP, -, hD⟩ := hB
        rw [ht] at hP
        replace hD := hD.weaken (fun _ q _ h => hFc q.1 h)
        rw [hw.2] at hP hD
        rw [hw.1]
        clear hw hFc
        have hP : va_P Dg vwCl (mW m0 a y (-2) kd (σ.1 2 0) (σ.1 2 1) (σ.1 2 2) (σ.1 2 3) (σ.1 2 4) wh re (rfO (-2) (σ.1 1)) (σ.1 3) aTo aPo (σ.1 4) aRw aRr (σ.1 5) (σ.1 6) (σ.1 7) aWs aRs (σ.1 8) (σ.1 9) (σ.1 10) (σ.1 11) (σ.1 12)) H := hP
        have hD : va_D A (mW m0 a y (-2) kd (σ.1 2 0) (σ.1 2 1) (σ.1 2 2) (σ.1 2 3) (σ.1 2 4) wh re (rfO (-2) (σ.1 1)) (σ.1 3) aTo aPo (σ.1 4) aRw aRr (σ.1 5) (σ.1 6) (σ.1 7) aWs aRs (σ.1 8) (σ.1 9) (σ.1 10) (σ.1 11) (σ.1 12)) := hD
        have hw : wh_keep σ p1 p2 p3 p4 = (-2) := by simp only [wh_keep, if_pos c_1, if_pos c_2, if_neg c_3]
        have hn : ¬ wh_keep σ p1 p2 p3 p4 = 0 := by rw [hw]; decide
        exact W.iret (v := (-2)) hx hb hr (fun t ht hW => ⟨⟨_, (mW m0 a y (-2) kd (σ.1 2 0) (σ.1 2 1) (σ.1 2 2) (σ.1 2 3) (σ.1 2 4) wh re (rfO (-2) (σ.1 1)) (σ.1 3) aTo aPo (σ.1 4) aRw aRr (σ.1 5) (σ.1 6) (σ.1 7) aWs aRs (σ.1 8) (σ.1 9) (σ.1 10) (σ.1 11) (σ.1 12)), rfl, ⟨by rw [an_keep, if_neg hn, hw]; try rfl, kd, wh, re, aTo, aPo, aRw, aRr, aWs, aRs, by rw [nw_keep, if_neg hn, hw]; rfl, by rw [nw_keep, if_neg hn]; exact hM⟩, by rw [ht]; exact hP, va_K.moved hW.alike hK, hD⟩, hS.F ht⟩) hS.2.2 dX8_keep_35

theorem in_X8_kept : ∀ w ∈ wsX80, w ∈ wsX8_kept := fun w h => List.mem_cons_of_mem _ (List.mem_append_right _ h)
set_option maxHeartbeats 8000000 in
set_option maxRecDepth 100000 in
theorem met_X8_kept (l : Launch) (Dg : va_G) (m0 z : Nat) (a : Nat → Nat) (y : Nat → ClassId) (σ : St) (kd : Int32) (wh : Int64) (re : UInt64) (aTo aPo : Nat → UInt64) (aRw : Nat → Int64) (aRr : Nat → UInt64) (aWs : Nat → Int64) (aRs : Nat → UInt64) (p1 : Int32) (p2 : Int32) (p3 : Int32) (hV : vOK σ) (hM : mC σ aTo aPo aRw aRr aWs aRs)  : Met l yX8_kept wsX8_kept ({ frames := 3, cells := 0, slots := 0, locals := 62 }) (va_Pc [.ref m0, .int p1, .int p2, .int p3] (wB Dg (mT y) (mW m0 a y (σ.1 0 0) kd (σ.1 2 0) (σ.1 2 1) (σ.1 2 2) (σ.1 2 3) (σ.1 2 4) wh re (σ.1 1) (σ.1 3) aTo aPo (σ.1 4) aRw aRr (σ.1 5) (σ.1 6) (σ.1 7) aWs aRs (σ.1 8) (σ.1 9) (σ.1 10) (σ.1 11) (σ.1 12)) z)) (va_Ql (fun (r : Int64) (u : va_W) => r = an_kept σ p1 p2 p3 ∧ MI m0 a y (nw_kept σ p1 p2 p3) u) (wE Dg (mT y) (va_A (mW m0 a y (σ.1 0 0) kd (σ.1 2 0) (σ.1 2 1) (σ.1 2 2) (σ.1 2 3) (σ.1 2 4) wh re (σ.1 1) (σ.1 3) aTo aPo (σ.1 4) aRw aRr (σ.1 5) (σ.1 6) (σ.1 7) aWs aRs (σ.1 8) (σ.1 9) (σ.1 10) (σ.1 11) (σ.1 12)) z)) (va_A (mW m0 a y (σ.1 0 0) kd (σ.1 2 0) (σ.1 2 1) (σ.1 2 2) (σ.1 2 3) (σ.1 2 4) wh re (σ.1 1) (σ.1 3) aTo aPo (σ.1 4) aRw aRr (σ.1 5) (σ.1 6) (σ.1 7) aWs aRs (σ.1 8) (σ.1 9) (σ.1 10) (σ.1 11) (σ.1 12)) z)) 0 0 (va_A (mW m0 a y (σ.1 0 0) kd (σ.1 2 0) (σ.1 2 1) (σ.1 2 2) (σ.1 2 3) (σ.1 2 4) wh re (σ.1 1) (σ.1 3) aTo aPo (σ.1 4) aRw aRr (σ.1 5) (σ.1 6) (σ.1 7) aWs aRs (σ.1 8) (σ.1 9) (σ.1 10) (σ.1 11) (σ.1 12)) z) := by
  refine Met.ofW (cc := cX8_kept) (maxL := 5) (ret := (some .long)) (by decide) rfl ?_
  intro p e s m args below meth c s₁ B hml hv
  obtain ⟨rfl, hsz, hP, hK, hD0⟩ := hv
  have hx := B.exec
  have hb := B.bytes
  have hr := B.returns
  have hts := atoms_spec (ws := wsX8_kept) B.pre
  have hown : s.vm.findClass RX8 = some m.cls := findClass_of_methodNamed B.named
  have hlocks := B.notSynchronized
  subst hsz
  have hD := hD0.self (sz := s.heap.size)
  generalize hAe : va_A (mW m0 a y (σ.1 0 0) kd (σ.1 2 0) (σ.1 2 1) (σ.1 2 2) (σ.1 2 3) (σ.1 2 4) wh re (σ.1 1) (σ.1 3) aTo aPo (σ.1 4) aRw aRr (σ.1 5) (σ.1 6) (σ.1 7) aWs aRs (σ.1 8) (σ.1 9) (σ.1 10) (σ.1 11) (σ.1 12)) s.heap.size = A at hD ⊢
  have hA : ∀ q : Nat, s.heap.size ≤ q → A q := fun q h => by rw [← hAe]; exact Or.inr h
  have hS : va_S A s.heap s.heap [] := va_S.rf
  have hP : va_P Dg vwCl (mW m0 a y (σ.1 0 0) kd (σ.1 2 0) (σ.1 2 1) (σ.1 2 2) (σ.1 2 3) (σ.1 2 4) wh re (σ.1 1) (σ.1 3) aTo aPo (σ.1 4) aRw aRr (σ.1 5) (σ.1 6) (σ.1 7) aWs aRs (σ.1 8) (σ.1 9) (σ.1 10) (σ.1 11) (σ.1 12)) s.heap := hP
  have hl := lv_entry ([.ref m0, .int p1, .int p2, .int p3]) (n := 5) (Nat.le_of_ble_eq_true rfl)
  rw [lg_entry_eq]
  generalize (lg_sl ([.ref m0, .int p1, .int p2, .int p3]) ++ List.replicate (5 - (lg_sl ([.ref m0, .int p1, .int p2, .int p3])).length) Slot.unset).toArray = ls at hl ⊢
  have hl : lv_has ls 5 [(0, .ref m0), (1, .int p1), (2, .int p2), (3, .int p3)] := hl
  refine lv_aload_n hx hb dX8_kept_0 rfl (lv_at hl 0 rfl) ?_
  refine lv_iconst (v := 0) hx hb dX8_kept_1 (by decide) ?_
  refine va_put (D := Dg) (ci := 6) (v := .int 0) (ty := .int) (C := RX8) (T := TX8) (N := 26) hx hb hts in_X8_kept tyX8 tyX8_ok nmX8 hown hK hP hD hS 0 rfl rfl 0 (by decide) (hts (.fieldLink RX8 64 "OrreryWorksModel" "refused" "I") (by decide +kernel)) (fun _ h9 => h9) rfl (by decide +kernel) rfl rfl (Nat.le_of_ble_eq_true rfl) dX8_kept_2 (fun H locs hP hD hS => ?_)
  have hP : va_P Dg vwCl (mW m0 a y 0 kd (σ.1 2 0) (σ.1 2 1) (σ.1 2 2) (σ.1 2 3) (σ.1 2 4) wh re (σ.1 1) (σ.1 3) aTo aPo (σ.1 4) aRw aRr (σ.1 5) (σ.1 6) (σ.1 7) aWs aRs (σ.1 8) (σ.1 9) (σ.1 10) (σ.1 11) (σ.1 12)) H := hP
  have hD : va_D A (mW m0 a y 0 kd (σ.1 2 0) (σ.1 2 1) (σ.1 2 2) (σ.1 2 3) (σ.1 2 4) wh re (σ.1 1) (σ.1 3) aTo aPo (σ.1 4) aRw aRr (σ.1 5) (σ.1 6) (σ.1 7) aWs aRs (σ.1 8) (σ.1 9) (σ.1 10) (σ.1 11) (σ.1 12)) := hD
  refine lv_aload_n hx hb dX8_kept_5 rfl (lv_at hl 0 rfl) ?_
  refine lv_iload_n hx hb dX8_kept_6 rfl (lv_at hl 1 rfl) ?_
  refine vp_callSi ((va_runV (As := [.int p1]) (rest := []) ⟨hx, hb, hml, hown, hts⟩ (met_X8_isStrip l Dg m0 H.size a y 0 kd (σ.1 2 0) (σ.1 2 1) (σ.1 2 2) (σ.1 2 3) (σ.1 2 4) wh re (σ.1 1) (σ.1 3) aTo aPo (σ.1 4) aRw aRr (σ.1 5) (σ.1 6) (σ.1 7) aWs aRs (σ.1 8) (σ.1 9) (σ.1 10) (σ.1 11) (σ.1 12) p1 ) (cwV 1 hts gX8_kept_X8_isStrip rfl rfl rfl (by decide +kernel) ⟨Nat.le_of_ble_eq_true rfl, Nat.le_of_ble_eq_true rfl⟩) (wPreV hK hP (hD.weaken (fun _ _ _ _ => trivial)) (va_recv hK hP (ci := 6) (q0 := 0) rfl rfl)) rfl rfl hl.1 rfl (lv_room (Nat.le_of_ble_eq_true rfl)) dX8_kept_7 ⟨Nat.le_of_ble_eq_true rfl, Nat.le_of_ble_eq_true rfl⟩).run) (fun r hw => ?_)
  rw [hw]
  refine lv_if_eq (tgt := 20) hx hb dX8_kept_10 (by decide) (fun c_1 => ?_) (fun c_1 => ?_)
  · replace c_1 := bI_eq c_1
    refine lv_bipush (v := (-2)) hx hb dX8_kept_20 (by decide) ?_
    refine lv_goto (tgt := 32) hx hb dX8_kept_22 (by decide) ?_
    refine lv_istore (lv' := [(4, .int (-2)), (0, .ref m0), (1, .int p1), (2, .int p2), (3, .int p3)]) hx hb dX8_kept_32 hl (by decide) rfl (fun ls hl => ?_)
    refine lv_iload hx hb dX8_kept_34 (lv_at hl 0 rfl) ?_
    refine lv_if_eq (tgt := 49) hx hb dX8_kept_36 (by decide) (fun h0 => absurd h0 (by decide)) (fun _ => ?_)
    refine lv_aload_n hx hb dX8_kept_39 rfl (lv_at hl 1 rfl) ?_
    refine lv_iload hx hb dX8_kept_40 (lv_at hl 0 rfl) ?_
    have hFc := wFree hD hS hA
    refine va_calli (va_runV (As := [.int (-2)]) (rest := []) ⟨hx, hb, hml, hown, hts⟩ (met_X8_refuse l Dg m0 H.size a y 0 kd (σ.1 2 0) (σ.1 2 1) (σ.1 2 2) (σ.1 2 3) (σ.1 2 4) wh re (σ.1 1) (σ.1 3) aTo aPo (σ.1 4) aRw aRr (σ.1 5) (σ.1 6) (σ.1 7) aWs aRs (σ.1 8) (σ.1 9) (σ.1 10) (σ.1 11) (σ.1 12) (-2) (by unfold vp_in; decide)) (cwV 1 hts gX8_kept_X8_refuse rfl rfl rfl (by decide +kernel) ⟨Nat.le_of_ble_eq_true rfl, Nat.le_of_ble_eq_true rfl⟩) (wPreV hK hP (hD.weaken (fun _ _ _ _ => trivial)) (va_recv hK hP (ci := 6) (q0 := 0) rfl rfl)) rfl rfl hl.1 rfl (lv_room (Nat.le_of_ble_eq_true rfl)) dX8_kept_42 ⟨Nat.le_of_ble_eq_true rfl, Nat.le_of_ble_eq_true rfl⟩) hS (fun q _ h => hFc q h) hFc (fun r u t H locs ht hvm hw hB _ _ hS => ?_)
    obtain ⟨hP, -, hD⟩ := hB
    rw [ht] at hP
    replace hD := hD.weaken (fun _ q _ h => hFc q.1 h)
    rw [hw.2] at hP hD
    rw [hw.1]
    clear hw hFc
    have hP : va_P Dg vwCl (mW m0 a y (-2) kd (σ.1 2 0) (σ.1 2 1) (σ.1 2 2) (σ.1 2 3) (σ.1 2 4) wh re (rfO (-2) (σ.1 1)) (σ.1 3) aTo aPo (σ.1 4) aRw aRr (σ.1 5) (σ.1 6) (σ.1 7) aWs aRs (σ.1 8) (σ.1 9) (σ.1 10) (σ.1 11) (σ.1 12)) H := hP
    have hD : va_D A (mW m0 a y (-2) kd (σ.1 2 0) (σ.1 2 1) (σ.1 2 2) (σ.1 2 3) (σ.1 2 4) wh re (rfO (-2) (σ.1 1)) (σ.1 3) aTo aPo (σ.1 4) aRw aRr (σ.1 5) (σ.1 6) (σ.1 7) aWs aRs (σ.1 8) (σ.1 9) (σ.1 10) (σ.1 11) (σ.1 12)) := hD
    refine lv_istore (lv' := [(4, .int (-2)), (0, .ref m0), (1, .int p1), (2, .int p2), (3, .int p3)]) hx hb dX8_kept_45 hl (by decide) rfl (fun ls hl => ?_)
    refine lv_lconst (v := 0) hx hb dX8_kept_47 (by decide) ?_
    have hw : wh_kept σ p1 p2 p3 = (-2) := by simp only [wh_kept, if_neg c_1]
    have hn : ¬ wh_kept σ p1 p2 p3 = 0 := by rw [hw]; decide
    exact W.lret (v := 0) hx hb hr (fun t ht hW => ⟨⟨_, (mW m0 a y (-2) kd (σ.1 2 0) (σ.1 2 1) (σ.1 2 2) (σ.1 2 3) (σ.1 2 4) wh re (rfO (-2) (σ.1 1)) (σ.1 3) aTo aPo (σ.1 4) aRw aRr (σ.1 5) (σ.1 6) (σ.1 7) aWs aRs (σ.1 8) (σ.1 9) (σ.1 10) (σ.1 11) (σ.1 12)), rfl, ⟨by rw [an_kept, if_neg hn]; try rfl, kd, wh, re, aTo, aPo, aRw, aRr, aWs, aRs, by rw [nw_kept, if_neg hn, hw]; rfl, by rw [nw_kept, if_neg hn]; exact hM⟩, by rw [ht]; exact hP, va_K.moved hW.alike hK, hD⟩, hS.F ht⟩) hS.2.2 dX8_kept_48
  · replace c_1 := bI_ne c_1
    refine lv_iload_n hx hb dX8_kept_13 rfl (lv_at hl 2 rfl) ?_
    refine vp_callSi ((va_runS (As := [.int p2]) (rest := []) ⟨hx, hb, hml, hown, hts⟩ (met_X8_isKind l p2) (va_cwS 1 hts gX8_kept_X8_isKind rfl rfl rfl (by decide +kernel) ⟨Nat.le_of_ble_eq_true rfl, Nat.le_of_ble_eq_true rfl⟩) ⟨fun _ _ _ _ q => q, fun U hU hW => ⟨rfl, trivial⟩⟩ rfl rfl hl.1 rfl (lv_room (Nat.le_of_ble_eq_true rfl)) dX8_kept_14 ⟨Nat.le_of_ble_eq_true rfl, Nat.le_of_ble_eq_true rfl⟩).run) (fun r hw => ?_)
    subst hw
    refine lv_if_ne (tgt := 25) hx hb dX8_kept_17 (by decide) (fun c_2 => ?_) (fun c_2 => ?_)
    · replace c_2 := bI_ne c_2
      refine lv_aload_n hx hb dX8_kept_25 rfl (lv_at hl 0 rfl) ?_
      refine lv_iload_n hx hb dX8_kept_26 rfl (lv_at hl 1 rfl) ?_
      refine lv_iload_n hx hb dX8_kept_27 rfl (lv_at hl 2 rfl) ?_
      refine lv_iload_n hx hb dX8_kept_28 rfl (lv_at hl 3 rfl) ?_
      refine vp_callSi ((va_runV (As := [.int p1, .int p2, .int p3]) (rest := []) ⟨hx, hb, hml, hown, hts⟩ (met_X8_against l Dg m0 H.size a y 0 kd (σ.1 2 0) (σ.1 2 1) (σ.1 2 2) (σ.1 2 3) (σ.1 2 4) wh re (σ.1 1) (σ.1 3) aTo aPo (σ.1 4) aRw aRr (σ.1 5) (σ.1 6) (σ.1 7) aWs aRs (σ.1 8) (σ.1 9) (σ.1 10) (σ.1 11) (σ.1 12) p1 p2 p3 (inC_in hV.1.2.2.1 c_1)) (cwV 3 hts gX8_kept_X8_against rfl rfl rfl (by decide +kernel) ⟨Nat.le_of_ble_eq_true rfl, Nat.le_of_ble_eq_true rfl⟩) (wPreV hK hP (hD.weaken (fun _ _ _ _ => trivial)) (va_recv hK hP (ci := 6) (q0 := 0) rfl rfl)) rfl rfl hl.1 rfl (lv_room (Nat.le_of_ble_eq_true rfl)) dX8_kept_29 ⟨Nat.le_of_ble_eq_true rfl, Nat.le_of_ble_eq_true rfl⟩).run) (fun r hw => ?_)
      rw [hw]
      refine lv_istore (lv' := [(4, .int (agn ((σ.1 7) p1.toNatClampNeg) ((σ.1 5) p1.toNatClampNeg) ((σ.1 6) p1.toNatClampNeg) p2 p3)), (0, .ref m0), (1, .int p1), (2, .int p2), (3, .int p3)]) hx hb dX8_kept_32 hl (by decide) rfl (fun ls hl => ?_)
      refine lv_iload hx hb dX8_kept_34 (lv_at hl 0 rfl) ?_
      refine lv_if_eq (tgt := 49) hx hb dX8_kept_36 (by decide) (fun c_3 => ?_) (fun c_3 => ?_)
      · have hg := agn_0 c_3
        have hm := mix16 (s_rng hV c_1) (i_rng hV c_1 hg.2.2)
        have hk := isK_of c_2
        have T1 := hV.2.2.2.1 _ (inC_lt hV.1.2.2.1 c_1)
        have hj := ix_lt (n := 16) (i_rng hV c_1 hg.2.2)
        have P1 := hM.2.2 _ (inC_lt hV.1.2.2.1 c_1) _ hj
        have B1 := T1.2.2 _ hj
        rw [hg.2.1] at P1 B1
        rw [← hm.2] at P1
        have B1 : okB p2 (σ.2 3 (16 * ix p1 + ix p3)) := B1
        rw [← hm.2] at B1
        refine lv_aload_n hx hb dX8_kept_49 rfl (lv_at hl 1 rfl) ?_
        refine lv_iload_n hx hb dX8_kept_50 rfl (lv_at hl 3 rfl) ?_
        refine lv_aload_n hx hb dX8_kept_51 rfl (lv_at hl 1 rfl) ?_
        refine va_get (D := Dg) (ci := 6) (v := .ref (a 10)) (C := RX8) (T := TX8) (N := 26) hx hb hts in_X8_kept hown hK hP 0 rfl rfl 17 (by decide) (hts (.fieldLink RX8 43 "OrreryWorksModel" "wholes" "[J") (by decide +kernel)) (fun _ h9 => h9) rfl dX8_kept_52 ?_
        refine lv_bipush (v := 16) hx hb dX8_kept_55 (by decide) ?_
        refine lv_iload_n hx hb dX8_kept_57 rfl (lv_at hl 2 rfl) ?_
        refine lv_imul hx hb dX8_kept_58 ?_
        refine lv_iload_n hx hb dX8_kept_59 rfl (lv_at hl 4 rfl) ?_
        refine lv_iadd hx hb dX8_kept_60 ?_
        refine va_lald hx hb hK hP 11 10 rfl rfl hm.1 dX8_kept_61 ?_
        refine lv_aload_n hx hb dX8_kept_62 rfl (lv_at hl 1 rfl) ?_
        refine va_get (D := Dg) (ci := 6) (v := .ref (a 11)) (C := RX8) (T := TX8) (N := 26) hx hb hts in_X8_kept hown hK hP 0 rfl rfl 18 (by decide) (hts (.fieldLink RX8 46 "OrreryWorksModel" "reals" "[D") (by decide +kernel)) (fun _ h9 => h9) rfl dX8_kept_63 ?_
        refine lv_bipush (v := 16) hx hb dX8_kept_66 (by decide) ?_
        refine lv_iload_n hx hb dX8_kept_68 rfl (lv_at hl 2 rfl) ?_
        refine lv_imul hx hb dX8_kept_69 ?_
        refine lv_iload_n hx hb dX8_kept_70 rfl (lv_at hl 4 rfl) ?_
        refine lv_iadd hx hb dX8_kept_71 ?_
        refine va_dald hx hb hK hP 12 11 rfl rfl hm.1 dX8_kept_72 ?_
        have hFc := wFree hD hS hA
        refine va_callv (va_runV (As := [.int p2, .long (aWs ((16 * p1) + p3).toNatClampNeg), .double (aRs ((16 * p1) + p3).toNatClampNeg)]) (rest := []) ⟨hx, hb, hml, hown, hts⟩ (met_X8_hold l Dg m0 H.size a y 0 kd (σ.1 2 0) (σ.1 2 1) (σ.1 2 2) (σ.1 2 3) (σ.1 2 4) wh re (σ.1 1) (σ.1 3) aTo aPo (σ.1 4) aRw aRr (σ.1 5) (σ.1 6) (σ.1 7) aWs aRs (σ.1 8) (σ.1 9) (σ.1 10) (σ.1 11) (σ.1 12) p2 (aWs ((16 * p1) + p3).toNatClampNeg) (aRs ((16 * p1) + p3).toNatClampNeg) ) (cwV 3 hts gX8_kept_X8_hold rfl rfl rfl (by decide +kernel) ⟨Nat.le_of_ble_eq_true rfl, Nat.le_of_ble_eq_true rfl⟩) (wPreV hK hP (hD.weaken (fun _ _ _ _ => trivial)) (va_recv hK hP (ci := 6) (q0 := 0) rfl rfl)) rfl rfl hl.1 rfl (lv_room (Nat.le_of_ble_eq_true rfl)) dX8_kept_73 ⟨Nat.le_of_ble_eq_true rfl, Nat.le_of_ble_eq_true rfl⟩) hS (fun q _ h => hFc q h) hFc (fun u t H locs ht hvm hw hB _ _ hS => ?_)
        obtain ⟨hP, -, hD⟩ := hB
        rw [ht] at hP
        replace hD := hD.weaken (fun _ q _ h => hFc q.1 h)
        rw [hw] at hP hD
        clear hw hFc
        have hP : va_P Dg vwCl (mW m0 a y 0 p2 (σ.1 2 0) (σ.1 2 1) (σ.1 2 2) (σ.1 2 3) (σ.1 2 4) (aWs ((16 * p1) + p3).toNatClampNeg) (aRs ((16 * p1) + p3).toNatClampNeg) (σ.1 1) (σ.1 3) aTo aPo (σ.1 4) aRw aRr (σ.1 5) (σ.1 6) (σ.1 7) aWs aRs (σ.1 8) (σ.1 9) (σ.1 10) (σ.1 11) (σ.1 12)) H := hP
        have hD : va_D A (mW m0 a y 0 p2 (σ.1 2 0) (σ.1 2 1) (σ.1 2 2) (σ.1 2 3) (σ.1 2 4) (aWs ((16 * p1) + p3).toNatClampNeg) (aRs ((16 * p1) + p3).toNatClampNeg) (σ.1 1) (σ.1 3) aTo aPo (σ.1 4) aRw aRr (σ.1 5) (σ.1 6) (σ.1 7) aWs aRs (σ.1 8) (σ.1 9) (σ.1 10) (σ.1 11) (σ.1 12)) := hD
        refine lv_aload_n hx hb dX8_kept_76 rfl (lv_at hl 1 rfl) ?_
        refine vp_callSl ((va_runV (As := []) (rest := []) ⟨hx, hb, hml, hown, hts⟩ (met_X8_bits l Dg m0 H.size a y 0 p2 (σ.1 2 0) (σ.1 2 1) (σ.1 2 2) (σ.1 2 3) (σ.1 2 4) (aWs ((16 * p1) + p3).toNatClampNeg) (aRs ((16 * p1) + p3).toNatClampNeg) (σ.1 1) (σ.1 3) aTo aPo (σ.1 4) aRw aRr (σ.1 5) (σ.1 6) (σ.1 7) aWs aRs (σ.1 8) (σ.1 9) (σ.1 10) (σ.1 11) (σ.1 12)  (rep_nn hk B1 P1)) (cwV 0 hts gX8_kept_X8_bits rfl rfl rfl (by decide +kernel) ⟨Nat.le_of_ble_eq_true rfl, Nat.le_of_ble_eq_true rfl⟩) (wPreV hK hP (hD.weaken (fun _ _ _ _ => trivial)) (va_recv hK hP (ci := 6) (q0 := 0) rfl rfl)) rfl rfl hl.1 rfl (lv_room (Nat.le_of_ble_eq_true rfl)) dX8_kept_77 ⟨Nat.le_of_ble_eq_true rfl, Nat.le_of_ble_eq_true rfl⟩).run) (fun r hw => ?_)
        rw [hw]
        have hw : wh_kept σ p1 p2 p3 = 0 := by simp only [wh_kept, if_pos c_1, if_pos c_2]; exact c_3
        exact W.lret (v := mbt p2 (aWs ((16 * p1) + p3).toNatClampNeg) (aRs ((16 * p1) + p3).toNatClampNeg)) hx hb hr (fun t ht hW => ⟨⟨_, (mW m0 a y 0 p2 (σ.1 2 0) (σ.1 2 1) (σ.1 2 2) (σ.1 2 3) (σ.1 2 4) (aWs ((16 * p1) + p3).toNatClampNeg) (aRs ((16 * p1) + p3).toNatClampNeg) (σ.1 1) (σ.1 3) aTo aPo (σ.1 4) aRw aRr (σ.1 5) (σ.1 6) (σ.1 7) aWs aRs (σ.1 8) (σ.1 9) (σ.1 10) (σ.1 11) (σ.1 12)), rfl, ⟨by rw [an_kept, if_pos hw]; rw [← hm.2]; exact rep_bits hk B1 P1, p2, aWs ((16 * p1) + p3).toNatClampNeg, aRs ((16 * p1) + p3).toNatClampNeg, aTo, aPo, aRw, aRr, aWs, aRs, by rw [nw_kept, if_pos hw]; rfl, by rw [nw_kept, if_pos hw]; exact hM⟩, by rw [ht]; exact hP, va_K.moved hW.alike hK, hD⟩, hS.F ht⟩) hS.2.2 dX8_kept_80
      · refine lv_aload_n hx hb dX8_kept_39 rfl (lv_at hl 1 rfl) ?_
        refine lv_iload hx hb dX8_kept_40 (lv_at hl 0 rfl) ?_
        have hFc := wFree hD hS hA
        refine va_calli (va_runV (As := [.int (agn ((σ.1 7) p1.toNatClampNeg) ((σ.1 5) p1.toNatClampNeg) ((σ.1 6) p1.toNatClampNeg) p2 p3)]) (rest := []) ⟨hx, hb, hml, hown, hts⟩ (met_X8_refuse l Dg m0 H.size a y 0 kd (σ.1 2 0) (σ.1 2 1) (σ.1 2 2) (σ.1 2 3) (σ.1 2 4) wh re (σ.1 1) (σ.1 3) aTo aPo (σ.1 4) aRw aRr (σ.1 5) (σ.1 6) (σ.1 7) aWs aRs (σ.1 8) (σ.1 9) (σ.1 10) (σ.1 11) (σ.1 12) (agn ((σ.1 7) p1.toNatClampNeg) ((σ.1 5) p1.toNatClampNeg) ((σ.1 6) p1.toNatClampNeg) p2 p3) agn_rf) (cwV 1 hts gX8_kept_X8_refuse rfl rfl rfl (by decide +kernel) ⟨Nat.le_of_ble_eq_true rfl, Nat.le_of_ble_eq_true rfl⟩) (wPreV hK hP (hD.weaken (fun _ _ _ _ => trivial)) (va_recv hK hP (ci := 6) (q0 := 0) rfl rfl)) rfl rfl hl.1 rfl (lv_room (Nat.le_of_ble_eq_true rfl)) dX8_kept_42 ⟨Nat.le_of_ble_eq_true rfl, Nat.le_of_ble_eq_true rfl⟩) hS (fun q _ h => hFc q h) hFc (fun r u t H locs ht hvm hw hB _ _ hS => ?_)
        obtain ⟨hP, -, hD⟩ := hB
        rw [ht] at hP
        replace hD := hD.weaken (fun _ q _ h => hFc q.1 h)
        rw [hw.2] at hP hD
        rw [hw.1]
        clear hw hFc
        have hP : va_P Dg vwCl (mW m0 a y (agn ((σ.1 7) p1.toNatClampNeg) ((σ.1 5) p1.toNatClampNeg) ((σ.1 6) p1.toNatClampNeg) p2 p3) kd (σ.1 2 0) (σ.1 2 1) (σ.1 2 2) (σ.1 2 3) (σ.1 2 4) wh re (rfO (agn ((σ.1 7) p1.toNatClampNeg) ((σ.1 5) p1.toNatClampNeg) ((σ.1 6) p1.toNatClampNeg) p2 p3) (σ.1 1)) (σ.1 3) aTo aPo (σ.1 4) aRw aRr (σ.1 5) (σ.1 6) (σ.1 7) aWs aRs (σ.1 8) (σ.1 9) (σ.1 10) (σ.1 11) (σ.1 12)) H := hP
        have hD : va_D A (mW m0 a y (agn ((σ.1 7) p1.toNatClampNeg) ((σ.1 5) p1.toNatClampNeg) ((σ.1 6) p1.toNatClampNeg) p2 p3) kd (σ.1 2 0) (σ.1 2 1) (σ.1 2 2) (σ.1 2 3) (σ.1 2 4) wh re (rfO (agn ((σ.1 7) p1.toNatClampNeg) ((σ.1 5) p1.toNatClampNeg) ((σ.1 6) p1.toNatClampNeg) p2 p3) (σ.1 1)) (σ.1 3) aTo aPo (σ.1 4) aRw aRr (σ.1 5) (σ.1 6) (σ.1 7) aWs aRs (σ.1 8) (σ.1 9) (σ.1 10) (σ.1 11) (σ.1 12)) := hD
        refine lv_istore (lv' := [(4, .int (agn ((σ.1 7) p1.toNatClampNeg) ((σ.1 5) p1.toNatClampNeg) ((σ.1 6) p1.toNatClampNeg) p2 p3)), (0, .ref m0), (1, .int p1), (2, .int p2), (3, .int p3)]) hx hb dX8_kept_45 hl (by decide) rfl (fun ls hl => ?_)
        refine lv_lconst (v := 0) hx hb dX8_kept_47 (by decide) ?_
        have hw : wh_kept σ p1 p2 p3 = agS σ p1 p2 p3 := by simp only [wh_kept, if_pos c_1, if_pos c_2]
        have hn : ¬ wh_kept σ p1 p2 p3 = 0 := by rw [hw]; exact c_3
        exact W.lret (v := 0) hx hb hr (fun t ht hW => ⟨⟨_, (mW m0 a y (agn ((σ.1 7) p1.toNatClampNeg) ((σ.1 5) p1.toNatClampNeg) ((σ.1 6) p1.toNatClampNeg) p2 p3) kd (σ.1 2 0) (σ.1 2 1) (σ.1 2 2) (σ.1 2 3) (σ.1 2 4) wh re (rfO (agn ((σ.1 7) p1.toNatClampNeg) ((σ.1 5) p1.toNatClampNeg) ((σ.1 6) p1.toNatClampNeg) p2 p3) (σ.1 1)) (σ.1 3) aTo aPo (σ.1 4) aRw aRr (σ.1 5) (σ.1 6) (σ.1 7) aWs aRs (σ.1 8) (σ.1 9) (σ.1 10) (σ.1 11) (σ.1 12)), rfl, ⟨by rw [an_kept, if_neg hn]; try rfl, kd, wh, re, aTo, aPo, aRw, aRr, aWs, aRs, by rw [nw_kept, if_neg hn, hw]; rfl, by rw [nw_kept, if_neg hn]; exact hM⟩, by rw [ht]; exact hP, va_K.moved hW.alike hK, hD⟩, hS.F ht⟩) hS.2.2 dX8_kept_48
    · replace c_2 := bI_eq c_2
      refine lv_bipush (v := (-2)) hx hb dX8_kept_20 (by decide) ?_
      refine lv_goto (tgt := 32) hx hb dX8_kept_22 (by decide) ?_
      refine lv_istore (lv' := [(4, .int (-2)), (0, .ref m0), (1, .int p1), (2, .int p2), (3, .int p3)]) hx hb dX8_kept_32 hl (by decide) rfl (fun ls hl => ?_)
      refine lv_iload hx hb dX8_kept_34 (lv_at hl 0 rfl) ?_
      refine lv_if_eq (tgt := 49) hx hb dX8_kept_36 (by decide) (fun h0 => absurd h0 (by decide)) (fun _ => ?_)
      refine lv_aload_n hx hb dX8_kept_39 rfl (lv_at hl 1 rfl) ?_
      refine lv_iload hx hb dX8_kept_40 (lv_at hl 0 rfl) ?_
      have hFc := wFree hD hS hA
      refine va_calli (va_runV (As := [.int (-2)]) (rest := []) ⟨hx, hb, hml, hown, hts⟩ (met_X8_refuse l Dg m0 H.size a y 0 kd (σ.1 2 0) (σ.1 2 1) (σ.1 2 2) (σ.1 2 3) (σ.1 2 4) wh re (σ.1 1) (σ.1 3) aTo aPo (σ.1 4) aRw aRr (σ.1 5) (σ.1 6) (σ.1 7) aWs aRs (σ.1 8) (σ.1 9) (σ.1 10) (σ.1 11) (σ.1 12) (-2) (by unfold vp_in; decide)) (cwV 1 hts gX8_kept_X8_refuse rfl rfl rfl (by decide +kernel) ⟨Nat.le_of_ble_eq_true rfl, Nat.le_of_ble_eq_true rfl⟩) (wPreV hK hP (hD.weaken (fun _ _ _ _ => trivial)) (va_recv hK hP (ci := 6) (q0 := 0) rfl rfl)) rfl rfl hl.1 rfl (lv_room (Nat.le_of_ble_eq_true rfl)) dX8_kept_42 ⟨Nat.le_of_ble_eq_true rfl, Nat.le_of_ble_eq_true rfl⟩) hS (fun q _ h => hFc q h) hFc (fun r u t H locs ht hvm hw hB _ _ hS => ?_)
      obtain ⟨hP, -, hD⟩ := hB
      rw [ht] at hP
      replace hD := hD.weaken (fun _ q _ h => hFc q.1 h)
      rw [hw.2] at hP hD
      rw [hw.1]
      clear hw hFc
      have hP : va_P Dg vwCl (mW m0 a y (-2) kd (σ.1 2 0) (σ.1 2 1) (σ.1 2 2) (σ.1 2 3) (σ.1 2 4) wh re (rfO (-2) (σ.1 1)) (σ.1 3) aTo aPo (σ.1 4) aRw aRr (σ.1 5) (σ.1 6) (σ.1 7) aWs aRs (σ.1 8) (σ.1 9) (σ.1 10) (σ.1 11) (σ.1 12)) H := hP
      have hD : va_D A (mW m0 a y (-2) kd (σ.1 2 0) (σ.1 2 1) (σ.1 2 2) (σ.1 2 3) (σ.1 2 4) wh re (rfO (-2) (σ.1 1)) (σ.1 3) aTo aPo (σ.1 4) aRw aRr (σ.1 5) (σ.1 6) (σ.1 7) aWs aRs (σ.1 8) (σ.1 9) (σ.1 10) (σ.1 11) (σ.1 12)) := hD
      refine lv_istore (lv' := [(4, .int (-2)), (0, .ref m0), (1, .int p1), (2, .int p2), (3, .int p3)]) hx hb dX8_kept_45 hl (by decide) rfl (fun ls hl => ?_)
      refine lv_lconst (v := 0) hx hb dX8_kept_47 (by decide) ?_
      have hw : wh_kept σ p1 p2 p3 = (-2) := by simp only [wh_kept, if_pos c_1, if_neg c_2]
      have hn : ¬ wh_kept σ p1 p2 p3 = 0 := by rw [hw]; decide
      exact W.lret (v := 0) hx hb hr (fun t ht hW => ⟨⟨_, (mW m0 a y (-2) kd (σ.1 2 0) (σ.1 2 1) (σ.1 2 2) (σ.1 2 3) (σ.1 2 4) wh re (rfO (-2) (σ.1 1)) (σ.1 3) aTo aPo (σ.1 4) aRw aRr (σ.1 5) (σ.1 6) (σ.1 7) aWs aRs (σ.1 8) (σ.1 9) (σ.1 10) (σ.1 11) (σ.1 12)), rfl, ⟨by rw [an_kept, if_neg hn]; try rfl, kd, wh, re, aTo, aPo, aRw, aRr, aWs, aRs, by rw [nw_kept, if_neg hn, hw]; rfl, by rw [nw_kept, if_neg hn]; exact hM⟩, by rw [ht]; exact hP, va_K.moved hW.alike hK, hD⟩, hS.F ht⟩) hS.2.2 dX8_kept_48

theorem in_X8_pointer : ∀ w ∈ wsX80, w ∈ wsX8_pointer := fun w h => List.mem_cons_of_mem _ (List.mem_append_right _ h)
set_option maxHeartbeats 8000000 in
set_option maxRecDepth 100000 in
theorem met_X8_pointer (l : Launch) (Dg : va_G) (m0 z : Nat) (a : Nat → Nat) (y : Nat → ClassId) (σ : St) (kd : Int32) (wh : Int64) (re : UInt64) (aTo aPo : Nat → UInt64) (aRw : Nat → Int64) (aRr : Nat → UInt64) (aWs : Nat → Int64) (aRs : Nat → UInt64) (p1 : Int32) (p2 : Int32) (hV : vOK σ) (hM : mC σ aTo aPo aRw aRr aWs aRs)  : Met l yX8_pointer wsX8_pointer ({ frames := 2, cells := 0, slots := 0, locals := 43 }) (va_Pc [.ref m0, .int p1, .int p2] (wB Dg (mT y) (mW m0 a y (σ.1 0 0) kd (σ.1 2 0) (σ.1 2 1) (σ.1 2 2) (σ.1 2 3) (σ.1 2 4) wh re (σ.1 1) (σ.1 3) aTo aPo (σ.1 4) aRw aRr (σ.1 5) (σ.1 6) (σ.1 7) aWs aRs (σ.1 8) (σ.1 9) (σ.1 10) (σ.1 11) (σ.1 12)) z)) (va_Qi (fun (r : Int32) (u : va_W) => r = an_pointer σ p1 p2 ∧ MI m0 a y (nw_pointer σ p1 p2) u) (wE Dg (mT y) (va_A (mW m0 a y (σ.1 0 0) kd (σ.1 2 0) (σ.1 2 1) (σ.1 2 2) (σ.1 2 3) (σ.1 2 4) wh re (σ.1 1) (σ.1 3) aTo aPo (σ.1 4) aRw aRr (σ.1 5) (σ.1 6) (σ.1 7) aWs aRs (σ.1 8) (σ.1 9) (σ.1 10) (σ.1 11) (σ.1 12)) z)) (va_A (mW m0 a y (σ.1 0 0) kd (σ.1 2 0) (σ.1 2 1) (σ.1 2 2) (σ.1 2 3) (σ.1 2 4) wh re (σ.1 1) (σ.1 3) aTo aPo (σ.1 4) aRw aRr (σ.1 5) (σ.1 6) (σ.1 7) aWs aRs (σ.1 8) (σ.1 9) (σ.1 10) (σ.1 11) (σ.1 12)) z)) 0 0 (va_A (mW m0 a y (σ.1 0 0) kd (σ.1 2 0) (σ.1 2 1) (σ.1 2 2) (σ.1 2 3) (σ.1 2 4) wh re (σ.1 1) (σ.1 3) aTo aPo (σ.1 4) aRw aRr (σ.1 5) (σ.1 6) (σ.1 7) aWs aRs (σ.1 8) (σ.1 9) (σ.1 10) (σ.1 11) (σ.1 12)) z) := by
  refine Met.ofW (cc := cX8_pointer) (maxL := 3) (ret := (some .int)) (by decide) rfl ?_
  intro p e s m args below meth c s₁ B hml hv
  obtain ⟨rfl, hsz, hP, hK, hD0⟩ := hv
  have hx := B.exec
  have hb := B.bytes
  have hr := B.returns
  have hts := atoms_spec (ws := wsX8_pointer) B.pre
  have hown : s.vm.findClass RX8 = some m.cls := findClass_of_methodNamed B.named
  have hlocks := B.notSynchronized
  subst hsz
  have hD := hD0.self (sz := s.heap.size)
  generalize hAe : va_A (mW m0 a y (σ.1 0 0) kd (σ.1 2 0) (σ.1 2 1) (σ.1 2 2) (σ.1 2 3) (σ.1 2 4) wh re (σ.1 1) (σ.1 3) aTo aPo (σ.1 4) aRw aRr (σ.1 5) (σ.1 6) (σ.1 7) aWs aRs (σ.1 8) (σ.1 9) (σ.1 10) (σ.1 11) (σ.1 12)) s.heap.size = A at hD ⊢
  have hA : ∀ q : Nat, s.heap.size ≤ q → A q := fun q h => by rw [← hAe]; exact Or.inr h
  have hS : va_S A s.heap s.heap [] := va_S.rf
  have hP : va_P Dg vwCl (mW m0 a y (σ.1 0 0) kd (σ.1 2 0) (σ.1 2 1) (σ.1 2 2) (σ.1 2 3) (σ.1 2 4) wh re (σ.1 1) (σ.1 3) aTo aPo (σ.1 4) aRw aRr (σ.1 5) (σ.1 6) (σ.1 7) aWs aRs (σ.1 8) (σ.1 9) (σ.1 10) (σ.1 11) (σ.1 12)) s.heap := hP
  have hl := lv_entry ([.ref m0, .int p1, .int p2]) (n := 3) (Nat.le_of_ble_eq_true rfl)
  rw [lg_entry_eq]
  generalize (lg_sl ([.ref m0, .int p1, .int p2]) ++ List.replicate (3 - (lg_sl ([.ref m0, .int p1, .int p2])).length) Slot.unset).toArray = ls at hl ⊢
  have hl : lv_has ls 3 [(0, .ref m0), (1, .int p1), (2, .int p2)] := hl
  refine lv_aload_n hx hb dX8_pointer_0 rfl (lv_at hl 0 rfl) ?_
  refine lv_iconst (v := 0) hx hb dX8_pointer_1 (by decide) ?_
  refine va_put (D := Dg) (ci := 6) (v := .int 0) (ty := .int) (C := RX8) (T := TX8) (N := 26) hx hb hts in_X8_pointer tyX8 tyX8_ok nmX8 hown hK hP hD hS 0 rfl rfl 0 (by decide) (hts (.fieldLink RX8 64 "OrreryWorksModel" "refused" "I") (by decide +kernel)) (fun _ h9 => h9) rfl (by decide +kernel) rfl rfl (Nat.le_of_ble_eq_true rfl) dX8_pointer_2 (fun H locs hP hD hS => ?_)
  have hP : va_P Dg vwCl (mW m0 a y 0 kd (σ.1 2 0) (σ.1 2 1) (σ.1 2 2) (σ.1 2 3) (σ.1 2 4) wh re (σ.1 1) (σ.1 3) aTo aPo (σ.1 4) aRw aRr (σ.1 5) (σ.1 6) (σ.1 7) aWs aRs (σ.1 8) (σ.1 9) (σ.1 10) (σ.1 11) (σ.1 12)) H := hP
  have hD : va_D A (mW m0 a y 0 kd (σ.1 2 0) (σ.1 2 1) (σ.1 2 2) (σ.1 2 3) (σ.1 2 4) wh re (σ.1 1) (σ.1 3) aTo aPo (σ.1 4) aRw aRr (σ.1 5) (σ.1 6) (σ.1 7) aWs aRs (σ.1 8) (σ.1 9) (σ.1 10) (σ.1 11) (σ.1 12)) := hD
  refine lv_iload_n hx hb dX8_pointer_5 rfl (lv_at hl 1 rfl) ?_
  refine lv_iconst (v := 0) hx hb dX8_pointer_6 (by decide) ?_
  refine lv_iconst (v := 3) hx hb dX8_pointer_7 (by decide) ?_
  refine vp_callSi ((va_runS (As := [.int p1, .int 0, .int 3]) (rest := []) ⟨hx, hb, hml, hown, hts⟩ (met_X8_isIn l p1 0 3) (va_cwS 3 hts gX8_pointer_X8_isIn rfl rfl rfl (by decide +kernel) ⟨Nat.le_of_ble_eq_true rfl, Nat.le_of_ble_eq_true rfl⟩) ⟨fun _ _ _ _ q => q, fun U hU hW => ⟨rfl, trivial⟩⟩ rfl rfl hl.1 rfl (lv_room (Nat.le_of_ble_eq_true rfl)) dX8_pointer_8 ⟨Nat.le_of_ble_eq_true rfl, Nat.le_of_ble_eq_true rfl⟩).run) (fun r hw => ?_)
  subst hw
  refine lv_if_eq (tgt := 22) hx hb dX8_pointer_11 (by decide) (fun c_1 => ?_) (fun c_1 => ?_)
  · replace c_1 := bI_eq c_1
    refine lv_aload_n hx hb dX8_pointer_22 rfl (lv_at hl 0 rfl) ?_
    refine lv_bipush (v := (-2)) hx hb dX8_pointer_23 (by decide) ?_
    have hFc := wFree hD hS hA
    refine va_calli (va_runV (As := [.int (-2)]) (rest := []) ⟨hx, hb, hml, hown, hts⟩ (met_X8_refuse l Dg m0 H.size a y 0 kd (σ.1 2 0) (σ.1 2 1) (σ.1 2 2) (σ.1 2 3) (σ.1 2 4) wh re (σ.1 1) (σ.1 3) aTo aPo (σ.1 4) aRw aRr (σ.1 5) (σ.1 6) (σ.1 7) aWs aRs (σ.1 8) (σ.1 9) (σ.1 10) (σ.1 11) (σ.1 12) (-2) (by unfold vp_in; decide)) (cwV 1 hts gX8_pointer_X8_refuse rfl rfl rfl (by decide +kernel) ⟨Nat.le_of_ble_eq_true rfl, Nat.le_of_ble_eq_true rfl⟩) (wPreV hK hP (hD.weaken (fun _ _ _ _ => trivial)) (va_recv hK hP (ci := 6) (q0 := 0) rfl rfl)) rfl rfl hl.1 rfl (lv_room (Nat.le_of_ble_eq_true rfl)) dX8_pointer_25 ⟨Nat.le_of_ble_eq_true rfl, Nat.le_of_ble_eq_true rfl⟩) hS (fun q _ h => hFc q h) hFc (fun r u t H locs ht hvm hw hB _ _ hS => ?_)
    obtain ⟨hP, -, hD⟩ := hB
    rw [ht] at hP
    replace hD := hD.weaken (fun _ q _ h => hFc q.1 h)
    rw [hw.2] at hP hD
    rw [hw.1]
    clear hw hFc
    have hP : va_P Dg vwCl (mW m0 a y (-2) kd (σ.1 2 0) (σ.1 2 1) (σ.1 2 2) (σ.1 2 3) (σ.1 2 4) wh re (rfO (-2) (σ.1 1)) (σ.1 3) aTo aPo (σ.1 4) aRw aRr (σ.1 5) (σ.1 6) (σ.1 7) aWs aRs (σ.1 8) (σ.1 9) (σ.1 10) (σ.1 11) (σ.1 12)) H := hP
    have hD : va_D A (mW m0 a y (-2) kd (σ.1 2 0) (σ.1 2 1) (σ.1 2 2) (σ.1 2 3) (σ.1 2 4) wh re (rfO (-2) (σ.1 1)) (σ.1 3) aTo aPo (σ.1 4) aRw aRr (σ.1 5) (σ.1 6) (σ.1 7) aWs aRs (σ.1 8) (σ.1 9) (σ.1 10) (σ.1 11) (σ.1 12)) := hD
    have hw : wh_pointer σ p1 p2 = (-2) := by simp only [wh_pointer, if_neg c_1]
    have hn : ¬ wh_pointer σ p1 p2 = 0 := by rw [hw]; decide
    exact W.iret (v := (-2)) hx hb hr (fun t ht hW => ⟨⟨_, (mW m0 a y (-2) kd (σ.1 2 0) (σ.1 2 1) (σ.1 2 2) (σ.1 2 3) (σ.1 2 4) wh re (rfO (-2) (σ.1 1)) (σ.1 3) aTo aPo (σ.1 4) aRw aRr (σ.1 5) (σ.1 6) (σ.1 7) aWs aRs (σ.1 8) (σ.1 9) (σ.1 10) (σ.1 11) (σ.1 12)), rfl, ⟨by rw [an_pointer, if_neg hn, hw]; try rfl, kd, wh, re, aTo, aPo, aRw, aRr, aWs, aRs, by rw [nw_pointer, if_neg hn, hw]; rfl, by rw [nw_pointer, if_neg hn]; exact hM⟩, by rw [ht]; exact hP, va_K.moved hW.alike hK, hD⟩, hS.F ht⟩) hS.2.2 dX8_pointer_28
  · replace c_1 := bI_ne c_1
    refine lv_aload_n hx hb dX8_pointer_14 rfl (lv_at hl 0 rfl) ?_
    refine lv_iload_n hx hb dX8_pointer_15 rfl (lv_at hl 2 rfl) ?_
    refine vp_callSi ((va_runV (As := [.int p2]) (rest := []) ⟨hx, hb, hml, hown, hts⟩ (met_X8_isWheel l Dg m0 H.size a y 0 kd (σ.1 2 0) (σ.1 2 1) (σ.1 2 2) (σ.1 2 3) (σ.1 2 4) wh re (σ.1 1) (σ.1 3) aTo aPo (σ.1 4) aRw aRr (σ.1 5) (σ.1 6) (σ.1 7) aWs aRs (σ.1 8) (σ.1 9) (σ.1 10) (σ.1 11) (σ.1 12) p2 ) (cwV 1 hts gX8_pointer_X8_isWheel rfl rfl rfl (by decide +kernel) ⟨Nat.le_of_ble_eq_true rfl, Nat.le_of_ble_eq_true rfl⟩) (wPreV hK hP (hD.weaken (fun _ _ _ _ => trivial)) (va_recv hK hP (ci := 6) (q0 := 0) rfl rfl)) rfl rfl hl.1 rfl (lv_room (Nat.le_of_ble_eq_true rfl)) dX8_pointer_16 ⟨Nat.le_of_ble_eq_true rfl, Nat.le_of_ble_eq_true rfl⟩).run) (fun r hw => ?_)
    rw [hw]
    refine lv_if_ne (tgt := 29) hx hb dX8_pointer_19 (by decide) (fun c_2 => ?_) (fun c_2 => ?_)
    · replace c_2 := bI_ne c_2
      refine lv_aload_n hx hb dX8_pointer_29 rfl (lv_at hl 0 rfl) ?_
      refine va_get (D := Dg) (ci := 6) (v := .int (σ.1 2 3)) (C := RX8) (T := TX8) (N := 26) hx hb hts in_X8_pointer hown hK hP 0 rfl rfl 19 (by decide) (hts (.fieldLink RX8 192 "OrreryWorksModel" "pointers" "I") (by decide +kernel)) (fun _ h9 => h9) rfl dX8_pointer_30 ?_
      refine lv_bipush (v := 12) hx hb dX8_pointer_33 (by decide) ?_
      refine lv_icmp_ne (tgt := 45) hx hb dX8_pointer_35 (by decide) (fun c_3 => ?_) (fun c_3 => ?_)
      · refine lv_aload_n hx hb dX8_pointer_45 rfl (lv_at hl 0 rfl) ?_
        refine va_get (D := Dg) (ci := 6) (v := .ref (a 12)) (C := RX8) (T := TX8) (N := 26) hx hb hts in_X8_pointer hown hK hP 0 rfl rfl 20 (by decide) (hts (.fieldLink RX8 49 "OrreryWorksModel" "sort" "[I") (by decide +kernel)) (fun _ h9 => h9) rfl dX8_pointer_46 ?_
        refine lv_aload_n hx hb dX8_pointer_49 rfl (lv_at hl 0 rfl) ?_
        refine va_get (D := Dg) (ci := 6) (v := .int (σ.1 2 3)) (C := RX8) (T := TX8) (N := 26) hx hb hts in_X8_pointer hown hK hP 0 rfl rfl 19 (by decide) (hts (.fieldLink RX8 192 "OrreryWorksModel" "pointers" "I") (by decide +kernel)) (fun _ h9 => h9) rfl dX8_pointer_50 ?_
        refine lv_iload_n hx hb dX8_pointer_53 rfl (lv_at hl 1 rfl) ?_
        refine va_iast hx hb hK hP hD hS 13 12 rfl rfl (top_in hV.1.2.2.2.1 (m := 12) rfl c_3) dX8_pointer_54 (fun H locs hP hD hS => ?_)
        have hP : va_P Dg vwCl (mW m0 a y 0 kd (σ.1 2 0) (σ.1 2 1) (σ.1 2 2) (σ.1 2 3) (σ.1 2 4) wh re (σ.1 1) (σ.1 3) aTo aPo (σ.1 4) aRw aRr (σ.1 5) (σ.1 6) (σ.1 7) aWs aRs (upd (σ.1 8) (σ.1 2 3).toNatClampNeg p1) (σ.1 9) (σ.1 10) (σ.1 11) (σ.1 12)) H := hP
        have hD : va_D A (mW m0 a y 0 kd (σ.1 2 0) (σ.1 2 1) (σ.1 2 2) (σ.1 2 3) (σ.1 2 4) wh re (σ.1 1) (σ.1 3) aTo aPo (σ.1 4) aRw aRr (σ.1 5) (σ.1 6) (σ.1 7) aWs aRs (upd (σ.1 8) (σ.1 2 3).toNatClampNeg p1) (σ.1 9) (σ.1 10) (σ.1 11) (σ.1 12)) := hD
        refine lv_aload_n hx hb dX8_pointer_55 rfl (lv_at hl 0 rfl) ?_
        refine va_get (D := Dg) (ci := 6) (v := .ref (a 13)) (C := RX8) (T := TX8) (N := 26) hx hb hts in_X8_pointer hown hK hP 0 rfl rfl 21 (by decide) (hts (.fieldLink RX8 52 "OrreryWorksModel" "wheelAt" "[I") (by decide +kernel)) (fun _ h9 => h9) rfl dX8_pointer_56 ?_
        refine lv_aload_n hx hb dX8_pointer_59 rfl (lv_at hl 0 rfl) ?_
        refine va_get (D := Dg) (ci := 6) (v := .int (σ.1 2 3)) (C := RX8) (T := TX8) (N := 26) hx hb hts in_X8_pointer hown hK hP 0 rfl rfl 19 (by decide) (hts (.fieldLink RX8 192 "OrreryWorksModel" "pointers" "I") (by decide +kernel)) (fun _ h9 => h9) rfl dX8_pointer_60 ?_
        refine lv_iload_n hx hb dX8_pointer_63 rfl (lv_at hl 2 rfl) ?_
        refine va_iast hx hb hK hP hD hS 14 13 rfl rfl (top_in hV.1.2.2.2.1 (m := 12) rfl c_3) dX8_pointer_64 (fun H locs hP hD hS => ?_)
        have hP : va_P Dg vwCl (mW m0 a y 0 kd (σ.1 2 0) (σ.1 2 1) (σ.1 2 2) (σ.1 2 3) (σ.1 2 4) wh re (σ.1 1) (σ.1 3) aTo aPo (σ.1 4) aRw aRr (σ.1 5) (σ.1 6) (σ.1 7) aWs aRs (upd (σ.1 8) (σ.1 2 3).toNatClampNeg p1) (upd (σ.1 9) (σ.1 2 3).toNatClampNeg p2) (σ.1 10) (σ.1 11) (σ.1 12)) H := hP
        have hD : va_D A (mW m0 a y 0 kd (σ.1 2 0) (σ.1 2 1) (σ.1 2 2) (σ.1 2 3) (σ.1 2 4) wh re (σ.1 1) (σ.1 3) aTo aPo (σ.1 4) aRw aRr (σ.1 5) (σ.1 6) (σ.1 7) aWs aRs (upd (σ.1 8) (σ.1 2 3).toNatClampNeg p1) (upd (σ.1 9) (σ.1 2 3).toNatClampNeg p2) (σ.1 10) (σ.1 11) (σ.1 12)) := hD
        refine lv_aload_n hx hb dX8_pointer_65 rfl (lv_at hl 0 rfl) ?_
        refine lv_dup hx hb dX8_pointer_66 rfl ?_
        refine va_get (D := Dg) (ci := 6) (v := .int (σ.1 2 3)) (C := RX8) (T := TX8) (N := 26) hx hb hts in_X8_pointer hown hK hP 0 rfl rfl 19 (by decide) (hts (.fieldLink RX8 192 "OrreryWorksModel" "pointers" "I") (by decide +kernel)) (fun _ h9 => h9) rfl dX8_pointer_67 ?_
        refine lv_iconst (v := 1) hx hb dX8_pointer_70 (by decide) ?_
        refine lv_iadd hx hb dX8_pointer_71 ?_
        refine va_put (D := Dg) (ci := 6) (v := .int ((σ.1 2 3) + 1)) (ty := .int) (C := RX8) (T := TX8) (N := 26) hx hb hts in_X8_pointer tyX8 tyX8_ok nmX8 hown hK hP hD hS 0 rfl rfl 19 (by decide) (hts (.fieldLink RX8 192 "OrreryWorksModel" "pointers" "I") (by decide +kernel)) (fun _ h9 => h9) rfl (by decide +kernel) rfl rfl (Nat.le_of_ble_eq_true rfl) dX8_pointer_72 (fun H locs hP hD hS => ?_)
        have hP : va_P Dg vwCl (mW m0 a y 0 kd (σ.1 2 0) (σ.1 2 1) (σ.1 2 2) ((σ.1 2 3) + 1) (σ.1 2 4) wh re (σ.1 1) (σ.1 3) aTo aPo (σ.1 4) aRw aRr (σ.1 5) (σ.1 6) (σ.1 7) aWs aRs (upd (σ.1 8) (σ.1 2 3).toNatClampNeg p1) (upd (σ.1 9) (σ.1 2 3).toNatClampNeg p2) (σ.1 10) (σ.1 11) (σ.1 12)) H := hP
        have hD : va_D A (mW m0 a y 0 kd (σ.1 2 0) (σ.1 2 1) (σ.1 2 2) ((σ.1 2 3) + 1) (σ.1 2 4) wh re (σ.1 1) (σ.1 3) aTo aPo (σ.1 4) aRw aRr (σ.1 5) (σ.1 6) (σ.1 7) aWs aRs (upd (σ.1 8) (σ.1 2 3).toNatClampNeg p1) (upd (σ.1 9) (σ.1 2 3).toNatClampNeg p2) (σ.1 10) (σ.1 11) (σ.1 12)) := hD
        refine lv_aload_n hx hb dX8_pointer_75 rfl (lv_at hl 0 rfl) ?_
        refine va_get (D := Dg) (ci := 6) (v := .int ((σ.1 2 3) + 1)) (C := RX8) (T := TX8) (N := 26) hx hb hts in_X8_pointer hown hK hP 0 rfl rfl 19 (by decide) (hts (.fieldLink RX8 192 "OrreryWorksModel" "pointers" "I") (by decide +kernel)) (fun _ h9 => h9) rfl dX8_pointer_76 ?_
        refine lv_iconst (v := 1) hx hb dX8_pointer_79 (by decide) ?_
        refine lv_isub hx hb dX8_pointer_80 ?_
        have hw : wh_pointer σ p1 p2 = 0 := by simp only [wh_pointer, if_pos c_1, if_pos c_2, if_neg c_3]
        exact W.iret (v := ((σ.1 2 3) + 1) - 1) hx hb hr (fun t ht hW => ⟨⟨_, (mW m0 a y 0 kd (σ.1 2 0) (σ.1 2 1) (σ.1 2 2) ((σ.1 2 3) + 1) (σ.1 2 4) wh re (σ.1 1) (σ.1 3) aTo aPo (σ.1 4) aRw aRr (σ.1 5) (σ.1 6) (σ.1 7) aWs aRs (upd (σ.1 8) (σ.1 2 3).toNatClampNeg p1) (upd (σ.1 9) (σ.1 2 3).toNatClampNeg p2) (σ.1 10) (σ.1 11) (σ.1 12)), rfl, ⟨by rw [an_pointer, if_pos hw]; exact inc_dec, kd, wh, re, aTo, aPo, aRw, aRr, aWs, aRs, by rw [nw_pointer, if_pos hw]; rfl, by rw [nw_pointer, if_pos hw]; exact hM⟩, by rw [ht]; exact hP, va_K.moved hW.alike hK, hD⟩, hS.F ht⟩) hS.2.2 dX8_pointer_81
      · refine lv_aload_n hx hb dX8_pointer_38 rfl (lv_at hl 0 rfl) ?_
        refine lv_bipush (v := (-3)) hx hb dX8_pointer_39 (by decide) ?_
        have hFc := wFree hD hS hA
        refine va_calli (va_runV (As := [.int (-3)]) (rest := []) ⟨hx, hb, hml, hown, hts⟩ (met_X8_refuse l Dg m0 H.size a y 0 kd (σ.1 2 0) (σ.1 2 1) (σ.1 2 2) (σ.1 2 3) (σ.1 2 4) wh re (σ.1 1) (σ.1 3) aTo aPo (σ.1 4) aRw aRr (σ.1 5) (σ.1 6) (σ.1 7) aWs aRs (σ.1 8) (σ.1 9) (σ.1 10) (σ.1 11) (σ.1 12) (-3) (by unfold vp_in; decide)) (cwV 1 hts gX8_pointer_X8_refuse rfl rfl rfl (by decide +kernel) ⟨Nat.le_of_ble_eq_true rfl, Nat.le_of_ble_eq_true rfl⟩) (wPreV hK hP (hD.weaken (fun _ _ _ _ => trivial)) (va_recv hK hP (ci := 6) (q0 := 0) rfl rfl)) rfl rfl hl.1 rfl (lv_room (Nat.le_of_ble_eq_true rfl)) dX8_pointer_41 ⟨Nat.le_of_ble_eq_true rfl, Nat.le_of_ble_eq_true rfl⟩) hS (fun q _ h => hFc q h) hFc (fun r u t H locs ht hvm hw hB _ _ hS => ?_)
        obtain ⟨hP, -, hD⟩ := hB
        rw [ht] at hP
        replace hD := hD.weaken (fun _ q _ h => hFc q.1 h)
        rw [hw.2] at hP hD
        rw [hw.1]
        clear hw hFc
        have hP : va_P Dg vwCl (mW m0 a y (-3) kd (σ.1 2 0) (σ.1 2 1) (σ.1 2 2) (σ.1 2 3) (σ.1 2 4) wh re (rfO (-3) (σ.1 1)) (σ.1 3) aTo aPo (σ.1 4) aRw aRr (σ.1 5) (σ.1 6) (σ.1 7) aWs aRs (σ.1 8) (σ.1 9) (σ.1 10) (σ.1 11) (σ.1 12)) H := hP
        have hD : va_D A (mW m0 a y (-3) kd (σ.1 2 0) (σ.1 2 1) (σ.1 2 2) (σ.1 2 3) (σ.1 2 4) wh re (rfO (-3) (σ.1 1)) (σ.1 3) aTo aPo (σ.1 4) aRw aRr (σ.1 5) (σ.1 6) (σ.1 7) aWs aRs (σ.1 8) (σ.1 9) (σ.1 10) (σ.1 11) (σ.1 12)) := hD
        have hw : wh_pointer σ p1 p2 = (-3) := by simp only [wh_pointer, if_pos c_1, if_pos c_2, if_pos c_3]
        have hn : ¬ wh_pointer σ p1 p2 = 0 := by rw [hw]; decide
        exact W.iret (v := (-3)) hx hb hr (fun t ht hW => ⟨⟨_, (mW m0 a y (-3) kd (σ.1 2 0) (σ.1 2 1) (σ.1 2 2) (σ.1 2 3) (σ.1 2 4) wh re (rfO (-3) (σ.1 1)) (σ.1 3) aTo aPo (σ.1 4) aRw aRr (σ.1 5) (σ.1 6) (σ.1 7) aWs aRs (σ.1 8) (σ.1 9) (σ.1 10) (σ.1 11) (σ.1 12)), rfl, ⟨by rw [an_pointer, if_neg hn, hw]; try rfl, kd, wh, re, aTo, aPo, aRw, aRr, aWs, aRs, by rw [nw_pointer, if_neg hn, hw]; rfl, by rw [nw_pointer, if_neg hn]; exact hM⟩, by rw [ht]; exact hP, va_K.moved hW.alike hK, hD⟩, hS.F ht⟩) hS.2.2 dX8_pointer_44
    · replace c_2 := bI_eq c_2
      refine lv_aload_n hx hb dX8_pointer_22 rfl (lv_at hl 0 rfl) ?_
      refine lv_bipush (v := (-2)) hx hb dX8_pointer_23 (by decide) ?_
      have hFc := wFree hD hS hA
      refine va_calli (va_runV (As := [.int (-2)]) (rest := []) ⟨hx, hb, hml, hown, hts⟩ (met_X8_refuse l Dg m0 H.size a y 0 kd (σ.1 2 0) (σ.1 2 1) (σ.1 2 2) (σ.1 2 3) (σ.1 2 4) wh re (σ.1 1) (σ.1 3) aTo aPo (σ.1 4) aRw aRr (σ.1 5) (σ.1 6) (σ.1 7) aWs aRs (σ.1 8) (σ.1 9) (σ.1 10) (σ.1 11) (σ.1 12) (-2) (by unfold vp_in; decide)) (cwV 1 hts gX8_pointer_X8_refuse rfl rfl rfl (by decide +kernel) ⟨Nat.le_of_ble_eq_true rfl, Nat.le_of_ble_eq_true rfl⟩) (wPreV hK hP (hD.weaken (fun _ _ _ _ => trivial)) (va_recv hK hP (ci := 6) (q0 := 0) rfl rfl)) rfl rfl hl.1 rfl (lv_room (Nat.le_of_ble_eq_true rfl)) dX8_pointer_25 ⟨Nat.le_of_ble_eq_true rfl, Nat.le_of_ble_eq_true rfl⟩) hS (fun q _ h => hFc q h) hFc (fun r u t H locs ht hvm hw hB _ _ hS => ?_)
      obtain ⟨hP, -, hD⟩ := hB
      rw [ht] at hP
      replace hD := hD.weaken (fun _ q _ h => hFc q.1 h)
      rw [hw.2] at hP hD
      rw [hw.1]
      clear hw hFc
      have hP : va_P Dg vwCl (mW m0 a y (-2) kd (σ.1 2 0) (σ.1 2 1) (σ.1 2 2) (σ.1 2 3) (σ.1 2 4) wh re (rfO (-2) (σ.1 1)) (σ.1 3) aTo aPo (σ.1 4) aRw aRr (σ.1 5) (σ.1 6) (σ.1 7) aWs aRs (σ.1 8) (σ.1 9) (σ.1 10) (σ.1 11) (σ.1 12)) H := hP
      have hD : va_D A (mW m0 a y (-2) kd (σ.1 2 0) (σ.1 2 1) (σ.1 2 2) (σ.1 2 3) (σ.1 2 4) wh re (rfO (-2) (σ.1 1)) (σ.1 3) aTo aPo (σ.1 4) aRw aRr (σ.1 5) (σ.1 6) (σ.1 7) aWs aRs (σ.1 8) (σ.1 9) (σ.1 10) (σ.1 11) (σ.1 12)) := hD
      have hw : wh_pointer σ p1 p2 = (-2) := by simp only [wh_pointer, if_pos c_1, if_neg c_2]
      have hn : ¬ wh_pointer σ p1 p2 = 0 := by rw [hw]; decide
      exact W.iret (v := (-2)) hx hb hr (fun t ht hW => ⟨⟨_, (mW m0 a y (-2) kd (σ.1 2 0) (σ.1 2 1) (σ.1 2 2) (σ.1 2 3) (σ.1 2 4) wh re (rfO (-2) (σ.1 1)) (σ.1 3) aTo aPo (σ.1 4) aRw aRr (σ.1 5) (σ.1 6) (σ.1 7) aWs aRs (σ.1 8) (σ.1 9) (σ.1 10) (σ.1 11) (σ.1 12)), rfl, ⟨by rw [an_pointer, if_neg hn, hw]; try rfl, kd, wh, re, aTo, aPo, aRw, aRr, aWs, aRs, by rw [nw_pointer, if_neg hn, hw]; rfl, by rw [nw_pointer, if_neg hn]; exact hM⟩, by rw [ht]; exact hP, va_K.moved hW.alike hK, hD⟩, hS.F ht⟩) hS.2.2 dX8_pointer_28

theorem in_X8_count : ∀ w ∈ wsX80, w ∈ wsX8_count := fun w h => List.mem_cons_of_mem _ (List.mem_append_right _ h)
set_option maxHeartbeats 8000000 in
set_option maxRecDepth 100000 in
theorem met_X8_count (l : Launch) (Dg : va_G) (m0 z : Nat) (a : Nat → Nat) (y : Nat → ClassId) (σ : St) (kd : Int32) (wh : Int64) (re : UInt64) (aTo aPo : Nat → UInt64) (aRw : Nat → Int64) (aRr : Nat → UInt64) (aWs : Nat → Int64) (aRs : Nat → UInt64) (p1 : Int32) (hV : vOK σ) (hM : mC σ aTo aPo aRw aRr aWs aRs)  : Met l yX8_count wsX8_count ({ frames := 0, cells := 0, slots := 0, locals := 0 }) (va_Pc [.ref m0, .int p1] (wB Dg (mT y) (mW m0 a y (σ.1 0 0) kd (σ.1 2 0) (σ.1 2 1) (σ.1 2 2) (σ.1 2 3) (σ.1 2 4) wh re (σ.1 1) (σ.1 3) aTo aPo (σ.1 4) aRw aRr (σ.1 5) (σ.1 6) (σ.1 7) aWs aRs (σ.1 8) (σ.1 9) (σ.1 10) (σ.1 11) (σ.1 12)) z)) (va_Qi (fun (r : Int32) (u : va_W) => r = an_count σ p1 ∧ MI m0 a y σ u) (wE Dg (mT y) (va_A (mW m0 a y (σ.1 0 0) kd (σ.1 2 0) (σ.1 2 1) (σ.1 2 2) (σ.1 2 3) (σ.1 2 4) wh re (σ.1 1) (σ.1 3) aTo aPo (σ.1 4) aRw aRr (σ.1 5) (σ.1 6) (σ.1 7) aWs aRs (σ.1 8) (σ.1 9) (σ.1 10) (σ.1 11) (σ.1 12)) z)) (va_A (mW m0 a y (σ.1 0 0) kd (σ.1 2 0) (σ.1 2 1) (σ.1 2 2) (σ.1 2 3) (σ.1 2 4) wh re (σ.1 1) (σ.1 3) aTo aPo (σ.1 4) aRw aRr (σ.1 5) (σ.1 6) (σ.1 7) aWs aRs (σ.1 8) (σ.1 9) (σ.1 10) (σ.1 11) (σ.1 12)) z)) 0 0 (va_A (mW m0 a y (σ.1 0 0) kd (σ.1 2 0) (σ.1 2 1) (σ.1 2 2) (σ.1 2 3) (σ.1 2 4) wh re (σ.1 1) (σ.1 3) aTo aPo (σ.1 4) aRw aRr (σ.1 5) (σ.1 6) (σ.1 7) aWs aRs (σ.1 8) (σ.1 9) (σ.1 10) (σ.1 11) (σ.1 12)) z) := by
  refine Met.ofW (cc := cX8_count) (maxL := 2) (ret := (some .int)) (by decide) rfl ?_
  intro p e s m args below meth c s₁ B hml hv
  obtain ⟨rfl, hsz, hP, hK, hD0⟩ := hv
  have hx := B.exec
  have hb := B.bytes
  have hr := B.returns
  have hts := atoms_spec (ws := wsX8_count) B.pre
  have hown : s.vm.findClass RX8 = some m.cls := findClass_of_methodNamed B.named
  have hlocks := B.notSynchronized
  subst hsz
  have hD := hD0.self (sz := s.heap.size)
  generalize hAe : va_A (mW m0 a y (σ.1 0 0) kd (σ.1 2 0) (σ.1 2 1) (σ.1 2 2) (σ.1 2 3) (σ.1 2 4) wh re (σ.1 1) (σ.1 3) aTo aPo (σ.1 4) aRw aRr (σ.1 5) (σ.1 6) (σ.1 7) aWs aRs (σ.1 8) (σ.1 9) (σ.1 10) (σ.1 11) (σ.1 12)) s.heap.size = A at hD ⊢
  have hA : ∀ q : Nat, s.heap.size ≤ q → A q := fun q h => by rw [← hAe]; exact Or.inr h
  have hS : va_S A s.heap s.heap [] := va_S.rf
  have hP : va_P Dg vwCl (mW m0 a y (σ.1 0 0) kd (σ.1 2 0) (σ.1 2 1) (σ.1 2 2) (σ.1 2 3) (σ.1 2 4) wh re (σ.1 1) (σ.1 3) aTo aPo (σ.1 4) aRw aRr (σ.1 5) (σ.1 6) (σ.1 7) aWs aRs (σ.1 8) (σ.1 9) (σ.1 10) (σ.1 11) (σ.1 12)) s.heap := hP
  have hl := lv_entry ([.ref m0, .int p1]) (n := 2) (Nat.le_of_ble_eq_true rfl)
  rw [lg_entry_eq]
  generalize (lg_sl ([.ref m0, .int p1]) ++ List.replicate (2 - (lg_sl ([.ref m0, .int p1])).length) Slot.unset).toArray = ls at hl ⊢
  have hl : lv_has ls 2 [(0, .ref m0), (1, .int p1)] := hl
  refine lv_iload_n hx hb dX8_count_0 rfl (lv_at hl 1 rfl) ?_
  rcases Decidable.em (p1 = 0) with c_1 | c_1
  · refine lv_tableIn (x := p1) (off := 35) (tgt := 36) hx hb dX8_count_1 (by rw [c_1]; decide) (by rw [c_1]; decide) (by rw [c_1]; rfl) (by decide) ?_
    refine lv_aload_n hx hb dX8_count_36 rfl (lv_at hl 0 rfl) ?_
    refine va_get (D := Dg) (ci := 6) (v := .int (σ.1 2 0)) (C := RX8) (T := TX8) (N := 26) hx hb hts in_X8_count hown hK hP 0 rfl rfl 5 (by decide) (hts (.fieldLink RX8 113 "OrreryWorksModel" "wheels" "I") (by decide +kernel)) (fun _ h9 => h9) rfl dX8_count_37 ?_
    exact W.iret (v := (σ.1 2 0)) hx hb hr (fun t ht hW => ⟨⟨_, (mW m0 a y (σ.1 0 0) kd (σ.1 2 0) (σ.1 2 1) (σ.1 2 2) (σ.1 2 3) (σ.1 2 4) wh re (σ.1 1) (σ.1 3) aTo aPo (σ.1 4) aRw aRr (σ.1 5) (σ.1 6) (σ.1 7) aWs aRs (σ.1 8) (σ.1 9) (σ.1 10) (σ.1 11) (σ.1 12)), rfl, ⟨by simp only [an_count, if_pos c_1], kd, wh, re, aTo, aPo, aRw, aRr, aWs, aRs, rfl, hM⟩, by rw [ht]; exact hP, va_K.moved hW.alike hK, hD⟩, hS.F ht⟩) hS.2.2 dX8_count_40
  rcases Decidable.em (p1 = 1) with c_2 | c_2
  · refine lv_tableIn (x := p1) (off := 40) (tgt := 41) hx hb dX8_count_1 (by rw [c_2]; decide) (by rw [c_2]; decide) (by rw [c_2]; rfl) (by decide) ?_
    refine lv_aload_n hx hb dX8_count_41 rfl (lv_at hl 0 rfl) ?_
    refine va_get (D := Dg) (ci := 6) (v := .int (σ.1 2 1)) (C := RX8) (T := TX8) (N := 26) hx hb hts in_X8_count hown hK hP 0 rfl rfl 9 (by decide) (hts (.fieldLink RX8 144 "OrreryWorksModel" "registers" "I") (by decide +kernel)) (fun _ h9 => h9) rfl dX8_count_42 ?_
    exact W.iret (v := (σ.1 2 1)) hx hb hr (fun t ht hW => ⟨⟨_, (mW m0 a y (σ.1 0 0) kd (σ.1 2 0) (σ.1 2 1) (σ.1 2 2) (σ.1 2 3) (σ.1 2 4) wh re (σ.1 1) (σ.1 3) aTo aPo (σ.1 4) aRw aRr (σ.1 5) (σ.1 6) (σ.1 7) aWs aRs (σ.1 8) (σ.1 9) (σ.1 10) (σ.1 11) (σ.1 12)), rfl, ⟨by simp only [an_count, if_neg c_1, if_pos c_2], kd, wh, re, aTo, aPo, aRw, aRr, aWs, aRs, rfl, hM⟩, by rw [ht]; exact hP, va_K.moved hW.alike hK, hD⟩, hS.F ht⟩) hS.2.2 dX8_count_45
  rcases Decidable.em (p1 = 2) with c_3 | c_3
  · refine lv_tableIn (x := p1) (off := 45) (tgt := 46) hx hb dX8_count_1 (by rw [c_3]; decide) (by rw [c_3]; decide) (by rw [c_3]; rfl) (by decide) ?_
    refine lv_aload_n hx hb dX8_count_46 rfl (lv_at hl 0 rfl) ?_
    refine va_get (D := Dg) (ci := 6) (v := .int (σ.1 2 2)) (C := RX8) (T := TX8) (N := 26) hx hb hts in_X8_count hown hK hP 0 rfl rfl 13 (by decide) (hts (.fieldLink RX8 182 "OrreryWorksModel" "strips" "I") (by decide +kernel)) (fun _ h9 => h9) rfl dX8_count_47 ?_
    exact W.iret (v := (σ.1 2 2)) hx hb hr (fun t ht hW => ⟨⟨_, (mW m0 a y (σ.1 0 0) kd (σ.1 2 0) (σ.1 2 1) (σ.1 2 2) (σ.1 2 3) (σ.1 2 4) wh re (σ.1 1) (σ.1 3) aTo aPo (σ.1 4) aRw aRr (σ.1 5) (σ.1 6) (σ.1 7) aWs aRs (σ.1 8) (σ.1 9) (σ.1 10) (σ.1 11) (σ.1 12)), rfl, ⟨by simp only [an_count, if_neg c_1, if_neg c_2, if_pos c_3], kd, wh, re, aTo, aPo, aRw, aRr, aWs, aRs, rfl, hM⟩, by rw [ht]; exact hP, va_K.moved hW.alike hK, hD⟩, hS.F ht⟩) hS.2.2 dX8_count_50
  rcases Decidable.em (p1 = 3) with c_4 | c_4
  · refine lv_tableIn (x := p1) (off := 50) (tgt := 51) hx hb dX8_count_1 (by rw [c_4]; decide) (by rw [c_4]; decide) (by rw [c_4]; rfl) (by decide) ?_
    refine lv_aload_n hx hb dX8_count_51 rfl (lv_at hl 0 rfl) ?_
    refine va_get (D := Dg) (ci := 6) (v := .int (σ.1 2 3)) (C := RX8) (T := TX8) (N := 26) hx hb hts in_X8_count hown hK hP 0 rfl rfl 19 (by decide) (hts (.fieldLink RX8 192 "OrreryWorksModel" "pointers" "I") (by decide +kernel)) (fun _ h9 => h9) rfl dX8_count_52 ?_
    exact W.iret (v := (σ.1 2 3)) hx hb hr (fun t ht hW => ⟨⟨_, (mW m0 a y (σ.1 0 0) kd (σ.1 2 0) (σ.1 2 1) (σ.1 2 2) (σ.1 2 3) (σ.1 2 4) wh re (σ.1 1) (σ.1 3) aTo aPo (σ.1 4) aRw aRr (σ.1 5) (σ.1 6) (σ.1 7) aWs aRs (σ.1 8) (σ.1 9) (σ.1 10) (σ.1 11) (σ.1 12)), rfl, ⟨by simp only [an_count, if_neg c_1, if_neg c_2, if_neg c_3, if_pos c_4], kd, wh, re, aTo, aPo, aRw, aRr, aWs, aRs, rfl, hM⟩, by rw [ht]; exact hP, va_K.moved hW.alike hK, hD⟩, hS.F ht⟩) hS.2.2 dX8_count_55
  rcases Decidable.em (p1 = 4) with c_5 | c_5
  · refine lv_tableIn (x := p1) (off := 55) (tgt := 56) hx hb dX8_count_1 (by rw [c_5]; decide) (by rw [c_5]; decide) (by rw [c_5]; rfl) (by decide) ?_
    refine lv_aload_n hx hb dX8_count_56 rfl (lv_at hl 0 rfl) ?_
    refine va_get (D := Dg) (ci := 6) (v := .int (σ.1 2 4)) (C := RX8) (T := TX8) (N := 26) hx hb hts in_X8_count hown hK hP 0 rfl rfl 22 (by decide) (hts (.fieldLink RX8 195 "OrreryWorksModel" "stands" "I") (by decide +kernel)) (fun _ h9 => h9) rfl dX8_count_57 ?_
    exact W.iret (v := (σ.1 2 4)) hx hb hr (fun t ht hW => ⟨⟨_, (mW m0 a y (σ.1 0 0) kd (σ.1 2 0) (σ.1 2 1) (σ.1 2 2) (σ.1 2 3) (σ.1 2 4) wh re (σ.1 1) (σ.1 3) aTo aPo (σ.1 4) aRw aRr (σ.1 5) (σ.1 6) (σ.1 7) aWs aRs (σ.1 8) (σ.1 9) (σ.1 10) (σ.1 11) (σ.1 12)), rfl, ⟨by simp only [an_count, if_neg c_1, if_neg c_2, if_neg c_3, if_neg c_4, if_pos c_5], kd, wh, re, aTo, aPo, aRw, aRr, aWs, aRs, rfl, hM⟩, by rw [ht]; exact hP, va_K.moved hW.alike hK, hD⟩, hS.F ht⟩) hS.2.2 dX8_count_60
  refine lv_tableOut (tgt := 61) hx hb dX8_count_1 (sw_out4 c_1 c_2 c_3 c_4 c_5) (by decide) ?_
  refine lv_bipush (v := (-2)) hx hb dX8_count_61 (by decide) ?_
  exact W.iret (v := (-2)) hx hb hr (fun t ht hW => ⟨⟨_, (mW m0 a y (σ.1 0 0) kd (σ.1 2 0) (σ.1 2 1) (σ.1 2 2) (σ.1 2 3) (σ.1 2 4) wh re (σ.1 1) (σ.1 3) aTo aPo (σ.1 4) aRw aRr (σ.1 5) (σ.1 6) (σ.1 7) aWs aRs (σ.1 8) (σ.1 9) (σ.1 10) (σ.1 11) (σ.1 12)), rfl, ⟨by simp only [an_count, if_neg c_1, if_neg c_2, if_neg c_3, if_neg c_4, if_neg c_5], kd, wh, re, aTo, aPo, aRw, aRr, aWs, aRs, rfl, hM⟩, by rw [ht]; exact hP, va_K.moved hW.alike hK, hD⟩, hS.F ht⟩) hS.2.2 dX8_count_63

theorem in_X8_often : ∀ w ∈ wsX80, w ∈ wsX8_often := fun w h => List.mem_cons_of_mem _ (List.mem_append_right _ h)
set_option maxHeartbeats 8000000 in
set_option maxRecDepth 100000 in
theorem met_X8_often (l : Launch) (Dg : va_G) (m0 z : Nat) (a : Nat → Nat) (y : Nat → ClassId) (σ : St) (kd : Int32) (wh : Int64) (re : UInt64) (aTo aPo : Nat → UInt64) (aRw : Nat → Int64) (aRr : Nat → UInt64) (aWs : Nat → Int64) (aRs : Nat → UInt64) (p1 : Int32) (hV : vOK σ) (hM : mC σ aTo aPo aRw aRr aWs aRs)  : Met l yX8_often wsX8_often ({ frames := 1, cells := 0, slots := 0, locals := 22 }) (va_Pc [.ref m0, .int p1] (wB Dg (mT y) (mW m0 a y (σ.1 0 0) kd (σ.1 2 0) (σ.1 2 1) (σ.1 2 2) (σ.1 2 3) (σ.1 2 4) wh re (σ.1 1) (σ.1 3) aTo aPo (σ.1 4) aRw aRr (σ.1 5) (σ.1 6) (σ.1 7) aWs aRs (σ.1 8) (σ.1 9) (σ.1 10) (σ.1 11) (σ.1 12)) z)) (va_Qi (fun (r : Int32) (u : va_W) => r = an_often σ p1 ∧ MI m0 a y σ u) (wE Dg (mT y) (va_A (mW m0 a y (σ.1 0 0) kd (σ.1 2 0) (σ.1 2 1) (σ.1 2 2) (σ.1 2 3) (σ.1 2 4) wh re (σ.1 1) (σ.1 3) aTo aPo (σ.1 4) aRw aRr (σ.1 5) (σ.1 6) (σ.1 7) aWs aRs (σ.1 8) (σ.1 9) (σ.1 10) (σ.1 11) (σ.1 12)) z)) (va_A (mW m0 a y (σ.1 0 0) kd (σ.1 2 0) (σ.1 2 1) (σ.1 2 2) (σ.1 2 3) (σ.1 2 4) wh re (σ.1 1) (σ.1 3) aTo aPo (σ.1 4) aRw aRr (σ.1 5) (σ.1 6) (σ.1 7) aWs aRs (σ.1 8) (σ.1 9) (σ.1 10) (σ.1 11) (σ.1 12)) z)) 0 0 (va_A (mW m0 a y (σ.1 0 0) kd (σ.1 2 0) (σ.1 2 1) (σ.1 2 2) (σ.1 2 3) (σ.1 2 4) wh re (σ.1 1) (σ.1 3) aTo aPo (σ.1 4) aRw aRr (σ.1 5) (σ.1 6) (σ.1 7) aWs aRs (σ.1 8) (σ.1 9) (σ.1 10) (σ.1 11) (σ.1 12)) z) := by
  refine Met.ofW (cc := cX8_often) (maxL := 2) (ret := (some .int)) (by decide) rfl ?_
  intro p e s m args below meth c s₁ B hml hv
  obtain ⟨rfl, hsz, hP, hK, hD0⟩ := hv
  have hx := B.exec
  have hb := B.bytes
  have hr := B.returns
  have hts := atoms_spec (ws := wsX8_often) B.pre
  have hown : s.vm.findClass RX8 = some m.cls := findClass_of_methodNamed B.named
  have hlocks := B.notSynchronized
  subst hsz
  have hD := hD0.self (sz := s.heap.size)
  generalize hAe : va_A (mW m0 a y (σ.1 0 0) kd (σ.1 2 0) (σ.1 2 1) (σ.1 2 2) (σ.1 2 3) (σ.1 2 4) wh re (σ.1 1) (σ.1 3) aTo aPo (σ.1 4) aRw aRr (σ.1 5) (σ.1 6) (σ.1 7) aWs aRs (σ.1 8) (σ.1 9) (σ.1 10) (σ.1 11) (σ.1 12)) s.heap.size = A at hD ⊢
  have hA : ∀ q : Nat, s.heap.size ≤ q → A q := fun q h => by rw [← hAe]; exact Or.inr h
  have hS : va_S A s.heap s.heap [] := va_S.rf
  have hP : va_P Dg vwCl (mW m0 a y (σ.1 0 0) kd (σ.1 2 0) (σ.1 2 1) (σ.1 2 2) (σ.1 2 3) (σ.1 2 4) wh re (σ.1 1) (σ.1 3) aTo aPo (σ.1 4) aRw aRr (σ.1 5) (σ.1 6) (σ.1 7) aWs aRs (σ.1 8) (σ.1 9) (σ.1 10) (σ.1 11) (σ.1 12)) s.heap := hP
  have hl := lv_entry ([.ref m0, .int p1]) (n := 2) (Nat.le_of_ble_eq_true rfl)
  rw [lg_entry_eq]
  generalize (lg_sl ([.ref m0, .int p1]) ++ List.replicate (2 - (lg_sl ([.ref m0, .int p1])).length) Slot.unset).toArray = ls at hl ⊢
  have hl : lv_has ls 2 [(0, .ref m0), (1, .int p1)] := hl
  refine lv_iload_n hx hb dX8_often_0 rfl (lv_at hl 1 rfl) ?_
  refine lv_bipush (v := (-10)) hx hb dX8_often_1 (by decide) ?_
  refine lv_bipush (v := (-3)) hx hb dX8_often_3 (by decide) ?_
  refine vp_callSi ((va_runS (As := [.int p1, .int (-10), .int (-3)]) (rest := []) ⟨hx, hb, hml, hown, hts⟩ (met_X8_isIn l p1 (-10) (-3)) (va_cwS 3 hts gX8_often_X8_isIn rfl rfl rfl (by decide +kernel) ⟨Nat.le_of_ble_eq_true rfl, Nat.le_of_ble_eq_true rfl⟩) ⟨fun _ _ _ _ q => q, fun U hU hW => ⟨rfl, trivial⟩⟩ rfl rfl hl.1 rfl (lv_room (Nat.le_of_ble_eq_true rfl)) dX8_often_5 ⟨Nat.le_of_ble_eq_true rfl, Nat.le_of_ble_eq_true rfl⟩).run) (fun r hw => ?_)
  subst hw
  refine lv_if_eq (tgt := 23) hx hb dX8_often_8 (by decide) (fun c_1 => ?_) (fun c_1 => ?_)
  · replace c_1 := bI_eq c_1
    refine lv_iconst (v := 0) hx hb dX8_often_23 (by decide) ?_
    exact W.iret (v := 0) hx hb hr (fun t ht hW => ⟨⟨_, (mW m0 a y (σ.1 0 0) kd (σ.1 2 0) (σ.1 2 1) (σ.1 2 2) (σ.1 2 3) (σ.1 2 4) wh re (σ.1 1) (σ.1 3) aTo aPo (σ.1 4) aRw aRr (σ.1 5) (σ.1 6) (σ.1 7) aWs aRs (σ.1 8) (σ.1 9) (σ.1 10) (σ.1 11) (σ.1 12)), rfl, ⟨by simp only [an_often, if_neg c_1], kd, wh, re, aTo, aPo, aRw, aRr, aWs, aRs, rfl, hM⟩, by rw [ht]; exact hP, va_K.moved hW.alike hK, hD⟩, hS.F ht⟩) hS.2.2 dX8_often_24
  · replace c_1 := bI_ne c_1
    refine lv_aload_n hx hb dX8_often_11 rfl (lv_at hl 0 rfl) ?_
    refine va_get (D := Dg) (ci := 6) (v := .ref (a 0)) (C := RX8) (T := TX8) (N := 26) hx hb hts in_X8_often hown hK hP 0 rfl rfl 1 (by decide) (hts (.fieldLink RX8 7 "OrreryWorksModel" "often" "[I") (by decide +kernel)) (fun _ h9 => h9) rfl dX8_often_12 ?_
    refine lv_bipush (v := (-3)) hx hb dX8_often_15 (by decide) ?_
    refine lv_iload_n hx hb dX8_often_17 rfl (lv_at hl 1 rfl) ?_
    refine lv_isub hx hb dX8_often_18 ?_
    refine va_iald hx hb hK hP 1 0 rfl rfl (often_in c_1) dX8_often_19 ?_
    refine lv_goto (tgt := 24) hx hb dX8_often_20 (by decide) ?_
    exact W.iret (v := (σ.1 1) ((-3) - p1).toNatClampNeg) hx hb hr (fun t ht hW => ⟨⟨_, (mW m0 a y (σ.1 0 0) kd (σ.1 2 0) (σ.1 2 1) (σ.1 2 2) (σ.1 2 3) (σ.1 2 4) wh re (σ.1 1) (σ.1 3) aTo aPo (σ.1 4) aRw aRr (σ.1 5) (σ.1 6) (σ.1 7) aWs aRs (σ.1 8) (σ.1 9) (σ.1 10) (σ.1 11) (σ.1 12)), rfl, ⟨by simp only [an_often, if_pos c_1], kd, wh, re, aTo, aPo, aRw, aRr, aWs, aRs, rfl, hM⟩, by rw [ht]; exact hP, va_K.moved hW.alike hK, hD⟩, hS.F ht⟩) hS.2.2 dX8_often_24

theorem in_X8_refused : ∀ w ∈ wsX80, w ∈ wsX8_refused := fun w h => List.mem_cons_of_mem _ (List.mem_append_right _ h)
set_option maxHeartbeats 8000000 in
set_option maxRecDepth 100000 in
theorem met_X8_refused (l : Launch) (Dg : va_G) (m0 z : Nat) (a : Nat → Nat) (y : Nat → ClassId) (σ : St) (kd : Int32) (wh : Int64) (re : UInt64) (aTo aPo : Nat → UInt64) (aRw : Nat → Int64) (aRr : Nat → UInt64) (aWs : Nat → Int64) (aRs : Nat → UInt64)  (hV : vOK σ) (hM : mC σ aTo aPo aRw aRr aWs aRs)  : Met l yX8_refused wsX8_refused ({ frames := 0, cells := 0, slots := 0, locals := 0 }) (va_Pc [.ref m0] (wB Dg (mT y) (mW m0 a y (σ.1 0 0) kd (σ.1 2 0) (σ.1 2 1) (σ.1 2 2) (σ.1 2 3) (σ.1 2 4) wh re (σ.1 1) (σ.1 3) aTo aPo (σ.1 4) aRw aRr (σ.1 5) (σ.1 6) (σ.1 7) aWs aRs (σ.1 8) (σ.1 9) (σ.1 10) (σ.1 11) (σ.1 12)) z)) (va_Qi (fun (r : Int32) (u : va_W) => r = σ.1 0 0 ∧ MI m0 a y σ u) (wE Dg (mT y) (va_A (mW m0 a y (σ.1 0 0) kd (σ.1 2 0) (σ.1 2 1) (σ.1 2 2) (σ.1 2 3) (σ.1 2 4) wh re (σ.1 1) (σ.1 3) aTo aPo (σ.1 4) aRw aRr (σ.1 5) (σ.1 6) (σ.1 7) aWs aRs (σ.1 8) (σ.1 9) (σ.1 10) (σ.1 11) (σ.1 12)) z)) (va_A (mW m0 a y (σ.1 0 0) kd (σ.1 2 0) (σ.1 2 1) (σ.1 2 2) (σ.1 2 3) (σ.1 2 4) wh re (σ.1 1) (σ.1 3) aTo aPo (σ.1 4) aRw aRr (σ.1 5) (σ.1 6) (σ.1 7) aWs aRs (σ.1 8) (σ.1 9) (σ.1 10) (σ.1 11) (σ.1 12)) z)) 0 0 (va_A (mW m0 a y (σ.1 0 0) kd (σ.1 2 0) (σ.1 2 1) (σ.1 2 2) (σ.1 2 3) (σ.1 2 4) wh re (σ.1 1) (σ.1 3) aTo aPo (σ.1 4) aRw aRr (σ.1 5) (σ.1 6) (σ.1 7) aWs aRs (σ.1 8) (σ.1 9) (σ.1 10) (σ.1 11) (σ.1 12)) z) := by
  refine Met.ofW (cc := cX8_refused) (maxL := 1) (ret := (some .int)) (by decide) rfl ?_
  intro p e s m args below meth c s₁ B hml hv
  obtain ⟨rfl, hsz, hP, hK, hD0⟩ := hv
  have hx := B.exec
  have hb := B.bytes
  have hr := B.returns
  have hts := atoms_spec (ws := wsX8_refused) B.pre
  have hown : s.vm.findClass RX8 = some m.cls := findClass_of_methodNamed B.named
  have hlocks := B.notSynchronized
  subst hsz
  have hD := hD0.self (sz := s.heap.size)
  generalize hAe : va_A (mW m0 a y (σ.1 0 0) kd (σ.1 2 0) (σ.1 2 1) (σ.1 2 2) (σ.1 2 3) (σ.1 2 4) wh re (σ.1 1) (σ.1 3) aTo aPo (σ.1 4) aRw aRr (σ.1 5) (σ.1 6) (σ.1 7) aWs aRs (σ.1 8) (σ.1 9) (σ.1 10) (σ.1 11) (σ.1 12)) s.heap.size = A at hD ⊢
  have hA : ∀ q : Nat, s.heap.size ≤ q → A q := fun q h => by rw [← hAe]; exact Or.inr h
  have hS : va_S A s.heap s.heap [] := va_S.rf
  have hP : va_P Dg vwCl (mW m0 a y (σ.1 0 0) kd (σ.1 2 0) (σ.1 2 1) (σ.1 2 2) (σ.1 2 3) (σ.1 2 4) wh re (σ.1 1) (σ.1 3) aTo aPo (σ.1 4) aRw aRr (σ.1 5) (σ.1 6) (σ.1 7) aWs aRs (σ.1 8) (σ.1 9) (σ.1 10) (σ.1 11) (σ.1 12)) s.heap := hP
  have hl := lv_entry ([.ref m0]) (n := 1) (Nat.le_of_ble_eq_true rfl)
  rw [lg_entry_eq]
  generalize (lg_sl ([.ref m0]) ++ List.replicate (1 - (lg_sl ([.ref m0])).length) Slot.unset).toArray = ls at hl ⊢
  have hl : lv_has ls 1 [(0, .ref m0)] := hl
  refine lv_aload_n hx hb dX8_refused_0 rfl (lv_at hl 0 rfl) ?_
  refine va_get (D := Dg) (ci := 6) (v := .int (σ.1 0 0)) (C := RX8) (T := TX8) (N := 26) hx hb hts in_X8_refused hown hK hP 0 rfl rfl 0 (by decide) (hts (.fieldLink RX8 64 "OrreryWorksModel" "refused" "I") (by decide +kernel)) (fun _ h9 => h9) rfl dX8_refused_1 ?_
  exact W.iret (v := (σ.1 0 0)) hx hb hr (fun t ht hW => ⟨⟨_, (mW m0 a y (σ.1 0 0) kd (σ.1 2 0) (σ.1 2 1) (σ.1 2 2) (σ.1 2 3) (σ.1 2 4) wh re (σ.1 1) (σ.1 3) aTo aPo (σ.1 4) aRw aRr (σ.1 5) (σ.1 6) (σ.1 7) aWs aRs (σ.1 8) (σ.1 9) (σ.1 10) (σ.1 11) (σ.1 12)), rfl, ⟨rfl, kd, wh, re, aTo, aPo, aRw, aRr, aWs, aRs, rfl, hM⟩, by rw [ht]; exact hP, va_K.moved hW.alike hK, hD⟩, hS.F ht⟩) hS.2.2 dX8_refused_4
