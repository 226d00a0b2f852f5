/-! the class's face: small laws -/
theorem nIn_l {v a b : Int32} (h : v < a) : ¬ fX8_isIn v a b = true := fun g => by
  have g := isIn_iff.mp g; rw [Int32.lt_iff_toInt_lt] at h; omega
theorem nIn_h {v a b : Int32} (h : b < v) : ¬ fX8_isIn v a b = true := fun g => by
  have g := isIn_iff.mp g; rw [Int32.lt_iff_toInt_lt] at h; omega
theorem nIn_e {v a b : Int32} (h : ¬ v ≤ b) : ¬ fX8_isIn v a b = true := fun g => by
  have g := isIn_iff.mp g; rw [Int32.le_iff_toInt_le] at h; omega
theorem yIn_h {v a b : Int32} (h1 : ¬ v < a) (h2 : ¬ b < v) : fX8_isIn v a b = true := by
  rw [Int32.lt_iff_toInt_lt] at h1 h2; exact isIn_iff.mpr (by omega)
theorem yIn_e {v a b : Int32} (h1 : ¬ v < a) (h2 : v ≤ b) : fX8_isIn v a b = true := by
  rw [Int32.lt_iff_toInt_lt] at h1; rw [Int32.le_iff_toInt_le] at h2; exact isIn_iff.mpr (by omega)
theorem nfull {c n : Int32} (h : c < n) : ¬ c = n := fun e => by rw [e] at h; exact Int32.lt_irrefl h
theorem full_of {c n : Int32} {N : Nat} (hb : bnd c N) (hn : n.toInt = N) (h : ¬ c < n) : c = n := by
  rw [Int32.lt_iff_toInt_lt] at h
  apply Int32.toInt_inj.1
  have := hb.2; omega
theorem isZ_iff {k : Int32} {b : Int64} : fX2_isZero k b = true ↔ mgN k b = 0 := by rw [isZero_eq]; exact decide_eq_true_iff
theorem isE_iff {k : Int32} {b : Int64} : fX2_isEndless k b = true ↔ mgN k b = infN k := by rw [isEndless_eq]; exact decide_eq_true_iff
theorem okB_c {k : Int32} {b : Int64} (hk : isK k) (h : okB k b) : k ≤ 1 ∨ okR k b := by
  rcases hk with rfl | rfl | rfl | rfl
  · exact Or.inl (by decide)
  · exact Or.inl (by decide)
  · exact Or.inr h
  · exact Or.inr h
theorem told_0 {k : Int32} {b : Int64} (h : k = 0) : b.toInt32.toInt64 = told k b := by unfold told; rw [if_pos (Or.inl h)]
theorem told_2 {k : Int32} {b : Int64} (h : k = 2) : b.toInt32.toInt64 = told k b := by unfold told; rw [if_pos (Or.inr h)]
theorem told_n {k : Int32} {b : Int64} (h : ¬ k = 0) (h2 : ¬ k = 2) : b = told k b := by unfold told; rw [if_neg (fun g => g.elim h h2)]
theorem flt_mg (x : Int32) : FP.Core.val32 x.toUInt32 ≠ .nan ↔ mgN 2 x.toInt64 ≤ infN 2 := by
  rw [FP.Core.ne_nan32, mg32, Int32.toInt32_toInt64]
  have : infN 2 = 2139095040 := rfl
  omega
theorem ld_num {k : Int32} {b : Int64} (hk : isK k) : fX0_isNumber k (told k b) = true ↔ (k = 2 → fX8_isFloat b.toInt32 = true) ∧ (k = 3 → fX8_isNumber b = true) := by
  rcases hk with rfl | rfl | rfl | rfl
  · exact iff_of_true (by unfold fX0_isNumber; rw [if_pos (by decide)]) ⟨fun h => absurd h (by decide), fun h => absurd h (by decide)⟩
  · exact iff_of_true (by unfold fX0_isNumber; rw [if_pos (by decide)]) ⟨fun h => absurd h (by decide), fun h => absurd h (by decide)⟩
  · have e : told 2 b = b.toInt32.toInt64 := by unfold told; rw [if_pos (Or.inr rfl)]
    have e2 : fX0_isNumber 2 (told 2 b) = true ↔ mgN 2 b.toInt32.toInt64 ≤ infN 2 := by
      unfold fX0_isNumber; rw [if_neg (by decide), isNumber_eq, e]
      by_cases h : mgN 2 b.toInt32.toInt64 ≤ infN 2 <;> simp [h]
    rw [e2, ← flt_mg, ← flt_eq]
    exact ⟨fun h => ⟨fun _ => h, fun h => absurd h (by decide)⟩, fun h => h.1 rfl⟩
  · have e : told 3 b = b := by unfold told; rw [if_neg (by decide)]
    have e2 : fX0_isNumber 3 (told 3 b) = true ↔ fX2_isNumber 3 b = true := by
      unfold fX0_isNumber; rw [if_neg (by decide), e]
      by_cases h : fX2_isNumber 3 b = true <;> simp [h]
    rw [e2, num2_eq]
    exact ⟨fun h => ⟨fun h => absurd h (by decide), fun _ => h⟩, fun h => h.2 rfl⟩
theorem wl_ok {σ : St} {r k : Int32} {b : Int64} (h1 : fX8_isIn r 0 (σ.1 2 1 - 1) = true) (h2 : fX8_isKind k = true) (h3 : fX0_isNumber k (told k b) = true) : wh_load σ r k b = 0 := by
  have h := (ld_num (isK_of h2)).mp h3
  unfold wh_load
  rw [if_pos h1, if_pos h2]
  by_cases e2 : k = 2
  · rw [if_pos e2, if_pos (h.1 e2)]
  · rw [if_neg e2]
    by_cases e3 : k = 3
    · rw [if_pos e3, if_pos (h.2 e3)]
    · rw [if_neg e3]
theorem wl_no {σ : St} {r k : Int32} {b : Int64} (h1 : fX8_isIn r 0 (σ.1 2 1 - 1) = true) (h2 : fX8_isKind k = true) (h3 : ¬ fX0_isNumber k (told k b) = true) : wh_load σ r k b = -2 := by
  have h := mt (ld_num (isK_of h2)).mpr h3
  unfold wh_load
  rw [if_pos h1, if_pos h2]
  by_cases e2 : k = 2
  · rw [if_pos e2, if_neg (fun g => h ⟨fun _ => g, fun e => by rw [e2] at e; exact absurd e (by decide)⟩)]
  · rw [if_neg e2]
    by_cases e3 : k = 3
    · rw [if_pos e3, if_neg (fun g => h ⟨fun e => absurd e e2, fun _ => g⟩)]
    · exact absurd ⟨fun e => absurd e e2, fun e => absurd e e3⟩ h
theorem max_wk {σ : St} {a b : Int32} : (if σ.1 4 (ix a) < σ.1 4 (ix b) then σ.1 4 (ix b) else σ.1 4 (ix a)) = wkK σ a b := by
  unfold wkK
  by_cases h : σ.1 4 (ix a) < σ.1 4 (ix b)
  · rw [if_pos h, if_neg (fun g => Int32.lt_irrefl (Int32.lt_trans h g))]
  · rw [if_neg h]
    by_cases g : σ.1 4 (ix b) < σ.1 4 (ix a)
    · rw [if_pos g]
    · rw [if_neg g]
      rw [Int32.lt_iff_toInt_lt] at h g
      exact Int32.toInt_inj.1 (by omega)
theorem g1_ge {k : Int32} (h : 1 < k) : 2 ≤ k := by
  rw [Int32.lt_iff_toInt_lt] at h; rw [Int32.le_iff_toInt_le]
  have e1 : (1 : Int32).toInt = 1 := rfl
  have e2 : (2 : Int32).toInt = 2 := rfl
  omega
theorem ng1_ge {k : Int32} (h : ¬ 1 < k) : ¬ 2 ≤ k := by
  rw [Int32.lt_iff_toInt_lt] at h; rw [Int32.le_iff_toInt_le]
  have e1 : (1 : Int32).toInt = 1 := rfl
  have e2 : (2 : Int32).toInt = 2 := rfl
  omega
theorem l3_le {k : Int32} (h : k < 3) : k ≤ 2 := by
  rw [Int32.lt_iff_toInt_lt] at h; rw [Int32.le_iff_toInt_le]
  have e1 : (3 : Int32).toInt = 3 := rfl
  have e2 : (2 : Int32).toInt = 2 := rfl
  omega
theorem nl3_le {k : Int32} (h : ¬ k < 3) : ¬ k ≤ 2 := by
  rw [Int32.lt_iff_toInt_lt] at h; rw [Int32.le_iff_toInt_le]
  have e1 : (3 : Int32).toInt = 3 := rfl
  have e2 : (2 : Int32).toInt = 2 := rfl
  omega
theorem wo_hv {σ : St} (hV : vOK σ) {h a b t : Int32} (hw : wh_work σ h a b t = 0) (c1 : fX8_isIn h 0 4 = true) (c2 : inC σ 1 a = true) (c3 : inC σ 1 b = true) (c4 : inC σ 1 t = true) : ¬ (wkK σ a b = 0 ∨ wkK σ a b = 1) → okR (wkK σ a b) (wkX σ a (wkK σ a b)) ∧ okR (wkK σ a b) (wkX σ b (wkK σ a b)) ∧ (h = 4 → (¬ mgN (wkK σ a b) (wkX σ a (wkK σ a b)) = infN (wkK σ a b)) ∧ ¬ mgN (wkK σ a b) (wkX σ b (wkK σ a b)) = 0) ∧ (¬ h = 4 → okR (wkK σ a b) (wkB (wkK σ a b) h (wkX σ a (wkK σ a b)) (wkX σ b (wkK σ a b)))) := by
  intro g
  have Ra := rg_ok hV c2
  have Rb := rg_ok hV c3
  have qK : isK (wkK σ a b) := isK_wk Ra.1 Rb.1
  have c5 : 2 ≤ wkK σ a b := by
    rcases qK with e | e | e | e
    · exact absurd (Or.inl e) g
    · exact absurd (Or.inr e) g
    · rw [e]; decide
    · rw [e]; decide
  have hkR := kR_of qK c5
  unfold wh_work at hw
  rw [if_pos c1, if_pos c2, if_pos c3, if_pos c4, if_pos c5] at hw
  by_cases c6 : fX2_isVoid (wkK σ a b) h (wkX σ a (wkK σ a b)) (wkX σ b (wkK σ a b)) = true
  · rw [if_pos c6] at hw; exact absurd hw (by decide)
  · have hv : ¬ vd (wkK σ a b) h (wkX σ a (wkK σ a b)) (wkX σ b (wkK σ a b)) := fun z => c6 (void_eq.mpr z)
    have o2 := okRB hkR (cst_okB Ra.1 qK Ra.2)
    have o3 := okRB hkR (cst_okB Rb.1 qK Rb.2)
    refine ⟨o2, o3, fun e => ?_, fun e => ?_⟩
    · rw [e] at hv
      exact ⟨fun z => hv (Or.inr z), fun z => hv (Or.inl z)⟩
    · have q := wr_eq hkR o2 o3 hv (in04 c1)
      unfold wkA at q; rw [if_neg e] at q
      exact q.2.2
theorem sR_0 {a : Nat} {x : Int32} (h : x = 0) : sR a x = .ref a := if_pos h
theorem sR_1 {a : Nat} {x : Int32} (h : ¬ x = 0) : sR a x = .null := if_neg h
theorem len16 {n : Int32} (h : bnd n 16) : Int32.ofNat (ix n) = n := by
  have := h.1; have := h.2
  apply Int32.toInt_inj.1
  show (nI (ix n)).toInt = _
  rw [nI_toInt (by show n.toInt.toNat < _; omega)]
  show ((n.toInt.toNat : Nat) : Int) = _
  omega
theorem in_len {i n : Int32} {N : Nat} (hb : bnd n N) (h1 : ¬ i < 0) (h2 : i < n) : vp_in i (ix n) ∧ fX8_isIn i 0 (n - 1) = true := by
  rw [Int32.lt_iff_toInt_lt] at h1 h2
  have e0 : (0 : Int32).toInt = 0 := rfl
  have := hb.1
  refine ⟨?_, (inC_iff hb).mpr (by omega)⟩
  rw [vp_in_iff]
  show _ ∧ i.toInt < ((n.toInt.toNat : Nat) : Int)
  omega
theorem nin_l0 {i n : Int32} {N : Nat} (hb : bnd n N) (h : i < 0) : ¬ fX8_isIn i 0 (n - 1) = true := fun g => by
  have g := (inC_iff hb).mp g
  rw [Int32.lt_iff_toInt_lt] at h
  have e0 : (0 : Int32).toInt = 0 := rfl
  omega
theorem nin_len {i n : Int32} {N : Nat} (hb : bnd n N) (h : ¬ i < n) : ¬ fX8_isIn i 0 (n - 1) = true := fun g => by
  have g := (inC_iff hb).mp g
  rw [Int32.lt_iff_toInt_lt] at h
  omega
theorem ag_ok {σ : St} {s k i : Int32} (h1 : σ.1 7 (ix s) = 0) (h2 : σ.1 5 (ix s) = k) (h3 : fX8_isIn i 0 (σ.1 6 (ix s) - 1) = true) : agS σ s k i = 0 := by unfold agS agn; rw [if_pos h1, if_pos h2, if_pos h3]
theorem ag_8 {σ : St} {s k i : Int32} (h1 : σ.1 7 (ix s) = 0) (h2 : σ.1 5 (ix s) = k) (h3 : ¬ fX8_isIn i 0 (σ.1 6 (ix s) - 1) = true) : agS σ s k i = -8 := by unfold agS agn; rw [if_pos h1, if_pos h2, if_neg h3]
theorem ag_7 {σ : St} {s k i : Int32} (h1 : σ.1 7 (ix s) = 0) (h2 : ¬ σ.1 5 (ix s) = k) : agS σ s k i = -7 := by unfold agS agn; rw [if_pos h1, if_neg h2]
theorem ag_10 {σ : St} {s k i : Int32} (h1 : ¬ σ.1 7 (ix s) = 0) : agS σ s k i = -10 := by unfold agS agn; rw [if_neg h1]
theorem up2 {α : Type} {L : List Nat} {f : Nat → α} {q r : Nat} {e e2 : α} (h : r ∉ L ++ [q]) : va_up (va_up f q e) r e2 q = e := by
  rw [va_up_ne _ _ (fun g => h (by rw [← g]; exact List.mem_append_right _ (List.mem_singleton.mpr rfl))), va_up_self]
theorem in_n1 {σ : St} {j : Nat} {N : Int} {i : Int32} (hb : bnd (σ.1 2 j) N) (h : fX8_isIn i 0 (σ.1 2 j - 1) = true) : ¬ i = -1 := fun e => by
  have g := (inC_iff hb).mp h
  rw [e] at g
  exact absurd g.1 (by decide)
theorem csR_self {k : Int32} {b : Int64} (hk : k = 2 ∨ k = 3) (h : okR k b) (t : Int32) : csR (vl k b) t = cst k b t := by
  rcases hk with rfl | rfl
  · by_cases e : (2 : Int32) = t
    · subst e
      show fB (FP.d2f (vl 2 b)) = cst 2 b 2
      rw [d2f_vl rfl h, (okR2 h).1]; unfold cst; rw [if_pos rfl]
    · unfold cst; rw [if_neg e, if_neg (by decide)]
  · by_cases e : (3 : Int32) = t
    · subst e
      show (vl 3 b).toInt64 = cst 3 b 3
      unfold cst; rw [if_pos rfl]; rfl
    · unfold cst; rw [if_neg e, if_neg (by decide)]

theorem in_X7_X7_wheel : ∀ w ∈ wsX70, w ∈ wsX7_wheel := fun w h => List.mem_cons_of_mem _ (List.mem_append_left _ (List.mem_append_right _ h))
theorem in_X6_X7_wheel : ∀ w ∈ wsX60, w ∈ wsX7_wheel := fun w h => List.mem_cons_of_mem _ (List.mem_append_right _ h)
set_option maxHeartbeats 4000000 in
set_option maxRecDepth 100000 in
theorem met_X7_wheel (l : Launch) (Dg : va_G) (x0 sz : Nat) (b : Nat → Nat) (z : Nat → ClassId) (σ : St) (L : List Nat) (f : Nat → va_E) (ad : Nat → Nat → Nat) (g : Nat → Nat → Option Nat) (p1 : Int32) (p2 : Int64) (hV : vOK σ) (hC : CI z σ L f ad g)  : Met l yX7_wheel wsX7_wheel ({ frames := 6, cells := 1, slots := 3, locals := 141 }) (va_Pc [.ref x0, .int p1, .long p2] (wB Dg (cT z) (cX x0 b z (σ.1 0 0) (σ.1 2 0) (σ.1 2 1) (σ.1 2 2) (σ.1 2 3) (σ.1 2 4) (σ.1 1) (g 0) (g 1) (g 2) (g 3) (g 4) ++ va_pl L f) sz)) (va_Qi (fun (r : Int32) (u : va_W) => r = an_wheel σ p1 p2 ∧ CX x0 b z (nw_wheel σ p1 p2) u) (wE Dg (cT z) (va_A (cX x0 b z (σ.1 0 0) (σ.1 2 0) (σ.1 2 1) (σ.1 2 2) (σ.1 2 3) (σ.1 2 4) (σ.1 1) (g 0) (g 1) (g 2) (g 3) (g 4) ++ va_pl L f) sz)) (va_A (cX x0 b z (σ.1 0 0) (σ.1 2 0) (σ.1 2 1) (σ.1 2 2) (σ.1 2 3) (σ.1 2 4) (σ.1 1) (g 0) (g 1) (g 2) (g 3) (g 4) ++ va_pl L f) sz)) 1 3 (va_A (cX x0 b z (σ.1 0 0) (σ.1 2 0) (σ.1 2 1) (σ.1 2 2) (σ.1 2 3) (σ.1 2 4) (σ.1 1) (g 0) (g 1) (g 2) (g 3) (g 4) ++ va_pl L f) sz) := by
  refine Met.ofW (cc := cX7_wheel) (maxL := 6) (ret := (some .int)) (by decide) rfl ?_
  intro p e s m args below meth c s₁ B hml hv
  obtain ⟨rfl, hsz, hP, hK, hD0⟩ := hv
  have hx := B.exec
  have hb := B.bytes
  have hr := B.returns
  have hts := atoms_spec (ws := wsX7_wheel) B.pre
  have hown : s.vm.findClass RX7 = some m.cls := findClass_of_methodNamed B.named
  have hlocks := B.notSynchronized
  subst hsz
  have hD := hD0.self (sz := s.heap.size)
  generalize hAe : va_A (cX x0 b z (σ.1 0 0) (σ.1 2 0) (σ.1 2 1) (σ.1 2 2) (σ.1 2 3) (σ.1 2 4) (σ.1 1) (g 0) (g 1) (g 2) (g 3) (g 4) ++ va_pl L f) s.heap.size = A at hD ⊢
  have hA : ∀ q : Nat, s.heap.size ≤ q → A q := fun q h => by rw [← hAe]; exact Or.inr h
  have hS : va_S A s.heap s.heap [] := va_S.rf
  have hP : va_P Dg vwCl (cX x0 b z (σ.1 0 0) (σ.1 2 0) (σ.1 2 1) (σ.1 2 2) (σ.1 2 3) (σ.1 2 4) (σ.1 1) (g 0) (g 1) (g 2) (g 3) (g 4) ++ va_pl L f) s.heap := hP
  have hl := lv_entry ([.ref x0, .int p1, .long p2]) (n := 6) (Nat.le_of_ble_eq_true rfl)
  rw [lg_entry_eq]
  generalize (lg_sl ([.ref x0, .int p1, .long p2]) ++ List.replicate (6 - (lg_sl ([.ref x0, .int p1, .long p2])).length) Slot.unset).toArray = ls at hl ⊢
  have hl : lv_has ls 6 [(0, .ref x0), (1, .int p1), (2, .long p2)] := hl
  refine lv_iload_n hx hb dX7_wheel_0 rfl (lv_at hl 1 rfl) ?_
  refine lv_iconst (v := 2) hx hb dX7_wheel_1 (by decide) ?_
  refine lv_icmp_lt (tgt := 18) hx hb dX7_wheel_2 (by decide) (fun c_1 => ?_) (fun c_1 => ?_)
  · refine lv_aload_n hx hb dX7_wheel_18 rfl (lv_at hl 0 rfl) ?_
    refine lv_bipush (v := (-2)) hx hb dX7_wheel_19 (by decide) ?_
    have hFc := wFree hD hS hA
    refine va_calli (va_runV (As := [.int (-2)]) (rest := []) ⟨hx, hb, hml, hown, hts⟩ (met_X7_refuse l Dg x0 s.heap.size b z (σ.1 0 0) (σ.1 2 0) (σ.1 2 1) (σ.1 2 2) (σ.1 2 3) (σ.1 2 4) (σ.1 1) (g 0) (g 1) (g 2) (g 3) (g 4) L f (-2) (by decide) (by unfold vp_in; decide)) (cwV 1 hts gX7_wheel_X7_refuse rfl rfl rfl (by decide +kernel) ⟨Nat.le_of_ble_eq_true rfl, Nat.le_of_ble_eq_true rfl⟩) (wPreV hK hP (hD.weaken (fun _ _ _ _ => trivial)) (va_recv hK hP (ci := 5) (q0 := 0) rfl rfl)) rfl rfl hl.1 rfl (lv_room (Nat.le_of_ble_eq_true rfl)) dX7_wheel_21 ⟨Nat.le_of_ble_eq_true rfl, Nat.le_of_ble_eq_true rfl⟩) hS (fun q _ h => hFc q h) hFc (fun r u t H locs ht hvm hw hB _ _ hS => ?_)
    obtain ⟨hP, -, hD⟩ := hB
    rw [ht] at hP
    replace hD := hD.weaken (fun _ q _ h => hFc q.1 h)
    rw [hw.2] at hP hD
    rw [hw.1]
    clear hw hFc
    have hP : va_P Dg vwCl (cX x0 b z (-2) (σ.1 2 0) (σ.1 2 1) (σ.1 2 2) (σ.1 2 3) (σ.1 2 4) (rfO (-2) (σ.1 1)) (g 0) (g 1) (g 2) (g 3) (g 4) ++ va_pl L f) H := hP
    have hD : va_D A (cX x0 b z (-2) (σ.1 2 0) (σ.1 2 1) (σ.1 2 2) (σ.1 2 3) (σ.1 2 4) (rfO (-2) (σ.1 1)) (g 0) (g 1) (g 2) (g 3) (g 4) ++ va_pl L f) := hD
    have hw : wh_wheel σ p1 p2 = (-2) := by simp only [wh_wheel, if_neg (nIn_l (b := 3) c_1)]
    have hn : ¬ wh_wheel σ p1 p2 = 0 := by rw [hw]; decide
    refine W.widen (k := 1) (n := 3) (Nat.le_of_ble_eq_true rfl) (Nat.le_of_ble_eq_true rfl) ?_
    exact W.iret (v := (-2)) hx hb hr (fun t ht hW => ⟨⟨_, (cX x0 b z (-2) (σ.1 2 0) (σ.1 2 1) (σ.1 2 2) (σ.1 2 3) (σ.1 2 4) (rfO (-2) (σ.1 1)) (g 0) (g 1) (g 2) (g 3) (g 4) ++ va_pl L f), rfl, ⟨by rw [an_wheel, if_neg hn, hw]; try rfl, L, f, ad, g, by rw [nw_wheel, if_neg hn, hw]; rfl, by rw [nw_wheel, if_neg hn]; exact CI_rf hC _⟩, by rw [ht]; exact hP, va_K.moved hW.alike hK, hD⟩, hS.F ht⟩) hS.2.2 dX7_wheel_24
  · refine lv_iload_n hx hb dX7_wheel_5 rfl (lv_at hl 1 rfl) ?_
    refine lv_iconst (v := 3) hx hb dX7_wheel_6 (by decide) ?_
    refine lv_icmp_gt (tgt := 18) hx hb dX7_wheel_7 (by decide) (fun c_2 => ?_) (fun c_2 => ?_)
    · refine lv_aload_n hx hb dX7_wheel_18 rfl (lv_at hl 0 rfl) ?_
      refine lv_bipush (v := (-2)) hx hb dX7_wheel_19 (by decide) ?_
      have hFc := wFree hD hS hA
      refine va_calli (va_runV (As := [.int (-2)]) (rest := []) ⟨hx, hb, hml, hown, hts⟩ (met_X7_refuse l Dg x0 s.heap.size b z (σ.1 0 0) (σ.1 2 0) (σ.1 2 1) (σ.1 2 2) (σ.1 2 3) (σ.1 2 4) (σ.1 1) (g 0) (g 1) (g 2) (g 3) (g 4) L f (-2) (by decide) (by unfold vp_in; decide)) (cwV 1 hts gX7_wheel_X7_refuse rfl rfl rfl (by decide +kernel) ⟨Nat.le_of_ble_eq_true rfl, Nat.le_of_ble_eq_true rfl⟩) (wPreV hK hP (hD.weaken (fun _ _ _ _ => trivial)) (va_recv hK hP (ci := 5) (q0 := 0) rfl rfl)) rfl rfl hl.1 rfl (lv_room (Nat.le_of_ble_eq_true rfl)) dX7_wheel_21 ⟨Nat.le_of_ble_eq_true rfl, Nat.le_of_ble_eq_true rfl⟩) hS (fun q _ h => hFc q h) hFc (fun r u t H locs ht hvm hw hB _ _ hS => ?_)
      obtain ⟨hP, -, hD⟩ := hB
      rw [ht] at hP
      replace hD := hD.weaken (fun _ q _ h => hFc q.1 h)
      rw [hw.2] at hP hD
      rw [hw.1]
      clear hw hFc
      have hP : va_P Dg vwCl (cX x0 b z (-2) (σ.1 2 0) (σ.1 2 1) (σ.1 2 2) (σ.1 2 3) (σ.1 2 4) (rfO (-2) (σ.1 1)) (g 0) (g 1) (g 2) (g 3) (g 4) ++ va_pl L f) H := hP
      have hD : va_D A (cX x0 b z (-2) (σ.1 2 0) (σ.1 2 1) (σ.1 2 2) (σ.1 2 3) (σ.1 2 4) (rfO (-2) (σ.1 1)) (g 0) (g 1) (g 2) (g 3) (g 4) ++ va_pl L f) := hD
      have hw : wh_wheel σ p1 p2 = (-2) := by simp only [wh_wheel, if_neg (nIn_h (a := 2) c_2)]
      have hn : ¬ wh_wheel σ p1 p2 = 0 := by rw [hw]; decide
      refine W.widen (k := 1) (n := 3) (Nat.le_of_ble_eq_true rfl) (Nat.le_of_ble_eq_true rfl) ?_
      exact W.iret (v := (-2)) hx hb hr (fun t ht hW => ⟨⟨_, (cX x0 b z (-2) (σ.1 2 0) (σ.1 2 1) (σ.1 2 2) (σ.1 2 3) (σ.1 2 4) (rfO (-2) (σ.1 1)) (g 0) (g 1) (g 2) (g 3) (g 4) ++ va_pl L f), rfl, ⟨by rw [an_wheel, if_neg hn, hw]; try rfl, L, f, ad, g, by rw [nw_wheel, if_neg hn, hw]; rfl, by rw [nw_wheel, if_neg hn]; exact CI_rf hC _⟩, by rw [ht]; exact hP, va_K.moved hW.alike hK, hD⟩, hS.F ht⟩) hS.2.2 dX7_wheel_24
    · refine lv_iconst (v := 3) hx hb dX7_wheel_10 (by decide) ?_
      refine lv_lload_n hx hb dX7_wheel_11 rfl (lv_at hl 2 rfl) ?_
      refine vp_callSi ((va_runS (As := [.int 3, .long p2]) (rest := []) ⟨hx, hb, hml, hown, hts⟩ (met_X2_isNumber l 3 p2) (va_cwS 2 hts gX7_wheel_X2_isNumber rfl rfl rfl (by decide +kernel) ⟨Nat.le_of_ble_eq_true rfl, Nat.le_of_ble_eq_true rfl⟩) ⟨fun _ _ _ _ q => q, fun U hU hW => ⟨rfl, trivial⟩⟩ rfl rfl hl.1 rfl (lv_room (Nat.le_of_ble_eq_true rfl)) dX7_wheel_12 ⟨Nat.le_of_ble_eq_true rfl, Nat.le_of_ble_eq_true rfl⟩).run) (fun r hw => ?_)
      subst hw
      refine lv_if_ne (tgt := 25) hx hb dX7_wheel_15 (by decide) (fun c_3 => ?_) (fun c_3 => ?_)
      · replace c_3 := bI_ne c_3
        replace c_3 := (num2_eq).mp c_3
        refine lv_iconst (v := 3) hx hb dX7_wheel_25 (by decide) ?_
        refine lv_lload_n hx hb dX7_wheel_26 rfl (lv_at hl 2 rfl) ?_
        refine lv_iload_n hx hb dX7_wheel_27 rfl (lv_at hl 1 rfl) ?_
        refine vp_callSl ((va_runS (As := [.int 3, .long p2, .int p1]) (rest := []) ⟨hx, hb, hml, hown, hts⟩ (met_X0_cast l 3 p2 p1 (Or.inr ((num_eq p2).mp c_3))) (va_cwS 3 hts gX7_wheel_X0_cast rfl rfl rfl (by decide +kernel) ⟨Nat.le_of_ble_eq_true rfl, Nat.le_of_ble_eq_true rfl⟩) ⟨fun _ _ _ _ q => q, fun U hU hW => ⟨rfl, trivial⟩⟩ rfl rfl hl.1 rfl (lv_room (Nat.le_of_ble_eq_true rfl)) dX7_wheel_28 ⟨Nat.le_of_ble_eq_true rfl, Nat.le_of_ble_eq_true rfl⟩).run) (fun r_1 h_1 => ?_)
        subst h_1
        refine lv_lstore (lv' := [(4, .long (cst 3 p2 p1)), (0, .ref x0), (1, .int p1), (2, .long p2)]) hx hb dX7_wheel_31 hl (by decide) rfl (fun ls hl => ?_)
        refine lv_iload_n hx hb dX7_wheel_33 rfl (lv_at hl 2 rfl) ?_
        refine lv_lload hx hb dX7_wheel_34 (lv_at hl 0 rfl) ?_
        refine vp_callSi ((va_runS (As := [.int p1, .long (cst 3 p2 p1)]) (rest := []) ⟨hx, hb, hml, hown, hts⟩ (met_X2_isZero l p1 (cst 3 p2 p1)) (va_cwS 2 hts gX7_wheel_X2_isZero rfl rfl rfl (by decide +kernel) ⟨Nat.le_of_ble_eq_true rfl, Nat.le_of_ble_eq_true rfl⟩) ⟨fun _ _ _ _ q => q, fun U hU hW => ⟨rfl, trivial⟩⟩ rfl rfl hl.1 rfl (lv_room (Nat.le_of_ble_eq_true rfl)) dX7_wheel_36 ⟨Nat.le_of_ble_eq_true rfl, Nat.le_of_ble_eq_true rfl⟩).run) (fun r hw => ?_)
        subst hw
        refine lv_if_eq (tgt := 49) hx hb dX7_wheel_39 (by decide) (fun c_4 => ?_) (fun c_4 => ?_)
        · replace c_4 := bI_eq c_4
          refine lv_aload_n hx hb dX7_wheel_49 rfl (lv_at hl 1 rfl) ?_
          refine va_get (D := Dg) (ci := 5) (v := .int (σ.1 2 0)) (C := RX7) (T := TX7) (N := 12) hx hb hts in_X7_X7_wheel hown hK hP 0 rfl rfl 5 (by decide) (hts (.fieldLink RX7 39 "OrreryWorks" "wheelCount" "I") (by decide +kernel)) (fun _ h9 => h9) rfl dX7_wheel_50 ?_
          refine lv_bipush (v := 10) hx hb dX7_wheel_53 (by decide) ?_
          refine lv_icmp_lt (tgt := 65) hx hb dX7_wheel_55 (by decide) (fun c_5 => ?_) (fun c_5 => ?_)
          · refine lv_aload_n hx hb dX7_wheel_65 rfl (lv_at hl 1 rfl) ?_
            refine va_get (D := Dg) (ci := 5) (v := .ref (b 0)) (C := RX7) (T := TX7) (N := 12) hx hb hts in_X7_X7_wheel hown hK hP 0 rfl rfl 0 (by decide) (hts (.fieldLink RX7 11 "OrreryWorks" "wheels" "[LOrreryWorks$Wheel;") (by decide +kernel)) (fun _ h9 => h9) rfl dX7_wheel_66 ?_
            refine lv_aload_n hx hb dX7_wheel_69 rfl (lv_at hl 1 rfl) ?_
            refine va_get (D := Dg) (ci := 5) (v := .int (σ.1 2 0)) (C := RX7) (T := TX7) (N := 12) hx hb hts in_X7_X7_wheel hown hK hP 0 rfl rfl 5 (by decide) (hts (.fieldLink RX7 39 "OrreryWorks" "wheelCount" "I") (by decide +kernel)) (fun _ h9 => h9) rfl dX7_wheel_70 ?_
            have hqq := @va_pl_fresh2 A (cX x0 b z (σ.1 0 0) (σ.1 2 0) (σ.1 2 1) (σ.1 2 2) (σ.1 2 3) (σ.1 2 4) (σ.1 1) (g 0) (g 1) (g 2) (g 3) (g 4)) L f
            refine va_new (c0 := c) (D := Dg) (ci := 4) (C := RX6) (T := TX6) (N := 3) (fs := [.int 0, .long 0, .long 0]) hx hb hts in_X6_X7_wheel tyX6 tyX6_ok hown (hts (.classLink RX7 9 RX6) (by decide +kernel)) (hts (.instantiable RX6 3) (by decide +kernel)) (hts (.initialized RX6) (by decide +kernel)) hK hP hD hS hA rfl (by decide +kernel) (Nat.le_of_ble_eq_true rfl) (Nat.le_of_ble_eq_true rfl) dX7_wheel_73 (fun q H hP hD hS => ?_)
            have hP : va_P Dg vwCl ((cX x0 b z (σ.1 0 0) (σ.1 2 0) (σ.1 2 1) (σ.1 2 2) (σ.1 2 3) (σ.1 2 4) (σ.1 1) (g 0) (g 1) (g 2) (g 3) (g 4) ++ va_pl L f) ++ [(q, .inr (4, [.int 0, .long 0, .long 0]))]) H := hP
            have hD : va_D A ((cX x0 b z (σ.1 0 0) (σ.1 2 0) (σ.1 2 1) (σ.1 2 2) (σ.1 2 3) (σ.1 2 4) (σ.1 1) (g 0) (g 1) (g 2) (g 3) (g 4) ++ va_pl L f) ++ [(q, .inr (4, [.int 0, .long 0, .long 0]))]) := hD
            replace hqq := hqq hD
            refine lv_dup hx hb dX7_wheel_76 rfl ?_
            refine lv_iload_n hx hb dX7_wheel_77 rfl (lv_at hl 2 rfl) ?_
            refine lv_lload hx hb dX7_wheel_78 (lv_at hl 0 rfl) ?_
            have hPc := P_last hP
            have hDc := D_last hD
            have hKc := hK.sub (tys' := []) [] rfl
            have hFc : ∀ q9, va_A [(q, .inr (4, [.int 0, .long 0, .long 0]))] H.size q9 → A q9 := fun q9 h => h.elim (fun ⟨k, e9, hk⟩ => hDc.2 k (q9, e9) hk) (fun h => hA q9 (Nat.le_trans hS.1 h))
            refine va_callv (va_runI (As := [.int p1, .long (cst 3 p2 p1)]) (rest := [.ref q, .int (σ.1 2 0), .ref (b 0)]) ⟨hx, hb, hml, hown, hts⟩ (met_X6_init l Dg q H.size p1 (cst 3 p2 p1)) (cwI 2 hts gX7_wheel_X6_init rfl rfl rfl (hts (.initialized RX6) (by decide +kernel)) (hts (.methodLink RX7 81 yX6_init) (by decide +kernel)) (hts (.instanceMethod yX6_init) (by decide +kernel)) rfl (by decide +kernel) ⟨Nat.le_of_ble_eq_true rfl, Nat.le_of_ble_eq_true rfl⟩) (wPreI hKc hPc (hDc.weaken (fun _ _ _ _ => trivial))) rfl rfl hl.1 rfl (lv_room (Nat.le_of_ble_eq_true rfl)) dX7_wheel_80 ⟨Nat.le_of_ble_eq_true rfl, Nat.le_of_ble_eq_true rfl⟩) hS (fun q9 _ h => hFc q9 h) hFc (fun u t H1 locs ht hvm hw hB _ hk1 hS => ?_)
            obtain ⟨hP1, -, hD1⟩ := hB
            rw [ht] at hP1
            rw [hw] at hP1 hD1
            obtain ⟨hP, hD⟩ := ct_join hP hD hk1 hFc hP1 hD1
            rw [pl_push1 hqq] at hP hD
            have hP : va_P Dg vwCl (cX x0 b z (σ.1 0 0) (σ.1 2 0) (σ.1 2 1) (σ.1 2 2) (σ.1 2 3) (σ.1 2 4) (σ.1 1) (g 0) (g 1) (g 2) (g 3) (g 4) ++ va_pl (L ++ [q]) (va_up f q (.inr (4, [.int p1, .long (cst 3 p2 p1), .long 0])))) H1 := hP
            have hD : va_D A (cX x0 b z (σ.1 0 0) (σ.1 2 0) (σ.1 2 1) (σ.1 2 2) (σ.1 2 3) (σ.1 2 4) (σ.1 1) (g 0) (g 1) (g 2) (g 3) (g 4) ++ va_pl (L ++ [q]) (va_up f q (.inr (4, [.int p1, .long (cst 3 p2 p1), .long 0])))) := hD
            obtain ⟨q9, h9⟩ := va_pl_get (X := cX x0 b z (σ.1 0 0) (σ.1 2 0) (σ.1 2 1) (σ.1 2 2) (σ.1 2 3) (σ.1 2 4) (σ.1 1) (g 0) (g 1) (g 2) (g 3) (g 4)) (f := va_up f q (.inr (4, [.int p1, .long (cst 3 p2 p1), .long 0]))) (List.mem_append_right _ (List.mem_singleton.mpr rfl))
            rw [va_up_self _ _ _] at h9
            refine va_astq hx hb hK hP hD hS 1 0 q9 4 rfl rfl h9 rfl (top_in hV.1.1 rfl (nfull c_5)) dX7_wheel_83 (fun H locs hP hD hS => ?_)
            clear h9
            have hP : va_P Dg vwCl (cX x0 b z (σ.1 0 0) (σ.1 2 0) (σ.1 2 1) (σ.1 2 2) (σ.1 2 3) (σ.1 2 4) (σ.1 1) (va_up (g 0) (σ.1 2 0).toNatClampNeg (some q)) (g 1) (g 2) (g 3) (g 4) ++ va_pl (L ++ [q]) (va_up f q (.inr (4, [.int p1, .long (cst 3 p2 p1), .long 0])))) H := hP
            have hD : va_D A (cX x0 b z (σ.1 0 0) (σ.1 2 0) (σ.1 2 1) (σ.1 2 2) (σ.1 2 3) (σ.1 2 4) (σ.1 1) (va_up (g 0) (σ.1 2 0).toNatClampNeg (some q)) (g 1) (g 2) (g 3) (g 4) ++ va_pl (L ++ [q]) (va_up f q (.inr (4, [.int p1, .long (cst 3 p2 p1), .long 0])))) := hD
            refine lv_aload_n hx hb dX7_wheel_84 rfl (lv_at hl 1 rfl) ?_
            refine lv_aload_n hx hb dX7_wheel_85 rfl (lv_at hl 1 rfl) ?_
            refine lv_dup hx hb dX7_wheel_86 rfl ?_
            refine va_get (D := Dg) (ci := 5) (v := .int (σ.1 2 0)) (C := RX7) (T := TX7) (N := 12) hx hb hts in_X7_X7_wheel hown hK hP 0 rfl rfl 5 (by decide) (hts (.fieldLink RX7 39 "OrreryWorks" "wheelCount" "I") (by decide +kernel)) (fun _ h9 => h9) rfl dX7_wheel_87 ?_
            refine lv_dup_x1 hx hb dX7_wheel_90 rfl rfl ?_
            refine lv_iconst (v := 1) hx hb dX7_wheel_91 (by decide) ?_
            refine lv_iadd hx hb dX7_wheel_92 ?_
            refine va_put (D := Dg) (ci := 5) (v := .int ((σ.1 2 0) + 1)) (ty := .int) (C := RX7) (T := TX7) (N := 12) hx hb hts in_X7_X7_wheel tyX7 tyX7_ok nmX7 hown hK hP hD hS 0 rfl rfl 5 (by decide) (hts (.fieldLink RX7 39 "OrreryWorks" "wheelCount" "I") (by decide +kernel)) (fun _ h9 => h9) rfl (by decide +kernel) rfl rfl (Nat.le_of_ble_eq_true rfl) dX7_wheel_93 (fun H locs hP hD hS => ?_)
            have hP : va_P Dg vwCl (cX x0 b z (σ.1 0 0) ((σ.1 2 0) + 1) (σ.1 2 1) (σ.1 2 2) (σ.1 2 3) (σ.1 2 4) (σ.1 1) (va_up (g 0) (σ.1 2 0).toNatClampNeg (some q)) (g 1) (g 2) (g 3) (g 4) ++ va_pl (L ++ [q]) (va_up f q (.inr (4, [.int p1, .long (cst 3 p2 p1), .long 0])))) H := hP
            have hD : va_D A (cX x0 b z (σ.1 0 0) ((σ.1 2 0) + 1) (σ.1 2 1) (σ.1 2 2) (σ.1 2 3) (σ.1 2 4) (σ.1 1) (va_up (g 0) (σ.1 2 0).toNatClampNeg (some q)) (g 1) (g 2) (g 3) (g 4) ++ va_pl (L ++ [q]) (va_up f q (.inr (4, [.int p1, .long (cst 3 p2 p1), .long 0])))) := hD
            have hFc := wFree hD hS hA
            refine va_calli (va_runV (As := [.int (σ.1 2 0)]) (rest := []) ⟨hx, hb, hml, hown, hts⟩ (met_X7_answer l Dg x0 H.size b z (σ.1 0 0) ((σ.1 2 0) + 1) (σ.1 2 1) (σ.1 2 2) (σ.1 2 3) (σ.1 2 4) (σ.1 1) (va_up (g 0) (σ.1 2 0).toNatClampNeg (some q)) (g 1) (g 2) (g 3) (g 4) (L ++ [q]) (va_up f q (.inr (4, [.int p1, .long (cst 3 p2 p1), .long 0]))) (σ.1 2 0) ) (cwV 1 hts gX7_wheel_X7_answer rfl rfl rfl (by decide +kernel) ⟨Nat.le_of_ble_eq_true rfl, Nat.le_of_ble_eq_true rfl⟩) (wPreV hK hP (hD.weaken (fun _ _ _ _ => trivial)) (va_recv hK hP (ci := 5) (q0 := 0) rfl rfl)) rfl rfl hl.1 rfl (lv_room (Nat.le_of_ble_eq_true rfl)) dX7_wheel_96 ⟨Nat.le_of_ble_eq_true rfl, Nat.le_of_ble_eq_true rfl⟩) hS (fun q _ h => hFc q h) hFc (fun r u t H locs ht hvm hw hB _ _ hS => ?_)
            obtain ⟨hP, -, hD⟩ := hB
            rw [ht] at hP
            replace hD := hD.weaken (fun _ q _ h => hFc q.1 h)
            rw [hw.2] at hP hD
            rw [hw.1]
            clear hw hFc
            have hP : va_P Dg vwCl (cX x0 b z 0 ((σ.1 2 0) + 1) (σ.1 2 1) (σ.1 2 2) (σ.1 2 3) (σ.1 2 4) (σ.1 1) (va_up (g 0) (σ.1 2 0).toNatClampNeg (some q)) (g 1) (g 2) (g 3) (g 4) ++ va_pl (L ++ [q]) (va_up f q (.inr (4, [.int p1, .long (cst 3 p2 p1), .long 0])))) H := hP
            have hD : va_D A (cX x0 b z 0 ((σ.1 2 0) + 1) (σ.1 2 1) (σ.1 2 2) (σ.1 2 3) (σ.1 2 4) (σ.1 1) (va_up (g 0) (σ.1 2 0).toNatClampNeg (some q)) (g 1) (g 2) (g 3) (g 4) ++ va_pl (L ++ [q]) (va_up f q (.inr (4, [.int p1, .long (cst 3 p2 p1), .long 0])))) := hD
            have hw : wh_wheel σ p1 p2 = 0 := by simp only [wh_wheel, if_pos (yIn_h c_1 c_2), if_pos c_3, if_neg (fun g => c_4 (isZ_iff.mpr g)), if_neg (nfull c_5)]
            refine W.widen (k := 1) (n := 3) (Nat.le_of_ble_eq_true rfl) (Nat.le_of_ble_eq_true rfl) ?_
            exact W.iret (v := (σ.1 2 0)) hx hb hr (fun t ht hW => ⟨⟨_, (cX x0 b z 0 ((σ.1 2 0) + 1) (σ.1 2 1) (σ.1 2 2) (σ.1 2 3) (σ.1 2 4) (σ.1 1) (va_up (g 0) (σ.1 2 0).toNatClampNeg (some q)) (g 1) (g 2) (g 3) (g 4) ++ va_pl (L ++ [q]) (va_up f q (.inr (4, [.int p1, .long (cst 3 p2 p1), .long 0])))), rfl, ⟨by rw [an_wheel, if_pos hw]; try rfl, L ++ [q], va_up f q (.inr (4, [.int p1, .long (cst 3 p2 p1), .long 0])), adp ad 0 (cN σ 0) q, fun t => if t = 0 then va_up (g 0) (cN σ 0) (some q) else g t, by rw [nw_wheel, if_pos hw]; rfl, by rw [nw_wheel, if_pos hw]; exact CI_wheel hV hC hqq⟩, by rw [ht]; exact hP, va_K.moved hW.alike hK, hD⟩, hS.F ht⟩) hS.2.2 dX7_wheel_99
          · refine lv_aload_n hx hb dX7_wheel_58 rfl (lv_at hl 1 rfl) ?_
            refine lv_bipush (v := (-3)) hx hb dX7_wheel_59 (by decide) ?_
            have hFc := wFree hD hS hA
            refine va_calli (va_runV (As := [.int (-3)]) (rest := []) ⟨hx, hb, hml, hown, hts⟩ (met_X7_refuse l Dg x0 s.heap.size b z (σ.1 0 0) (σ.1 2 0) (σ.1 2 1) (σ.1 2 2) (σ.1 2 3) (σ.1 2 4) (σ.1 1) (g 0) (g 1) (g 2) (g 3) (g 4) L f (-3) (by decide) (by unfold vp_in; decide)) (cwV 1 hts gX7_wheel_X7_refuse rfl rfl rfl (by decide +kernel) ⟨Nat.le_of_ble_eq_true rfl, Nat.le_of_ble_eq_true rfl⟩) (wPreV hK hP (hD.weaken (fun _ _ _ _ => trivial)) (va_recv hK hP (ci := 5) (q0 := 0) rfl rfl)) rfl rfl hl.1 rfl (lv_room (Nat.le_of_ble_eq_true rfl)) dX7_wheel_61 ⟨Nat.le_of_ble_eq_true rfl, Nat.le_of_ble_eq_true rfl⟩) hS (fun q _ h => hFc q h) hFc (fun r u t H locs ht hvm hw hB _ _ hS => ?_)
            obtain ⟨hP, -, hD⟩ := hB
            rw [ht] at hP
            replace hD := hD.weaken (fun _ q _ h => hFc q.1 h)
            rw [hw.2] at hP hD
            rw [hw.1]
            clear hw hFc
            have hP : va_P Dg vwCl (cX x0 b z (-3) (σ.1 2 0) (σ.1 2 1) (σ.1 2 2) (σ.1 2 3) (σ.1 2 4) (rfO (-3) (σ.1 1)) (g 0) (g 1) (g 2) (g 3) (g 4) ++ va_pl L f) H := hP
            have hD : va_D A (cX x0 b z (-3) (σ.1 2 0) (σ.1 2 1) (σ.1 2 2) (σ.1 2 3) (σ.1 2 4) (rfO (-3) (σ.1 1)) (g 0) (g 1) (g 2) (g 3) (g 4) ++ va_pl L f) := hD
            have hw : wh_wheel σ p1 p2 = (-3) := by simp only [wh_wheel, if_pos (yIn_h c_1 c_2), if_pos c_3, if_neg (fun g => c_4 (isZ_iff.mpr g)), if_pos (full_of hV.1.1 rfl c_5)]
            have hn : ¬ wh_wheel σ p1 p2 = 0 := by rw [hw]; decide
            refine W.widen (k := 1) (n := 3) (Nat.le_of_ble_eq_true rfl) (Nat.le_of_ble_eq_true rfl) ?_
            exact W.iret (v := (-3)) hx hb hr (fun t ht hW => ⟨⟨_, (cX x0 b z (-3) (σ.1 2 0) (σ.1 2 1) (σ.1 2 2) (σ.1 2 3) (σ.1 2 4) (rfO (-3) (σ.1 1)) (g 0) (g 1) (g 2) (g 3) (g 4) ++ va_pl L f), rfl, ⟨by rw [an_wheel, if_neg hn, hw]; try rfl, L, f, ad, g, by rw [nw_wheel, if_neg hn, hw]; rfl, by rw [nw_wheel, if_neg hn]; exact CI_rf hC _⟩, by rw [ht]; exact hP, va_K.moved hW.alike hK, hD⟩, hS.F ht⟩) hS.2.2 dX7_wheel_64
        · replace c_4 := bI_ne c_4
          refine lv_aload_n hx hb dX7_wheel_42 rfl (lv_at hl 1 rfl) ?_
          refine lv_bipush (v := (-2)) hx hb dX7_wheel_43 (by decide) ?_
          have hFc := wFree hD hS hA
          refine va_calli (va_runV (As := [.int (-2)]) (rest := []) ⟨hx, hb, hml, hown, hts⟩ (met_X7_refuse l Dg x0 s.heap.size b z (σ.1 0 0) (σ.1 2 0) (σ.1 2 1) (σ.1 2 2) (σ.1 2 3) (σ.1 2 4) (σ.1 1) (g 0) (g 1) (g 2) (g 3) (g 4) L f (-2) (by decide) (by unfold vp_in; decide)) (cwV 1 hts gX7_wheel_X7_refuse rfl rfl rfl (by decide +kernel) ⟨Nat.le_of_ble_eq_true rfl, Nat.le_of_ble_eq_true rfl⟩) (wPreV hK hP (hD.weaken (fun _ _ _ _ => trivial)) (va_recv hK hP (ci := 5) (q0 := 0) rfl rfl)) rfl rfl hl.1 rfl (lv_room (Nat.le_of_ble_eq_true rfl)) dX7_wheel_45 ⟨Nat.le_of_ble_eq_true rfl, Nat.le_of_ble_eq_true rfl⟩) hS (fun q _ h => hFc q h) hFc (fun r u t H locs ht hvm hw hB _ _ hS => ?_)
          obtain ⟨hP, -, hD⟩ := hB
          rw [ht] at hP
          replace hD := hD.weaken (fun _ q _ h => hFc q.1 h)
          rw [hw.2] at hP hD
          rw [hw.1]
          clear hw hFc
          have hP : va_P Dg vwCl (cX x0 b z (-2) (σ.1 2 0) (σ.1 2 1) (σ.1 2 2) (σ.1 2 3) (σ.1 2 4) (rfO (-2) (σ.1 1)) (g 0) (g 1) (g 2) (g 3) (g 4) ++ va_pl L f) H := hP
          have hD : va_D A (cX x0 b z (-2) (σ.1 2 0) (σ.1 2 1) (σ.1 2 2) (σ.1 2 3) (σ.1 2 4) (rfO (-2) (σ.1 1)) (g 0) (g 1) (g 2) (g 3) (g 4) ++ va_pl L f) := hD
          have hw : wh_wheel σ p1 p2 = (-2) := by simp only [wh_wheel, if_pos (yIn_h c_1 c_2), if_pos c_3, if_pos (isZ_iff.mp c_4)]
          have hn : ¬ wh_wheel σ p1 p2 = 0 := by rw [hw]; decide
          refine W.widen (k := 1) (n := 3) (Nat.le_of_ble_eq_true rfl) (Nat.le_of_ble_eq_true rfl) ?_
          exact W.iret (v := (-2)) hx hb hr (fun t ht hW => ⟨⟨_, (cX x0 b z (-2) (σ.1 2 0) (σ.1 2 1) (σ.1 2 2) (σ.1 2 3) (σ.1 2 4) (rfO (-2) (σ.1 1)) (g 0) (g 1) (g 2) (g 3) (g 4) ++ va_pl L f), rfl, ⟨by rw [an_wheel, if_neg hn, hw]; try rfl, L, f, ad, g, by rw [nw_wheel, if_neg hn, hw]; rfl, by rw [nw_wheel, if_neg hn]; exact CI_rf hC _⟩, by rw [ht]; exact hP, va_K.moved hW.alike hK, hD⟩, hS.F ht⟩) hS.2.2 dX7_wheel_48
      · replace c_3 := bI_eq c_3
        replace c_3 := mt (num2_eq).mpr c_3
        refine lv_aload_n hx hb dX7_wheel_18 rfl (lv_at hl 0 rfl) ?_
        refine lv_bipush (v := (-2)) hx hb dX7_wheel_19 (by decide) ?_
        have hFc := wFree hD hS hA
        refine va_calli (va_runV (As := [.int (-2)]) (rest := []) ⟨hx, hb, hml, hown, hts⟩ (met_X7_refuse l Dg x0 s.heap.size b z (σ.1 0 0) (σ.1 2 0) (σ.1 2 1) (σ.1 2 2) (σ.1 2 3) (σ.1 2 4) (σ.1 1) (g 0) (g 1) (g 2) (g 3) (g 4) L f (-2) (by decide) (by unfold vp_in; decide)) (cwV 1 hts gX7_wheel_X7_refuse rfl rfl rfl (by decide +kernel) ⟨Nat.le_of_ble_eq_true rfl, Nat.le_of_ble_eq_true rfl⟩) (wPreV hK hP (hD.weaken (fun _ _ _ _ => trivial)) (va_recv hK hP (ci := 5) (q0 := 0) rfl rfl)) rfl rfl hl.1 rfl (lv_room (Nat.le_of_ble_eq_true rfl)) dX7_wheel_21 ⟨Nat.le_of_ble_eq_true rfl, Nat.le_of_ble_eq_true rfl⟩) hS (fun q _ h => hFc q h) hFc (fun r u t H locs ht hvm hw hB _ _ hS => ?_)
        obtain ⟨hP, -, hD⟩ := hB
        rw [ht] at hP
        replace hD := hD.weaken (fun _ q _ h => hFc q.1 h)
        rw [hw.2] at hP hD
        rw [hw.1]
        clear hw hFc
        have hP : va_P Dg vwCl (cX x0 b z (-2) (σ.1 2 0) (σ.1 2 1) (σ.1 2 2) (σ.1 2 3) (σ.1 2 4) (rfO (-2) (σ.1 1)) (g 0) (g 1) (g 2) (g 3) (g 4) ++ va_pl L f) H := hP
        have hD : va_D A (cX x0 b z (-2) (σ.1 2 0) (σ.1 2 1) (σ.1 2 2) (σ.1 2 3) (σ.1 2 4) (rfO (-2) (σ.1 1)) (g 0) (g 1) (g 2) (g 3) (g 4) ++ va_pl L f) := hD
        have hw : wh_wheel σ p1 p2 = (-2) := by simp only [wh_wheel, if_pos (yIn_h c_1 c_2), if_neg c_3]
        have hn : ¬ wh_wheel σ p1 p2 = 0 := by rw [hw]; decide
        refine W.widen (k := 1) (n := 3) (Nat.le_of_ble_eq_true rfl) (Nat.le_of_ble_eq_true rfl) ?_
        exact W.iret (v := (-2)) hx hb hr (fun t ht hW => ⟨⟨_, (cX x0 b z (-2) (σ.1 2 0) (σ.1 2 1) (σ.1 2 2) (σ.1 2 3) (σ.1 2 4) (rfO (-2) (σ.1 1)) (g 0) (g 1) (g 2) (g 3) (g 4) ++ va_pl L f), rfl, ⟨by rw [an_wheel, if_neg hn, hw]; try rfl, L, f, ad, g, by rw [nw_wheel, if_neg hn, hw]; rfl, by rw [nw_wheel, if_neg hn]; exact CI_rf hC _⟩, by rw [ht]; exact hP, va_K.moved hW.alike hK, hD⟩, hS.F ht⟩) hS.2.2 dX7_wheel_24

theorem in_X7_X7_register : ∀ w ∈ wsX70, w ∈ wsX7_register := fun w h => List.mem_cons_of_mem _ (List.mem_append_left _ (List.mem_append_right _ h))
theorem in_X3_X7_register : ∀ w ∈ wsX30, w ∈ wsX7_register := fun w h => List.mem_cons_of_mem _ (List.mem_append_right _ h)
set_option maxHeartbeats 4000000 in
set_option maxRecDepth 100000 in
theorem met_X7_register (l : Launch) (Dg : va_G) (x0 sz : Nat) (b : Nat → Nat) (z : Nat → ClassId) (σ : St) (L : List Nat) (f : Nat → va_E) (ad : Nat → Nat → Nat) (g : Nat → Nat → Option Nat) (p1 : Int32) (hV : vOK σ) (hC : CI z σ L f ad g)  : Met l yX7_register wsX7_register ({ frames := 2, cells := 1, slots := 2, locals := 33 }) (va_Pc [.ref x0, .int p1] (wB Dg (cT z) (cX x0 b z (σ.1 0 0) (σ.1 2 0) (σ.1 2 1) (σ.1 2 2) (σ.1 2 3) (σ.1 2 4) (σ.1 1) (g 0) (g 1) (g 2) (g 3) (g 4) ++ va_pl L f) sz)) (va_Qi (fun (r : Int32) (u : va_W) => r = an_register σ p1 ∧ CX x0 b z (nw_register σ p1) u) (wE Dg (cT z) (va_A (cX x0 b z (σ.1 0 0) (σ.1 2 0) (σ.1 2 1) (σ.1 2 2) (σ.1 2 3) (σ.1 2 4) (σ.1 1) (g 0) (g 1) (g 2) (g 3) (g 4) ++ va_pl L f) sz)) (va_A (cX x0 b z (σ.1 0 0) (σ.1 2 0) (σ.1 2 1) (σ.1 2 2) (σ.1 2 3) (σ.1 2 4) (σ.1 1) (g 0) (g 1) (g 2) (g 3) (g 4) ++ va_pl L f) sz)) 1 2 (va_A (cX x0 b z (σ.1 0 0) (σ.1 2 0) (σ.1 2 1) (σ.1 2 2) (σ.1 2 3) (σ.1 2 4) (σ.1 1) (g 0) (g 1) (g 2) (g 3) (g 4) ++ va_pl L f) sz) := by
  refine Met.ofW (cc := cX7_register) (maxL := 2) (ret := (some .int)) (by decide) rfl ?_
  intro p e s m args below meth c s₁ B hml hv
  obtain ⟨rfl, hsz, hP, hK, hD0⟩ := hv
  have hx := B.exec
  have hb := B.bytes
  have hr := B.returns
  have hts := atoms_spec (ws := wsX7_register) B.pre
  have hown : s.vm.findClass RX7 = some m.cls := findClass_of_methodNamed B.named
  have hlocks := B.notSynchronized
  subst hsz
  have hD := hD0.self (sz := s.heap.size)
  generalize hAe : va_A (cX x0 b z (σ.1 0 0) (σ.1 2 0) (σ.1 2 1) (σ.1 2 2) (σ.1 2 3) (σ.1 2 4) (σ.1 1) (g 0) (g 1) (g 2) (g 3) (g 4) ++ va_pl L f) s.heap.size = A at hD ⊢
  have hA : ∀ q : Nat, s.heap.size ≤ q → A q := fun q h => by rw [← hAe]; exact Or.inr h
  have hS : va_S A s.heap s.heap [] := va_S.rf
  have hP : va_P Dg vwCl (cX x0 b z (σ.1 0 0) (σ.1 2 0) (σ.1 2 1) (σ.1 2 2) (σ.1 2 3) (σ.1 2 4) (σ.1 1) (g 0) (g 1) (g 2) (g 3) (g 4) ++ va_pl L f) s.heap := hP
  have hl := lv_entry ([.ref x0, .int p1]) (n := 2) (Nat.le_of_ble_eq_true rfl)
  rw [lg_entry_eq]
  generalize (lg_sl ([.ref x0, .int p1]) ++ List.replicate (2 - (lg_sl ([.ref x0, .int p1])).length) Slot.unset).toArray = ls at hl ⊢
  have hl : lv_has ls 2 [(0, .ref x0), (1, .int p1)] := hl
  refine lv_iload_n hx hb dX7_register_0 rfl (lv_at hl 1 rfl) ?_
  refine vp_callSi ((va_runS (As := [.int p1]) (rest := []) ⟨hx, hb, hml, hown, hts⟩ (met_X0_isKind l p1) (va_cwS 1 hts gX7_register_X0_isKind rfl rfl rfl (by decide +kernel) ⟨Nat.le_of_ble_eq_true rfl, Nat.le_of_ble_eq_true rfl⟩) ⟨fun _ _ _ _ q => q, fun U hU hW => ⟨rfl, trivial⟩⟩ rfl rfl hl.1 rfl (lv_room (Nat.le_of_ble_eq_true rfl)) dX7_register_1 ⟨Nat.le_of_ble_eq_true rfl, Nat.le_of_ble_eq_true rfl⟩).run) (fun r hw => ?_)
  subst hw
  refine lv_if_ne (tgt := 14) hx hb dX7_register_4 (by decide) (fun c_1 => ?_) (fun c_1 => ?_)
  · replace c_1 := bI_ne c_1
    replace c_1 := (kind_eq).mp c_1
    refine lv_aload_n hx hb dX7_register_14 rfl (lv_at hl 0 rfl) ?_
    refine va_get (D := Dg) (ci := 5) (v := .int (σ.1 2 1)) (C := RX7) (T := TX7) (N := 12) hx hb hts in_X7_X7_register hown hK hP 0 rfl rfl 6 (by decide) (hts (.fieldLink RX7 43 "OrreryWorks" "registerCount" "I") (by decide +kernel)) (fun _ h9 => h9) rfl dX7_register_15 ?_
    refine lv_bipush (v := 16) hx hb dX7_register_18 (by decide) ?_
    refine lv_icmp_lt (tgt := 30) hx hb dX7_register_20 (by decide) (fun c_2 => ?_) (fun c_2 => ?_)
    · refine lv_aload_n hx hb dX7_register_30 rfl (lv_at hl 0 rfl) ?_
      refine va_get (D := Dg) (ci := 5) (v := .ref (b 1)) (C := RX7) (T := TX7) (N := 12) hx hb hts in_X7_X7_register hown hK hP 0 rfl rfl 1 (by decide) (hts (.fieldLink RX7 17 "OrreryWorks" "registers" "[LOrreryWorks$Register;") (by decide +kernel)) (fun _ h9 => h9) rfl dX7_register_31 ?_
      refine lv_aload_n hx hb dX7_register_34 rfl (lv_at hl 0 rfl) ?_
      refine va_get (D := Dg) (ci := 5) (v := .int (σ.1 2 1)) (C := RX7) (T := TX7) (N := 12) hx hb hts in_X7_X7_register hown hK hP 0 rfl rfl 6 (by decide) (hts (.fieldLink RX7 43 "OrreryWorks" "registerCount" "I") (by decide +kernel)) (fun _ h9 => h9) rfl dX7_register_35 ?_
      have hqq := @va_pl_fresh2 A (cX x0 b z (σ.1 0 0) (σ.1 2 0) (σ.1 2 1) (σ.1 2 2) (σ.1 2 3) (σ.1 2 4) (σ.1 1) (g 0) (g 1) (g 2) (g 3) (g 4)) L f
      refine va_new (c0 := c) (D := Dg) (ci := 1) (C := RX3) (T := TX3) (N := 2) (fs := [.int 0, .long 0]) hx hb hts in_X3_X7_register tyX3 tyX3_ok hown (hts (.classLink RX7 15 RX3) (by decide +kernel)) (hts (.instantiable RX3 2) (by decide +kernel)) (hts (.initialized RX3) (by decide +kernel)) hK hP hD hS hA rfl (by decide +kernel) (Nat.le_of_ble_eq_true rfl) (Nat.le_of_ble_eq_true rfl) dX7_register_38 (fun q H hP hD hS => ?_)
      have hP : va_P Dg vwCl ((cX x0 b z (σ.1 0 0) (σ.1 2 0) (σ.1 2 1) (σ.1 2 2) (σ.1 2 3) (σ.1 2 4) (σ.1 1) (g 0) (g 1) (g 2) (g 3) (g 4) ++ va_pl L f) ++ [(q, .inr (1, [.int 0, .long 0]))]) H := hP
      have hD : va_D A ((cX x0 b z (σ.1 0 0) (σ.1 2 0) (σ.1 2 1) (σ.1 2 2) (σ.1 2 3) (σ.1 2 4) (σ.1 1) (g 0) (g 1) (g 2) (g 3) (g 4) ++ va_pl L f) ++ [(q, .inr (1, [.int 0, .long 0]))]) := hD
      replace hqq := hqq hD
      refine lv_dup hx hb dX7_register_41 rfl ?_
      refine lv_iload_n hx hb dX7_register_42 rfl (lv_at hl 1 rfl) ?_
      have hPc := P_last hP
      have hDc := D_last hD
      have hKc := hK.sub (tys' := []) [] rfl
      have hFc : ∀ q9, va_A [(q, .inr (1, [.int 0, .long 0]))] H.size q9 → A q9 := fun q9 h => h.elim (fun ⟨k, e9, hk⟩ => hDc.2 k (q9, e9) hk) (fun h => hA q9 (Nat.le_trans hS.1 h))
      refine va_callv (va_runI (As := [.int p1]) (rest := [.ref q, .int (σ.1 2 1), .ref (b 1)]) ⟨hx, hb, hml, hown, hts⟩ (met_X3_init l Dg q H.size p1) (cwI 1 hts gX7_register_X3_init rfl rfl rfl (hts (.initialized RX3) (by decide +kernel)) (hts (.methodLink RX7 131 yX3_init) (by decide +kernel)) (hts (.instanceMethod yX3_init) (by decide +kernel)) rfl (by decide +kernel) ⟨Nat.le_of_ble_eq_true rfl, Nat.le_of_ble_eq_true rfl⟩) (wPreI hKc hPc (hDc.weaken (fun _ _ _ _ => trivial))) rfl rfl hl.1 rfl (lv_room (Nat.le_of_ble_eq_true rfl)) dX7_register_43 ⟨Nat.le_of_ble_eq_true rfl, Nat.le_of_ble_eq_true rfl⟩) hS (fun q9 _ h => hFc q9 h) hFc (fun u t H1 locs ht hvm hw hB _ hk1 hS => ?_)
      obtain ⟨hP1, -, hD1⟩ := hB
      rw [ht] at hP1
      rw [hw] at hP1 hD1
      obtain ⟨hP, hD⟩ := ct_join hP hD hk1 hFc hP1 hD1
      rw [pl_push1 hqq] at hP hD
      have hP : va_P Dg vwCl (cX x0 b z (σ.1 0 0) (σ.1 2 0) (σ.1 2 1) (σ.1 2 2) (σ.1 2 3) (σ.1 2 4) (σ.1 1) (g 0) (g 1) (g 2) (g 3) (g 4) ++ va_pl (L ++ [q]) (va_up f q (.inr (1, [.int p1, .long 0])))) H1 := hP
      have hD : va_D A (cX x0 b z (σ.1 0 0) (σ.1 2 0) (σ.1 2 1) (σ.1 2 2) (σ.1 2 3) (σ.1 2 4) (σ.1 1) (g 0) (g 1) (g 2) (g 3) (g 4) ++ va_pl (L ++ [q]) (va_up f q (.inr (1, [.int p1, .long 0])))) := hD
      obtain ⟨q9, h9⟩ := va_pl_get (X := cX x0 b z (σ.1 0 0) (σ.1 2 0) (σ.1 2 1) (σ.1 2 2) (σ.1 2 3) (σ.1 2 4) (σ.1 1) (g 0) (g 1) (g 2) (g 3) (g 4)) (f := va_up f q (.inr (1, [.int p1, .long 0]))) (List.mem_append_right _ (List.mem_singleton.mpr rfl))
      rw [va_up_self _ _ _] at h9
      refine va_astq hx hb hK hP hD hS 2 1 q9 1 rfl rfl h9 rfl (top_in hV.1.2.1 rfl (nfull c_2)) dX7_register_46 (fun H locs hP hD hS => ?_)
      clear h9
      have hP : va_P Dg vwCl (cX x0 b z (σ.1 0 0) (σ.1 2 0) (σ.1 2 1) (σ.1 2 2) (σ.1 2 3) (σ.1 2 4) (σ.1 1) (g 0) (va_up (g 1) (σ.1 2 1).toNatClampNeg (some q)) (g 2) (g 3) (g 4) ++ va_pl (L ++ [q]) (va_up f q (.inr (1, [.int p1, .long 0])))) H := hP
      have hD : va_D A (cX x0 b z (σ.1 0 0) (σ.1 2 0) (σ.1 2 1) (σ.1 2 2) (σ.1 2 3) (σ.1 2 4) (σ.1 1) (g 0) (va_up (g 1) (σ.1 2 1).toNatClampNeg (some q)) (g 2) (g 3) (g 4) ++ va_pl (L ++ [q]) (va_up f q (.inr (1, [.int p1, .long 0])))) := hD
      refine lv_aload_n hx hb dX7_register_47 rfl (lv_at hl 0 rfl) ?_
      refine lv_aload_n hx hb dX7_register_48 rfl (lv_at hl 0 rfl) ?_
      refine lv_dup hx hb dX7_register_49 rfl ?_
      refine va_get (D := Dg) (ci := 5) (v := .int (σ.1 2 1)) (C := RX7) (T := TX7) (N := 12) hx hb hts in_X7_X7_register hown hK hP 0 rfl rfl 6 (by decide) (hts (.fieldLink RX7 43 "OrreryWorks" "registerCount" "I") (by decide +kernel)) (fun _ h9 => h9) rfl dX7_register_50 ?_
      refine lv_dup_x1 hx hb dX7_register_53 rfl rfl ?_
      refine lv_iconst (v := 1) hx hb dX7_register_54 (by decide) ?_
      refine lv_iadd hx hb dX7_register_55 ?_
      refine va_put (D := Dg) (ci := 5) (v := .int ((σ.1 2 1) + 1)) (ty := .int) (C := RX7) (T := TX7) (N := 12) hx hb hts in_X7_X7_register tyX7 tyX7_ok nmX7 hown hK hP hD hS 0 rfl rfl 6 (by decide) (hts (.fieldLink RX7 43 "OrreryWorks" "registerCount" "I") (by decide +kernel)) (fun _ h9 => h9) rfl (by decide +kernel) rfl rfl (Nat.le_of_ble_eq_true rfl) dX7_register_56 (fun H locs hP hD hS => ?_)
      have hP : va_P Dg vwCl (cX x0 b z (σ.1 0 0) (σ.1 2 0) ((σ.1 2 1) + 1) (σ.1 2 2) (σ.1 2 3) (σ.1 2 4) (σ.1 1) (g 0) (va_up (g 1) (σ.1 2 1).toNatClampNeg (some q)) (g 2) (g 3) (g 4) ++ va_pl (L ++ [q]) (va_up f q (.inr (1, [.int p1, .long 0])))) H := hP
      have hD : va_D A (cX x0 b z (σ.1 0 0) (σ.1 2 0) ((σ.1 2 1) + 1) (σ.1 2 2) (σ.1 2 3) (σ.1 2 4) (σ.1 1) (g 0) (va_up (g 1) (σ.1 2 1).toNatClampNeg (some q)) (g 2) (g 3) (g 4) ++ va_pl (L ++ [q]) (va_up f q (.inr (1, [.int p1, .long 0])))) := hD
      have hFc := wFree hD hS hA
      refine va_calli (va_runV (As := [.int (σ.1 2 1)]) (rest := []) ⟨hx, hb, hml, hown, hts⟩ (met_X7_answer l Dg x0 H.size b z (σ.1 0 0) (σ.1 2 0) ((σ.1 2 1) + 1) (σ.1 2 2) (σ.1 2 3) (σ.1 2 4) (σ.1 1) (g 0) (va_up (g 1) (σ.1 2 1).toNatClampNeg (some q)) (g 2) (g 3) (g 4) (L ++ [q]) (va_up f q (.inr (1, [.int p1, .long 0]))) (σ.1 2 1) ) (cwV 1 hts gX7_register_X7_answer rfl rfl rfl (by decide +kernel) ⟨Nat.le_of_ble_eq_true rfl, Nat.le_of_ble_eq_true rfl⟩) (wPreV hK hP (hD.weaken (fun _ _ _ _ => trivial)) (va_recv hK hP (ci := 5) (q0 := 0) rfl rfl)) rfl rfl hl.1 rfl (lv_room (Nat.le_of_ble_eq_true rfl)) dX7_register_59 ⟨Nat.le_of_ble_eq_true rfl, Nat.le_of_ble_eq_true rfl⟩) hS (fun q _ h => hFc q h) hFc (fun r u t H locs ht hvm hw hB _ _ hS => ?_)
      obtain ⟨hP, -, hD⟩ := hB
      rw [ht] at hP
      replace hD := hD.weaken (fun _ q _ h => hFc q.1 h)
      rw [hw.2] at hP hD
      rw [hw.1]
      clear hw hFc
      have hP : va_P Dg vwCl (cX x0 b z 0 (σ.1 2 0) ((σ.1 2 1) + 1) (σ.1 2 2) (σ.1 2 3) (σ.1 2 4) (σ.1 1) (g 0) (va_up (g 1) (σ.1 2 1).toNatClampNeg (some q)) (g 2) (g 3) (g 4) ++ va_pl (L ++ [q]) (va_up f q (.inr (1, [.int p1, .long 0])))) H := hP
      have hD : va_D A (cX x0 b z 0 (σ.1 2 0) ((σ.1 2 1) + 1) (σ.1 2 2) (σ.1 2 3) (σ.1 2 4) (σ.1 1) (g 0) (va_up (g 1) (σ.1 2 1).toNatClampNeg (some q)) (g 2) (g 3) (g 4) ++ va_pl (L ++ [q]) (va_up f q (.inr (1, [.int p1, .long 0])))) := hD
      have hw : wh_register σ p1 = 0 := by simp only [wh_register, if_pos c_1, if_neg (nfull c_2)]
      refine W.widen (k := 1) (n := 2) (Nat.le_of_ble_eq_true rfl) (Nat.le_of_ble_eq_true rfl) ?_
      exact W.iret (v := (σ.1 2 1)) hx hb hr (fun t ht hW => ⟨⟨_, (cX x0 b z 0 (σ.1 2 0) ((σ.1 2 1) + 1) (σ.1 2 2) (σ.1 2 3) (σ.1 2 4) (σ.1 1) (g 0) (va_up (g 1) (σ.1 2 1).toNatClampNeg (some q)) (g 2) (g 3) (g 4) ++ va_pl (L ++ [q]) (va_up f q (.inr (1, [.int p1, .long 0])))), rfl, ⟨by rw [an_register, if_pos hw]; try rfl, L ++ [q], va_up f q (.inr (1, [.int p1, .long 0])), adp ad 1 (cN σ 1) q, fun t => if t = 1 then va_up (g 1) (cN σ 1) (some q) else g t, by rw [nw_register, if_pos hw]; rfl, by rw [nw_register, if_pos hw]; exact CI_reg hV hC hqq⟩, by rw [ht]; exact hP, va_K.moved hW.alike hK, hD⟩, hS.F ht⟩) hS.2.2 dX7_register_62
    · refine lv_aload_n hx hb dX7_register_23 rfl (lv_at hl 0 rfl) ?_
      refine lv_bipush (v := (-3)) hx hb dX7_register_24 (by decide) ?_
      have hFc := wFree hD hS hA
      refine va_calli (va_runV (As := [.int (-3)]) (rest := []) ⟨hx, hb, hml, hown, hts⟩ (met_X7_refuse l Dg x0 s.heap.size b z (σ.1 0 0) (σ.1 2 0) (σ.1 2 1) (σ.1 2 2) (σ.1 2 3) (σ.1 2 4) (σ.1 1) (g 0) (g 1) (g 2) (g 3) (g 4) L f (-3) (by decide) (by unfold vp_in; decide)) (cwV 1 hts gX7_register_X7_refuse rfl rfl rfl (by decide +kernel) ⟨Nat.le_of_ble_eq_true rfl, Nat.le_of_ble_eq_true rfl⟩) (wPreV hK hP (hD.weaken (fun _ _ _ _ => trivial)) (va_recv hK hP (ci := 5) (q0 := 0) rfl rfl)) rfl rfl hl.1 rfl (lv_room (Nat.le_of_ble_eq_true rfl)) dX7_register_26 ⟨Nat.le_of_ble_eq_true rfl, Nat.le_of_ble_eq_true rfl⟩) hS (fun q _ h => hFc q h) hFc (fun r u t H locs ht hvm hw hB _ _ hS => ?_)
      obtain ⟨hP, -, hD⟩ := hB
      rw [ht] at hP
      replace hD := hD.weaken (fun _ q _ h => hFc q.1 h)
      rw [hw.2] at hP hD
      rw [hw.1]
      clear hw hFc
      have hP : va_P Dg vwCl (cX x0 b z (-3) (σ.1 2 0) (σ.1 2 1) (σ.1 2 2) (σ.1 2 3) (σ.1 2 4) (rfO (-3) (σ.1 1)) (g 0) (g 1) (g 2) (g 3) (g 4) ++ va_pl L f) H := hP
      have hD : va_D A (cX x0 b z (-3) (σ.1 2 0) (σ.1 2 1) (σ.1 2 2) (σ.1 2 3) (σ.1 2 4) (rfO (-3) (σ.1 1)) (g 0) (g 1) (g 2) (g 3) (g 4) ++ va_pl L f) := hD
      have hw : wh_register σ p1 = (-3) := by simp only [wh_register, if_pos c_1, if_pos (full_of hV.1.2.1 rfl c_2)]
      have hn : ¬ wh_register σ p1 = 0 := by rw [hw]; decide
      refine W.widen (k := 1) (n := 2) (Nat.le_of_ble_eq_true rfl) (Nat.le_of_ble_eq_true rfl) ?_
      exact W.iret (v := (-3)) hx hb hr (fun t ht hW => ⟨⟨_, (cX x0 b z (-3) (σ.1 2 0) (σ.1 2 1) (σ.1 2 2) (σ.1 2 3) (σ.1 2 4) (rfO (-3) (σ.1 1)) (g 0) (g 1) (g 2) (g 3) (g 4) ++ va_pl L f), rfl, ⟨by rw [an_register, if_neg hn, hw]; try rfl, L, f, ad, g, by rw [nw_register, if_neg hn, hw]; rfl, by rw [nw_register, if_neg hn]; exact CI_rf hC _⟩, by rw [ht]; exact hP, va_K.moved hW.alike hK, hD⟩, hS.F ht⟩) hS.2.2 dX7_register_29
  · replace c_1 := bI_eq c_1
    replace c_1 := mt (kind_eq).mpr c_1
    refine lv_aload_n hx hb dX7_register_7 rfl (lv_at hl 0 rfl) ?_
    refine lv_bipush (v := (-2)) hx hb dX7_register_8 (by decide) ?_
    have hFc := wFree hD hS hA
    refine va_calli (va_runV (As := [.int (-2)]) (rest := []) ⟨hx, hb, hml, hown, hts⟩ (met_X7_refuse l Dg x0 s.heap.size b z (σ.1 0 0) (σ.1 2 0) (σ.1 2 1) (σ.1 2 2) (σ.1 2 3) (σ.1 2 4) (σ.1 1) (g 0) (g 1) (g 2) (g 3) (g 4) L f (-2) (by decide) (by unfold vp_in; decide)) (cwV 1 hts gX7_register_X7_refuse rfl rfl rfl (by decide +kernel) ⟨Nat.le_of_ble_eq_true rfl, Nat.le_of_ble_eq_true rfl⟩) (wPreV hK hP (hD.weaken (fun _ _ _ _ => trivial)) (va_recv hK hP (ci := 5) (q0 := 0) rfl rfl)) rfl rfl hl.1 rfl (lv_room (Nat.le_of_ble_eq_true rfl)) dX7_register_10 ⟨Nat.le_of_ble_eq_true rfl, Nat.le_of_ble_eq_true rfl⟩) hS (fun q _ h => hFc q h) hFc (fun r u t H locs ht hvm hw hB _ _ hS => ?_)
    obtain ⟨hP, -, hD⟩ := hB
    rw [ht] at hP
    replace hD := hD.weaken (fun _ q _ h => hFc q.1 h)
    rw [hw.2] at hP hD
    rw [hw.1]
    clear hw hFc
    have hP : va_P Dg vwCl (cX x0 b z (-2) (σ.1 2 0) (σ.1 2 1) (σ.1 2 2) (σ.1 2 3) (σ.1 2 4) (rfO (-2) (σ.1 1)) (g 0) (g 1) (g 2) (g 3) (g 4) ++ va_pl L f) H := hP
    have hD : va_D A (cX x0 b z (-2) (σ.1 2 0) (σ.1 2 1) (σ.1 2 2) (σ.1 2 3) (σ.1 2 4) (rfO (-2) (σ.1 1)) (g 0) (g 1) (g 2) (g 3) (g 4) ++ va_pl L f) := hD
    have hw : wh_register σ p1 = (-2) := by simp only [wh_register, if_neg c_1]
    have hn : ¬ wh_register σ p1 = 0 := by rw [hw]; decide
    refine W.widen (k := 1) (n := 2) (Nat.le_of_ble_eq_true rfl) (Nat.le_of_ble_eq_true rfl) ?_
    exact W.iret (v := (-2)) hx hb hr (fun t ht hW => ⟨⟨_, (cX x0 b z (-2) (σ.1 2 0) (σ.1 2 1) (σ.1 2 2) (σ.1 2 3) (σ.1 2 4) (rfO (-2) (σ.1 1)) (g 0) (g 1) (g 2) (g 3) (g 4) ++ va_pl L f), rfl, ⟨by rw [an_register, if_neg hn, hw]; try rfl, L, f, ad, g, by rw [nw_register, if_neg hn, hw]; rfl, by rw [nw_register, if_neg hn]; exact CI_rf hC _⟩, by rw [ht]; exact hP, va_K.moved hW.alike hK, hD⟩, hS.F ht⟩) hS.2.2 dX7_register_13

theorem in_X7_X7_pointer : ∀ w ∈ wsX70, w ∈ wsX7_pointer := fun w h => List.mem_cons_of_mem _ (List.mem_append_left _ (List.mem_append_right _ h))
theorem in_X1_X7_pointer : ∀ w ∈ wsX10, w ∈ wsX7_pointer := fun w h => List.mem_cons_of_mem _ (List.mem_append_right _ h)
set_option maxHeartbeats 4000000 in
set_option maxRecDepth 100000 in
theorem met_X7_pointer (l : Launch) (Dg : va_G) (x0 sz : Nat) (b : Nat → Nat) (z : Nat → ClassId) (σ : St) (L : List Nat) (f : Nat → va_E) (ad : Nat → Nat → Nat) (g : Nat → Nat → Option Nat) (p1 : Int32) (p2 : Int32) (hV : vOK σ) (hC : CI z σ L f ad g)  : Met l yX7_pointer wsX7_pointer ({ frames := 2, cells := 1, slots := 2, locals := 34 }) (va_Pc [.ref x0, .int p1, .int p2] (wB Dg (cT z) (cX x0 b z (σ.1 0 0) (σ.1 2 0) (σ.1 2 1) (σ.1 2 2) (σ.1 2 3) (σ.1 2 4) (σ.1 1) (g 0) (g 1) (g 2) (g 3) (g 4) ++ va_pl L f) sz)) (va_Qi (fun (r : Int32) (u : va_W) => r = an_pointer σ p1 p2 ∧ CX x0 b z (nw_pointer σ p1 p2) u) (wE Dg (cT z) (va_A (cX x0 b z (σ.1 0 0) (σ.1 2 0) (σ.1 2 1) (σ.1 2 2) (σ.1 2 3) (σ.1 2 4) (σ.1 1) (g 0) (g 1) (g 2) (g 3) (g 4) ++ va_pl L f) sz)) (va_A (cX x0 b z (σ.1 0 0) (σ.1 2 0) (σ.1 2 1) (σ.1 2 2) (σ.1 2 3) (σ.1 2 4) (σ.1 1) (g 0) (g 1) (g 2) (g 3) (g 4) ++ va_pl L f) sz)) 1 2 (va_A (cX x0 b z (σ.1 0 0) (σ.1 2 0) (σ.1 2 1) (σ.1 2 2) (σ.1 2 3) (σ.1 2 4) (σ.1 1) (g 0) (g 1) (g 2) (g 3) (g 4) ++ va_pl L f) sz) := by
  refine Met.ofW (cc := cX7_pointer) (maxL := 4) (ret := (some .int)) (by decide) rfl ?_
  intro p e s m args below meth c s₁ B hml hv
  obtain ⟨rfl, hsz, hP, hK, hD0⟩ := hv
  have hx := B.exec
  have hb := B.bytes
  have hr := B.returns
  have hts := atoms_spec (ws := wsX7_pointer) B.pre
  have hown : s.vm.findClass RX7 = some m.cls := findClass_of_methodNamed B.named
  have hlocks := B.notSynchronized
  subst hsz
  have hD := hD0.self (sz := s.heap.size)
  generalize hAe : va_A (cX x0 b z (σ.1 0 0) (σ.1 2 0) (σ.1 2 1) (σ.1 2 2) (σ.1 2 3) (σ.1 2 4) (σ.1 1) (g 0) (g 1) (g 2) (g 3) (g 4) ++ va_pl L f) s.heap.size = A at hD ⊢
  have hA : ∀ q : Nat, s.heap.size ≤ q → A q := fun q h => by rw [← hAe]; exact Or.inr h
  have hS : va_S A s.heap s.heap [] := va_S.rf
  have hP : va_P Dg vwCl (cX x0 b z (σ.1 0 0) (σ.1 2 0) (σ.1 2 1) (σ.1 2 2) (σ.1 2 3) (σ.1 2 4) (σ.1 1) (g 0) (g 1) (g 2) (g 3) (g 4) ++ va_pl L f) s.heap := hP
  have hl := lv_entry ([.ref x0, .int p1, .int p2]) (n := 4) (Nat.le_of_ble_eq_true rfl)
  rw [lg_entry_eq]
  generalize (lg_sl ([.ref x0, .int p1, .int p2]) ++ List.replicate (4 - (lg_sl ([.ref x0, .int p1, .int p2])).length) Slot.unset).toArray = ls at hl ⊢
  have hl : lv_has ls 4 [(0, .ref x0), (1, .int p1), (2, .int p2)] := hl
  refine lv_aload_n hx hb dX7_pointer_0 rfl (lv_at hl 0 rfl) ?_
  refine lv_iload_n hx hb dX7_pointer_1 rfl (lv_at hl 2 rfl) ?_
  rcases Decidable.em (fX8_isIn p2 0 ((σ.1 2 0) - 1) = true) with c_1 | c_1
  · refine va_csq ((va_runV (As := [.int p2]) (rest := []) ⟨hx, hb, hml, hown, hts⟩ (met_X7_wheelAt l Dg x0 b z (σ.1 0 0) (σ.1 2 0) (σ.1 2 1) (σ.1 2 2) (σ.1 2 3) (σ.1 2 4) (σ.1 1) (g 0) (g 1) (g 2) (g 3) (g 4) L f p2 hV.1.1) (cwV 1 hts gX7_pointer_X7_wheelAt rfl rfl rfl (by decide +kernel) ⟨Nat.le_of_ble_eq_true rfl, Nat.le_of_ble_eq_true rfl⟩) (rPreV hK hP (va_recv hK hP (ci := 5) (q0 := 0) rfl rfl)) rfl rfl hl.1 rfl (lv_room (Nat.le_of_ble_eq_true rfl)) dX7_pointer_2 ⟨Nat.le_of_ble_eq_true rfl, Nat.le_of_ble_eq_true rfl⟩).run) (fun r hw => ?_)
    obtain rfl : r = some (ad 0 (ix p2)) := hw.trans ((if_pos c_1).trans (hC.2.1 _ (inC_lt hV.1.1 c_1)))
    refine W.eq (g2 := F0 m 5 ls [.ref (ad 0 (ix p2))]) rfl ?_
    have lt_2 := inC_lt hV.1.1 c_1
    have o_2 := hC.1.1 0 _ (by decide) lt_2
    have f_2 : f (ad 0 (ix p2)) = .inr (4, [.int (σ.1 3 (ix p2)), .long (σ.2 0 (ix p2)), .long (σ.2 1 (ix p2))]) := o_2.2
    refine lv_astore_n (lv' := [(3, .ref (ad 0 (ix p2))), (0, .ref x0), (1, .int p1), (2, .int p2)]) hx hb dX7_pointer_5 rfl hl (by decide) rfl (fun ls hl => ?_)
    refine lv_iload_n hx hb dX7_pointer_6 rfl (lv_at hl 2 rfl) ?_
    refine lv_if_lt (tgt := 19) hx hb dX7_pointer_7 (by decide) (fun c_3 => ?_) (fun c_3 => ?_)
    · refine lv_aload_n hx hb dX7_pointer_19 rfl (lv_at hl 1 rfl) ?_
      refine lv_bipush (v := (-2)) hx hb dX7_pointer_20 (by decide) ?_
      have hFc := wFree hD hS hA
      refine va_calli (va_runV (As := [.int (-2)]) (rest := []) ⟨hx, hb, hml, hown, hts⟩ (met_X7_refuse l Dg x0 s.heap.size b z (σ.1 0 0) (σ.1 2 0) (σ.1 2 1) (σ.1 2 2) (σ.1 2 3) (σ.1 2 4) (σ.1 1) (g 0) (g 1) (g 2) (g 3) (g 4) L f (-2) (by decide) (by unfold vp_in; decide)) (cwV 1 hts gX7_pointer_X7_refuse rfl rfl rfl (by decide +kernel) ⟨Nat.le_of_ble_eq_true rfl, Nat.le_of_ble_eq_true rfl⟩) (wPreV hK hP (hD.weaken (fun _ _ _ _ => trivial)) (va_recv hK hP (ci := 5) (q0 := 0) rfl rfl)) rfl rfl hl.1 rfl (lv_room (Nat.le_of_ble_eq_true rfl)) dX7_pointer_22 ⟨Nat.le_of_ble_eq_true rfl, Nat.le_of_ble_eq_true rfl⟩) hS (fun q _ h => hFc q h) hFc (fun r u t H locs ht hvm hw hB _ _ hS => ?_)
      obtain ⟨hP, -, hD⟩ := hB
      rw [ht] at hP
      replace hD := hD.weaken (fun _ q _ h => hFc q.1 h)
      rw [hw.2] at hP hD
      rw [hw.1]
      clear hw hFc
      have hP : va_P Dg vwCl (cX x0 b z (-2) (σ.1 2 0) (σ.1 2 1) (σ.1 2 2) (σ.1 2 3) (σ.1 2 4) (rfO (-2) (σ.1 1)) (g 0) (g 1) (g 2) (g 3) (g 4) ++ va_pl L f) H := hP
      have hD : va_D A (cX x0 b z (-2) (σ.1 2 0) (σ.1 2 1) (σ.1 2 2) (σ.1 2 3) (σ.1 2 4) (rfO (-2) (σ.1 1)) (g 0) (g 1) (g 2) (g 3) (g 4) ++ va_pl L f) := hD
      have hw : wh_pointer σ p1 p2 = (-2) := by simp only [wh_pointer, if_neg (nIn_l (b := 3) c_3), if_pos c_1]
      have hn : ¬ wh_pointer σ p1 p2 = 0 := by rw [hw]; decide
      refine W.widen (k := 1) (n := 2) (Nat.le_of_ble_eq_true rfl) (Nat.le_of_ble_eq_true rfl) ?_
      exact W.iret (v := (-2)) hx hb hr (fun t ht hW => ⟨⟨_, (cX x0 b z (-2) (σ.1 2 0) (σ.1 2 1) (σ.1 2 2) (σ.1 2 3) (σ.1 2 4) (rfO (-2) (σ.1 1)) (g 0) (g 1) (g 2) (g 3) (g 4) ++ va_pl L f), rfl, ⟨by rw [an_pointer, if_neg hn, hw]; try rfl, L, f, ad, g, by rw [nw_pointer, if_neg hn, hw]; rfl, by rw [nw_pointer, if_neg hn]; exact CI_rf hC _⟩, by rw [ht]; exact hP, va_K.moved hW.alike hK, hD⟩, hS.F ht⟩) hS.2.2 dX7_pointer_25
    · refine lv_iload_n hx hb dX7_pointer_10 rfl (lv_at hl 2 rfl) ?_
      refine lv_iconst (v := 3) hx hb dX7_pointer_11 (by decide) ?_
      refine lv_icmp_gt (tgt := 19) hx hb dX7_pointer_12 (by decide) (fun c_4 => ?_) (fun c_4 => ?_)
      · refine lv_aload_n hx hb dX7_pointer_19 rfl (lv_at hl 1 rfl) ?_
        refine lv_bipush (v := (-2)) hx hb dX7_pointer_20 (by decide) ?_
        have hFc := wFree hD hS hA
        refine va_calli (va_runV (As := [.int (-2)]) (rest := []) ⟨hx, hb, hml, hown, hts⟩ (met_X7_refuse l Dg x0 s.heap.size b z (σ.1 0 0) (σ.1 2 0) (σ.1 2 1) (σ.1 2 2) (σ.1 2 3) (σ.1 2 4) (σ.1 1) (g 0) (g 1) (g 2) (g 3) (g 4) L f (-2) (by decide) (by unfold vp_in; decide)) (cwV 1 hts gX7_pointer_X7_refuse rfl rfl rfl (by decide +kernel) ⟨Nat.le_of_ble_eq_true rfl, Nat.le_of_ble_eq_true rfl⟩) (wPreV hK hP (hD.weaken (fun _ _ _ _ => trivial)) (va_recv hK hP (ci := 5) (q0 := 0) rfl rfl)) rfl rfl hl.1 rfl (lv_room (Nat.le_of_ble_eq_true rfl)) dX7_pointer_22 ⟨Nat.le_of_ble_eq_true rfl, Nat.le_of_ble_eq_true rfl⟩) hS (fun q _ h => hFc q h) hFc (fun r u t H locs ht hvm hw hB _ _ hS => ?_)
        obtain ⟨hP, -, hD⟩ := hB
        rw [ht] at hP
        replace hD := hD.weaken (fun _ q _ h => hFc q.1 h)
        rw [hw.2] at hP hD
        rw [hw.1]
        clear hw hFc
        have hP : va_P Dg vwCl (cX x0 b z (-2) (σ.1 2 0) (σ.1 2 1) (σ.1 2 2) (σ.1 2 3) (σ.1 2 4) (rfO (-2) (σ.1 1)) (g 0) (g 1) (g 2) (g 3) (g 4) ++ va_pl L f) H := hP
        have hD : va_D A (cX x0 b z (-2) (σ.1 2 0) (σ.1 2 1) (σ.1 2 2) (σ.1 2 3) (σ.1 2 4) (rfO (-2) (σ.1 1)) (g 0) (g 1) (g 2) (g 3) (g 4) ++ va_pl L f) := hD
        have hw : wh_pointer σ p1 p2 = (-2) := by simp only [wh_pointer, if_neg (nIn_h (a := 0) c_4), if_pos c_1]
        have hn : ¬ wh_pointer σ p1 p2 = 0 := by rw [hw]; decide
        refine W.widen (k := 1) (n := 2) (Nat.le_of_ble_eq_true rfl) (Nat.le_of_ble_eq_true rfl) ?_
        exact W.iret (v := (-2)) hx hb hr (fun t ht hW => ⟨⟨_, (cX x0 b z (-2) (σ.1 2 0) (σ.1 2 1) (σ.1 2 2) (σ.1 2 3) (σ.1 2 4) (rfO (-2) (σ.1 1)) (g 0) (g 1) (g 2) (g 3) (g 4) ++ va_pl L f), rfl, ⟨by rw [an_pointer, if_neg hn, hw]; try rfl, L, f, ad, g, by rw [nw_pointer, if_neg hn, hw]; rfl, by rw [nw_pointer, if_neg hn]; exact CI_rf hC _⟩, by rw [ht]; exact hP, va_K.moved hW.alike hK, hD⟩, hS.F ht⟩) hS.2.2 dX7_pointer_25
      · refine lv_aload_n hx hb dX7_pointer_15 rfl (lv_at hl 0 rfl) ?_
        refine lv_ifnonnull (tgt := 26) hx hb dX7_pointer_16 (by decide) ?_
        refine lv_aload_n hx hb dX7_pointer_26 rfl (lv_at hl 1 rfl) ?_
        refine va_get (D := Dg) (ci := 5) (v := .int (σ.1 2 3)) (C := RX7) (T := TX7) (N := 12) hx hb hts in_X7_X7_pointer hown hK hP 0 rfl rfl 8 (by decide) (hts (.fieldLink RX7 49 "OrreryWorks" "pointerCount" "I") (by decide +kernel)) (fun _ h9 => h9) rfl dX7_pointer_27 ?_
        refine lv_bipush (v := 12) hx hb dX7_pointer_30 (by decide) ?_
        refine lv_icmp_lt (tgt := 42) hx hb dX7_pointer_32 (by decide) (fun c_5 => ?_) (fun c_5 => ?_)
        · refine lv_aload_n hx hb dX7_pointer_42 rfl (lv_at hl 1 rfl) ?_
          refine va_get (D := Dg) (ci := 5) (v := .ref (b 3)) (C := RX7) (T := TX7) (N := 12) hx hb hts in_X7_X7_pointer hown hK hP 0 rfl rfl 3 (by decide) (hts (.fieldLink RX7 29 "OrreryWorks" "pointers" "[LOrreryWorks$Pointer;") (by decide +kernel)) (fun _ h9 => h9) rfl dX7_pointer_43 ?_
          refine lv_aload_n hx hb dX7_pointer_46 rfl (lv_at hl 1 rfl) ?_
          refine va_get (D := Dg) (ci := 5) (v := .int (σ.1 2 3)) (C := RX7) (T := TX7) (N := 12) hx hb hts in_X7_X7_pointer hown hK hP 0 rfl rfl 8 (by decide) (hts (.fieldLink RX7 49 "OrreryWorks" "pointerCount" "I") (by decide +kernel)) (fun _ h9 => h9) rfl dX7_pointer_47 ?_
          have hqq := @va_pl_fresh2 A (cX x0 b z (σ.1 0 0) (σ.1 2 0) (σ.1 2 1) (σ.1 2 2) (σ.1 2 3) (σ.1 2 4) (σ.1 1) (g 0) (g 1) (g 2) (g 3) (g 4)) L f
          refine va_new (c0 := c) (D := Dg) (ci := 0) (C := RX1) (T := TX1) (N := 2) (fs := [.int 0, .null]) hx hb hts in_X1_X7_pointer tyX1 tyX1_ok hown (hts (.classLink RX7 27 RX1) (by decide +kernel)) (hts (.instantiable RX1 2) (by decide +kernel)) (hts (.initialized RX1) (by decide +kernel)) hK hP hD hS hA rfl (by decide +kernel) (Nat.le_of_ble_eq_true rfl) (Nat.le_of_ble_eq_true rfl) dX7_pointer_50 (fun q H hP hD hS => ?_)
          have hP : va_P Dg vwCl ((cX x0 b z (σ.1 0 0) (σ.1 2 0) (σ.1 2 1) (σ.1 2 2) (σ.1 2 3) (σ.1 2 4) (σ.1 1) (g 0) (g 1) (g 2) (g 3) (g 4) ++ va_pl L f) ++ [(q, .inr (0, [.int 0, .null]))]) H := hP
          have hD : va_D A ((cX x0 b z (σ.1 0 0) (σ.1 2 0) (σ.1 2 1) (σ.1 2 2) (σ.1 2 3) (σ.1 2 4) (σ.1 1) (g 0) (g 1) (g 2) (g 3) (g 4) ++ va_pl L f) ++ [(q, .inr (0, [.int 0, .null]))]) := hD
          replace hqq := hqq hD
          refine lv_dup hx hb dX7_pointer_53 rfl ?_
          refine lv_iload_n hx hb dX7_pointer_54 rfl (lv_at hl 2 rfl) ?_
          refine lv_aload_n hx hb dX7_pointer_55 rfl (lv_at hl 0 rfl) ?_
          have hPc := P_last hP
          have hDc := D_last hD
          have hKc := hK.sub (tys' := []) [] rfl
          have hFc : ∀ q9, va_A [(q, .inr (0, [.int 0, .null]))] H.size q9 → A q9 := fun q9 h => h.elim (fun ⟨k, e9, hk⟩ => hDc.2 k (q9, e9) hk) (fun h => hA q9 (Nat.le_trans hS.1 h))
          refine va_callv (va_runI (As := [.int p1, .ref (ad 0 (ix p2))]) (rest := [.ref q, .int (σ.1 2 3), .ref (b 3)]) ⟨hx, hb, hml, hown, hts⟩ (met_X1_init l Dg q H.size (ad 0 (ix p2)) p1) (cwI 2 hts gX7_pointer_X1_init rfl rfl rfl (hts (.initialized RX1) (by decide +kernel)) (hts (.methodLink RX7 174 yX1_init) (by decide +kernel)) (hts (.instanceMethod yX1_init) (by decide +kernel)) rfl (by decide +kernel) ⟨Nat.le_of_ble_eq_true rfl, Nat.le_of_ble_eq_true rfl⟩) (wPreI hKc hPc (hDc.weaken (fun _ _ _ _ => trivial))) rfl rfl hl.1 rfl (lv_room (Nat.le_of_ble_eq_true rfl)) dX7_pointer_56 ⟨Nat.le_of_ble_eq_true rfl, Nat.le_of_ble_eq_true rfl⟩) hS (fun q9 _ h => hFc q9 h) hFc (fun u t H1 locs ht hvm hw hB _ hk1 hS => ?_)
          obtain ⟨hP1, -, hD1⟩ := hB
          rw [ht] at hP1
          rw [hw] at hP1 hD1
          obtain ⟨hP, hD⟩ := ct_join hP hD hk1 hFc hP1 hD1
          rw [pl_push1 hqq] at hP hD
          have hP : va_P Dg vwCl (cX x0 b z (σ.1 0 0) (σ.1 2 0) (σ.1 2 1) (σ.1 2 2) (σ.1 2 3) (σ.1 2 4) (σ.1 1) (g 0) (g 1) (g 2) (g 3) (g 4) ++ va_pl (L ++ [q]) (va_up f q (.inr (0, [.int p1, .ref (ad 0 (ix p2))])))) H1 := hP
          have hD : va_D A (cX x0 b z (σ.1 0 0) (σ.1 2 0) (σ.1 2 1) (σ.1 2 2) (σ.1 2 3) (σ.1 2 4) (σ.1 1) (g 0) (g 1) (g 2) (g 3) (g 4) ++ va_pl (L ++ [q]) (va_up f q (.inr (0, [.int p1, .ref (ad 0 (ix p2))])))) := hD
          obtain ⟨q9, h9⟩ := va_pl_get (X := cX x0 b z (σ.1 0 0) (σ.1 2 0) (σ.1 2 1) (σ.1 2 2) (σ.1 2 3) (σ.1 2 4) (σ.1 1) (g 0) (g 1) (g 2) (g 3) (g 4)) (f := va_up f q (.inr (0, [.int p1, .ref (ad 0 (ix p2))]))) (List.mem_append_right _ (List.mem_singleton.mpr rfl))
          rw [va_up_self _ _ _] at h9
          refine va_astq hx hb hK hP hD hS 4 3 q9 0 rfl rfl h9 rfl (top_in hV.1.2.2.2.1 rfl (nfull c_5)) dX7_pointer_59 (fun H locs hP hD hS => ?_)
          clear h9
          have hP : va_P Dg vwCl (cX x0 b z (σ.1 0 0) (σ.1 2 0) (σ.1 2 1) (σ.1 2 2) (σ.1 2 3) (σ.1 2 4) (σ.1 1) (g 0) (g 1) (g 2) (va_up (g 3) (σ.1 2 3).toNatClampNeg (some q)) (g 4) ++ va_pl (L ++ [q]) (va_up f q (.inr (0, [.int p1, .ref (ad 0 (ix p2))])))) H := hP
          have hD : va_D A (cX x0 b z (σ.1 0 0) (σ.1 2 0) (σ.1 2 1) (σ.1 2 2) (σ.1 2 3) (σ.1 2 4) (σ.1 1) (g 0) (g 1) (g 2) (va_up (g 3) (σ.1 2 3).toNatClampNeg (some q)) (g 4) ++ va_pl (L ++ [q]) (va_up f q (.inr (0, [.int p1, .ref (ad 0 (ix p2))])))) := hD
          refine lv_aload_n hx hb dX7_pointer_60 rfl (lv_at hl 1 rfl) ?_
          refine lv_aload_n hx hb dX7_pointer_61 rfl (lv_at hl 1 rfl) ?_
          refine lv_dup hx hb dX7_pointer_62 rfl ?_
          refine va_get (D := Dg) (ci := 5) (v := .int (σ.1 2 3)) (C := RX7) (T := TX7) (N := 12) hx hb hts in_X7_X7_pointer hown hK hP 0 rfl rfl 8 (by decide) (hts (.fieldLink RX7 49 "OrreryWorks" "pointerCount" "I") (by decide +kernel)) (fun _ h9 => h9) rfl dX7_pointer_63 ?_
          refine lv_dup_x1 hx hb dX7_pointer_66 rfl rfl ?_
          refine lv_iconst (v := 1) hx hb dX7_pointer_67 (by decide) ?_
          refine lv_iadd hx hb dX7_pointer_68 ?_
          refine va_put (D := Dg) (ci := 5) (v := .int ((σ.1 2 3) + 1)) (ty := .int) (C := RX7) (T := TX7) (N := 12) hx hb hts in_X7_X7_pointer tyX7 tyX7_ok nmX7 hown hK hP hD hS 0 rfl rfl 8 (by decide) (hts (.fieldLink RX7 49 "OrreryWorks" "pointerCount" "I") (by decide +kernel)) (fun _ h9 => h9) rfl (by decide +kernel) rfl rfl (Nat.le_of_ble_eq_true rfl) dX7_pointer_69 (fun H locs hP hD hS => ?_)
          have hP : va_P Dg vwCl (cX x0 b z (σ.1 0 0) (σ.1 2 0) (σ.1 2 1) (σ.1 2 2) ((σ.1 2 3) + 1) (σ.1 2 4) (σ.1 1) (g 0) (g 1) (g 2) (va_up (g 3) (σ.1 2 3).toNatClampNeg (some q)) (g 4) ++ va_pl (L ++ [q]) (va_up f q (.inr (0, [.int p1, .ref (ad 0 (ix p2))])))) H := hP
          have hD : va_D A (cX x0 b z (σ.1 0 0) (σ.1 2 0) (σ.1 2 1) (σ.1 2 2) ((σ.1 2 3) + 1) (σ.1 2 4) (σ.1 1) (g 0) (g 1) (g 2) (va_up (g 3) (σ.1 2 3).toNatClampNeg (some q)) (g 4) ++ va_pl (L ++ [q]) (va_up f q (.inr (0, [.int p1, .ref (ad 0 (ix p2))])))) := hD
          have hFc := wFree hD hS hA
          refine va_calli (va_runV (As := [.int (σ.1 2 3)]) (rest := []) ⟨hx, hb, hml, hown, hts⟩ (met_X7_answer l Dg x0 H.size b z (σ.1 0 0) (σ.1 2 0) (σ.1 2 1) (σ.1 2 2) ((σ.1 2 3) + 1) (σ.1 2 4) (σ.1 1) (g 0) (g 1) (g 2) (va_up (g 3) (σ.1 2 3).toNatClampNeg (some q)) (g 4) (L ++ [q]) (va_up f q (.inr (0, [.int p1, .ref (ad 0 (ix p2))]))) (σ.1 2 3) ) (cwV 1 hts gX7_pointer_X7_answer rfl rfl rfl (by decide +kernel) ⟨Nat.le_of_ble_eq_true rfl, Nat.le_of_ble_eq_true rfl⟩) (wPreV hK hP (hD.weaken (fun _ _ _ _ => trivial)) (va_recv hK hP (ci := 5) (q0 := 0) rfl rfl)) rfl rfl hl.1 rfl (lv_room (Nat.le_of_ble_eq_true rfl)) dX7_pointer_72 ⟨Nat.le_of_ble_eq_true rfl, Nat.le_of_ble_eq_true rfl⟩) hS (fun q _ h => hFc q h) hFc (fun r u t H locs ht hvm hw hB _ _ hS => ?_)
          obtain ⟨hP, -, hD⟩ := hB
          rw [ht] at hP
          replace hD := hD.weaken (fun _ q _ h => hFc q.1 h)
          rw [hw.2] at hP hD
          rw [hw.1]
          clear hw hFc
          have hP : va_P Dg vwCl (cX x0 b z 0 (σ.1 2 0) (σ.1 2 1) (σ.1 2 2) ((σ.1 2 3) + 1) (σ.1 2 4) (σ.1 1) (g 0) (g 1) (g 2) (va_up (g 3) (σ.1 2 3).toNatClampNeg (some q)) (g 4) ++ va_pl (L ++ [q]) (va_up f q (.inr (0, [.int p1, .ref (ad 0 (ix p2))])))) H := hP
          have hD : va_D A (cX x0 b z 0 (σ.1 2 0) (σ.1 2 1) (σ.1 2 2) ((σ.1 2 3) + 1) (σ.1 2 4) (σ.1 1) (g 0) (g 1) (g 2) (va_up (g 3) (σ.1 2 3).toNatClampNeg (some q)) (g 4) ++ va_pl (L ++ [q]) (va_up f q (.inr (0, [.int p1, .ref (ad 0 (ix p2))])))) := hD
          have hw : wh_pointer σ p1 p2 = 0 := by simp only [wh_pointer, if_pos (yIn_h c_3 c_4), if_pos c_1, if_neg (nfull c_5)]
          refine W.widen (k := 1) (n := 2) (Nat.le_of_ble_eq_true rfl) (Nat.le_of_ble_eq_true rfl) ?_
          exact W.iret (v := (σ.1 2 3)) hx hb hr (fun t ht hW => ⟨⟨_, (cX x0 b z 0 (σ.1 2 0) (σ.1 2 1) (σ.1 2 2) ((σ.1 2 3) + 1) (σ.1 2 4) (σ.1 1) (g 0) (g 1) (g 2) (va_up (g 3) (σ.1 2 3).toNatClampNeg (some q)) (g 4) ++ va_pl (L ++ [q]) (va_up f q (.inr (0, [.int p1, .ref (ad 0 (ix p2))])))), rfl, ⟨by rw [an_pointer, if_pos hw]; try rfl, L ++ [q], va_up f q (.inr (0, [.int p1, .ref (ad 0 (ix p2))])), adp ad 4 (cN σ 3) q, fun t => if t = 3 then va_up (g 3) (cN σ 3) (some q) else g t, by rw [nw_pointer, if_pos hw]; rfl, by rw [nw_pointer, if_pos hw]; exact CI_pointer hV hC hqq⟩, by rw [ht]; exact hP, va_K.moved hW.alike hK, hD⟩, hS.F ht⟩) hS.2.2 dX7_pointer_75
        · refine lv_aload_n hx hb dX7_pointer_35 rfl (lv_at hl 1 rfl) ?_
          refine lv_bipush (v := (-3)) hx hb dX7_pointer_36 (by decide) ?_
          have hFc := wFree hD hS hA
          refine va_calli (va_runV (As := [.int (-3)]) (rest := []) ⟨hx, hb, hml, hown, hts⟩ (met_X7_refuse l Dg x0 s.heap.size b z (σ.1 0 0) (σ.1 2 0) (σ.1 2 1) (σ.1 2 2) (σ.1 2 3) (σ.1 2 4) (σ.1 1) (g 0) (g 1) (g 2) (g 3) (g 4) L f (-3) (by decide) (by unfold vp_in; decide)) (cwV 1 hts gX7_pointer_X7_refuse rfl rfl rfl (by decide +kernel) ⟨Nat.le_of_ble_eq_true rfl, Nat.le_of_ble_eq_true rfl⟩) (wPreV hK hP (hD.weaken (fun _ _ _ _ => trivial)) (va_recv hK hP (ci := 5) (q0 := 0) rfl rfl)) rfl rfl hl.1 rfl (lv_room (Nat.le_of_ble_eq_true rfl)) dX7_pointer_38 ⟨Nat.le_of_ble_eq_true rfl, Nat.le_of_ble_eq_true rfl⟩) hS (fun q _ h => hFc q h) hFc (fun r u t H locs ht hvm hw hB _ _ hS => ?_)
          obtain ⟨hP, -, hD⟩ := hB
          rw [ht] at hP
          replace hD := hD.weaken (fun _ q _ h => hFc q.1 h)
          rw [hw.2] at hP hD
          rw [hw.1]
          clear hw hFc
          have hP : va_P Dg vwCl (cX x0 b z (-3) (σ.1 2 0) (σ.1 2 1) (σ.1 2 2) (σ.1 2 3) (σ.1 2 4) (rfO (-3) (σ.1 1)) (g 0) (g 1) (g 2) (g 3) (g 4) ++ va_pl L f) H := hP
          have hD : va_D A (cX x0 b z (-3) (σ.1 2 0) (σ.1 2 1) (σ.1 2 2) (σ.1 2 3) (σ.1 2 4) (rfO (-3) (σ.1 1)) (g 0) (g 1) (g 2) (g 3) (g 4) ++ va_pl L f) := hD
          have hw : wh_pointer σ p1 p2 = (-3) := by simp only [wh_pointer, if_pos (yIn_h c_3 c_4), if_pos c_1, if_pos (full_of hV.1.2.2.2.1 rfl c_5)]
          have hn : ¬ wh_pointer σ p1 p2 = 0 := by rw [hw]; decide
          refine W.widen (k := 1) (n := 2) (Nat.le_of_ble_eq_true rfl) (Nat.le_of_ble_eq_true rfl) ?_
          exact W.iret (v := (-3)) hx hb hr (fun t ht hW => ⟨⟨_, (cX x0 b z (-3) (σ.1 2 0) (σ.1 2 1) (σ.1 2 2) (σ.1 2 3) (σ.1 2 4) (rfO (-3) (σ.1 1)) (g 0) (g 1) (g 2) (g 3) (g 4) ++ va_pl L f), rfl, ⟨by rw [an_pointer, if_neg hn, hw]; try rfl, L, f, ad, g, by rw [nw_pointer, if_neg hn, hw]; rfl, by rw [nw_pointer, if_neg hn]; exact CI_rf hC _⟩, by rw [ht]; exact hP, va_K.moved hW.alike hK, hD⟩, hS.F ht⟩) hS.2.2 dX7_pointer_41
  · refine va_csq ((va_runV (As := [.int p2]) (rest := []) ⟨hx, hb, hml, hown, hts⟩ (met_X7_wheelAt l Dg x0 b z (σ.1 0 0) (σ.1 2 0) (σ.1 2 1) (σ.1 2 2) (σ.1 2 3) (σ.1 2 4) (σ.1 1) (g 0) (g 1) (g 2) (g 3) (g 4) L f p2 hV.1.1) (cwV 1 hts gX7_pointer_X7_wheelAt rfl rfl rfl (by decide +kernel) ⟨Nat.le_of_ble_eq_true rfl, Nat.le_of_ble_eq_true rfl⟩) (rPreV hK hP (va_recv hK hP (ci := 5) (q0 := 0) rfl rfl)) rfl rfl hl.1 rfl (lv_room (Nat.le_of_ble_eq_true rfl)) dX7_pointer_2 ⟨Nat.le_of_ble_eq_true rfl, Nat.le_of_ble_eq_true rfl⟩).run) (fun r hw => ?_)
    obtain rfl : r = none := hw.trans (if_neg c_1)
    refine W.eq (g2 := F0 m 5 ls [.null]) rfl ?_
    refine lv_astore_nN (lv' := [(3, .null), (0, .ref x0), (1, .int p1), (2, .int p2)]) hx hb dX7_pointer_5 rfl hl (by decide) rfl (fun ls hl => ?_)
    refine lv_iload_n hx hb dX7_pointer_6 rfl (lv_at hl 2 rfl) ?_
    refine lv_if_lt (tgt := 19) hx hb dX7_pointer_7 (by decide) (fun c_6 => ?_) (fun c_6 => ?_)
    · refine lv_aload_n hx hb dX7_pointer_19 rfl (lv_at hl 1 rfl) ?_
      refine lv_bipush (v := (-2)) hx hb dX7_pointer_20 (by decide) ?_
      have hFc := wFree hD hS hA
      refine va_calli (va_runV (As := [.int (-2)]) (rest := []) ⟨hx, hb, hml, hown, hts⟩ (met_X7_refuse l Dg x0 s.heap.size b z (σ.1 0 0) (σ.1 2 0) (σ.1 2 1) (σ.1 2 2) (σ.1 2 3) (σ.1 2 4) (σ.1 1) (g 0) (g 1) (g 2) (g 3) (g 4) L f (-2) (by decide) (by unfold vp_in; decide)) (cwV 1 hts gX7_pointer_X7_refuse rfl rfl rfl (by decide +kernel) ⟨Nat.le_of_ble_eq_true rfl, Nat.le_of_ble_eq_true rfl⟩) (wPreV hK hP (hD.weaken (fun _ _ _ _ => trivial)) (va_recv hK hP (ci := 5) (q0 := 0) rfl rfl)) rfl rfl hl.1 rfl (lv_room (Nat.le_of_ble_eq_true rfl)) dX7_pointer_22 ⟨Nat.le_of_ble_eq_true rfl, Nat.le_of_ble_eq_true rfl⟩) hS (fun q _ h => hFc q h) hFc (fun r u t H locs ht hvm hw hB _ _ hS => ?_)
      obtain ⟨hP, -, hD⟩ := hB
      rw [ht] at hP
      replace hD := hD.weaken (fun _ q _ h => hFc q.1 h)
      rw [hw.2] at hP hD
      rw [hw.1]
      clear hw hFc
      have hP : va_P Dg vwCl (cX x0 b z (-2) (σ.1 2 0) (σ.1 2 1) (σ.1 2 2) (σ.1 2 3) (σ.1 2 4) (rfO (-2) (σ.1 1)) (g 0) (g 1) (g 2) (g 3) (g 4) ++ va_pl L f) H := hP
      have hD : va_D A (cX x0 b z (-2) (σ.1 2 0) (σ.1 2 1) (σ.1 2 2) (σ.1 2 3) (σ.1 2 4) (rfO (-2) (σ.1 1)) (g 0) (g 1) (g 2) (g 3) (g 4) ++ va_pl L f) := hD
      have hw : wh_pointer σ p1 p2 = (-2) := by simp only [wh_pointer, if_neg (nIn_l (b := 3) c_6), if_neg c_1]
      have hn : ¬ wh_pointer σ p1 p2 = 0 := by rw [hw]; decide
      refine W.widen (k := 1) (n := 2) (Nat.le_of_ble_eq_true rfl) (Nat.le_of_ble_eq_true rfl) ?_
      exact W.iret (v := (-2)) hx hb hr (fun t ht hW => ⟨⟨_, (cX x0 b z (-2) (σ.1 2 0) (σ.1 2 1) (σ.1 2 2) (σ.1 2 3) (σ.1 2 4) (rfO (-2) (σ.1 1)) (g 0) (g 1) (g 2) (g 3) (g 4) ++ va_pl L f), rfl, ⟨by rw [an_pointer, if_neg hn, hw]; try rfl, L, f, ad, g, by rw [nw_pointer, if_neg hn, hw]; rfl, by rw [nw_pointer, if_neg hn]; exact CI_rf hC _⟩, by rw [ht]; exact hP, va_K.moved hW.alike hK, hD⟩, hS.F ht⟩) hS.2.2 dX7_pointer_25
    · refine lv_iload_n hx hb dX7_pointer_10 rfl (lv_at hl 2 rfl) ?_
      refine lv_iconst (v := 3) hx hb dX7_pointer_11 (by decide) ?_
      refine lv_icmp_gt (tgt := 19) hx hb dX7_pointer_12 (by decide) (fun c_7 => ?_) (fun c_7 => ?_)
      · refine lv_aload_n hx hb dX7_pointer_19 rfl (lv_at hl 1 rfl) ?_
        refine lv_bipush (v := (-2)) hx hb dX7_pointer_20 (by decide) ?_
        have hFc := wFree hD hS hA
        refine va_calli (va_runV (As := [.int (-2)]) (rest := []) ⟨hx, hb, hml, hown, hts⟩ (met_X7_refuse l Dg x0 s.heap.size b z (σ.1 0 0) (σ.1 2 0) (σ.1 2 1) (σ.1 2 2) (σ.1 2 3) (σ.1 2 4) (σ.1 1) (g 0) (g 1) (g 2) (g 3) (g 4) L f (-2) (by decide) (by unfold vp_in; decide)) (cwV 1 hts gX7_pointer_X7_refuse rfl rfl rfl (by decide +kernel) ⟨Nat.le_of_ble_eq_true rfl, Nat.le_of_ble_eq_true rfl⟩) (wPreV hK hP (hD.weaken (fun _ _ _ _ => trivial)) (va_recv hK hP (ci := 5) (q0 := 0) rfl rfl)) rfl rfl hl.1 rfl (lv_room (Nat.le_of_ble_eq_true rfl)) dX7_pointer_22 ⟨Nat.le_of_ble_eq_true rfl, Nat.le_of_ble_eq_true rfl⟩) hS (fun q _ h => hFc q h) hFc (fun r u t H locs ht hvm hw hB _ _ hS => ?_)
        obtain ⟨hP, -, hD⟩ := hB
        rw [ht] at hP
        replace hD := hD.weaken (fun _ q _ h => hFc q.1 h)
        rw [hw.2] at hP hD
        rw [hw.1]
        clear hw hFc
        have hP : va_P Dg vwCl (cX x0 b z (-2) (σ.1 2 0) (σ.1 2 1) (σ.1 2 2) (σ.1 2 3) (σ.1 2 4) (rfO (-2) (σ.1 1)) (g 0) (g 1) (g 2) (g 3) (g 4) ++ va_pl L f) H := hP
        have hD : va_D A (cX x0 b z (-2) (σ.1 2 0) (σ.1 2 1) (σ.1 2 2) (σ.1 2 3) (σ.1 2 4) (rfO (-2) (σ.1 1)) (g 0) (g 1) (g 2) (g 3) (g 4) ++ va_pl L f) := hD
        have hw : wh_pointer σ p1 p2 = (-2) := by simp only [wh_pointer, if_neg (nIn_h (a := 0) c_7), if_neg c_1]
        have hn : ¬ wh_pointer σ p1 p2 = 0 := by rw [hw]; decide
        refine W.widen (k := 1) (n := 2) (Nat.le_of_ble_eq_true rfl) (Nat.le_of_ble_eq_true rfl) ?_
        exact W.iret (v := (-2)) hx hb hr (fun t ht hW => ⟨⟨_, (cX x0 b z (-2) (σ.1 2 0) (σ.1 2 1) (σ.1 2 2) (σ.1 2 3) (σ.1 2 4) (rfO (-2) (σ.1 1)) (g 0) (g 1) (g 2) (g 3) (g 4) ++ va_pl L f), rfl, ⟨by rw [an_pointer, if_neg hn, hw]; try rfl, L, f, ad, g, by rw [nw_pointer, if_neg hn, hw]; rfl, by rw [nw_pointer, if_neg hn]; exact CI_rf hC _⟩, by rw [ht]; exact hP, va_K.moved hW.alike hK, hD⟩, hS.F ht⟩) hS.2.2 dX7_pointer_25
      · refine lv_aload_nN hx hb dX7_pointer_15 rfl (lv_at hl 0 rfl) ?_
        refine lv_ifnonnullN hx hb dX7_pointer_16 ?_
        refine lv_aload_n hx hb dX7_pointer_19 rfl (lv_at hl 1 rfl) ?_
        refine lv_bipush (v := (-2)) hx hb dX7_pointer_20 (by decide) ?_
        have hFc := wFree hD hS hA
        refine va_calli (va_runV (As := [.int (-2)]) (rest := []) ⟨hx, hb, hml, hown, hts⟩ (met_X7_refuse l Dg x0 s.heap.size b z (σ.1 0 0) (σ.1 2 0) (σ.1 2 1) (σ.1 2 2) (σ.1 2 3) (σ.1 2 4) (σ.1 1) (g 0) (g 1) (g 2) (g 3) (g 4) L f (-2) (by decide) (by unfold vp_in; decide)) (cwV 1 hts gX7_pointer_X7_refuse rfl rfl rfl (by decide +kernel) ⟨Nat.le_of_ble_eq_true rfl, Nat.le_of_ble_eq_true rfl⟩) (wPreV hK hP (hD.weaken (fun _ _ _ _ => trivial)) (va_recv hK hP (ci := 5) (q0 := 0) rfl rfl)) rfl rfl hl.1 rfl (lv_room (Nat.le_of_ble_eq_true rfl)) dX7_pointer_22 ⟨Nat.le_of_ble_eq_true rfl, Nat.le_of_ble_eq_true rfl⟩) hS (fun q _ h => hFc q h) hFc (fun r u t H locs ht hvm hw hB _ _ hS => ?_)
        obtain ⟨hP, -, hD⟩ := hB
        rw [ht] at hP
        replace hD := hD.weaken (fun _ q _ h => hFc q.1 h)
        rw [hw.2] at hP hD
        rw [hw.1]
        clear hw hFc
        have hP : va_P Dg vwCl (cX x0 b z (-2) (σ.1 2 0) (σ.1 2 1) (σ.1 2 2) (σ.1 2 3) (σ.1 2 4) (rfO (-2) (σ.1 1)) (g 0) (g 1) (g 2) (g 3) (g 4) ++ va_pl L f) H := hP
        have hD : va_D A (cX x0 b z (-2) (σ.1 2 0) (σ.1 2 1) (σ.1 2 2) (σ.1 2 3) (σ.1 2 4) (rfO (-2) (σ.1 1)) (g 0) (g 1) (g 2) (g 3) (g 4) ++ va_pl L f) := hD
        have hw : wh_pointer σ p1 p2 = (-2) := by simp only [wh_pointer, if_pos (yIn_h c_6 c_7), if_neg c_1]
        have hn : ¬ wh_pointer σ p1 p2 = 0 := by rw [hw]; decide
        refine W.widen (k := 1) (n := 2) (Nat.le_of_ble_eq_true rfl) (Nat.le_of_ble_eq_true rfl) ?_
        exact W.iret (v := (-2)) hx hb hr (fun t ht hW => ⟨⟨_, (cX x0 b z (-2) (σ.1 2 0) (σ.1 2 1) (σ.1 2 2) (σ.1 2 3) (σ.1 2 4) (rfO (-2) (σ.1 1)) (g 0) (g 1) (g 2) (g 3) (g 4) ++ va_pl L f), rfl, ⟨by rw [an_pointer, if_neg hn, hw]; try rfl, L, f, ad, g, by rw [nw_pointer, if_neg hn, hw]; rfl, by rw [nw_pointer, if_neg hn]; exact CI_rf hC _⟩, by rw [ht]; exact hP, va_K.moved hW.alike hK, hD⟩, hS.F ht⟩) hS.2.2 dX7_pointer_25
