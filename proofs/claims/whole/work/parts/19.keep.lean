/-! the state stays sound -/
theorem okB_0 {k : Int32} (hk : isK k) : okB k 0 := by
  rcases hk with rfl | rfl | rfl | rfl
  · rfl
  · exact trivial
  · exact ⟨rfl, by decide +kernel⟩
  · exact (by decide +kernel : FP.Core.val64 (0 : Int64).toUInt64 ≠ .nan)
theorem v_rf {σ : St} (hV : vOK σ) (w : Int32) : vOK (rf σ w) := hV
theorem v_ok0 {σ : St} (hV : vOK σ) : vOK (ok0 σ) := hV
theorem bnd_inc {c : Int32} {n : Nat} {m : Int32} (hb : bnd c n) (hm : m.toInt = n) (hn : n < 100) (h : ¬ c = m) : bnd (c + 1) n := by
  have h1 := inc1 hb hn
  have h2 := i32_eq h
  have := hb.1; have := hb.2
  exact ⟨by omega, by omega⟩
theorem lt_inc {i : Nat} {c : Int32} {n : Nat} (hb : bnd c n) (hn : n < 100) (h : i < (c + 1).toNatClampNeg) (e : ¬ i = c.toNatClampNeg) : i < c.toNatClampNeg := by
  rw [inc1N hb hn] at h; exact Nat.lt_of_le_of_ne (Nat.lt_succ_iff.mp h) e
theorem v_wheel {σ : St} {k : Int32} {b : Int64} (hV : vOK σ) (hc : ¬ σ.1 2 0 = 10) (h : oW k b 0) : vOK (sI (sJ (sJ (sI (ok0 σ) 3 (cN σ 0) k) 0 (cN σ 0) b) 1 (cN σ 0) 0) 2 0 (σ.1 2 0 + 1)) := by
  obtain ⟨hC, hW, hR, hS, hP, hT⟩ := hV
  refine ⟨⟨bnd_inc (n := 10) hC.1 rfl (by decide) hc, hC.2⟩, fun i hi => ?_, hR, hS, fun i hi => ?_, hT⟩
  · show oW (upd (σ.1 3) (cN σ 0) k i) (vp_updL (σ.2 0) (cN σ 0) b i) (vp_updL (σ.2 1) (cN σ 0) 0 i)
    unfold upd vp_updL
    by_cases e : i = cN σ 0
    · rw [if_pos e, if_pos e, if_pos e]; exact h
    · rw [if_neg e, if_neg e, if_neg e]; exact hW i (lt_inc (n := 10) hC.1 (by decide) hi e)
  · have q := hP i hi
    refine ⟨q.1, q.2.1, ?_⟩
    show (σ.1 9 i).toInt < (σ.1 2 0 + 1).toInt
    rw [inc1 (n := 10) hC.1 (by decide)]; have := q.2.2; omega
theorem v_turn {σ : St} {n : Nat} {b : Int64} (hV : vOK σ) (h : okR (σ.1 3 n) b ∧ ¬ mgN (σ.1 3 n) b = infN (σ.1 3 n)) : vOK (sJ (ok0 σ) 1 n b) := by
  obtain ⟨hC, hW, hR, hS, hP, hT⟩ := hV
  refine ⟨hC, fun i hi => ?_, hR, hS, hP, hT⟩
  have q := hW i hi
  show oW (σ.1 3 i) (σ.2 0 i) (vp_updL (σ.2 1) n b i)
  unfold vp_updL
  by_cases e : i = n
  · rw [if_pos e]; rw [e] at q ⊢; exact ⟨q.1, q.2.1, q.2.2.1, h⟩
  · rw [if_neg e]; exact q
theorem v_reg {σ : St} {k : Int32} (hV : vOK σ) (hc : ¬ σ.1 2 1 = 16) (hk : isK k) : vOK (sI (sJ (sI (ok0 σ) 4 (cN σ 1) k) 2 (cN σ 1) 0) 2 1 (σ.1 2 1 + 1)) := by
  obtain ⟨hC, hW, hR, hS, hP, hT⟩ := hV
  refine ⟨⟨hC.1, bnd_inc (n := 16) hC.2.1 rfl (by decide) hc, hC.2.2⟩, hW, fun i hi => ?_, hS, hP, hT⟩
  show isK (upd (σ.1 4) (cN σ 1) k i) ∧ okB (upd (σ.1 4) (cN σ 1) k i) (vp_updL (σ.2 2) (cN σ 1) 0 i)
  unfold upd vp_updL
  by_cases e : i = cN σ 1
  · rw [if_pos e, if_pos e]; exact ⟨hk, okB_0 hk⟩
  · rw [if_neg e, if_neg e]; exact hR i (lt_inc (n := 16) hC.2.1 (by decide) hi e)
theorem v_store {σ : St} {n : Nat} {b : Int64} (hV : vOK σ) (h : okB (σ.1 4 n) b) : vOK (sJ (ok0 σ) 2 n b) := by
  obtain ⟨hC, hW, hR, hS, hP, hT⟩ := hV
  refine ⟨hC, hW, fun i hi => ?_, hS, hP, hT⟩
  have q := hR i hi
  show isK (σ.1 4 i) ∧ okB (σ.1 4 i) (vp_updL (σ.2 2) n b i)
  unfold vp_updL
  by_cases e : i = n
  · rw [if_pos e]; rw [e] at q ⊢; exact ⟨q.1, h⟩
  · rw [if_neg e]; exact q
theorem v_strip {σ : St} {k n : Int32} (hV : vOK σ) (hc : ¬ σ.1 2 2 = 8) (hk : isK k) (hn : bnd n 16) : vOK (sI (sB (sI (sI (sI (ok0 σ) 5 (cN σ 2) k) 6 (cN σ 2) n) 7 (cN σ 2) 0) 3 (fun q => if 16 * cN σ 2 ≤ q ∧ q < 16 * cN σ 2 + 16 then 0 else σ.2 3 q)) 2 2 (σ.1 2 2 + 1)) := by
  obtain ⟨hC, hW, hR, hS, hP, hT⟩ := hV
  refine ⟨⟨hC.1, hC.2.1, bnd_inc (n := 8) hC.2.2.1 rfl (by decide) hc, hC.2.2.2⟩, hW, hR, fun i hi => ?_, hP, hT⟩
  show oS (upd (σ.1 5) (cN σ 2) k i) (upd (σ.1 6) (cN σ 2) n i) (fun j => stF 0 (σ.2 3) (16 * cN σ 2) 16 (16 * i + j))
  unfold upd
  by_cases e : i = cN σ 2
  · rw [if_pos e, if_pos e]
    refine ⟨hk, hn, fun j hj => ?_⟩
    show okB k (stF 0 (σ.2 3) (16 * cN σ 2) 16 (16 * i + j))
    unfold stF; rw [e, if_pos (by omega)]; exact okB_0 hk
  · rw [if_neg e, if_neg e]
    have q := hS i (lt_inc (n := 8) hC.2.2.1 (by decide) hi e)
    refine ⟨q.1, q.2.1, fun j hj => ?_⟩
    show okB (σ.1 5 i) (stF 0 (σ.2 3) (16 * cN σ 2) 16 (16 * i + j))
    unfold stF
    generalize cN σ 2 = cc at *
    rw [if_neg (by omega)]; exact q.2.2 j hj
theorem v_keep {σ : St} {x z : Nat} {b : Int64} (hV : vOK σ) (hz : z < 16) (h : okB (σ.1 5 x) b) : vOK (sJ (ok0 σ) 3 (16 * x + z) b) := by
  obtain ⟨hC, hW, hR, hS, hP, hT⟩ := hV
  refine ⟨hC, hW, hR, fun i hi => ?_, hP, hT⟩
  have q := hS i hi
  refine ⟨q.1, q.2.1, fun j hj => ?_⟩
  show okB (σ.1 5 i) (vp_updL (σ.2 3) (16 * x + z) b (16 * i + j))
  unfold vp_updL
  by_cases e : 16 * i + j = 16 * x + z
  · rw [if_pos e]
    have : i = x := by omega
    rw [this]; exact h
  · rw [if_neg e]; exact q.2.2 j hj
theorem v_pointer {σ : St} {k w : Int32} (hV : vOK σ) (hc : ¬ σ.1 2 3 = 12) (h : oP k w (σ.1 2 0)) : vOK (sI (sI (sI (ok0 σ) 8 (cN σ 3) k) 9 (cN σ 3) w) 2 3 (σ.1 2 3 + 1)) := by
  obtain ⟨hC, hW, hR, hS, hP, hT⟩ := hV
  refine ⟨⟨hC.1, hC.2.1, hC.2.2.1, bnd_inc (n := 12) hC.2.2.2.1 rfl (by decide) hc, hC.2.2.2.2⟩, hW, hR, hS, fun i hi => ?_, fun i hi => ?_⟩
  · show oP (upd (σ.1 8) (cN σ 3) k i) (upd (σ.1 9) (cN σ 3) w i) (σ.1 2 0)
    unfold upd
    by_cases e : i = cN σ 3
    · rw [if_pos e, if_pos e]; exact h
    · rw [if_neg e, if_neg e]; exact hP i (lt_inc (n := 12) hC.2.2.2.1 (by decide) hi e)
  · have q := hT i hi
    refine ⟨q.1, q.2.1, fun j hj => (q.2.2 j hj).imp id (fun g => ⟨g.1, ?_⟩)⟩
    show (σ.1 12 (6 * i + j)).toInt < (σ.1 2 3 + 1).toInt
    rw [inc1 (n := 12) hC.2.2.2.1 (by decide)]; have g2 : (σ.1 12 (6 * i + j)).toInt < (σ.1 2 3).toInt := g.2; omega
theorem v_stand {σ : St} {k n : Int32} (hV : vOK σ) (hc : ¬ σ.1 2 4 = 8) (hk : isK k) (hn : 1 ≤ n.toInt ∧ n.toInt ≤ 6) : vOK (sI (sA (sI (sI (ok0 σ) 10 (cN σ 4) k) 11 (cN σ 4) n) 12 (fun q => if 6 * cN σ 4 ≤ q ∧ q < 6 * cN σ 4 + 6 then -1 else σ.1 12 q)) 2 4 (σ.1 2 4 + 1)) := by
  obtain ⟨hC, hW, hR, hS, hP, hT⟩ := hV
  refine ⟨⟨hC.1, hC.2.1, hC.2.2.1, hC.2.2.2.1, bnd_inc (n := 8) hC.2.2.2.2 rfl (by decide) hc⟩, hW, hR, hS, hP, fun i hi => ?_⟩
  show oT (upd (σ.1 10) (cN σ 4) k i) (upd (σ.1 11) (cN σ 4) n i) (σ.1 2 3) (fun j => stF (-1) (σ.1 12) (6 * cN σ 4) 6 (6 * i + j))
  unfold upd
  by_cases e : i = cN σ 4
  · rw [if_pos e, if_pos e]
    refine ⟨hk, hn, fun j hj => Or.inl ?_⟩
    show stF (-1) (σ.1 12) (6 * cN σ 4) 6 (6 * i + j) = -1
    unfold stF; rw [e, if_pos (by omega)]
  · rw [if_neg e, if_neg e]
    have q := hT i (lt_inc (n := 8) hC.2.2.2.2 (by decide) hi e)
    refine ⟨q.1, q.2.1, fun j hj => ?_⟩
    have e2 : stF (-1) (σ.1 12) (6 * cN σ 4) 6 (6 * i + j) = σ.1 12 (6 * i + j) := by
      unfold stF
      generalize cN σ 4 = cc at *
      rw [if_neg (by omega)]
    show stF (-1) (σ.1 12) (6 * cN σ 4) 6 (6 * i + j) = -1 ∨ (0 ≤ (stF (-1) (σ.1 12) (6 * cN σ 4) 6 (6 * i + j)).toInt ∧ (stF (-1) (σ.1 12) (6 * cN σ 4) 6 (6 * i + j)).toInt < (σ.1 2 3).toInt)
    rw [e2]; exact q.2.2 j hj
theorem v_lay {σ : St} {x z : Nat} {w : Int32} (hV : vOK σ) (h : w = -1 ∨ (0 ≤ w.toInt ∧ w.toInt < (σ.1 2 3).toInt)) : vOK (sI (ok0 σ) 12 (6 * x + z) w) := by
  obtain ⟨hC, hW, hR, hS, hP, hT⟩ := hV
  refine ⟨hC, hW, hR, hS, hP, fun i hi => ?_⟩
  have q := hT i hi
  refine ⟨q.1, q.2.1, fun j hj => ?_⟩
  show upd (σ.1 12) (6 * x + z) w (6 * i + j) = -1 ∨ (0 ≤ (upd (σ.1 12) (6 * x + z) w (6 * i + j)).toInt ∧ (upd (σ.1 12) (6 * x + z) w (6 * i + j)).toInt < (σ.1 2 3).toInt)
  unfold upd
  by_cases e : 6 * i + j = 6 * x + z
  · rw [if_pos e]; exact h
  · rw [if_neg e]; exact q.2.2 j hj
theorem vk_wheel {σ : St} (hV : vOK σ) (k : Int32) (t : Int64) : vOK (nw_wheel σ k t) := by
  unfold nw_wheel
  by_cases hw : wh_wheel σ k t = 0
  · rw [if_pos hw]
    unfold wh_wheel at hw
    by_cases c1 : fX8_isIn k 2 3 = true
    · rw [if_pos c1] at hw
      by_cases c2 : fX8_isNumber t = true
      · rw [if_pos c2] at hw
        by_cases c3 : mgN k (cst 3 t k) = 0
        · rw [if_pos c3] at hw; exact absurd hw (by decide)
        · rw [if_neg c3] at hw
          by_cases c4 : σ.1 2 0 = 10
          · rw [if_pos c4] at hw; exact absurd hw (by decide)
          · have hk := isIn23 c1
            exact v_wheel hV c4 ⟨hk, cst_ok3 hk ((num_eq t).mp c2), c3, okRB hk (okB_0 (isKR hk)), by rcases hk with rfl | rfl <;> decide⟩
      · rw [if_neg c2] at hw; exact absurd hw (by decide)
    · rw [if_neg c1] at hw; exact absurd hw (by decide)
  · rw [if_neg hw]; exact v_rf hV _
/-- what a turn leaves -/
theorem tn_ok {σ : St} (hV : vOK σ) {w : Int32} {t : Int64} (c1 : inC σ 0 w = true) (c2 : fX8_isNumber t = true) : okR (σ.1 3 (ix w)) (suB σ w t) := by
  have w1 := hV.2.1 _ (inC_lt hV.1.1 c1)
  exact (wr_eq (w := 0) w1.1 w1.2.2.2.1 (cst_ok3 w1.1 ((num_eq t).mp c2)) (fun g => w1.2.2.2.2 (And.left (show _ ∧ _ from g))) (Or.inl rfl)).2.2
theorem vk_turn {σ : St} (hV : vOK σ) (w : Int32) (t : Int64) : vOK (nw_turn σ w t) := by
  unfold nw_turn
  by_cases hw : wh_turn σ w t = 0
  · rw [if_pos hw]
    unfold wh_turn at hw
    by_cases c1 : inC σ 0 w = true
    · rw [if_pos c1] at hw
      by_cases c2 : fX8_isNumber t = true
      · rw [if_pos c2] at hw
        by_cases c3 : mgN (σ.1 3 (ix w)) (suB σ w t) = infN (σ.1 3 (ix w))
        · rw [if_pos c3] at hw; exact absurd hw (by decide)
        · have w1 := hV.2.1 _ (inC_lt hV.1.1 c1)
          have hs := tn_ok hV c1 c2
          exact v_turn hV ⟨(rm_sign hs w1.2.1 c3 w1.2.2.1).1, rm_ne hs w1.2.1 c3 w1.2.2.1⟩
      · rw [if_neg c2] at hw; exact absurd hw (by decide)
    · rw [if_neg c1] at hw; exact absurd hw (by decide)
  · rw [if_neg hw]; exact v_rf hV _
theorem vk_wheelOf {σ : St} (hV : vOK σ) (w h : Int32) : vOK (nw_wheelOf σ w h) := by
  unfold nw_wheelOf; split
  · exact hV
  · exact v_rf hV _
theorem vk_register {σ : St} (hV : vOK σ) (k : Int32) : vOK (nw_register σ k) := by
  unfold nw_register
  by_cases hw : wh_register σ k = 0
  · rw [if_pos hw]
    unfold wh_register at hw
    by_cases c1 : fX8_isKind k = true
    · rw [if_pos c1] at hw
      by_cases c2 : σ.1 2 1 = 16
      · rw [if_pos c2] at hw; exact absurd hw (by decide)
      · exact v_reg hV c2 (isK_of c1)
    · rw [if_neg c1] at hw; exact absurd hw (by decide)
  · rw [if_neg hw]; exact v_rf hV _
theorem ld_ok {σ : St} {r k : Int32} {b : Int64} (hw : wh_load σ r k b = 0) : inC σ 1 r = true ∧ isK k ∧ okB k (told k b) := by
  unfold wh_load at hw
  by_cases c1 : inC σ 1 r = true
  · rw [if_pos c1] at hw
    by_cases c2 : fX8_isKind k = true
    · rw [if_pos c2] at hw
      refine ⟨c1, isK_of c2, (rep_told (isK_of c2) (fun e => ?_) (fun e => ?_)).1⟩
      · rw [if_pos e] at hw
        by_cases c3 : fX8_isFloat b.toInt32 = true
        · exact (flt_eq _).mp c3
        · rw [if_neg c3] at hw; exact absurd hw (by decide)
      · rw [if_neg (by rw [e]; decide), if_pos e] at hw
        by_cases c3 : fX8_isNumber b = true
        · exact (num_eq _).mp c3
        · rw [if_neg c3] at hw; exact absurd hw (by decide)
    · rw [if_neg c2] at hw; exact absurd hw (by decide)
  · rw [if_neg c1] at hw; exact absurd hw (by decide)
theorem rg_ok {σ : St} (hV : vOK σ) {r : Int32} (h : inC σ 1 r = true) : isK (σ.1 4 (ix r)) ∧ okB (σ.1 4 (ix r)) (σ.2 2 (ix r)) := hV.2.2.1 _ (inC_lt hV.1.2.1 h)
theorem vk_load {σ : St} (hV : vOK σ) (r k : Int32) (b : Int64) : vOK (nw_load σ r k b) := by
  unfold nw_load
  by_cases hw : wh_load σ r k b = 0
  · rw [if_pos hw]
    have h := ld_ok hw
    exact v_store hV (cst_okB h.2.1 (rg_ok hV h.1).1 h.2.2)
  · rw [if_neg hw]; exact v_rf hV _
theorem vk_read {σ : St} (hV : vOK σ) (w h : Int32) : vOK (nw_read σ w h) := by
  unfold nw_read; split
  · exact hV
  · exact v_rf hV _
theorem two_ok {p q : Bool} (hw : (if p = true then (if q = true then (0 : Int32) else -2) else -2) = 0) : p = true ∧ q = true := by
  by_cases c1 : p = true
  · rw [if_pos c1] at hw
    by_cases c2 : q = true
    · exact ⟨c1, c2⟩
    · rw [if_neg c2] at hw; exact absurd hw (by decide)
  · rw [if_neg c1] at hw; exact absurd hw (by decide)
theorem vk_move {σ : St} (hV : vOK σ) (f t : Int32) : vOK (nw_move σ f t) := by
  unfold nw_move
  by_cases hw : wh_move σ f t = 0
  · rw [if_pos hw]
    have h := two_ok hw
    exact v_store hV (cst_okB (rg_ok hV h.1).1 (rg_ok hV h.2).1 (rg_ok hV h.1).2)
  · rw [if_neg hw]; exact v_rf hV _
theorem vk_take {σ : St} (hV : vOK σ) (w r : Int32) : vOK (nw_take σ w r) := by
  unfold nw_take
  by_cases hw : wh_take σ w r = 0
  · rw [if_pos hw]
    have h := two_ok hw
    have w1 := hV.2.1 _ (inC_lt hV.1.1 h.1)
    exact v_store hV (cst_okB (isKR w1.1) (rg_ok hV h.2).1 (okBR w1.1 w1.2.2.2.1))
  · rw [if_neg hw]; exact v_rf hV _
theorem wo_ok {σ : St} (hV : vOK σ) {h a b t : Int32} (hw : wh_work σ h a b t = 0) : inC σ 1 t = true ∧ isK (wkK σ a b) ∧ okB (wkK σ a b) (wk (wkK σ a b) h (wkX σ a (wkK σ a b)) (wkX σ b (wkK σ a b))) := by
  unfold wh_work at hw
  by_cases c1 : fX8_isIn h 0 4 = true
  · rw [if_pos c1] at hw
    by_cases c2 : inC σ 1 a = true
    · rw [if_pos c2] at hw
      by_cases c3 : inC σ 1 b = true
      · rw [if_pos c3] at hw
        by_cases c4 : inC σ 1 t = true
        · rw [if_pos c4] at hw
          have Ra := rg_ok hV c2
          have Rb := rg_ok hV c3
          have qK : isK (wkK σ a b) := isK_wk Ra.1 Rb.1
          refine ⟨c4, qK, ?_⟩
          by_cases c5 : 2 ≤ wkK σ a b
          · rw [if_pos c5] at hw
            have hkR := kR_of qK c5
            by_cases c6 : fX2_isVoid (wkK σ a b) h (wkX σ a (wkK σ a b)) (wkX σ b (wkK σ a b)) = true
            · rw [if_pos c6] at hw; exact absurd hw (by decide)
            · have o2 := okRB hkR (cst_okB Ra.1 qK Ra.2)
              have o3 := okRB hkR (cst_okB Rb.1 qK Rb.2)
              have q := wr_eq hkR o2 o3 (fun g => c6 (void_eq.mpr g)) (in04 c1)
              rw [wk_R hkR] at q
              exact okBR hkR q.2.2
          · exact wk_okW (kW_of qK c5)
        · rw [if_neg c4] at hw; exact absurd hw (by decide)
      · rw [if_neg c3] at hw; exact absurd hw (by decide)
    · rw [if_neg c2] at hw; exact absurd hw (by decide)
  · rw [if_neg c1] at hw; exact absurd hw (by decide)
theorem vk_work {σ : St} (hV : vOK σ) (h a b t : Int32) : vOK (nw_work σ h a b t) := by
  unfold nw_work
  by_cases hw : wh_work σ h a b t = 0
  · rw [if_pos hw]
    have g := wo_ok hV hw
    exact v_store hV (cst_okB g.2.1 (rg_ok hV g.1).1 g.2.2)
  · rw [if_neg hw]; exact v_rf hV _
theorem thr_ok {p q : Bool} {r : Prop} [Decidable r] (hw : (if p = true then (if q = true then (if r then (-3 : Int32) else 0) else -2) else -2) = 0) : p = true ∧ q = true ∧ ¬ r := by
  by_cases c1 : p = true
  · rw [if_pos c1] at hw
    by_cases c2 : q = true
    · rw [if_pos c2] at hw
      by_cases c3 : r
      · rw [if_pos c3] at hw; exact absurd hw (by decide)
      · exact ⟨c1, c2, c3⟩
    · rw [if_neg c2] at hw; exact absurd hw (by decide)
  · rw [if_neg c1] at hw; exact absurd hw (by decide)
theorem vk_strip {σ : St} (hV : vOK σ) (k n : Int32) : vOK (nw_strip σ k n) := by
  unfold nw_strip
  by_cases hw : wh_strip σ k n = 0
  · rw [if_pos hw]
    have g := thr_ok hw
    exact v_strip hV g.2.2 (isK_of g.1) (isIn_iff.mp g.2.1)
  · rw [if_neg hw]; exact v_rf hV _
theorem vk_tear {σ : St} (hV : vOK σ) (s : Int32) : vOK (nw_tear σ s) := by
  unfold nw_tear; split
  · exact hV
  · exact v_rf hV _
theorem kp_ok {σ : St} {s k i r : Int32} (hw : wh_keep σ s k i r = 0) : inC σ 2 s = true ∧ isK k ∧ inC σ 1 r = true ∧ agS σ s k i = 0 := by
  unfold wh_keep at hw
  by_cases c1 : inC σ 2 s = true
  · rw [if_pos c1] at hw
    by_cases c2 : fX8_isKind k = true
    · rw [if_pos c2] at hw
      by_cases c3 : inC σ 1 r = true
      · rw [if_pos c3] at hw; exact ⟨c1, isK_of c2, c3, hw⟩
      · rw [if_neg c3] at hw; exact absurd hw (by decide)
    · rw [if_neg c2] at hw; exact absurd hw (by decide)
  · rw [if_neg c1] at hw; exact absurd hw (by decide)
theorem vk_keep {σ : St} (hV : vOK σ) (s k i r : Int32) : vOK (nw_keep σ s k i r) := by
  unfold nw_keep
  by_cases hw : wh_keep σ s k i r = 0
  · rw [if_pos hw]
    have g := kp_ok hw
    have hg := agn_0 g.2.2.2
    exact v_keep hV (ix_lt (n := 16) (i_rng hV g.1 hg.2.2)) (by rw [hg.2.1]; exact cst_okB (rg_ok hV g.2.2.1).1 g.2.1 (rg_ok hV g.2.2.1).2)
  · rw [if_neg hw]; exact v_rf hV _
theorem vk_kept {σ : St} (hV : vOK σ) (s k i : Int32) : vOK (nw_kept σ s k i) := by
  unfold nw_kept; split
  · exact hV
  · exact v_rf hV _
theorem rt_ok {σ : St} {s r : Int32} (hw : wh_rests σ s r = 0) : inC σ 2 s = true ∧ inC σ 1 r = true ∧ σ.1 7 (ix s) = 0 ∧ 2 ≤ σ.1 5 (ix s) := by
  unfold wh_rests at hw
  by_cases c1 : inC σ 2 s = true
  · rw [if_pos c1] at hw
    by_cases c2 : inC σ 1 r = true
    · rw [if_pos c2] at hw
      by_cases c3 : σ.1 7 (ix s) = 0
      · rw [if_pos c3] at hw
        by_cases c4 : 2 ≤ σ.1 5 (ix s)
        · exact ⟨c1, c2, c3, c4⟩
        · rw [if_neg c4] at hw; exact absurd hw (by decide)
      · rw [if_neg c3] at hw; exact absurd hw (by decide)
    · rw [if_neg c2] at hw; exact absurd hw (by decide)
  · rw [if_neg c1] at hw; exact absurd hw (by decide)
theorem vk_rests {σ : St} (hV : vOK σ) (s r : Int32) : vOK (nw_rests σ s r) := by
  unfold nw_rests
  by_cases hw : wh_rests σ s r = 0
  · rw [if_pos hw]
    have g := rt_ok hw
    have T1 := hV.2.2.2.1 _ (inC_lt hV.1.2.2.1 g.1)
    have hkR := kR_of T1.1 g.2.2.2
    have n2 : (σ.1 6 (ix s)).toInt ≤ 16 := T1.2.1.2
    have o := rs_ok hkR (fun j hj => okRB hkR (T1.2.2 j hj)) (ix (σ.1 6 (ix s)) - 1) (by show (σ.1 6 (ix s)).toInt.toNat - 1 < 16; omega)
    exact v_store hV (cst_okB T1.1 (rg_ok hV g.2.1).1 (okBR hkR o))
  · rw [if_neg hw]; exact v_rf hV _
theorem vk_pointer {σ : St} (hV : vOK σ) (k w : Int32) : vOK (nw_pointer σ k w) := by
  unfold nw_pointer
  by_cases hw : wh_pointer σ k w = 0
  · rw [if_pos hw]
    have g := thr_ok hw
    exact v_pointer hV g.2.2 ⟨isK_of g.1, (inC_iff hV.1.1).mp g.2.1⟩
  · rw [if_neg hw]; exact v_rf hV _
theorem vk_stand {σ : St} (hV : vOK σ) (k n : Int32) : vOK (nw_stand σ k n) := by
  unfold nw_stand
  by_cases hw : wh_stand σ k n = 0
  · rw [if_pos hw]
    have g := thr_ok hw
    exact v_stand hV g.2.2 (isK_of g.1) (isIn_iff.mp g.2.1)
  · rw [if_neg hw]; exact v_rf hV _
theorem vk_hang {σ : St} (hV : vOK σ) (s i p : Int32) : vOK (nw_hang σ s i p) := by
  unfold nw_hang
  by_cases hw : wh_hang σ s i p = 0
  · rw [if_pos hw]
    unfold wh_hang at hw
    by_cases c1 : inC σ 4 s = true
    · rw [if_pos c1] at hw
      by_cases c2 : p = -1
      · exact v_lay hV (Or.inl c2)
      · rw [if_neg c2] at hw
        by_cases c3 : inC σ 3 p = true
        · exact v_lay hV (Or.inr ((inC_iff hV.1.2.2.2.1).mp c3))
        · rw [if_neg c3] at hw; exact absurd hw (by decide)
    · rw [if_neg c1] at hw; exact absurd hw (by decide)
  · rw [if_neg hw]; exact v_rf hV _
theorem vk_set {σ : St} (hV : vOK σ) (s i p : Int32) : vOK (nw_set σ s i p) := by
  unfold nw_set
  by_cases hw : wh_set σ s i p = 0
  · rw [if_pos hw]
    unfold wh_set at hw
    by_cases c1 : inC σ 4 s = true
    · rw [if_pos c1] at hw
      by_cases c2 : p = -1
      · exact v_lay hV (Or.inl c2)
      · rw [if_neg c2] at hw
        by_cases c3 : inC σ 3 p = true
        · exact v_lay hV (Or.inr ((inC_iff hV.1.2.2.2.1).mp c3))
        · rw [if_neg c3] at hw; exact absurd hw (by decide)
    · rw [if_neg c1] at hw; exact absurd hw (by decide)
  · rw [if_neg hw]; exact v_rf hV _
theorem vk_show {σ : St} (hV : vOK σ) (s i : Int32) : vOK (nw_show σ s i) := by
  unfold nw_show; split
  · exact hV
  · exact v_rf hV _
theorem vk_all {σ : St} (hV : vOK σ) (s : Int32) : vOK (nw_all σ s) := by
  unfold nw_all; split
  · exact hV
  · exact v_rf hV _
def st0 : St := (fun _ _ => 0, fun _ _ => 0)
theorem v_0 : vOK st0 := by
  have b : ∀ n : Int, 0 ≤ n → bnd 0 n := fun n h => ⟨by decide, h⟩
  refine ⟨⟨b _ (by decide), b _ (by decide), b _ (by decide), b _ (by decide), b _ (by decide)⟩, ?_, ?_, ?_, ?_, ?_⟩ <;> exact fun i hi => absurd hi (Nat.not_lt_zero _)
