/-! the law's loop, and its start -/
def lst0 : St := (fun _ _ => 0, fun _ _ => 0)
theorem cN0 (j : Nat) : cN lst0 j = 0 := by show (0 : Int32).toNatClampNeg = 0; decide
theorem cnt0 {t : Nat} (h : t < 7) : cnt lst0 t = 0 := by rcases lt7 h with rfl | rfl | rfl | rfl | rfl | rfl | rfl <;> exact cN0 _
theorem no_i {i j : Nat} (h : i < cN lst0 j) : False := by rw [cN0] at h; exact Nat.not_lt_zero i h
theorem bnd0 (n : Int) (h : 0 ≤ n) : bnd (0 : Int32) n := ⟨by decide, by rw [show (0 : Int32).toInt = 0 by decide]; exact h⟩
theorem lst0_ok : vOK lst0 :=
  ⟨⟨bnd0 10 (by decide), bnd0 16 (by decide), bnd0 8 (by decide), bnd0 12 (by decide), bnd0 8 (by decide)⟩, fun _ h => (no_i h).elim, fun _ h => (no_i h).elim, fun _ h => (no_i h).elim, fun _ h => (no_i h).elim, fun _ h => (no_i h).elim⟩
theorem mC0 : mC lst0 (fun _ => 0) (fun _ => 0) (fun _ => 0) (fun _ => 0) (fun _ => 0) (fun _ => 0) := ⟨fun _ h => (no_i h).elim, fun _ h => (no_i h).elim, fun _ h => (no_i h).elim⟩
theorem CI0 (z : Nat → ClassId) : CI z lst0 [] (fun _ => .inr (0, [])) (fun _ _ => 0) (fun _ _ => none) :=
  ⟨⟨fun t i h hi => by rw [cnt0 h] at hi; exact absurd hi (Nat.not_lt_zero i), fun t i t' i' h _ hi _ _ => by rw [cnt0 h] at hi; exact absurd hi (Nat.not_lt_zero i)⟩, fun _ h => (no_i h).elim, fun _ h => (no_i h).elim, fun _ h => (no_i h).elim, fun _ h => (no_i h).elim, fun _ h => (no_i h).elim⟩
theorem lp_out {k L : Nat} (hL : L ≤ 2560) (hk : 5 * k ≤ L) (h : L < 5 * k + 5) : Int32.ofNat L - 5 < nI (5 * k) := by
  have hs : (Int32.ofNat L - 5).toInt = (L : Int) - 5 := by
    have h1 : (Int32.ofNat L).toInt = (L : Int) := nI_toInt (n := L) (by omega)
    rw [Int32.toInt_sub, h1, show (5 : Int32).toInt = 5 by decide]
    exact Int.bmod_eq_of_le (by omega) (by omega)
  rw [Int32.lt_iff_toInt_lt, hs, nI_toInt (by omega)]
  omega
theorem lp_inc (k : Nat) : nI (5 * k) + Int32.ofInt 5 = nI (5 * (k + 1)) := by
  rw [show Int32.ofInt 5 = nI 5 by decide, nI_add]
  rfl
theorem law_end {p : Program} {l : Launch} {e : Env} {s : State} {m : MethodId} {below : List Frame} {meth : Method} {c : Code} {b L : Nat} {xs : Nat → Int32} (hL : L ≤ 2560) (C0 : lw_At p s m meth c b L xs) (k : Nat) (hk : 5 * k ≤ L) (H : Heap) (locs : List Loc) (hS : va_S (hS0 s) s.heap H locs) (ls : Array Slot) : W p l e room_1 s m #[Value.ref b] below meth c H locs (30 + 2 * k) (2000 + 18 * k) (lw_Z below #[Value.ref b] s) (F0 m 1010 ls []) := by
  obtain ⟨hx, hb, hr, hml, hown, hts, hX, hbl, hlocks, hgv⟩ := C0
  have hd0 := Drawn.sameBut.refl s.drawn lw_cs
  refine va_forget hS.2.2 ?_
  refine W.widen (k := 600000) (n := 7302250) (by omega) (by omega) ?_
  refine lv_iconst (v := 1) hx hb dL_law_1010 (by decide) ?_
  refine W.base ?_
  exact lw_ret hd0 hx hb hr hlocks dL_law_1011
theorem inL_X7 : ∀ w ∈ wsX70, w ∈ wsL_law := fun w h => List.mem_append_left _ (List.mem_append_left _ (List.mem_append_left _ (List.mem_append_left _ (List.mem_append_left _ (List.mem_append_left _ (List.mem_append_left _ (List.mem_append_right _ h)))))))
theorem inL_X8 : ∀ w ∈ wsX80, w ∈ wsL_law := fun w h => List.mem_append_left _ (List.mem_append_left _ (List.mem_append_left _ (List.mem_append_left _ (List.mem_append_left _ (List.mem_append_left _ (List.mem_append_right _ h))))))
theorem inL_X6 : ∀ w ∈ wsX60, w ∈ wsL_law := fun w h => List.mem_append_left _ (List.mem_append_left _ (List.mem_append_left _ (List.mem_append_left _ (List.mem_append_left _ (List.mem_append_right _ h)))))
theorem inL_X3 : ∀ w ∈ wsX30, w ∈ wsL_law := fun w h => List.mem_append_left _ (List.mem_append_left _ (List.mem_append_left _ (List.mem_append_left _ (List.mem_append_right _ h))))
theorem inL_X5 : ∀ w ∈ wsX50, w ∈ wsL_law := fun w h => List.mem_append_left _ (List.mem_append_left _ (List.mem_append_left _ (List.mem_append_right _ h)))
theorem inL_X1 : ∀ w ∈ wsX10, w ∈ wsL_law := fun w h => List.mem_append_left _ (List.mem_append_left _ (List.mem_append_right _ h))
theorem inL_X4 : ∀ w ∈ wsX40, w ∈ wsL_law := fun w h => List.mem_append_left _ (List.mem_append_right _ h)

set_option maxHeartbeats 4000000 in
set_option maxRecDepth 100000 in
theorem law_turn1 {p : Program} {l : Launch} {e : Env} {s : State} {m : MethodId} {below : List Frame} {meth : Method} {c : Code} {Dg : va_G} {b L : Nat} {xs : Nat → Int32} (hL : L ≤ 2560) (C0 : lw_At p s m meth c b L xs) (hao : va_AO RX1 s) {x0 m0 : Nat} {bb : Nat → Nat} {z : Nat → ClassId} {a : Nat → Nat} {y : Nat → ClassId} (hK : va_K Dg vwCl (mT y ++ cT z) s) (k : Nat) (hkL : 5 * k + 5 ≤ L) (kk : ∀ (σ : St), vOK σ → ∀ (u1 u2 : va_W), MI m0 a y σ u1 → CX x0 bb z σ u2 → ∀ (H : Heap) (locs : List Loc), va_P Dg vwCl (u1 ++ u2) H → va_D (hS0 s) (u1 ++ u2) → va_S (hS0 s) s.heap H locs → ∀ ls : Array Slot, lv_has ls 4 [(0, .ref b), (1, .ref x0), (2, .ref m0), (3, .int (nI (5 * k)))] → W p l e room_1 s m #[Value.ref b] below meth c H locs (30 + 2 * (k + 1)) (2000 + 18 * (k + 1)) (lw_Z below #[Value.ref b] s) (F0 m 1004 ls [])) (σ : St) (hV : vOK σ) (u1 u2 : va_W) (hm : MI m0 a y σ u1) (hc : CX x0 bb z σ u2) (H : Heap) (locs : List Loc) (hP : va_P Dg vwCl (u1 ++ u2) H) (hD : va_D (hS0 s) (u1 ++ u2)) (hS : va_S (hS0 s) s.heap H locs) (ls : Array Slot) (hl : lv_has ls 4 [(0, .ref b), (1, .ref x0), (2, .ref m0), (3, .int (nI (5 * k)))]) (v : Int32) : W p l e room_1 s m #[Value.ref b] below meth c H locs (30 + 2 * k) (2000 + 18 * k) (lw_Z below #[Value.ref b] s) (F0 m 32 ls [.int v]) := by
  obtain ⟨hx, hb, -⟩ := id C0
  by_cases ho : v.toInt < 0 ∨ 22 < v.toInt
  · refine lv_tableOut (tgt := 1004) hx hb dL_law_32 ho (by decide) ?_
    exact W.widen (by omega) (by omega) (kk σ hV u1 u2 hm hc H locs hP hD hS ls hl)
  · have hv : v.toInt = 0 ∨ v.toInt = 1 ∨ v.toInt = 2 ∨ v.toInt = 3 ∨ v.toInt = 4 ∨ v.toInt = 5 ∨ v.toInt = 6 ∨ v.toInt = 7 ∨ v.toInt = 8 ∨ v.toInt = 9 ∨ v.toInt = 10 ∨ v.toInt = 11 ∨ v.toInt = 12 ∨ v.toInt = 13 ∨ v.toInt = 14 ∨ v.toInt = 15 ∨ v.toInt = 16 ∨ v.toInt = 17 ∨ v.toInt = 18 ∨ v.toInt = 19 ∨ v.toInt = 20 ∨ v.toInt = 21 ∨ v.toInt = 22 := by omega
    rcases hv with h | h | h | h | h | h | h | h | h | h | h | h | h | h | h | h | h | h | h | h | h | h | h
    · refine lv_tableIn (x := v) (off := 108) (tgt := 140) hx hb dL_law_32 (by rw [h]; decide) (by rw [h]; decide) (by rw [h]; rfl) (by decide) ?_
      exact law_wheel hL C0 hao hK k hkL σ hV u1 u2 hm hc H locs hP hD hS ls hl kk
    · refine lv_tableIn (x := v) (off := 171) (tgt := 203) hx hb dL_law_32 (by rw [h]; decide) (by rw [h]; decide) (by rw [h]; rfl) (by decide) ?_
      exact law_turn hL C0 hao hK k hkL σ hV u1 u2 hm hc H locs hP hD hS ls hl kk
    · refine lv_tableIn (x := v) (off := 234) (tgt := 266) hx hb dL_law_32 (by rw [h]; decide) (by rw [h]; decide) (by rw [h]; rfl) (by decide) ?_
      exact law_wheelOf hL C0 hao hK k hkL σ hV u1 u2 hm hc H locs hP hD hS ls hl kk
    · refine lv_tableIn (x := v) (off := 268) (tgt := 300) hx hb dL_law_32 (by rw [h]; decide) (by rw [h]; decide) (by rw [h]; rfl) (by decide) ?_
      exact law_register hL C0 hao hK k hkL σ hV u1 u2 hm hc H locs hP hD hS ls hl kk
    · refine lv_tableIn (x := v) (off := 291) (tgt := 323) hx hb dL_law_32 (by rw [h]; decide) (by rw [h]; decide) (by rw [h]; rfl) (by decide) ?_
      exact law_load hL C0 hao hK k hkL σ hV u1 u2 hm hc H locs hP hD hS ls hl kk
    · refine lv_tableIn (x := v) (off := 364) (tgt := 396) hx hb dL_law_32 (by rw [h]; decide) (by rw [h]; decide) (by rw [h]; rfl) (by decide) ?_
      exact law_read hL C0 hao hK k hkL σ hV u1 u2 hm hc H locs hP hD hS ls hl kk
    · refine lv_tableIn (x := v) (off := 398) (tgt := 430) hx hb dL_law_32 (by rw [h]; decide) (by rw [h]; decide) (by rw [h]; rfl) (by decide) ?_
      exact law_move hL C0 hao hK k hkL σ hV u1 u2 hm hc H locs hP hD hS ls hl kk
    · refine lv_tableIn (x := v) (off := 431) (tgt := 463) hx hb dL_law_32 (by rw [h]; decide) (by rw [h]; decide) (by rw [h]; rfl) (by decide) ?_
      exact law_take hL C0 hao hK k hkL σ hV u1 u2 hm hc H locs hP hD hS ls hl kk
    · refine lv_tableIn (x := v) (off := 464) (tgt := 496) hx hb dL_law_32 (by rw [h]; decide) (by rw [h]; decide) (by rw [h]; rfl) (by decide) ?_
      exact law_work hL C0 hao hK k hkL σ hV u1 u2 hm hc H locs hP hD hS ls hl kk
    · refine lv_tableIn (x := v) (off := 517) (tgt := 549) hx hb dL_law_32 (by rw [h]; decide) (by rw [h]; decide) (by rw [h]; rfl) (by decide) ?_
      exact law_strip hL C0 hao hK k hkL σ hV u1 u2 hm hc H locs hP hD hS ls hl kk
    · refine lv_tableIn (x := v) (off := 550) (tgt := 582) hx hb dL_law_32 (by rw [h]; decide) (by rw [h]; decide) (by rw [h]; rfl) (by decide) ?_
      exact law_tear hL C0 hao hK k hkL σ hV u1 u2 hm hc H locs hP hD hS ls hl kk
    · refine lv_tableIn (x := v) (off := 573) (tgt := 605) hx hb dL_law_32 (by rw [h]; decide) (by rw [h]; decide) (by rw [h]; rfl) (by decide) ?_
      exact law_keep hL C0 hao hK k hkL σ hV u1 u2 hm hc H locs hP hD hS ls hl kk
    · refine lv_tableIn (x := v) (off := 626) (tgt := 658) hx hb dL_law_32 (by rw [h]; decide) (by rw [h]; decide) (by rw [h]; rfl) (by decide) ?_
      exact law_kept hL C0 hao hK k hkL σ hV u1 u2 hm hc H locs hP hD hS ls hl kk
    · refine lv_tableIn (x := v) (off := 670) (tgt := 702) hx hb dL_law_32 (by rw [h]; decide) (by rw [h]; decide) (by rw [h]; rfl) (by decide) ?_
      exact law_rests hL C0 hao hK k hkL σ hV u1 u2 hm hc H locs hP hD hS ls hl kk
    · refine lv_tableIn (x := v) (off := 703) (tgt := 735) hx hb dL_law_32 (by rw [h]; decide) (by rw [h]; decide) (by rw [h]; rfl) (by decide) ?_
      exact law_pointer hL C0 hao hK k hkL σ hV u1 u2 hm hc H locs hP hD hS ls hl kk
    · refine lv_tableIn (x := v) (off := 736) (tgt := 768) hx hb dL_law_32 (by rw [h]; decide) (by rw [h]; decide) (by rw [h]; rfl) (by decide) ?_
      exact law_stand hL C0 hao hK k hkL σ hV u1 u2 hm hc H locs hP hD hS ls hl kk
    · refine lv_tableIn (x := v) (off := 769) (tgt := 801) hx hb dL_law_32 (by rw [h]; decide) (by rw [h]; decide) (by rw [h]; rfl) (by decide) ?_
      exact law_set hL C0 hao hK k hkL σ hV u1 u2 hm hc H locs hP hD hS ls hl kk
    · refine lv_tableIn (x := v) (off := 812) (tgt := 844) hx hb dL_law_32 (by rw [h]; decide) (by rw [h]; decide) (by rw [h]; rfl) (by decide) ?_
      exact law_hang hL C0 hao hK k hkL σ hV u1 u2 hm hc H locs hP hD hS ls hl kk
    · refine lv_tableIn (x := v) (off := 855) (tgt := 887) hx hb dL_law_32 (by rw [h]; decide) (by rw [h]; decide) (by rw [h]; rfl) (by decide) ?_
      exact law_show hL C0 hao hK k hkL σ hV u1 u2 hm hc H locs hP hD hS ls hl kk
    · refine lv_tableIn (x := v) (off := 889) (tgt := 921) hx hb dL_law_32 (by rw [h]; decide) (by rw [h]; decide) (by rw [h]; rfl) (by decide) ?_
      exact law_all hL C0 hao hK k hkL σ hV u1 u2 hm hc H locs hP hD hS ls hl kk
    · refine lv_tableIn (x := v) (off := 913) (tgt := 945) hx hb dL_law_32 (by rw [h]; decide) (by rw [h]; decide) (by rw [h]; rfl) (by decide) ?_
      exact law_count hL C0 hao hK k hkL σ hV u1 u2 hm hc H locs hP hD hS ls hl kk
    · refine lv_tableIn (x := v) (off := 936) (tgt := 968) hx hb dL_law_32 (by rw [h]; decide) (by rw [h]; decide) (by rw [h]; rfl) (by decide) ?_
      exact law_often hL C0 hao hK k hkL σ hV u1 u2 hm hc H locs hP hD hS ls hl kk
    · refine lv_tableIn (x := v) (off := 959) (tgt := 991) hx hb dL_law_32 (by rw [h]; decide) (by rw [h]; decide) (by rw [h]; rfl) (by decide) ?_
      exact law_refused hL C0 hao hK k hkL σ hV u1 u2 hm hc H locs hP hD hS ls hl kk
set_option maxHeartbeats 4000000 in
set_option maxRecDepth 100000 in
theorem law_loop {p : Program} {l : Launch} {e : Env} {s : State} {m : MethodId} {below : List Frame} {meth : Method} {c : Code} {Dg : va_G} {b L : Nat} {xs : Nat → Int32} (hL : L ≤ 2560) (C0 : lw_At p s m meth c b L xs) (hao : va_AO RX1 s) {x0 m0 : Nat} {bb : Nat → Nat} {z : Nat → ClassId} {a : Nat → Nat} {y : Nat → ClassId} (hK : va_K Dg vwCl (mT y ++ cT z) s) : ∀ (n k : Nat), 5 * k ≤ L → L ≤ 5 * k + n → ∀ (σ : St), vOK σ → ∀ (u1 u2 : va_W), MI m0 a y σ u1 → CX x0 bb z σ u2 → ∀ (H : Heap) (locs : List Loc), va_P Dg vwCl (u1 ++ u2) H → va_D (hS0 s) (u1 ++ u2) → va_S (hS0 s) s.heap H locs → ∀ ls : Array Slot, lv_has ls 4 [(0, .ref b), (1, .ref x0), (2, .ref m0), (3, .int (nI (5 * k)))] → W p l e room_1 s m #[Value.ref b] below meth c H locs (30 + 2 * k) (2000 + 18 * k) (lw_Z below #[Value.ref b] s) (F0 m 18 ls []) := by
  intro n
  induction n with
  | zero =>
    intro k hk1 hk2 σ hV u1 u2 hm hc H locs hP hD hS ls hl
    obtain ⟨hx, hb, hr, hml, hown, hts, hX, hbl, hlocks, hgv⟩ := id C0
    have hbA : ¬ hS0 s b := Nat.not_le.mpr hbl
    refine lv_iload_n hx hb dL_law_18 rfl (lv_at hl 3 rfl) ?_
    refine lv_aload_n hx hb dL_law_19 rfl (lv_at hl 0 rfl) ?_
    refine va_slen hx hb hX hbl hbA hS dL_law_20 ?_
    refine lv_iconst (v := 5) hx hb dL_law_21 (by decide) ?_
    refine lv_isub hx hb dL_law_22 ?_
    refine lv_icmp_gt (tgt := 1010) hx hb dL_law_23 (by decide) (fun _ => law_end hL C0 k hk1 H locs hS ls) (fun h => absurd (lp_out (k := k) hL hk1 (by omega)) h)
  | succ n ih =>
    intro k hk1 hk2 σ hV u1 u2 hm hc H locs hP hD hS ls hl
    obtain ⟨hx, hb, hr, hml, hown, hts, hX, hbl, hlocks, hgv⟩ := id C0
    have hbA : ¬ hS0 s b := Nat.not_le.mpr hbl
    refine lv_iload_n hx hb dL_law_18 rfl (lv_at hl 3 rfl) ?_
    refine lv_aload_n hx hb dL_law_19 rfl (lv_at hl 0 rfl) ?_
    refine va_slen hx hb hX hbl hbA hS dL_law_20 ?_
    refine lv_iconst (v := 5) hx hb dL_law_21 (by decide) ?_
    refine lv_isub hx hb dL_law_22 ?_
    refine lv_icmp_gt (tgt := 1010) hx hb dL_law_23 (by decide) (fun _ => law_end hL C0 k hk1 H locs hS ls) (fun h => ?_)
    have hkL : 5 * k + 5 ≤ L := Nat.not_lt.mp (fun q => h (lp_out (k := k) hL hk1 q))
    refine lv_aload_n hx hb dL_law_26 rfl (lv_at hl 0 rfl) ?_
    refine lv_iload_n hx hb dL_law_27 rfl (lv_at hl 3 rfl) ?_
    refine va_sld hx hb hX hbl hbA hS (vp_in_nI (by omega) (by omega)) dL_law_28 ?_
    refine lv_bipush (v := 31) hx hb dL_law_29 (by decide) ?_
    refine lv_iand hx hb dL_law_31 ?_
    refine law_turn1 hL C0 hao hK k hkL ?_ σ hV u1 u2 hm hc H locs hP hD hS ls hl _
    intro τ hV u1 u2 hm hc H locs hP hD hS ls hl
    refine lv_iinc (v := nI (5 * (k + 1))) (lv' := [(3, .int (nI (5 * (k + 1)))), (0, .ref b), (1, .ref x0), (2, .ref m0)]) hx hb dL_law_1004 hl (k := 3) rfl (lp_inc k) (by decide) rfl (fun ls hl => ?_)
    refine lv_goto (tgt := 18) hx hb dL_law_1007 (by decide) ?_
    exact ih (k + 1) (by omega) (by omega) τ hV u1 u2 hm hc H locs hP hD hS ls (lv_sub hl [1, 2, 3, 0] rfl)
set_option maxHeartbeats 4000000 in
set_option maxRecDepth 100000 in
theorem law_known {s : State} {b : Nat} (hts : ∀ w ∈ lw_tbl, w.before #[Value.ref b] s = true) : (∃ Dg : va_G, va_K Dg vwCl [] s) ∧ va_AO RX6 s ∧ va_AO RX3 s ∧ va_AO RX5 s ∧ va_AO RX1 s ∧ va_AO RX4 s := by
  have hao : ∀ C : String, Cond.arrayOver (.object C) ∈ tables_1 → va_AO C s := fun C h => va_AO.of (hts _ (List.mem_append_right _ h))
  refine ⟨?_, hao RX6 (by decide +kernel), hao RX3 (by decide +kernel), hao RX5 (by decide +kernel), hao RX1 (by decide +kernel), hao RX4 (by decide +kernel)⟩
  have hts : ∀ w ∈ wsL_law, w.before #[Value.ref b] s = true := fun w h => hts w (wsL_law_in w h)
  obtain ⟨k0, i0, n0⟩ := u_known (C := RX1) (T := TX1) (N := 2) (n := 2) hts inL_X1 (hts (.instantiable RX1 2) (by decide +kernel))
  obtain ⟨k1, i1, n1⟩ := u_known (C := RX3) (T := TX3) (N := 2) (n := 2) hts inL_X3 (hts (.instantiable RX3 2) (by decide +kernel))
  obtain ⟨k2, i2, n2⟩ := u_known (C := RX4) (T := TX4) (N := 2) (n := 2) hts inL_X4 (hts (.instantiable RX4 2) (by decide +kernel))
  obtain ⟨k3, i3, n3⟩ := u_known (C := RX5) (T := TX5) (N := 2) (n := 2) hts inL_X5 (hts (.instantiable RX5 2) (by decide +kernel))
  obtain ⟨k4, i4, n4⟩ := u_known (C := RX6) (T := TX6) (N := 3) (n := 3) hts inL_X6 (hts (.instantiable RX6 3) (by decide +kernel))
  obtain ⟨k5, i5, n5⟩ := u_known (C := RX7) (T := TX7) (N := 12) (n := 12) hts inL_X7 (hts (.instantiable RX7 12) (by decide +kernel))
  obtain ⟨k6, i6, n6⟩ := u_known (C := RX8) (T := TX8) (N := 26) (n := 26) hts inL_X8 (hts (.instantiable RX8 26) (by decide +kernel))
  refine ⟨(sel6 k0 k1 k2 k3 k4 k5 k6, sel6 i0 i1 i2 i3 i4 i5 i6), ?_, fun k q h => by simp at h⟩
  intro k q hq
  match k, hq with
  | 0, hq => cases hq; exact n0
  | 1, hq => cases hq; exact n1
  | 2, hq => cases hq; exact n2
  | 3, hq => cases hq; exact n3
  | 4, hq => cases hq; exact n4
  | 5, hq => cases hq; exact n5
  | 6, hq => cases hq; exact n6
  | k + 7, hq => simp [vwCl] at hq
set_option maxHeartbeats 4000000 in
set_option maxRecDepth 100000 in
/-- THE LAW, from its entry -/
theorem whole_start {p : Program} {e : Env} {s : State} {m : MethodId} {below : List Frame} {meth : Method} {c : Code} (l : Launch) {b L : Nat} {xs : Nat → Int32} (hL : L ≤ 2560) (C0 : lw_At p s m meth c b L xs) : W p l e room_1 s m #[Value.ref b] below meth c s.heap [] 0 0 (lw_Z below #[Value.ref b] s) (entryFrame m ([Value.ref b] : List Value).toArray 4) := by
  obtain ⟨hx, hb, hr, hml, hown, hts0, hX, hbl, hlocks, hgv⟩ := id C0
  have hown : s.vm.findClass RL = some m.cls := hown
  obtain ⟨⟨Dg, hK⟩, ha6, ha3, ha5, ha1, ha4⟩ := law_known hts0
  have hts : ∀ w ∈ wsL_law, w.before #[Value.ref b] s = true := fun w h => hts0 w (wsL_law_in w h)
  have hA : ∀ q : Nat, s.heap.size ≤ q → hS0 s q := fun _ h => h
  have hS : va_S (hS0 s) s.heap s.heap [] := va_S.rf
  have hP : va_P Dg vwCl [] s.heap := fun k q h => by simp at h
  have hD : va_D (hS0 s) [] := ⟨fun i j p q h => by simp at h, fun k q h => by simp at h⟩
  have hl := lv_entry ([.ref b]) (n := 4) (Nat.le_of_ble_eq_true rfl)
  rw [lg_entry_eq]
  generalize (lg_sl ([.ref b]) ++ List.replicate (4 - (lg_sl ([.ref b])).length) Slot.unset).toArray = ls at hl ⊢
  have hl : lv_has ls 4 [(0, .ref b)] := hl
  refine va_new (c0 := c) (D := Dg) (ci := 5) (C := RX7) (T := TX7) (N := 12) (fs := [.null, .null, .null, .null, .null, .int 0, .int 0, .int 0, .int 0, .int 0, .null, .int 0]) hx hb hts inL_X7 tyX7 tyX7_ok hown (hts (.classLink RL 7 RX7) (by decide +kernel)) (hts (.instantiable RX7 12) (by decide +kernel)) (hts (.initialized RX7) (by decide +kernel)) hK hP hD hS hA rfl (by decide +kernel) (Nat.le_of_ble_eq_true rfl) (Nat.le_of_ble_eq_true rfl) dL_law_0 (fun x0 H hP hD hS => ?_)
  have hP : va_P Dg vwCl [(x0, .inr (5, [.null, .null, .null, .null, .null, .int 0, .int 0, .int 0, .int 0, .int 0, .null, .int 0]))] H := hP
  have hD : va_D (hS0 s) [(x0, .inr (5, [.null, .null, .null, .null, .null, .int 0, .int 0, .int 0, .int 0, .int 0, .null, .int 0]))] := hD
  refine lv_dup hx hb dL_law_3 rfl ?_
  have hFc := A_last (W := []) hD hS hA
  refine va_callv (va_runI (As := []) (rest := [.ref x0]) ⟨hx, hb, hml, hown, hts⟩ (met_X7_init l Dg x0 H.size) (cwI 0 hts gL_law_X7_init rfl rfl rfl (hts (.initialized RX7) (by decide +kernel)) (hts (.methodLink RL 9 yX7_init) (by decide +kernel)) (hts (.instanceMethod yX7_init) (by decide +kernel)) rfl (by decide +kernel) ⟨Nat.le_of_ble_eq_true rfl, Nat.le_of_ble_eq_true rfl⟩) (wPreIA ha6 ha3 ha5 ha1 ha4 hK hP (hD.weaken (fun _ _ _ _ => trivial))) rfl rfl hl.1 rfl (lv_room (Nat.le_of_ble_eq_true rfl)) dL_law_4 ⟨Nat.le_of_ble_eq_true rfl, Nat.le_of_ble_eq_true rfl⟩) hS (fun q9 _ h => hFc q9 h) hFc (fun u t H1 locs ht hvm hw hB _ hk1 hS => ?_)
  obtain ⟨hP1, hK1, hD1⟩ := hB
  rw [ht] at hP1
  have hK1 := va_K.moved hvm.symm hK1
  obtain ⟨hP, hD⟩ := join_last (W := []) hP hD hk1 hFc hP1 hD1
  clear hP1 hD1 hFc hk1 ht hw
  obtain ⟨bb, z1⟩ := u
  refine lv_astore_n (lv' := [(1, .ref x0), (0, .ref b)]) hx hb dL_law_7 rfl hl (by decide) rfl (fun ls hl => ?_)
  refine va_new (c0 := c) (D := Dg) (ci := 6) (C := RX8) (T := TX8) (N := 26) (fs := [.int 0, .null, .int 0, .long 0, .double 0, .int 0, .null, .null, .null, .int 0, .null, .null, .null, .int 0, .null, .null, .null, .null, .null, .int 0, .null, .null, .int 0, .null, .null, .null]) hx hb hts inL_X8 tyX8 tyX8_ok hown (hts (.classLink RL 10 RX8) (by decide +kernel)) (hts (.instantiable RX8 26) (by decide +kernel)) (hts (.initialized RX8) (by decide +kernel)) hK hP hD hS hA rfl (by decide +kernel) (Nat.le_of_ble_eq_true rfl) (Nat.le_of_ble_eq_true rfl) dL_law_8 (fun m0 H2 hP hD hS => ?_)
  refine lv_dup hx hb dL_law_11 rfl ?_
  have hPc := P_last hP
  have hDc := D_last hD
  have hFc := A_last hD hS hA
  refine va_callv (va_runI (As := []) (rest := [.ref m0]) ⟨hx, hb, hml, hown, hts⟩ (met_X8_init l Dg m0 H2.size) (cwI 0 hts gL_law_X8_init rfl rfl rfl (hts (.initialized RX8) (by decide +kernel)) (hts (.methodLink RL 12 yX8_init) (by decide +kernel)) (hts (.instanceMethod yX8_init) (by decide +kernel)) rfl (by decide +kernel) ⟨Nat.le_of_ble_eq_true rfl, Nat.le_of_ble_eq_true rfl⟩) (wPreI hK hPc (hDc.weaken (fun _ _ _ _ => trivial))) rfl rfl hl.1 rfl (lv_room (Nat.le_of_ble_eq_true rfl)) dL_law_12 ⟨Nat.le_of_ble_eq_true rfl, Nat.le_of_ble_eq_true rfl⟩) hS (fun q9 _ h => hFc q9 h) hFc (fun u t H3 locs ht hvm hw hB _ hk1 hS => ?_)
  obtain ⟨hP1, hK2, hD1⟩ := hB
  rw [ht] at hP1
  have hK2 := va_K.moved hvm.symm hK2
  obtain ⟨hP2, hD2⟩ := join_last hP hD hk1 hFc hP1 hD1
  clear hP1 hD1 hFc hk1 ht hw hPc hDc hP hD
  obtain ⟨a, y⟩ := u
  have hP := va_P.swap (a := []) hP2
  have hD := va_D.swap (a := []) hD2
  have hKA : va_K Dg vwCl (mT y ++ cT (sel6 (z1 0) (z1 1) (z1 2) (z1 3) (z1 4) (z1 5) (y 5))) s := (hK2.app hK1).sub [0, 1, 2, 3, 4, 5, 6, 7, 8, 9, 10, 11, 12, 13, 14, 15, 16, 17, 18, 19, 20, 21, 22, 5] rfl
  refine lv_astore_n (lv' := [(2, .ref m0), (1, .ref x0), (0, .ref b)]) hx hb dL_law_15 rfl hl (by decide) rfl (fun ls hl => ?_)
  refine lv_iconst (v := 0) hx hb dL_law_16 (by decide) ?_
  refine lv_istore_n (lv' := [(3, .int 0), (2, .ref m0), (1, .ref x0), (0, .ref b)]) hx hb dL_law_17 rfl hl (by decide) rfl (fun ls hl => ?_)
  refine W.widen (k := 30 + 2 * 0) (n := 2000 + 18 * 0) (Nat.le_of_ble_eq_true rfl) (Nat.le_of_ble_eq_true rfl) ?_
  have hl : lv_has ls 4 [(0, .ref b), (1, .ref x0), (2, .ref m0), (3, .int (nI (5 * 0)))] := lv_sub hl [3, 2, 1, 0] rfl
  exact law_loop hL C0 ha1 hKA L 0 (Nat.zero_le L) (by omega) lst0 lst0_ok _ _ ⟨0, 0, 0, fun _ => 0, fun _ => 0, fun _ => 0, fun _ => 0, fun _ => 0, fun _ => 0, rfl, mC0⟩ ⟨[], fun _ => .inr (0, []), fun _ _ => 0, fun _ _ => none, rfl, CI0 _⟩ H3 locs hP hD hS ls hl
