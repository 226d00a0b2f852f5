/-! the law -/
theorem join_last {A0 : Nat → Prop} {D : va_G} {cl : List vw_C} {W w w1 : va_W} {H H1 : Heap} (hP : va_P D cl (W ++ w) H) (hD : va_D A0 (W ++ w)) (hk : ∀ x : Nat, x < H.size → ¬ va_A w H.size x → H1[x]? = H[x]?) (hF : ∀ x, va_A w H.size x → A0 x) (hP1 : va_P D cl w1 H1) (hD1 : va_D (va_A w H.size) w1) : va_P D cl (W ++ w1) H1 ∧ va_D A0 (W ++ w1) := by
  have at1 : ∀ (k : Nat) (q : Nat × va_E), W[k]? = some q → (W ++ w)[k]? = some q := fun k q hq => by rw [List.getElem?_append_left (List.getElem?_eq_some_iff.mp hq).1]; exact hq
  have at2 : ∀ (k : Nat) (q : Nat × va_E), w[k]? = some q → (W ++ w)[W.length + k]? = some q := fun k q hq => by rw [List.getElem?_append_right (by omega), Nat.add_sub_cancel_left]; exact hq
  have apart : ∀ (k : Nat) (q : Nat × va_E), W[k]? = some q → q.1 < H.size ∧ ¬ va_A w H.size q.1 := by
    intro k q hq
    have hl := (hP k q (at1 k q hq)).lt
    refine ⟨hl, fun h => ?_⟩
    rcases h with ⟨k2, e, h⟩ | h
    · have hij := hD.1 k (W.length + k2) q (q.1, e) (at1 k q hq) (at2 k2 _ h) rfl
      have := (List.getElem?_eq_some_iff.mp hq).1
      omega
    · omega
  refine ⟨va_P.app (fun k q hq => ?_) hP1, va_D.app ⟨fun i j p q hi hj e => hD.1 i j p q (at1 i p hi) (at1 j q hj) e, fun k q hq => hD.2 k q (at1 k q hq)⟩ (hD1.weaken (fun k q _ h => hF q.1 h)) (fun i j x y hx hy hxy => ?_)⟩
  · exact (hP k q (at1 k q hq)).kept (hk q.1 (apart k q hq).1 (apart k q hq).2)
  · exact (apart i x hx).2 (by rw [hxy]; exact hD1.2 j y hy)
theorem A_last {A0 : Nat → Prop} {W w : va_W} {H0 H : Heap} {locs : List Loc} (hD : va_D A0 (W ++ w)) (hS : va_S A0 H0 H locs) (hA : ∀ q, H0.size ≤ q → A0 q) : ∀ q, va_A w H.size q → A0 q :=
  fun q h => h.elim (fun ⟨k, e, hk⟩ => (D_last hD).2 k (q, e) hk) (fun h => hA q (Nat.le_trans hS.1 h))
theorem sc_in {n j L : Nat} (h : n + j < L) (hL : L ≤ 2560) : vp_in (nI n + nI j) L := by rw [nI_add]; exact vp_in_nI h (by omega)
abbrev hS0 (s : State) (q : Nat) : Prop := s.heap.size ≤ q

set_option maxHeartbeats 4000000 in
set_option maxRecDepth 100000 in
theorem law_wheel {p : Program} {l : Launch} {e : Env} {s : State} {m : MethodId} {below : List Frame} {meth : Method} {c : Code} {Dg : va_G} {b L : Nat} {xs : Nat → Int32} (hL : L ≤ 2560) (C0 : lw_At p s m meth c b L xs) (hao : va_AO RX1 s) {x0 m0 : Nat} {bb : Nat → Nat} {z : Nat → ClassId} {a : Nat → Nat} {y : Nat → ClassId} (hK : va_K Dg vwCl (mT y ++ cT z) s) (k : Nat) (hkL : 5 * k + 5 ≤ L) (σ : St) (hV : vOK σ) (u1 u2 : va_W) (hm : MI m0 a y σ u1) (hc : CX x0 bb z σ u2) (H : Heap) (locs : List Loc) (hP : va_P Dg vwCl (u1 ++ u2) H) (hD : va_D (hS0 s) (u1 ++ u2)) (hS : va_S (hS0 s) s.heap H locs) (ls : Array Slot) (hl : lv_has ls 4 [(0, .ref b), (1, .ref x0), (2, .ref m0), (3, .int (nI (5 * k)))]) (kk : ∀ (τ : St), vOK τ → ∀ (u1 u2 : va_W), MI m0 a y τ u1 → CX x0 bb z τ u2 → ∀ (H : Heap) (locs : List Loc), va_P Dg vwCl (u1 ++ u2) H → va_D (hS0 s) (u1 ++ u2) → va_S (hS0 s) s.heap H locs → ∀ ls : Array Slot, lv_has ls 4 [(0, .ref b), (1, .ref x0), (2, .ref m0), (3, .int (nI (5 * k)))] → W p l e room_1 s m #[Value.ref b] below meth c H locs (30 + 2 * (k + 1)) (2000 + 18 * (k + 1)) (lw_Z below #[Value.ref b] s) (F0 m 1004 ls [])) : W p l e room_1 s m #[Value.ref b] below meth c H locs (30 + 2 * k) (2000 + 18 * k) (lw_Z below #[Value.ref b] s) (F0 m 140 ls []) := by
  obtain ⟨hx, hb, hr, hml, hown, hts, hX, hbl, hlocks, hgv⟩ := C0
  have hown : s.vm.findClass RL = some m.cls := hown
  have hts : ∀ w ∈ wsL_law, w.before #[Value.ref b] s = true := fun w h => hts w (wsL_law_in w h)
  have hA : ∀ q : Nat, s.heap.size ≤ q → hS0 s q := fun _ h => h
  have hbA : ¬ hS0 s b := Nat.not_le.mpr hbl
  have h_1 : vp_in (nI (5 * k) + 1) L := sc_in (j := 1) (by omega) hL
  have h_2 : vp_in (nI (5 * k) + 2) L := sc_in (j := 2) (by omega) hL
  have h_3 : vp_in (nI (5 * k) + 3) L := sc_in (j := 3) (by omega) hL
  have h_4 : vp_in (nI (5 * k) + 4) L := sc_in (j := 4) (by omega) hL
  obtain ⟨kd, wh, re, aTo, aPo, aRw, aRr, aWs, aRs, rfl, hM⟩ := hm
  obtain ⟨Lp, f, ad, g, rfl, hC⟩ := hc
  refine lv_aload_n hx hb dL_law_140 rfl (lv_at hl 1 rfl) ?_
  refine lv_aload_n hx hb dL_law_141 rfl (lv_at hl 0 rfl) ?_
  refine lv_iload_n hx hb dL_law_142 rfl (lv_at hl 3 rfl) ?_
  refine lv_iconst (v := 1) hx hb dL_law_143 (by decide) ?_
  refine lv_iadd hx hb dL_law_144 ?_
  refine va_sld hx hb hX hbl hbA hS h_1 dL_law_145 ?_
  refine lv_aload_n hx hb dL_law_146 rfl (lv_at hl 0 rfl) ?_
  refine lv_iload_n hx hb dL_law_147 rfl (lv_at hl 3 rfl) ?_
  refine lv_iconst (v := 2) hx hb dL_law_148 (by decide) ?_
  refine lv_iadd hx hb dL_law_149 ?_
  refine va_sld hx hb hX hbl hbA hS h_2 dL_law_150 ?_
  refine lv_i2l hx hb dL_law_151 rfl ?_
  refine lv_bipush (v := 32) hx hb dL_law_152 (by decide) ?_
  refine lv_lshl hx hb dL_law_154 rfl ?_
  refine lv_aload_n hx hb dL_law_155 rfl (lv_at hl 0 rfl) ?_
  refine lv_iload_n hx hb dL_law_156 rfl (lv_at hl 3 rfl) ?_
  refine lv_iconst (v := 3) hx hb dL_law_157 (by decide) ?_
  refine lv_iadd hx hb dL_law_158 ?_
  refine va_sld hx hb hX hbl hbA hS h_3 dL_law_159 ?_
  refine lv_i2l hx hb dL_law_160 rfl ?_
  refine lv_ldc2 hx hb hown (hts (.constantLong RL 13 (4294967295)) (by decide +kernel)) dL_law_161 ?_
  refine lv_land hx hb dL_law_164 ?_
  refine lv_lor hx hb dL_law_165 ?_
  have hPc := P_last hP
  have hDc := D_last hD
  have hKc := hK.sub (tys' := cT z) [17, 18, 19, 20, 21, 22, 23] rfl
  have hFc := A_last hD hS hA
  refine va_calli (va_runV (As := [.int (xs (nI (5 * k) + 1).toNatClampNeg), .long ((((xs (nI (5 * k) + 2).toNatClampNeg).toInt64) <<< ((32 : Int32).toInt64 &&& 63)) ||| (((xs (nI (5 * k) + 3).toNatClampNeg).toInt64) &&& 4294967295))]) (rest := []) ⟨hx, hb, hml, hown, hts⟩ (met_X7_wheel l Dg x0 H.size bb z σ Lp f ad g (xs (nI (5 * k) + 1).toNatClampNeg) ((((xs (nI (5 * k) + 2).toNatClampNeg).toInt64) <<< ((32 : Int32).toInt64 &&& 63)) ||| (((xs (nI (5 * k) + 3).toNatClampNeg).toInt64) &&& 4294967295)) hV hC) (cwV 2 hts gL_law_X7_wheel rfl rfl rfl (by decide +kernel) ⟨Nat.le_of_ble_eq_true rfl, Nat.le_of_ble_eq_true rfl⟩) (wPreV hKc hPc (hDc.weaken (fun _ _ _ _ => trivial)) (va_recv hKc hPc (ci := 5) (q0 := 0) rfl rfl)) rfl rfl hl.1 rfl (lv_room (Nat.le_of_ble_eq_true rfl)) dL_law_166 ⟨by show 30 + 2 * k + 1 ≤ 600000; omega, by show 2000 + 18 * k + 3 ≤ 7302250; omega⟩) hS (fun q _ h => hFc q h) hFc (fun r1 u t H1 locs ht hvm hw hB _ hk1 hS => ?_)
  obtain ⟨hP1, -, hD1⟩ := hB
  rw [ht] at hP1
  obtain ⟨hP, hD⟩ := join_last hP hD hk1 hFc hP1 hD1
  obtain ⟨e1, hc1⟩ := hw
  clear hP1 hD1 hPc hDc hFc hk1
  refine W.widen (k := 30 + 2 * (k + 1)) (n := 2000 + 18 * (k + 1)) (by omega) (by omega) ?_
  refine lv_aload_n hx hb dL_law_169 rfl (lv_at hl 2 rfl) ?_
  refine lv_aload_n hx hb dL_law_170 rfl (lv_at hl 0 rfl) ?_
  refine lv_iload_n hx hb dL_law_171 rfl (lv_at hl 3 rfl) ?_
  refine lv_iconst (v := 1) hx hb dL_law_172 (by decide) ?_
  refine lv_iadd hx hb dL_law_173 ?_
  refine va_sld hx hb hX hbl hbA hS h_1 dL_law_174 ?_
  refine lv_aload_n hx hb dL_law_175 rfl (lv_at hl 0 rfl) ?_
  refine lv_iload_n hx hb dL_law_176 rfl (lv_at hl 3 rfl) ?_
  refine lv_iconst (v := 2) hx hb dL_law_177 (by decide) ?_
  refine lv_iadd hx hb dL_law_178 ?_
  refine va_sld hx hb hX hbl hbA hS h_2 dL_law_179 ?_
  refine lv_i2l hx hb dL_law_180 rfl ?_
  refine lv_bipush (v := 32) hx hb dL_law_181 (by decide) ?_
  refine lv_lshl hx hb dL_law_183 rfl ?_
  refine lv_aload_n hx hb dL_law_184 rfl (lv_at hl 0 rfl) ?_
  refine lv_iload_n hx hb dL_law_185 rfl (lv_at hl 3 rfl) ?_
  refine lv_iconst (v := 3) hx hb dL_law_186 (by decide) ?_
  refine lv_iadd hx hb dL_law_187 ?_
  refine va_sld hx hb hX hbl hbA hS h_3 dL_law_188 ?_
  refine lv_i2l hx hb dL_law_189 rfl ?_
  refine lv_ldc2 hx hb hown (hts (.constantLong RL 13 (4294967295)) (by decide +kernel)) dL_law_190 ?_
  refine lv_land hx hb dL_law_193 ?_
  refine lv_lor hx hb dL_law_194 ?_
  have hPs := va_P.swap (a := []) (c := u) hP
  have hDs := va_D.swap (a := []) (c := u) hD
  have hPc := P_last hPs
  have hDc := D_last hDs
  have hKc := hK.sub (tys' := mT y) [0, 1, 2, 3, 4, 5, 6, 7, 8, 9, 10, 11, 12, 13, 14, 15, 16] rfl
  have hFc := A_last hDs hS hA
  refine va_calli (va_runV (As := [.int (xs (nI (5 * k) + 1).toNatClampNeg), .long ((((xs (nI (5 * k) + 2).toNatClampNeg).toInt64) <<< ((32 : Int32).toInt64 &&& 63)) ||| (((xs (nI (5 * k) + 3).toNatClampNeg).toInt64) &&& 4294967295))]) (rest := [.int r1]) ⟨hx, hb, hml, hown, hts⟩ (met_X8_wheel l Dg m0 H1.size a y σ kd wh re aTo aPo aRw aRr aWs aRs (xs (nI (5 * k) + 1).toNatClampNeg) ((((xs (nI (5 * k) + 2).toNatClampNeg).toInt64) <<< ((32 : Int32).toInt64 &&& 63)) ||| (((xs (nI (5 * k) + 3).toNatClampNeg).toInt64) &&& 4294967295)) hV hM) (cwV 2 hts gL_law_X8_wheel rfl rfl rfl (by decide +kernel) ⟨Nat.le_of_ble_eq_true rfl, Nat.le_of_ble_eq_true rfl⟩) (wPreV hKc hPc (hDc.weaken (fun _ _ _ _ => trivial)) (va_recv hKc hPc (ci := 6) (q0 := 0) rfl rfl)) rfl rfl hl.1 rfl (lv_room (Nat.le_of_ble_eq_true rfl)) dL_law_195 ⟨by show 30 + 2 * (k + 1) + 0 ≤ 600000; omega, by show 2000 + 18 * (k + 1) + 0 ≤ 7302250; omega⟩) hS (fun q _ h => hFc q h) hFc (fun r2 u1 t H2 locs ht hvm hw hB _ hk1 hS => ?_)
  obtain ⟨hP1, -, hD1⟩ := hB
  rw [ht] at hP1
  obtain ⟨hP2, hD2⟩ := join_last hPs hDs hk1 hFc hP1 hD1
  obtain ⟨e2, hm1⟩ := hw
  have hP := va_P.swap (a := []) (b := u) (c := u1) hP2
  have hD := va_D.swap (a := []) (b := u) (c := u1) hD2
  refine lv_icmp_eq (tgt := 1004) hx hb dL_law_198 (by decide) (fun _ => ?_) (fun c9 => absurd (e1.trans e2.symm) c9)
  exact kk (nw_wheel σ (xs (nI (5 * k) + 1).toNatClampNeg) ((((xs (nI (5 * k) + 2).toNatClampNeg).toInt64) <<< ((32 : Int32).toInt64 &&& 63)) ||| (((xs (nI (5 * k) + 3).toNatClampNeg).toInt64) &&& 4294967295))) (vk_wheel hV (xs (nI (5 * k) + 1).toNatClampNeg) ((((xs (nI (5 * k) + 2).toNatClampNeg).toInt64) <<< ((32 : Int32).toInt64 &&& 63)) ||| (((xs (nI (5 * k) + 3).toNatClampNeg).toInt64) &&& 4294967295))) u1 u hm1 hc1 _ _ hP hD hS ls hl

set_option maxHeartbeats 4000000 in
set_option maxRecDepth 100000 in
theorem law_turn {p : Program} {l : Launch} {e : Env} {s : State} {m : MethodId} {below : List Frame} {meth : Method} {c : Code} {Dg : va_G} {b L : Nat} {xs : Nat → Int32} (hL : L ≤ 2560) (C0 : lw_At p s m meth c b L xs) (hao : va_AO RX1 s) {x0 m0 : Nat} {bb : Nat → Nat} {z : Nat → ClassId} {a : Nat → Nat} {y : Nat → ClassId} (hK : va_K Dg vwCl (mT y ++ cT z) s) (k : Nat) (hkL : 5 * k + 5 ≤ L) (σ : St) (hV : vOK σ) (u1 u2 : va_W) (hm : MI m0 a y σ u1) (hc : CX x0 bb z σ u2) (H : Heap) (locs : List Loc) (hP : va_P Dg vwCl (u1 ++ u2) H) (hD : va_D (hS0 s) (u1 ++ u2)) (hS : va_S (hS0 s) s.heap H locs) (ls : Array Slot) (hl : lv_has ls 4 [(0, .ref b), (1, .ref x0), (2, .ref m0), (3, .int (nI (5 * k)))]) (kk : ∀ (τ : St), vOK τ → ∀ (u1 u2 : va_W), MI m0 a y τ u1 → CX x0 bb z τ u2 → ∀ (H : Heap) (locs : List Loc), va_P Dg vwCl (u1 ++ u2) H → va_D (hS0 s) (u1 ++ u2) → va_S (hS0 s) s.heap H locs → ∀ ls : Array Slot, lv_has ls 4 [(0, .ref b), (1, .ref x0), (2, .ref m0), (3, .int (nI (5 * k)))] → W p l e room_1 s m #[Value.ref b] below meth c H locs (30 + 2 * (k + 1)) (2000 + 18 * (k + 1)) (lw_Z below #[Value.ref b] s) (F0 m 1004 ls [])) : W p l e room_1 s m #[Value.ref b] below meth c H locs (30 + 2 * k) (2000 + 18 * k) (lw_Z below #[Value.ref b] s) (F0 m 203 ls []) := by
  obtain ⟨hx, hb, hr, hml, hown, hts, hX, hbl, hlocks, hgv⟩ := C0
  have hown : s.vm.findClass RL = some m.cls := hown
  have hts : ∀ w ∈ wsL_law, w.before #[Value.ref b] s = true := fun w h => hts w (wsL_law_in w h)
  have hA : ∀ q : Nat, s.heap.size ≤ q → hS0 s q := fun _ h => h
  have hbA : ¬ hS0 s b := Nat.not_le.mpr hbl
  have h_1 : vp_in (nI (5 * k) + 1) L := sc_in (j := 1) (by omega) hL
  have h_2 : vp_in (nI (5 * k) + 2) L := sc_in (j := 2) (by omega) hL
  have h_3 : vp_in (nI (5 * k) + 3) L := sc_in (j := 3) (by omega) hL
  have h_4 : vp_in (nI (5 * k) + 4) L := sc_in (j := 4) (by omega) hL
  obtain ⟨kd, wh, re, aTo, aPo, aRw, aRr, aWs, aRs, rfl, hM⟩ := hm
  obtain ⟨Lp, f, ad, g, rfl, hC⟩ := hc
  refine lv_aload_n hx hb dL_law_203 rfl (lv_at hl 1 rfl) ?_
  refine lv_aload_n hx hb dL_law_204 rfl (lv_at hl 0 rfl) ?_
  refine lv_iload_n hx hb dL_law_205 rfl (lv_at hl 3 rfl) ?_
  refine lv_iconst (v := 1) hx hb dL_law_206 (by decide) ?_
  refine lv_iadd hx hb dL_law_207 ?_
  refine va_sld hx hb hX hbl hbA hS h_1 dL_law_208 ?_
  refine lv_aload_n hx hb dL_law_209 rfl (lv_at hl 0 rfl) ?_
  refine lv_iload_n hx hb dL_law_210 rfl (lv_at hl 3 rfl) ?_
  refine lv_iconst (v := 2) hx hb dL_law_211 (by decide) ?_
  refine lv_iadd hx hb dL_law_212 ?_
  refine va_sld hx hb hX hbl hbA hS h_2 dL_law_213 ?_
  refine lv_i2l hx hb dL_law_214 rfl ?_
  refine lv_bipush (v := 32) hx hb dL_law_215 (by decide) ?_
  refine lv_lshl hx hb dL_law_217 rfl ?_
  refine lv_aload_n hx hb dL_law_218 rfl (lv_at hl 0 rfl) ?_
  refine lv_iload_n hx hb dL_law_219 rfl (lv_at hl 3 rfl) ?_
  refine lv_iconst (v := 3) hx hb dL_law_220 (by decide) ?_
  refine lv_iadd hx hb dL_law_221 ?_
  refine va_sld hx hb hX hbl hbA hS h_3 dL_law_222 ?_
  refine lv_i2l hx hb dL_law_223 rfl ?_
  refine lv_ldc2 hx hb hown (hts (.constantLong RL 13 (4294967295)) (by decide +kernel)) dL_law_224 ?_
  refine lv_land hx hb dL_law_227 ?_
  refine lv_lor hx hb dL_law_228 ?_
  have hPc := P_last hP
  have hDc := D_last hD
  have hKc := hK.sub (tys' := cT z) [17, 18, 19, 20, 21, 22, 23] rfl
  have hFc := A_last hD hS hA
  refine va_calli (va_runV (As := [.int (xs (nI (5 * k) + 1).toNatClampNeg), .long ((((xs (nI (5 * k) + 2).toNatClampNeg).toInt64) <<< ((32 : Int32).toInt64 &&& 63)) ||| (((xs (nI (5 * k) + 3).toNatClampNeg).toInt64) &&& 4294967295))]) (rest := []) ⟨hx, hb, hml, hown, hts⟩ (met_X7_turn l Dg x0 H.size bb z σ Lp f ad g (xs (nI (5 * k) + 1).toNatClampNeg) ((((xs (nI (5 * k) + 2).toNatClampNeg).toInt64) <<< ((32 : Int32).toInt64 &&& 63)) ||| (((xs (nI (5 * k) + 3).toNatClampNeg).toInt64) &&& 4294967295)) hV hC) (cwV 2 hts gL_law_X7_turn rfl rfl rfl (by decide +kernel) ⟨Nat.le_of_ble_eq_true rfl, Nat.le_of_ble_eq_true rfl⟩) (wPreV hKc hPc (hDc.weaken (fun _ _ _ _ => trivial)) (va_recv hKc hPc (ci := 5) (q0 := 0) rfl rfl)) rfl rfl hl.1 rfl (lv_room (Nat.le_of_ble_eq_true rfl)) dL_law_229 ⟨by show 30 + 2 * k + 0 ≤ 600000; omega, by show 2000 + 18 * k + 0 ≤ 7302250; omega⟩) hS (fun q _ h => hFc q h) hFc (fun r1 u t H1 locs ht hvm hw hB _ hk1 hS => ?_)
  obtain ⟨hP1, -, hD1⟩ := hB
  rw [ht] at hP1
  obtain ⟨hP, hD⟩ := join_last hP hD hk1 hFc hP1 hD1
  obtain ⟨e1, hc1⟩ := hw
  clear hP1 hD1 hPc hDc hFc hk1
  refine W.widen (k := 30 + 2 * (k + 1)) (n := 2000 + 18 * (k + 1)) (by omega) (by omega) ?_
  refine lv_aload_n hx hb dL_law_232 rfl (lv_at hl 2 rfl) ?_
  refine lv_aload_n hx hb dL_law_233 rfl (lv_at hl 0 rfl) ?_
  refine lv_iload_n hx hb dL_law_234 rfl (lv_at hl 3 rfl) ?_
  refine lv_iconst (v := 1) hx hb dL_law_235 (by decide) ?_
  refine lv_iadd hx hb dL_law_236 ?_
  refine va_sld hx hb hX hbl hbA hS h_1 dL_law_237 ?_
  refine lv_aload_n hx hb dL_law_238 rfl (lv_at hl 0 rfl) ?_
  refine lv_iload_n hx hb dL_law_239 rfl (lv_at hl 3 rfl) ?_
  refine lv_iconst (v := 2) hx hb dL_law_240 (by decide) ?_
  refine lv_iadd hx hb dL_law_241 ?_
  refine va_sld hx hb hX hbl hbA hS h_2 dL_law_242 ?_
  refine lv_i2l hx hb dL_law_243 rfl ?_
  refine lv_bipush (v := 32) hx hb dL_law_244 (by decide) ?_
  refine lv_lshl hx hb dL_law_246 rfl ?_
  refine lv_aload_n hx hb dL_law_247 rfl (lv_at hl 0 rfl) ?_
  refine lv_iload_n hx hb dL_law_248 rfl (lv_at hl 3 rfl) ?_
  refine lv_iconst (v := 3) hx hb dL_law_249 (by decide) ?_
  refine lv_iadd hx hb dL_law_250 ?_
  refine va_sld hx hb hX hbl hbA hS h_3 dL_law_251 ?_
  refine lv_i2l hx hb dL_law_252 rfl ?_
  refine lv_ldc2 hx hb hown (hts (.constantLong RL 13 (4294967295)) (by decide +kernel)) dL_law_253 ?_
  refine lv_land hx hb dL_law_256 ?_
  refine lv_lor hx hb dL_law_257 ?_
  have hPs := va_P.swap (a := []) (c := u) hP
  have hDs := va_D.swap (a := []) (c := u) hD
  have hPc := P_last hPs
  have hDc := D_last hDs
  have hKc := hK.sub (tys' := mT y) [0, 1, 2, 3, 4, 5, 6, 7, 8, 9, 10, 11, 12, 13, 14, 15, 16] rfl
  have hFc := A_last hDs hS hA
  refine va_calli (va_runV (As := [.int (xs (nI (5 * k) + 1).toNatClampNeg), .long ((((xs (nI (5 * k) + 2).toNatClampNeg).toInt64) <<< ((32 : Int32).toInt64 &&& 63)) ||| (((xs (nI (5 * k) + 3).toNatClampNeg).toInt64) &&& 4294967295))]) (rest := [.int r1]) ⟨hx, hb, hml, hown, hts⟩ (met_X8_turn l Dg m0 H1.size a y σ kd wh re aTo aPo aRw aRr aWs aRs (xs (nI (5 * k) + 1).toNatClampNeg) ((((xs (nI (5 * k) + 2).toNatClampNeg).toInt64) <<< ((32 : Int32).toInt64 &&& 63)) ||| (((xs (nI (5 * k) + 3).toNatClampNeg).toInt64) &&& 4294967295)) hV hM) (cwV 2 hts gL_law_X8_turn rfl rfl rfl (by decide +kernel) ⟨Nat.le_of_ble_eq_true rfl, Nat.le_of_ble_eq_true rfl⟩) (wPreV hKc hPc (hDc.weaken (fun _ _ _ _ => trivial)) (va_recv hKc hPc (ci := 6) (q0 := 0) rfl rfl)) rfl rfl hl.1 rfl (lv_room (Nat.le_of_ble_eq_true rfl)) dL_law_258 ⟨by show 30 + 2 * (k + 1) + 0 ≤ 600000; omega, by show 2000 + 18 * (k + 1) + 0 ≤ 7302250; omega⟩) hS (fun q _ h => hFc q h) hFc (fun r2 u1 t H2 locs ht hvm hw hB _ hk1 hS => ?_)
  obtain ⟨hP1, -, hD1⟩ := hB
  rw [ht] at hP1
  obtain ⟨hP2, hD2⟩ := join_last hPs hDs hk1 hFc hP1 hD1
  obtain ⟨e2, hm1⟩ := hw
  have hP := va_P.swap (a := []) (b := u) (c := u1) hP2
  have hD := va_D.swap (a := []) (b := u) (c := u1) hD2
  refine lv_icmp_eq (tgt := 1004) hx hb dL_law_261 (by decide) (fun _ => ?_) (fun c9 => absurd (e1.trans e2.symm) c9)
  exact kk (nw_turn σ (xs (nI (5 * k) + 1).toNatClampNeg) ((((xs (nI (5 * k) + 2).toNatClampNeg).toInt64) <<< ((32 : Int32).toInt64 &&& 63)) ||| (((xs (nI (5 * k) + 3).toNatClampNeg).toInt64) &&& 4294967295))) (vk_turn hV (xs (nI (5 * k) + 1).toNatClampNeg) ((((xs (nI (5 * k) + 2).toNatClampNeg).toInt64) <<< ((32 : Int32).toInt64 &&& 63)) ||| (((xs (nI (5 * k) + 3).toNatClampNeg).toInt64) &&& 4294967295))) u1 u hm1 hc1 _ _ hP hD hS ls hl

set_option maxHeartbeats 4000000 in
set_option maxRecDepth 100000 in
theorem law_wheelOf {p : Program} {l : Launch} {e : Env} {s : State} {m : MethodId} {below : List Frame} {meth : Method} {c : Code} {Dg : va_G} {b L : Nat} {xs : Nat → Int32} (hL : L ≤ 2560) (C0 : lw_At p s m meth c b L xs) (hao : va_AO RX1 s) {x0 m0 : Nat} {bb : Nat → Nat} {z : Nat → ClassId} {a : Nat → Nat} {y : Nat → ClassId} (hK : va_K Dg vwCl (mT y ++ cT z) s) (k : Nat) (hkL : 5 * k + 5 ≤ L) (σ : St) (hV : vOK σ) (u1 u2 : va_W) (hm : MI m0 a y σ u1) (hc : CX x0 bb z σ u2) (H : Heap) (locs : List Loc) (hP : va_P Dg vwCl (u1 ++ u2) H) (hD : va_D (hS0 s) (u1 ++ u2)) (hS : va_S (hS0 s) s.heap H locs) (ls : Array Slot) (hl : lv_has ls 4 [(0, .ref b), (1, .ref x0), (2, .ref m0), (3, .int (nI (5 * k)))]) (kk : ∀ (τ : St), vOK τ → ∀ (u1 u2 : va_W), MI m0 a y τ u1 → CX x0 bb z τ u2 → ∀ (H : Heap) (locs : List Loc), va_P Dg vwCl (u1 ++ u2) H → va_D (hS0 s) (u1 ++ u2) → va_S (hS0 s) s.heap H locs → ∀ ls : Array Slot, lv_has ls 4 [(0, .ref b), (1, .ref x0), (2, .ref m0), (3, .int (nI (5 * k)))] → W p l e room_1 s m #[Value.ref b] below meth c H locs (30 + 2 * (k + 1)) (2000 + 18 * (k + 1)) (lw_Z below #[Value.ref b] s) (F0 m 1004 ls [])) : W p l e room_1 s m #[Value.ref b] below meth c H locs (30 + 2 * k) (2000 + 18 * k) (lw_Z below #[Value.ref b] s) (F0 m 266 ls []) := by
  obtain ⟨hx, hb, hr, hml, hown, hts, hX, hbl, hlocks, hgv⟩ := C0
  have hown : s.vm.findClass RL = some m.cls := hown
  have hts : ∀ w ∈ wsL_law, w.before #[Value.ref b] s = true := fun w h => hts w (wsL_law_in w h)
  have hA : ∀ q : Nat, s.heap.size ≤ q → hS0 s q := fun _ h => h
  have hbA : ¬ hS0 s b := Nat.not_le.mpr hbl
  have h_1 : vp_in (nI (5 * k) + 1) L := sc_in (j := 1) (by omega) hL
  have h_2 : vp_in (nI (5 * k) + 2) L := sc_in (j := 2) (by omega) hL
  have h_3 : vp_in (nI (5 * k) + 3) L := sc_in (j := 3) (by omega) hL
  have h_4 : vp_in (nI (5 * k) + 4) L := sc_in (j := 4) (by omega) hL
  obtain ⟨kd, wh, re, aTo, aPo, aRw, aRr, aWs, aRs, rfl, hM⟩ := hm
  obtain ⟨Lp, f, ad, g, rfl, hC⟩ := hc
  refine lv_aload_n hx hb dL_law_266 rfl (lv_at hl 1 rfl) ?_
  refine lv_aload_n hx hb dL_law_267 rfl (lv_at hl 0 rfl) ?_
  refine lv_iload_n hx hb dL_law_268 rfl (lv_at hl 3 rfl) ?_
  refine lv_iconst (v := 1) hx hb dL_law_269 (by decide) ?_
  refine lv_iadd hx hb dL_law_270 ?_
  refine va_sld hx hb hX hbl hbA hS h_1 dL_law_271 ?_
  refine lv_aload_n hx hb dL_law_272 rfl (lv_at hl 0 rfl) ?_
  refine lv_iload_n hx hb dL_law_273 rfl (lv_at hl 3 rfl) ?_
  refine lv_iconst (v := 2) hx hb dL_law_274 (by decide) ?_
  refine lv_iadd hx hb dL_law_275 ?_
  refine va_sld hx hb hX hbl hbA hS h_2 dL_law_276 ?_
  have hPc := P_last hP
  have hDc := D_last hD
  have hKc := hK.sub (tys' := cT z) [17, 18, 19, 20, 21, 22, 23] rfl
  have hFc := A_last hD hS hA
  refine va_calll (va_runV (As := [.int (xs (nI (5 * k) + 1).toNatClampNeg), .int (xs (nI (5 * k) + 2).toNatClampNeg)]) (rest := []) ⟨hx, hb, hml, hown, hts⟩ (met_X7_wheelOf l Dg x0 H.size bb z σ Lp f ad g (xs (nI (5 * k) + 1).toNatClampNeg) (xs (nI (5 * k) + 2).toNatClampNeg) hV hC) (cwV 2 hts gL_law_X7_wheelOf rfl rfl rfl (by decide +kernel) ⟨Nat.le_of_ble_eq_true rfl, Nat.le_of_ble_eq_true rfl⟩) (wPreV hKc hPc (hDc.weaken (fun _ _ _ _ => trivial)) (va_recv hKc hPc (ci := 5) (q0 := 0) rfl rfl)) rfl rfl hl.1 rfl (lv_room (Nat.le_of_ble_eq_true rfl)) dL_law_277 ⟨by show 30 + 2 * k + 0 ≤ 600000; omega, by show 2000 + 18 * k + 0 ≤ 7302250; omega⟩) hS (fun q _ h => hFc q h) hFc (fun r1 u t H1 locs ht hvm hw hB _ hk1 hS => ?_)
  obtain ⟨hP1, -, hD1⟩ := hB
  rw [ht] at hP1
  obtain ⟨hP, hD⟩ := join_last hP hD hk1 hFc hP1 hD1
  obtain ⟨e1, hc1⟩ := hw
  clear hP1 hD1 hPc hDc hFc hk1
  refine W.widen (k := 30 + 2 * (k + 1)) (n := 2000 + 18 * (k + 1)) (by omega) (by omega) ?_
  refine lv_aload_n hx hb dL_law_280 rfl (lv_at hl 2 rfl) ?_
  refine lv_aload_n hx hb dL_law_281 rfl (lv_at hl 0 rfl) ?_
  refine lv_iload_n hx hb dL_law_282 rfl (lv_at hl 3 rfl) ?_
  refine lv_iconst (v := 1) hx hb dL_law_283 (by decide) ?_
  refine lv_iadd hx hb dL_law_284 ?_
  refine va_sld hx hb hX hbl hbA hS h_1 dL_law_285 ?_
  refine lv_aload_n hx hb dL_law_286 rfl (lv_at hl 0 rfl) ?_
  refine lv_iload_n hx hb dL_law_287 rfl (lv_at hl 3 rfl) ?_
  refine lv_iconst (v := 2) hx hb dL_law_288 (by decide) ?_
  refine lv_iadd hx hb dL_law_289 ?_
  refine va_sld hx hb hX hbl hbA hS h_2 dL_law_290 ?_
  have hPs := va_P.swap (a := []) (c := u) hP
  have hDs := va_D.swap (a := []) (c := u) hD
  have hPc := P_last hPs
  have hDc := D_last hDs
  have hKc := hK.sub (tys' := mT y) [0, 1, 2, 3, 4, 5, 6, 7, 8, 9, 10, 11, 12, 13, 14, 15, 16] rfl
  have hFc := A_last hDs hS hA
  refine va_calll (va_runV (As := [.int (xs (nI (5 * k) + 1).toNatClampNeg), .int (xs (nI (5 * k) + 2).toNatClampNeg)]) (rest := [.long r1]) ⟨hx, hb, hml, hown, hts⟩ (met_X8_wheelOf l Dg m0 H1.size a y σ kd wh re aTo aPo aRw aRr aWs aRs (xs (nI (5 * k) + 1).toNatClampNeg) (xs (nI (5 * k) + 2).toNatClampNeg) hV hM) (cwV 2 hts gL_law_X8_wheelOf rfl rfl rfl (by decide +kernel) ⟨Nat.le_of_ble_eq_true rfl, Nat.le_of_ble_eq_true rfl⟩) (wPreV hKc hPc (hDc.weaken (fun _ _ _ _ => trivial)) (va_recv hKc hPc (ci := 6) (q0 := 0) rfl rfl)) rfl rfl hl.1 rfl (lv_room (Nat.le_of_ble_eq_true rfl)) dL_law_291 ⟨by show 30 + 2 * (k + 1) + 0 ≤ 600000; omega, by show 2000 + 18 * (k + 1) + 0 ≤ 7302250; omega⟩) hS (fun q _ h => hFc q h) hFc (fun r2 u1 t H2 locs ht hvm hw hB _ hk1 hS => ?_)
  obtain ⟨hP1, -, hD1⟩ := hB
  rw [ht] at hP1
  obtain ⟨hP2, hD2⟩ := join_last hPs hDs hk1 hFc hP1 hD1
  obtain ⟨e2, hm1⟩ := hw
  have hP := va_P.swap (a := []) (b := u) (c := u1) hP2
  have hD := va_D.swap (a := []) (b := u) (c := u1) hD2
  refine W.lcmp hx hb dL_law_294 ?_
  refine lv_if_eq (tgt := 1004) hx hb dL_law_295 (by decide) (fun _ => ?_) (fun c9 => absurd (lgc_eqq.mpr (e1.trans e2.symm)) c9)
  exact kk (nw_wheelOf σ (xs (nI (5 * k) + 1).toNatClampNeg) (xs (nI (5 * k) + 2).toNatClampNeg)) (vk_wheelOf hV (xs (nI (5 * k) + 1).toNatClampNeg) (xs (nI (5 * k) + 2).toNatClampNeg)) u1 u hm1 hc1 _ _ hP hD hS ls hl

set_option maxHeartbeats 4000000 in
set_option maxRecDepth 100000 in
theorem law_register {p : Program} {l : Launch} {e : Env} {s : State} {m : MethodId} {below : List Frame} {meth : Method} {c : Code} {Dg : va_G} {b L : Nat} {xs : Nat → Int32} (hL : L ≤ 2560) (C0 : lw_At p s m meth c b L xs) (hao : va_AO RX1 s) {x0 m0 : Nat} {bb : Nat → Nat} {z : Nat → ClassId} {a : Nat → Nat} {y : Nat → ClassId} (hK : va_K Dg vwCl (mT y ++ cT z) s) (k : Nat) (hkL : 5 * k + 5 ≤ L) (σ : St) (hV : vOK σ) (u1 u2 : va_W) (hm : MI m0 a y σ u1) (hc : CX x0 bb z σ u2) (H : Heap) (locs : List Loc) (hP : va_P Dg vwCl (u1 ++ u2) H) (hD : va_D (hS0 s) (u1 ++ u2)) (hS : va_S (hS0 s) s.heap H locs) (ls : Array Slot) (hl : lv_has ls 4 [(0, .ref b), (1, .ref x0), (2, .ref m0), (3, .int (nI (5 * k)))]) (kk : ∀ (τ : St), vOK τ → ∀ (u1 u2 : va_W), MI m0 a y τ u1 → CX x0 bb z τ u2 → ∀ (H : Heap) (locs : List Loc), va_P Dg vwCl (u1 ++ u2) H → va_D (hS0 s) (u1 ++ u2) → va_S (hS0 s) s.heap H locs → ∀ ls : Array Slot, lv_has ls 4 [(0, .ref b), (1, .ref x0), (2, .ref m0), (3, .int (nI (5 * k)))] → W p l e room_1 s m #[Value.ref b] below meth c H locs (30 + 2 * (k + 1)) (2000 + 18 * (k + 1)) (lw_Z below #[Value.ref b] s) (F0 m 1004 ls [])) : W p l e room_1 s m #[Value.ref b] below meth c H locs (30 + 2 * k) (2000 + 18 * k) (lw_Z below #[Value.ref b] s) (F0 m 300 ls []) := by
  obtain ⟨hx, hb, hr, hml, hown, hts, hX, hbl, hlocks, hgv⟩ := C0
  have hown : s.vm.findClass RL = some m.cls := hown
  have hts : ∀ w ∈ wsL_law, w.before #[Value.ref b] s = true := fun w h => hts w (wsL_law_in w h)
  have hA : ∀ q : Nat, s.heap.size ≤ q → hS0 s q := fun _ h => h
  have hbA : ¬ hS0 s b := Nat.not_le.mpr hbl
  have h_1 : vp_in (nI (5 * k) + 1) L := sc_in (j := 1) (by omega) hL
  have h_2 : vp_in (nI (5 * k) + 2) L := sc_in (j := 2) (by omega) hL
  have h_3 : vp_in (nI (5 * k) + 3) L := sc_in (j := 3) (by omega) hL
  have h_4 : vp_in (nI (5 * k) + 4) L := sc_in (j := 4) (by omega) hL
  obtain ⟨kd, wh, re, aTo, aPo, aRw, aRr, aWs, aRs, rfl, hM⟩ := hm
  obtain ⟨Lp, f, ad, g, rfl, hC⟩ := hc
  refine lv_aload_n hx hb dL_law_300 rfl (lv_at hl 1 rfl) ?_
  refine lv_aload_n hx hb dL_law_301 rfl (lv_at hl 0 rfl) ?_
  refine lv_iload_n hx hb dL_law_302 rfl (lv_at hl 3 rfl) ?_
  refine lv_iconst (v := 1) hx hb dL_law_303 (by decide) ?_
  refine lv_iadd hx hb dL_law_304 ?_
  refine va_sld hx hb hX hbl hbA hS h_1 dL_law_305 ?_
  have hPc := P_last hP
  have hDc := D_last hD
  have hKc := hK.sub (tys' := cT z) [17, 18, 19, 20, 21, 22, 23] rfl
  have hFc := A_last hD hS hA
  refine va_calli (va_runV (As := [.int (xs (nI (5 * k) + 1).toNatClampNeg)]) (rest := []) ⟨hx, hb, hml, hown, hts⟩ (met_X7_register l Dg x0 H.size bb z σ Lp f ad g (xs (nI (5 * k) + 1).toNatClampNeg) hV hC) (cwV 1 hts gL_law_X7_register rfl rfl rfl (by decide +kernel) ⟨Nat.le_of_ble_eq_true rfl, Nat.le_of_ble_eq_true rfl⟩) (wPreV hKc hPc (hDc.weaken (fun _ _ _ _ => trivial)) (va_recv hKc hPc (ci := 5) (q0 := 0) rfl rfl)) rfl rfl hl.1 rfl (lv_room (Nat.le_of_ble_eq_true rfl)) dL_law_306 ⟨by show 30 + 2 * k + 1 ≤ 600000; omega, by show 2000 + 18 * k + 2 ≤ 7302250; omega⟩) hS (fun q _ h => hFc q h) hFc (fun r1 u t H1 locs ht hvm hw hB _ hk1 hS => ?_)
  obtain ⟨hP1, -, hD1⟩ := hB
  rw [ht] at hP1
  obtain ⟨hP, hD⟩ := join_last hP hD hk1 hFc hP1 hD1
  obtain ⟨e1, hc1⟩ := hw
  clear hP1 hD1 hPc hDc hFc hk1
  refine W.widen (k := 30 + 2 * (k + 1)) (n := 2000 + 18 * (k + 1)) (by omega) (by omega) ?_
  refine lv_aload_n hx hb dL_law_309 rfl (lv_at hl 2 rfl) ?_
  refine lv_aload_n hx hb dL_law_310 rfl (lv_at hl 0 rfl) ?_
  refine lv_iload_n hx hb dL_law_311 rfl (lv_at hl 3 rfl) ?_
  refine lv_iconst (v := 1) hx hb dL_law_312 (by decide) ?_
  refine lv_iadd hx hb dL_law_313 ?_
  refine va_sld hx hb hX hbl hbA hS h_1 dL_law_314 ?_
  have hPs := va_P.swap (a := []) (c := u) hP
  have hDs := va_D.swap (a := []) (c := u) hD
  have hPc := P_last hPs
  have hDc := D_last hDs
  have hKc := hK.sub (tys' := mT y) [0, 1, 2, 3, 4, 5, 6, 7, 8, 9, 10, 11, 12, 13, 14, 15, 16] rfl
  have hFc := A_last hDs hS hA
  refine va_calli (va_runV (As := [.int (xs (nI (5 * k) + 1).toNatClampNeg)]) (rest := [.int r1]) ⟨hx, hb, hml, hown, hts⟩ (met_X8_register l Dg m0 H1.size a y σ kd wh re aTo aPo aRw aRr aWs aRs (xs (nI (5 * k) + 1).toNatClampNeg) hV hM) (cwV 1 hts gL_law_X8_register rfl rfl rfl (by decide +kernel) ⟨Nat.le_of_ble_eq_true rfl, Nat.le_of_ble_eq_true rfl⟩) (wPreV hKc hPc (hDc.weaken (fun _ _ _ _ => trivial)) (va_recv hKc hPc (ci := 6) (q0 := 0) rfl rfl)) rfl rfl hl.1 rfl (lv_room (Nat.le_of_ble_eq_true rfl)) dL_law_315 ⟨by show 30 + 2 * (k + 1) + 0 ≤ 600000; omega, by show 2000 + 18 * (k + 1) + 0 ≤ 7302250; omega⟩) hS (fun q _ h => hFc q h) hFc (fun r2 u1 t H2 locs ht hvm hw hB _ hk1 hS => ?_)
  obtain ⟨hP1, -, hD1⟩ := hB
  rw [ht] at hP1
  obtain ⟨hP2, hD2⟩ := join_last hPs hDs hk1 hFc hP1 hD1
  obtain ⟨e2, hm1⟩ := hw
  have hP := va_P.swap (a := []) (b := u) (c := u1) hP2
  have hD := va_D.swap (a := []) (b := u) (c := u1) hD2
  refine lv_icmp_eq (tgt := 1004) hx hb dL_law_318 (by decide) (fun _ => ?_) (fun c9 => absurd (e1.trans e2.symm) c9)
  exact kk (nw_register σ (xs (nI (5 * k) + 1).toNatClampNeg)) (vk_register hV (xs (nI (5 * k) + 1).toNatClampNeg)) u1 u hm1 hc1 _ _ hP hD hS ls hl

set_option maxHeartbeats 4000000 in
set_option maxRecDepth 100000 in
theorem law_load {p : Program} {l : Launch} {e : Env} {s : State} {m : MethodId} {below : List Frame} {meth : Method} {c : Code} {Dg : va_G} {b L : Nat} {xs : Nat → Int32} (hL : L ≤ 2560) (C0 : lw_At p s m meth c b L xs) (hao : va_AO RX1 s) {x0 m0 : Nat} {bb : Nat → Nat} {z : Nat → ClassId} {a : Nat → Nat} {y : Nat → ClassId} (hK : va_K Dg vwCl (mT y ++ cT z) s) (k : Nat) (hkL : 5 * k + 5 ≤ L) (σ : St) (hV : vOK σ) (u1 u2 : va_W) (hm : MI m0 a y σ u1) (hc : CX x0 bb z σ u2) (H : Heap) (locs : List Loc) (hP : va_P Dg vwCl (u1 ++ u2) H) (hD : va_D (hS0 s) (u1 ++ u2)) (hS : va_S (hS0 s) s.heap H locs) (ls : Array Slot) (hl : lv_has ls 4 [(0, .ref b), (1, .ref x0), (2, .ref m0), (3, .int (nI (5 * k)))]) (kk : ∀ (τ : St), vOK τ → ∀ (u1 u2 : va_W), MI m0 a y τ u1 → CX x0 bb z τ u2 → ∀ (H : Heap) (locs : List Loc), va_P Dg vwCl (u1 ++ u2) H → va_D (hS0 s) (u1 ++ u2) → va_S (hS0 s) s.heap H locs → ∀ ls : Array Slot, lv_has ls 4 [(0, .ref b), (1, .ref x0), (2, .ref m0), (3, .int (nI (5 * k)))] → W p l e room_1 s m #[Value.ref b] below meth c H locs (30 + 2 * (k + 1)) (2000 + 18 * (k + 1)) (lw_Z below #[Value.ref b] s) (F0 m 1004 ls [])) : W p l e room_1 s m #[Value.ref b] below meth c H locs (30 + 2 * k) (2000 + 18 * k) (lw_Z below #[Value.ref b] s) (F0 m 323 ls []) := by
  obtain ⟨hx, hb, hr, hml, hown, hts, hX, hbl, hlocks, hgv⟩ := C0
  have hown : s.vm.findClass RL = some m.cls := hown
  have hts : ∀ w ∈ wsL_law, w.before #[Value.ref b] s = true := fun w h => hts w (wsL_law_in w h)
  have hA : ∀ q : Nat, s.heap.size ≤ q → hS0 s q := fun _ h => h
  have hbA : ¬ hS0 s b := Nat.not_le.mpr hbl
  have h_1 : vp_in (nI (5 * k) + 1) L := sc_in (j := 1) (by omega) hL
  have h_2 : vp_in (nI (5 * k) + 2) L := sc_in (j := 2) (by omega) hL
  have h_3 : vp_in (nI (5 * k) + 3) L := sc_in (j := 3) (by omega) hL
  have h_4 : vp_in (nI (5 * k) + 4) L := sc_in (j := 4) (by omega) hL
  obtain ⟨kd, wh, re, aTo, aPo, aRw, aRr, aWs, aRs, rfl, hM⟩ := hm
  obtain ⟨Lp, f, ad, g, rfl, hC⟩ := hc
  refine lv_aload_n hx hb dL_law_323 rfl (lv_at hl 1 rfl) ?_
  refine lv_aload_n hx hb dL_law_324 rfl (lv_at hl 0 rfl) ?_
  refine lv_iload_n hx hb dL_law_325 rfl (lv_at hl 3 rfl) ?_
  refine lv_iconst (v := 1) hx hb dL_law_326 (by decide) ?_
  refine lv_iadd hx hb dL_law_327 ?_
  refine va_sld hx hb hX hbl hbA hS h_1 dL_law_328 ?_
  refine lv_aload_n hx hb dL_law_329 rfl (lv_at hl 0 rfl) ?_
  refine lv_iload_n hx hb dL_law_330 rfl (lv_at hl 3 rfl) ?_
  refine lv_iconst (v := 2) hx hb dL_law_331 (by decide) ?_
  refine lv_iadd hx hb dL_law_332 ?_
  refine va_sld hx hb hX hbl hbA hS h_2 dL_law_333 ?_
  refine lv_aload_n hx hb dL_law_334 rfl (lv_at hl 0 rfl) ?_
  refine lv_iload_n hx hb dL_law_335 rfl (lv_at hl 3 rfl) ?_
  refine lv_iconst (v := 3) hx hb dL_law_336 (by decide) ?_
  refine lv_iadd hx hb dL_law_337 ?_
  refine va_sld hx hb hX hbl hbA hS h_3 dL_law_338 ?_
  refine lv_i2l hx hb dL_law_339 rfl ?_
  refine lv_bipush (v := 32) hx hb dL_law_340 (by decide) ?_
  refine lv_lshl hx hb dL_law_342 rfl ?_
  refine lv_aload_n hx hb dL_law_343 rfl (lv_at hl 0 rfl) ?_
  refine lv_iload_n hx hb dL_law_344 rfl (lv_at hl 3 rfl) ?_
  refine lv_iconst (v := 4) hx hb dL_law_345 (by decide) ?_
  refine lv_iadd hx hb dL_law_346 ?_
  refine va_sld hx hb hX hbl hbA hS h_4 dL_law_347 ?_
  refine lv_i2l hx hb dL_law_348 rfl ?_
  refine lv_ldc2 hx hb hown (hts (.constantLong RL 13 (4294967295)) (by decide +kernel)) dL_law_349 ?_
  refine lv_land hx hb dL_law_352 ?_
  refine lv_lor hx hb dL_law_353 ?_
  have hPc := P_last hP
  have hDc := D_last hD
  have hKc := hK.sub (tys' := cT z) [17, 18, 19, 20, 21, 22, 23] rfl
  have hFc := A_last hD hS hA
  refine va_calli (va_runV (As := [.int (xs (nI (5 * k) + 1).toNatClampNeg), .int (xs (nI (5 * k) + 2).toNatClampNeg), .long ((((xs (nI (5 * k) + 3).toNatClampNeg).toInt64) <<< ((32 : Int32).toInt64 &&& 63)) ||| (((xs (nI (5 * k) + 4).toNatClampNeg).toInt64) &&& 4294967295))]) (rest := []) ⟨hx, hb, hml, hown, hts⟩ (met_X7_load l Dg x0 H.size bb z σ Lp f ad g (xs (nI (5 * k) + 1).toNatClampNeg) (xs (nI (5 * k) + 2).toNatClampNeg) ((((xs (nI (5 * k) + 3).toNatClampNeg).toInt64) <<< ((32 : Int32).toInt64 &&& 63)) ||| (((xs (nI (5 * k) + 4).toNatClampNeg).toInt64) &&& 4294967295)) hV hC) (cwV 3 hts gL_law_X7_load rfl rfl rfl (by decide +kernel) ⟨Nat.le_of_ble_eq_true rfl, Nat.le_of_ble_eq_true rfl⟩) (wPreV hKc hPc (hDc.weaken (fun _ _ _ _ => trivial)) (va_recv hKc hPc (ci := 5) (q0 := 0) rfl rfl)) rfl rfl hl.1 rfl (lv_room (Nat.le_of_ble_eq_true rfl)) dL_law_354 ⟨by show 30 + 2 * k + 0 ≤ 600000; omega, by show 2000 + 18 * k + 0 ≤ 7302250; omega⟩) hS (fun q _ h => hFc q h) hFc (fun r1 u t H1 locs ht hvm hw hB _ hk1 hS => ?_)
  obtain ⟨hP1, -, hD1⟩ := hB
  rw [ht] at hP1
  obtain ⟨hP, hD⟩ := join_last hP hD hk1 hFc hP1 hD1
  obtain ⟨e1, hc1⟩ := hw
  clear hP1 hD1 hPc hDc hFc hk1
  refine W.widen (k := 30 + 2 * (k + 1)) (n := 2000 + 18 * (k + 1)) (by omega) (by omega) ?_
  refine lv_aload_n hx hb dL_law_357 rfl (lv_at hl 2 rfl) ?_
  refine lv_aload_n hx hb dL_law_358 rfl (lv_at hl 0 rfl) ?_
  refine lv_iload_n hx hb dL_law_359 rfl (lv_at hl 3 rfl) ?_
  refine lv_iconst (v := 1) hx hb dL_law_360 (by decide) ?_
  refine lv_iadd hx hb dL_law_361 ?_
  refine va_sld hx hb hX hbl hbA hS h_1 dL_law_362 ?_
  refine lv_aload_n hx hb dL_law_363 rfl (lv_at hl 0 rfl) ?_
  refine lv_iload_n hx hb dL_law_364 rfl (lv_at hl 3 rfl) ?_
  refine lv_iconst (v := 2) hx hb dL_law_365 (by decide) ?_
  refine lv_iadd hx hb dL_law_366 ?_
  refine va_sld hx hb hX hbl hbA hS h_2 dL_law_367 ?_
  refine lv_aload_n hx hb dL_law_368 rfl (lv_at hl 0 rfl) ?_
  refine lv_iload_n hx hb dL_law_369 rfl (lv_at hl 3 rfl) ?_
  refine lv_iconst (v := 3) hx hb dL_law_370 (by decide) ?_
  refine lv_iadd hx hb dL_law_371 ?_
  refine va_sld hx hb hX hbl hbA hS h_3 dL_law_372 ?_
  refine lv_i2l hx hb dL_law_373 rfl ?_
  refine lv_bipush (v := 32) hx hb dL_law_374 (by decide) ?_
  refine lv_lshl hx hb dL_law_376 rfl ?_
  refine lv_aload_n hx hb dL_law_377 rfl (lv_at hl 0 rfl) ?_
  refine lv_iload_n hx hb dL_law_378 rfl (lv_at hl 3 rfl) ?_
  refine lv_iconst (v := 4) hx hb dL_law_379 (by decide) ?_
  refine lv_iadd hx hb dL_law_380 ?_
  refine va_sld hx hb hX hbl hbA hS h_4 dL_law_381 ?_
  refine lv_i2l hx hb dL_law_382 rfl ?_
  refine lv_ldc2 hx hb hown (hts (.constantLong RL 13 (4294967295)) (by decide +kernel)) dL_law_383 ?_
  refine lv_land hx hb dL_law_386 ?_
  refine lv_lor hx hb dL_law_387 ?_
  have hPs := va_P.swap (a := []) (c := u) hP
  have hDs := va_D.swap (a := []) (c := u) hD
  have hPc := P_last hPs
  have hDc := D_last hDs
  have hKc := hK.sub (tys' := mT y) [0, 1, 2, 3, 4, 5, 6, 7, 8, 9, 10, 11, 12, 13, 14, 15, 16] rfl
  have hFc := A_last hDs hS hA
  refine va_calli (va_runV (As := [.int (xs (nI (5 * k) + 1).toNatClampNeg), .int (xs (nI (5 * k) + 2).toNatClampNeg), .long ((((xs (nI (5 * k) + 3).toNatClampNeg).toInt64) <<< ((32 : Int32).toInt64 &&& 63)) ||| (((xs (nI (5 * k) + 4).toNatClampNeg).toInt64) &&& 4294967295))]) (rest := [.int r1]) ⟨hx, hb, hml, hown, hts⟩ (met_X8_load l Dg m0 H1.size a y σ kd wh re aTo aPo aRw aRr aWs aRs (xs (nI (5 * k) + 1).toNatClampNeg) (xs (nI (5 * k) + 2).toNatClampNeg) ((((xs (nI (5 * k) + 3).toNatClampNeg).toInt64) <<< ((32 : Int32).toInt64 &&& 63)) ||| (((xs (nI (5 * k) + 4).toNatClampNeg).toInt64) &&& 4294967295)) hV hM) (cwV 3 hts gL_law_X8_load rfl rfl rfl (by decide +kernel) ⟨Nat.le_of_ble_eq_true rfl, Nat.le_of_ble_eq_true rfl⟩) (wPreV hKc hPc (hDc.weaken (fun _ _ _ _ => trivial)) (va_recv hKc hPc (ci := 6) (q0 := 0) rfl rfl)) rfl rfl hl.1 rfl (lv_room (Nat.le_of_ble_eq_true rfl)) dL_law_388 ⟨by show 30 + 2 * (k + 1) + 0 ≤ 600000; omega, by show 2000 + 18 * (k + 1) + 0 ≤ 7302250; omega⟩) hS (fun q _ h => hFc q h) hFc (fun r2 u1 t H2 locs ht hvm hw hB _ hk1 hS => ?_)
  obtain ⟨hP1, -, hD1⟩ := hB
  rw [ht] at hP1
  obtain ⟨hP2, hD2⟩ := join_last hPs hDs hk1 hFc hP1 hD1
  obtain ⟨e2, hm1⟩ := hw
  have hP := va_P.swap (a := []) (b := u) (c := u1) hP2
  have hD := va_D.swap (a := []) (b := u) (c := u1) hD2
  refine lv_icmp_eq (tgt := 1004) hx hb dL_law_391 (by decide) (fun _ => ?_) (fun c9 => absurd (e1.trans e2.symm) c9)
  exact kk (nw_load σ (xs (nI (5 * k) + 1).toNatClampNeg) (xs (nI (5 * k) + 2).toNatClampNeg) ((((xs (nI (5 * k) + 3).toNatClampNeg).toInt64) <<< ((32 : Int32).toInt64 &&& 63)) ||| (((xs (nI (5 * k) + 4).toNatClampNeg).toInt64) &&& 4294967295))) (vk_load hV (xs (nI (5 * k) + 1).toNatClampNeg) (xs (nI (5 * k) + 2).toNatClampNeg) ((((xs (nI (5 * k) + 3).toNatClampNeg).toInt64) <<< ((32 : Int32).toInt64 &&& 63)) ||| (((xs (nI (5 * k) + 4).toNatClampNeg).toInt64) &&& 4294967295))) u1 u hm1 hc1 _ _ hP hD hS ls hl

set_option maxHeartbeats 4000000 in
set_option maxRecDepth 100000 in
theorem law_read {p : Program} {l : Launch} {e : Env} {s : State} {m : MethodId} {below : List Frame} {meth : Method} {c : Code} {Dg : va_G} {b L : Nat} {xs : Nat → Int32} (hL : L ≤ 2560) (C0 : lw_At p s m meth c b L xs) (hao : va_AO RX1 s) {x0 m0 : Nat} {bb : Nat → Nat} {z : Nat → ClassId} {a : Nat → Nat} {y : Nat → ClassId} (hK : va_K Dg vwCl (mT y ++ cT z) s) (k : Nat) (hkL : 5 * k + 5 ≤ L) (σ : St) (hV : vOK σ) (u1 u2 : va_W) (hm : MI m0 a y σ u1) (hc : CX x0 bb z σ u2) (H : Heap) (locs : List Loc) (hP : va_P Dg vwCl (u1 ++ u2) H) (hD : va_D (hS0 s) (u1 ++ u2)) (hS : va_S (hS0 s) s.heap H locs) (ls : Array Slot) (hl : lv_has ls 4 [(0, .ref b), (1, .ref x0), (2, .ref m0), (3, .int (nI (5 * k)))]) (kk : ∀ (τ : St), vOK τ → ∀ (u1 u2 : va_W), MI m0 a y τ u1 → CX x0 bb z τ u2 → ∀ (H : Heap) (locs : List Loc), va_P Dg vwCl (u1 ++ u2) H → va_D (hS0 s) (u1 ++ u2) → va_S (hS0 s) s.heap H locs → ∀ ls : Array Slot, lv_has ls 4 [(0, .ref b), (1, .ref x0), (2, .ref m0), (3, .int (nI (5 * k)))] → W p l e room_1 s m #[Value.ref b] below meth c H locs (30 + 2 * (k + 1)) (2000 + 18 * (k + 1)) (lw_Z below #[Value.ref b] s) (F0 m 1004 ls [])) : W p l e room_1 s m #[Value.ref b] below meth c H locs (30 + 2 * k) (2000 + 18 * k) (lw_Z below #[Value.ref b] s) (F0 m 396 ls []) := by
  obtain ⟨hx, hb, hr, hml, hown, hts, hX, hbl, hlocks, hgv⟩ := C0
  have hown : s.vm.findClass RL = some m.cls := hown
  have hts : ∀ w ∈ wsL_law, w.before #[Value.ref b] s = true := fun w h => hts w (wsL_law_in w h)
  have hA : ∀ q : Nat, s.heap.size ≤ q → hS0 s q := fun _ h => h
  have hbA : ¬ hS0 s b := Nat.not_le.mpr hbl
  have h_1 : vp_in (nI (5 * k) + 1) L := sc_in (j := 1) (by omega) hL
  have h_2 : vp_in (nI (5 * k) + 2) L := sc_in (j := 2) (by omega) hL
  have h_3 : vp_in (nI (5 * k) + 3) L := sc_in (j := 3) (by omega) hL
  have h_4 : vp_in (nI (5 * k) + 4) L := sc_in (j := 4) (by omega) hL
  obtain ⟨kd, wh, re, aTo, aPo, aRw, aRr, aWs, aRs, rfl, hM⟩ := hm
  obtain ⟨Lp, f, ad, g, rfl, hC⟩ := hc
  refine lv_aload_n hx hb dL_law_396 rfl (lv_at hl 1 rfl) ?_
  refine lv_aload_n hx hb dL_law_397 rfl (lv_at hl 0 rfl) ?_
  refine lv_iload_n hx hb dL_law_398 rfl (lv_at hl 3 rfl) ?_
  refine lv_iconst (v := 1) hx hb dL_law_399 (by decide) ?_
  refine lv_iadd hx hb dL_law_400 ?_
  refine va_sld hx hb hX hbl hbA hS h_1 dL_law_401 ?_
  refine lv_aload_n hx hb dL_law_402 rfl (lv_at hl 0 rfl) ?_
  refine lv_iload_n hx hb dL_law_403 rfl (lv_at hl 3 rfl) ?_
  refine lv_iconst (v := 2) hx hb dL_law_404 (by decide) ?_
  refine lv_iadd hx hb dL_law_405 ?_
  refine va_sld hx hb hX hbl hbA hS h_2 dL_law_406 ?_
  have hPc := P_last hP
  have hDc := D_last hD
  have hKc := hK.sub (tys' := cT z) [17, 18, 19, 20, 21, 22, 23] rfl
  have hFc := A_last hD hS hA
  refine va_calll (va_runV (As := [.int (xs (nI (5 * k) + 1).toNatClampNeg), .int (xs (nI (5 * k) + 2).toNatClampNeg)]) (rest := []) ⟨hx, hb, hml, hown, hts⟩ (met_X7_read l Dg x0 H.size bb z σ Lp f ad g (xs (nI (5 * k) + 1).toNatClampNeg) (xs (nI (5 * k) + 2).toNatClampNeg) hV hC) (cwV 2 hts gL_law_X7_read rfl rfl rfl (by decide +kernel) ⟨Nat.le_of_ble_eq_true rfl, Nat.le_of_ble_eq_true rfl⟩) (wPreV hKc hPc (hDc.weaken (fun _ _ _ _ => trivial)) (va_recv hKc hPc (ci := 5) (q0 := 0) rfl rfl)) rfl rfl hl.1 rfl (lv_room (Nat.le_of_ble_eq_true rfl)) dL_law_407 ⟨by show 30 + 2 * k + 0 ≤ 600000; omega, by show 2000 + 18 * k + 0 ≤ 7302250; omega⟩) hS (fun q _ h => hFc q h) hFc (fun r1 u t H1 locs ht hvm hw hB _ hk1 hS => ?_)
  obtain ⟨hP1, -, hD1⟩ := hB
  rw [ht] at hP1
  obtain ⟨hP, hD⟩ := join_last hP hD hk1 hFc hP1 hD1
  obtain ⟨e1, hc1⟩ := hw
  clear hP1 hD1 hPc hDc hFc hk1
  refine W.widen (k := 30 + 2 * (k + 1)) (n := 2000 + 18 * (k + 1)) (by omega) (by omega) ?_
  refine lv_aload_n hx hb dL_law_410 rfl (lv_at hl 2 rfl) ?_
  refine lv_aload_n hx hb dL_law_411 rfl (lv_at hl 0 rfl) ?_
  refine lv_iload_n hx hb dL_law_412 rfl (lv_at hl 3 rfl) ?_
  refine lv_iconst (v := 1) hx hb dL_law_413 (by decide) ?_
  refine lv_iadd hx hb dL_law_414 ?_
  refine va_sld hx hb hX hbl hbA hS h_1 dL_law_415 ?_
  refine lv_aload_n hx hb dL_law_416 rfl (lv_at hl 0 rfl) ?_
  refine lv_iload_n hx hb dL_law_417 rfl (lv_at hl 3 rfl) ?_
  refine lv_iconst (v := 2) hx hb dL_law_418 (by decide) ?_
  refine lv_iadd hx hb dL_law_419 ?_
  refine va_sld hx hb hX hbl hbA hS h_2 dL_law_420 ?_
  have hPs := va_P.swap (a := []) (c := u) hP
  have hDs := va_D.swap (a := []) (c := u) hD
  have hPc := P_last hPs
  have hDc := D_last hDs
  have hKc := hK.sub (tys' := mT y) [0, 1, 2, 3, 4, 5, 6, 7, 8, 9, 10, 11, 12, 13, 14, 15, 16] rfl
  have hFc := A_last hDs hS hA
  refine va_calll (va_runV (As := [.int (xs (nI (5 * k) + 1).toNatClampNeg), .int (xs (nI (5 * k) + 2).toNatClampNeg)]) (rest := [.long r1]) ⟨hx, hb, hml, hown, hts⟩ (met_X8_read l Dg m0 H1.size a y σ kd wh re aTo aPo aRw aRr aWs aRs (xs (nI (5 * k) + 1).toNatClampNeg) (xs (nI (5 * k) + 2).toNatClampNeg) hV hM) (cwV 2 hts gL_law_X8_read rfl rfl rfl (by decide +kernel) ⟨Nat.le_of_ble_eq_true rfl, Nat.le_of_ble_eq_true rfl⟩) (wPreV hKc hPc (hDc.weaken (fun _ _ _ _ => trivial)) (va_recv hKc hPc (ci := 6) (q0 := 0) rfl rfl)) rfl rfl hl.1 rfl (lv_room (Nat.le_of_ble_eq_true rfl)) dL_law_421 ⟨by show 30 + 2 * (k + 1) + 0 ≤ 600000; omega, by show 2000 + 18 * (k + 1) + 0 ≤ 7302250; omega⟩) hS (fun q _ h => hFc q h) hFc (fun r2 u1 t H2 locs ht hvm hw hB _ hk1 hS => ?_)
  obtain ⟨hP1, -, hD1⟩ := hB
  rw [ht] at hP1
  obtain ⟨hP2, hD2⟩ := join_last hPs hDs hk1 hFc hP1 hD1
  obtain ⟨e2, hm1⟩ := hw
  have hP := va_P.swap (a := []) (b := u) (c := u1) hP2
  have hD := va_D.swap (a := []) (b := u) (c := u1) hD2
  refine W.lcmp hx hb dL_law_424 ?_
  refine lv_if_eq (tgt := 1004) hx hb dL_law_425 (by decide) (fun _ => ?_) (fun c9 => absurd (lgc_eqq.mpr (e1.trans e2.symm)) c9)
  exact kk (nw_read σ (xs (nI (5 * k) + 1).toNatClampNeg) (xs (nI (5 * k) + 2).toNatClampNeg)) (vk_read hV (xs (nI (5 * k) + 1).toNatClampNeg) (xs (nI (5 * k) + 2).toNatClampNeg)) u1 u hm1 hc1 _ _ hP hD hS ls hl

set_option maxHeartbeats 4000000 in
set_option maxRecDepth 100000 in
theorem law_move {p : Program} {l : Launch} {e : Env} {s : State} {m : MethodId} {below : List Frame} {meth : Method} {c : Code} {Dg : va_G} {b L : Nat} {xs : Nat → Int32} (hL : L ≤ 2560) (C0 : lw_At p s m meth c b L xs) (hao : va_AO RX1 s) {x0 m0 : Nat} {bb : Nat → Nat} {z : Nat → ClassId} {a : Nat → Nat} {y : Nat → ClassId} (hK : va_K Dg vwCl (mT y ++ cT z) s) (k : Nat) (hkL : 5 * k + 5 ≤ L) (σ : St) (hV : vOK σ) (u1 u2 : va_W) (hm : MI m0 a y σ u1) (hc : CX x0 bb z σ u2) (H : Heap) (locs : List Loc) (hP : va_P Dg vwCl (u1 ++ u2) H) (hD : va_D (hS0 s) (u1 ++ u2)) (hS : va_S (hS0 s) s.heap H locs) (ls : Array Slot) (hl : lv_has ls 4 [(0, .ref b), (1, .ref x0), (2, .ref m0), (3, .int (nI (5 * k)))]) (kk : ∀ (τ : St), vOK τ → ∀ (u1 u2 : va_W), MI m0 a y τ u1 → CX x0 bb z τ u2 → ∀ (H : Heap) (locs : List Loc), va_P Dg vwCl (u1 ++ u2) H → va_D (hS0 s) (u1 ++ u2) → va_S (hS0 s) s.heap H locs → ∀ ls : Array Slot, lv_has ls 4 [(0, .ref b), (1, .ref x0), (2, .ref m0), (3, .int (nI (5 * k)))] → W p l e room_1 s m #[Value.ref b] below meth c H locs (30 + 2 * (k + 1)) (2000 + 18 * (k + 1)) (lw_Z below #[Value.ref b] s) (F0 m 1004 ls [])) : W p l e room_1 s m #[Value.ref b] below meth c H locs (30 + 2 * k) (2000 + 18 * k) (lw_Z below #[Value.ref b] s) (F0 m 430 ls []) := by
  obtain ⟨hx, hb, hr, hml, hown, hts, hX, hbl, hlocks, hgv⟩ := C0
  have hown : s.vm.findClass RL = some m.cls := hown
  have hts : ∀ w ∈ wsL_law, w.before #[Value.ref b] s = true := fun w h => hts w (wsL_law_in w h)
  have hA : ∀ q : Nat, s.heap.size ≤ q → hS0 s q := fun _ h => h
  have hbA : ¬ hS0 s b := Nat.not_le.mpr hbl
  have h_1 : vp_in (nI (5 * k) + 1) L := sc_in (j := 1) (by omega) hL
  have h_2 : vp_in (nI (5 * k) + 2) L := sc_in (j := 2) (by omega) hL
  have h_3 : vp_in (nI (5 * k) + 3) L := sc_in (j := 3) (by omega) hL
  have h_4 : vp_in (nI (5 * k) + 4) L := sc_in (j := 4) (by omega) hL
  obtain ⟨kd, wh, re, aTo, aPo, aRw, aRr, aWs, aRs, rfl, hM⟩ := hm
  obtain ⟨Lp, f, ad, g, rfl, hC⟩ := hc
  refine lv_aload_n hx hb dL_law_430 rfl (lv_at hl 1 rfl) ?_
  refine lv_aload_n hx hb dL_law_431 rfl (lv_at hl 0 rfl) ?_
  refine lv_iload_n hx hb dL_law_432 rfl (lv_at hl 3 rfl) ?_
  refine lv_iconst (v := 1) hx hb dL_law_433 (by decide) ?_
  refine lv_iadd hx hb dL_law_434 ?_
  refine va_sld hx hb hX hbl hbA hS h_1 dL_law_435 ?_
  refine lv_aload_n hx hb dL_law_436 rfl (lv_at hl 0 rfl) ?_
  refine lv_iload_n hx hb dL_law_437 rfl (lv_at hl 3 rfl) ?_
  refine lv_iconst (v := 2) hx hb dL_law_438 (by decide) ?_
  refine lv_iadd hx hb dL_law_439 ?_
  refine va_sld hx hb hX hbl hbA hS h_2 dL_law_440 ?_
  have hPc := P_last hP
  have hDc := D_last hD
  have hKc := hK.sub (tys' := cT z) [17, 18, 19, 20, 21, 22, 23] rfl
  have hFc := A_last hD hS hA
  refine va_calli (va_runV (As := [.int (xs (nI (5 * k) + 1).toNatClampNeg), .int (xs (nI (5 * k) + 2).toNatClampNeg)]) (rest := []) ⟨hx, hb, hml, hown, hts⟩ (met_X7_move l Dg x0 H.size bb z σ Lp f ad g (xs (nI (5 * k) + 1).toNatClampNeg) (xs (nI (5 * k) + 2).toNatClampNeg) hV hC) (cwV 2 hts gL_law_X7_move rfl rfl rfl (by decide +kernel) ⟨Nat.le_of_ble_eq_true rfl, Nat.le_of_ble_eq_true rfl⟩) (wPreV hKc hPc (hDc.weaken (fun _ _ _ _ => trivial)) (va_recv hKc hPc (ci := 5) (q0 := 0) rfl rfl)) rfl rfl hl.1 rfl (lv_room (Nat.le_of_ble_eq_true rfl)) dL_law_441 ⟨by show 30 + 2 * k + 0 ≤ 600000; omega, by show 2000 + 18 * k + 0 ≤ 7302250; omega⟩) hS (fun q _ h => hFc q h) hFc (fun r1 u t H1 locs ht hvm hw hB _ hk1 hS => ?_)
  obtain ⟨hP1, -, hD1⟩ := hB
  rw [ht] at hP1
  obtain ⟨hP, hD⟩ := join_last hP hD hk1 hFc hP1 hD1
  obtain ⟨e1, hc1⟩ := hw
  clear hP1 hD1 hPc hDc hFc hk1
  refine W.widen (k := 30 + 2 * (k + 1)) (n := 2000 + 18 * (k + 1)) (by omega) (by omega) ?_
  refine lv_aload_n hx hb dL_law_444 rfl (lv_at hl 2 rfl) ?_
  refine lv_aload_n hx hb dL_law_445 rfl (lv_at hl 0 rfl) ?_
  refine lv_iload_n hx hb dL_law_446 rfl (lv_at hl 3 rfl) ?_
  refine lv_iconst (v := 1) hx hb dL_law_447 (by decide) ?_
  refine lv_iadd hx hb dL_law_448 ?_
  refine va_sld hx hb hX hbl hbA hS h_1 dL_law_449 ?_
  refine lv_aload_n hx hb dL_law_450 rfl (lv_at hl 0 rfl) ?_
  refine lv_iload_n hx hb dL_law_451 rfl (lv_at hl 3 rfl) ?_
  refine lv_iconst (v := 2) hx hb dL_law_452 (by decide) ?_
  refine lv_iadd hx hb dL_law_453 ?_
  refine va_sld hx hb hX hbl hbA hS h_2 dL_law_454 ?_
  have hPs := va_P.swap (a := []) (c := u) hP
  have hDs := va_D.swap (a := []) (c := u) hD
  have hPc := P_last hPs
  have hDc := D_last hDs
  have hKc := hK.sub (tys' := mT y) [0, 1, 2, 3, 4, 5, 6, 7, 8, 9, 10, 11, 12, 13, 14, 15, 16] rfl
  have hFc := A_last hDs hS hA
  refine va_calli (va_runV (As := [.int (xs (nI (5 * k) + 1).toNatClampNeg), .int (xs (nI (5 * k) + 2).toNatClampNeg)]) (rest := [.int r1]) ⟨hx, hb, hml, hown, hts⟩ (met_X8_move l Dg m0 H1.size a y σ kd wh re aTo aPo aRw aRr aWs aRs (xs (nI (5 * k) + 1).toNatClampNeg) (xs (nI (5 * k) + 2).toNatClampNeg) hV hM) (cwV 2 hts gL_law_X8_move rfl rfl rfl (by decide +kernel) ⟨Nat.le_of_ble_eq_true rfl, Nat.le_of_ble_eq_true rfl⟩) (wPreV hKc hPc (hDc.weaken (fun _ _ _ _ => trivial)) (va_recv hKc hPc (ci := 6) (q0 := 0) rfl rfl)) rfl rfl hl.1 rfl (lv_room (Nat.le_of_ble_eq_true rfl)) dL_law_455 ⟨by show 30 + 2 * (k + 1) + 0 ≤ 600000; omega, by show 2000 + 18 * (k + 1) + 0 ≤ 7302250; omega⟩) hS (fun q _ h => hFc q h) hFc (fun r2 u1 t H2 locs ht hvm hw hB _ hk1 hS => ?_)
  obtain ⟨hP1, -, hD1⟩ := hB
  rw [ht] at hP1
  obtain ⟨hP2, hD2⟩ := join_last hPs hDs hk1 hFc hP1 hD1
  obtain ⟨e2, hm1⟩ := hw
  have hP := va_P.swap (a := []) (b := u) (c := u1) hP2
  have hD := va_D.swap (a := []) (b := u) (c := u1) hD2
  refine lv_icmp_eq (tgt := 1004) hx hb dL_law_458 (by decide) (fun _ => ?_) (fun c9 => absurd (e1.trans e2.symm) c9)
  exact kk (nw_move σ (xs (nI (5 * k) + 1).toNatClampNeg) (xs (nI (5 * k) + 2).toNatClampNeg)) (vk_move hV (xs (nI (5 * k) + 1).toNatClampNeg) (xs (nI (5 * k) + 2).toNatClampNeg)) u1 u hm1 hc1 _ _ hP hD hS ls hl

set_option maxHeartbeats 4000000 in
set_option maxRecDepth 100000 in
theorem law_take {p : Program} {l : Launch} {e : Env} {s : State} {m : MethodId} {below : List Frame} {meth : Method} {c : Code} {Dg : va_G} {b L : Nat} {xs : Nat → Int32} (hL : L ≤ 2560) (C0 : lw_At p s m meth c b L xs) (hao : va_AO RX1 s) {x0 m0 : Nat} {bb : Nat → Nat} {z : Nat → ClassId} {a : Nat → Nat} {y : Nat → ClassId} (hK : va_K Dg vwCl (mT y ++ cT z) s) (k : Nat) (hkL : 5 * k + 5 ≤ L) (σ : St) (hV : vOK σ) (u1 u2 : va_W) (hm : MI m0 a y σ u1) (hc : CX x0 bb z σ u2) (H : Heap) (locs : List Loc) (hP : va_P Dg vwCl (u1 ++ u2) H) (hD : va_D (hS0 s) (u1 ++ u2)) (hS : va_S (hS0 s) s.heap H locs) (ls : Array Slot) (hl : lv_has ls 4 [(0, .ref b), (1, .ref x0), (2, .ref m0), (3, .int (nI (5 * k)))]) (kk : ∀ (τ : St), vOK τ → ∀ (u1 u2 : va_W), MI m0 a y τ u1 → CX x0 bb z τ u2 → ∀ (H : Heap) (locs : List Loc), va_P Dg vwCl (u1 ++ u2) H → va_D (hS0 s) (u1 ++ u2) → va_S (hS0 s) s.heap H locs → ∀ ls : Array Slot, lv_has ls 4 [(0, .ref b), (1, .ref x0), (2, .ref m0), (3, .int (nI (5 * k)))] → W p l e room_1 s m #[Value.ref b] below meth c H locs (30 + 2 * (k + 1)) (2000 + 18 * (k + 1)) (lw_Z below #[Value.ref b] s) (F0 m 1004 ls [])) : W p l e room_1 s m #[Value.ref b] below meth c H locs (30 + 2 * k) (2000 + 18 * k) (lw_Z below #[Value.ref b] s) (F0 m 463 ls []) := by
  obtain ⟨hx, hb, hr, hml, hown, hts, hX, hbl, hlocks, hgv⟩ := C0
  have hown : s.vm.findClass RL = some m.cls := hown
  have hts : ∀ w ∈ wsL_law, w.before #[Value.ref b] s = true := fun w h => hts w (wsL_law_in w h)
  have hA : ∀ q : Nat, s.heap.size ≤ q → hS0 s q := fun _ h => h
  have hbA : ¬ hS0 s b := Nat.not_le.mpr hbl
  have h_1 : vp_in (nI (5 * k) + 1) L := sc_in (j := 1) (by omega) hL
  have h_2 : vp_in (nI (5 * k) + 2) L := sc_in (j := 2) (by omega) hL
  have h_3 : vp_in (nI (5 * k) + 3) L := sc_in (j := 3) (by omega) hL
  have h_4 : vp_in (nI (5 * k) + 4) L := sc_in (j := 4) (by omega) hL
  obtain ⟨kd, wh, re, aTo, aPo, aRw, aRr, aWs, aRs, rfl, hM⟩ := hm
  obtain ⟨Lp, f, ad, g, rfl, hC⟩ := hc
  refine lv_aload_n hx hb dL_law_463 rfl (lv_at hl 1 rfl) ?_
  refine lv_aload_n hx hb dL_law_464 rfl (lv_at hl 0 rfl) ?_
  refine lv_iload_n hx hb dL_law_465 rfl (lv_at hl 3 rfl) ?_
  refine lv_iconst (v := 1) hx hb dL_law_466 (by decide) ?_
  refine lv_iadd hx hb dL_law_467 ?_
  refine va_sld hx hb hX hbl hbA hS h_1 dL_law_468 ?_
  refine lv_aload_n hx hb dL_law_469 rfl (lv_at hl 0 rfl) ?_
  refine lv_iload_n hx hb dL_law_470 rfl (lv_at hl 3 rfl) ?_
  refine lv_iconst (v := 2) hx hb dL_law_471 (by decide) ?_
  refine lv_iadd hx hb dL_law_472 ?_
  refine va_sld hx hb hX hbl hbA hS h_2 dL_law_473 ?_
  have hPc := P_last hP
  have hDc := D_last hD
  have hKc := hK.sub (tys' := cT z) [17, 18, 19, 20, 21, 22, 23] rfl
  have hFc := A_last hD hS hA
  refine va_calli (va_runV (As := [.int (xs (nI (5 * k) + 1).toNatClampNeg), .int (xs (nI (5 * k) + 2).toNatClampNeg)]) (rest := []) ⟨hx, hb, hml, hown, hts⟩ (met_X7_take l Dg x0 H.size bb z σ Lp f ad g (xs (nI (5 * k) + 1).toNatClampNeg) (xs (nI (5 * k) + 2).toNatClampNeg) hV hC) (cwV 2 hts gL_law_X7_take rfl rfl rfl (by decide +kernel) ⟨Nat.le_of_ble_eq_true rfl, Nat.le_of_ble_eq_true rfl⟩) (wPreV hKc hPc (hDc.weaken (fun _ _ _ _ => trivial)) (va_recv hKc hPc (ci := 5) (q0 := 0) rfl rfl)) rfl rfl hl.1 rfl (lv_room (Nat.le_of_ble_eq_true rfl)) dL_law_474 ⟨by show 30 + 2 * k + 0 ≤ 600000; omega, by show 2000 + 18 * k + 0 ≤ 7302250; omega⟩) hS (fun q _ h => hFc q h) hFc (fun r1 u t H1 locs ht hvm hw hB _ hk1 hS => ?_)
  obtain ⟨hP1, -, hD1⟩ := hB
  rw [ht] at hP1
  obtain ⟨hP, hD⟩ := join_last hP hD hk1 hFc hP1 hD1
  obtain ⟨e1, hc1⟩ := hw
  clear hP1 hD1 hPc hDc hFc hk1
  refine W.widen (k := 30 + 2 * (k + 1)) (n := 2000 + 18 * (k + 1)) (by omega) (by omega) ?_
  refine lv_aload_n hx hb dL_law_477 rfl (lv_at hl 2 rfl) ?_
  refine lv_aload_n hx hb dL_law_478 rfl (lv_at hl 0 rfl) ?_
  refine lv_iload_n hx hb dL_law_479 rfl (lv_at hl 3 rfl) ?_
  refine lv_iconst (v := 1) hx hb dL_law_480 (by decide) ?_
  refine lv_iadd hx hb dL_law_481 ?_
  refine va_sld hx hb hX hbl hbA hS h_1 dL_law_482 ?_
  refine lv_aload_n hx hb dL_law_483 rfl (lv_at hl 0 rfl) ?_
  refine lv_iload_n hx hb dL_law_484 rfl (lv_at hl 3 rfl) ?_
  refine lv_iconst (v := 2) hx hb dL_law_485 (by decide) ?_
  refine lv_iadd hx hb dL_law_486 ?_
  refine va_sld hx hb hX hbl hbA hS h_2 dL_law_487 ?_
  have hPs := va_P.swap (a := []) (c := u) hP
  have hDs := va_D.swap (a := []) (c := u) hD
  have hPc := P_last hPs
  have hDc := D_last hDs
  have hKc := hK.sub (tys' := mT y) [0, 1, 2, 3, 4, 5, 6, 7, 8, 9, 10, 11, 12, 13, 14, 15, 16] rfl
  have hFc := A_last hDs hS hA
  refine va_calli (va_runV (As := [.int (xs (nI (5 * k) + 1).toNatClampNeg), .int (xs (nI (5 * k) + 2).toNatClampNeg)]) (rest := [.int r1]) ⟨hx, hb, hml, hown, hts⟩ (met_X8_take l Dg m0 H1.size a y σ kd wh re aTo aPo aRw aRr aWs aRs (xs (nI (5 * k) + 1).toNatClampNeg) (xs (nI (5 * k) + 2).toNatClampNeg) hV hM) (cwV 2 hts gL_law_X8_take rfl rfl rfl (by decide +kernel) ⟨Nat.le_of_ble_eq_true rfl, Nat.le_of_ble_eq_true rfl⟩) (wPreV hKc hPc (hDc.weaken (fun _ _ _ _ => trivial)) (va_recv hKc hPc (ci := 6) (q0 := 0) rfl rfl)) rfl rfl hl.1 rfl (lv_room (Nat.le_of_ble_eq_true rfl)) dL_law_488 ⟨by show 30 + 2 * (k + 1) + 0 ≤ 600000; omega, by show 2000 + 18 * (k + 1) + 0 ≤ 7302250; omega⟩) hS (fun q _ h => hFc q h) hFc (fun r2 u1 t H2 locs ht hvm hw hB _ hk1 hS => ?_)
  obtain ⟨hP1, -, hD1⟩ := hB
  rw [ht] at hP1
  obtain ⟨hP2, hD2⟩ := join_last hPs hDs hk1 hFc hP1 hD1
  obtain ⟨e2, hm1⟩ := hw
  have hP := va_P.swap (a := []) (b := u) (c := u1) hP2
  have hD := va_D.swap (a := []) (b := u) (c := u1) hD2
  refine lv_icmp_eq (tgt := 1004) hx hb dL_law_491 (by decide) (fun _ => ?_) (fun c9 => absurd (e1.trans e2.symm) c9)
  exact kk (nw_take σ (xs (nI (5 * k) + 1).toNatClampNeg) (xs (nI (5 * k) + 2).toNatClampNeg)) (vk_take hV (xs (nI (5 * k) + 1).toNatClampNeg) (xs (nI (5 * k) + 2).toNatClampNeg)) u1 u hm1 hc1 _ _ hP hD hS ls hl

set_option maxHeartbeats 4000000 in
set_option maxRecDepth 100000 in
theorem law_work {p : Program} {l : Launch} {e : Env} {s : State} {m : MethodId} {below : List Frame} {meth : Method} {c : Code} {Dg : va_G} {b L : Nat} {xs : Nat → Int32} (hL : L ≤ 2560) (C0 : lw_At p s m meth c b L xs) (hao : va_AO RX1 s) {x0 m0 : Nat} {bb : Nat → Nat} {z : Nat → ClassId} {a : Nat → Nat} {y : Nat → ClassId} (hK : va_K Dg vwCl (mT y ++ cT z) s) (k : Nat) (hkL : 5 * k + 5 ≤ L) (σ : St) (hV : vOK σ) (u1 u2 : va_W) (hm : MI m0 a y σ u1) (hc : CX x0 bb z σ u2) (H : Heap) (locs : List Loc) (hP : va_P Dg vwCl (u1 ++ u2) H) (hD : va_D (hS0 s) (u1 ++ u2)) (hS : va_S (hS0 s) s.heap H locs) (ls : Array Slot) (hl : lv_has ls 4 [(0, .ref b), (1, .ref x0), (2, .ref m0), (3, .int (nI (5 * k)))]) (kk : ∀ (τ : St), vOK τ → ∀ (u1 u2 : va_W), MI m0 a y τ u1 → CX x0 bb z τ u2 → ∀ (H : Heap) (locs : List Loc), va_P Dg vwCl (u1 ++ u2) H → va_D (hS0 s) (u1 ++ u2) → va_S (hS0 s) s.heap H locs → ∀ ls : Array Slot, lv_has ls 4 [(0, .ref b), (1, .ref x0), (2, .ref m0), (3, .int (nI (5 * k)))] → W p l e room_1 s m #[Value.ref b] below meth c H locs (30 + 2 * (k + 1)) (2000 + 18 * (k + 1)) (lw_Z below #[Value.ref b] s) (F0 m 1004 ls [])) : W p l e room_1 s m #[Value.ref b] below meth c H locs (30 + 2 * k) (2000 + 18 * k) (lw_Z below #[Value.ref b] s) (F0 m 496 ls []) := by
  obtain ⟨hx, hb, hr, hml, hown, hts, hX, hbl, hlocks, hgv⟩ := C0
  have hown : s.vm.findClass RL = some m.cls := hown
  have hts : ∀ w ∈ wsL_law, w.before #[Value.ref b] s = true := fun w h => hts w (wsL_law_in w h)
  have hA : ∀ q : Nat, s.heap.size ≤ q → hS0 s q := fun _ h => h
  have hbA : ¬ hS0 s b := Nat.not_le.mpr hbl
  have h_1 : vp_in (nI (5 * k) + 1) L := sc_in (j := 1) (by omega) hL
  have h_2 : vp_in (nI (5 * k) + 2) L := sc_in (j := 2) (by omega) hL
  have h_3 : vp_in (nI (5 * k) + 3) L := sc_in (j := 3) (by omega) hL
  have h_4 : vp_in (nI (5 * k) + 4) L := sc_in (j := 4) (by omega) hL
  obtain ⟨kd, wh, re, aTo, aPo, aRw, aRr, aWs, aRs, rfl, hM⟩ := hm
  obtain ⟨Lp, f, ad, g, rfl, hC⟩ := hc
  refine lv_aload_n hx hb dL_law_496 rfl (lv_at hl 1 rfl) ?_
  refine lv_aload_n hx hb dL_law_497 rfl (lv_at hl 0 rfl) ?_
  refine lv_iload_n hx hb dL_law_498 rfl (lv_at hl 3 rfl) ?_
  refine lv_iconst (v := 1) hx hb dL_law_499 (by decide) ?_
  refine lv_iadd hx hb dL_law_500 ?_
  refine va_sld hx hb hX hbl hbA hS h_1 dL_law_501 ?_
  refine lv_aload_n hx hb dL_law_502 rfl (lv_at hl 0 rfl) ?_
  refine lv_iload_n hx hb dL_law_503 rfl (lv_at hl 3 rfl) ?_
  refine lv_iconst (v := 2) hx hb dL_law_504 (by decide) ?_
  refine lv_iadd hx hb dL_law_505 ?_
  refine va_sld hx hb hX hbl hbA hS h_2 dL_law_506 ?_
  refine lv_aload_n hx hb dL_law_507 rfl (lv_at hl 0 rfl) ?_
  refine lv_iload_n hx hb dL_law_508 rfl (lv_at hl 3 rfl) ?_
  refine lv_iconst (v := 3) hx hb dL_law_509 (by decide) ?_
  refine lv_iadd hx hb dL_law_510 ?_
  refine va_sld hx hb hX hbl hbA hS h_3 dL_law_511 ?_
  refine lv_aload_n hx hb dL_law_512 rfl (lv_at hl 0 rfl) ?_
  refine lv_iload_n hx hb dL_law_513 rfl (lv_at hl 3 rfl) ?_
  refine lv_iconst (v := 4) hx hb dL_law_514 (by decide) ?_
  refine lv_iadd hx hb dL_law_515 ?_
  refine va_sld hx hb hX hbl hbA hS h_4 dL_law_516 ?_
  have hPc := P_last hP
  have hDc := D_last hD
  have hKc := hK.sub (tys' := cT z) [17, 18, 19, 20, 21, 22, 23] rfl
  have hFc := A_last hD hS hA
  refine va_calli (va_runV (As := [.int (xs (nI (5 * k) + 1).toNatClampNeg), .int (xs (nI (5 * k) + 2).toNatClampNeg), .int (xs (nI (5 * k) + 3).toNatClampNeg), .int (xs (nI (5 * k) + 4).toNatClampNeg)]) (rest := []) ⟨hx, hb, hml, hown, hts⟩ (met_X7_work l Dg x0 H.size bb z σ Lp f ad g (xs (nI (5 * k) + 1).toNatClampNeg) (xs (nI (5 * k) + 2).toNatClampNeg) (xs (nI (5 * k) + 3).toNatClampNeg) (xs (nI (5 * k) + 4).toNatClampNeg) hV hC) (cwV 4 hts gL_law_X7_work rfl rfl rfl (by decide +kernel) ⟨Nat.le_of_ble_eq_true rfl, Nat.le_of_ble_eq_true rfl⟩) (wPreV hKc hPc (hDc.weaken (fun _ _ _ _ => trivial)) (va_recv hKc hPc (ci := 5) (q0 := 0) rfl rfl)) rfl rfl hl.1 rfl (lv_room (Nat.le_of_ble_eq_true rfl)) dL_law_517 ⟨by show 30 + 2 * k + 0 ≤ 600000; omega, by show 2000 + 18 * k + 0 ≤ 7302250; omega⟩) hS (fun q _ h => hFc q h) hFc (fun r1 u t H1 locs ht hvm hw hB _ hk1 hS => ?_)
  obtain ⟨hP1, -, hD1⟩ := hB
  rw [ht] at hP1
  obtain ⟨hP, hD⟩ := join_last hP hD hk1 hFc hP1 hD1
  obtain ⟨e1, hc1⟩ := hw
  clear hP1 hD1 hPc hDc hFc hk1
  refine W.widen (k := 30 + 2 * (k + 1)) (n := 2000 + 18 * (k + 1)) (by omega) (by omega) ?_
  refine lv_aload_n hx hb dL_law_520 rfl (lv_at hl 2 rfl) ?_
  refine lv_aload_n hx hb dL_law_521 rfl (lv_at hl 0 rfl) ?_
  refine lv_iload_n hx hb dL_law_522 rfl (lv_at hl 3 rfl) ?_
  refine lv_iconst (v := 1) hx hb dL_law_523 (by decide) ?_
  refine lv_iadd hx hb dL_law_524 ?_
  refine va_sld hx hb hX hbl hbA hS h_1 dL_law_525 ?_
  refine lv_aload_n hx hb dL_law_526 rfl (lv_at hl 0 rfl) ?_
  refine lv_iload_n hx hb dL_law_527 rfl (lv_at hl 3 rfl) ?_
  refine lv_iconst (v := 2) hx hb dL_law_528 (by decide) ?_
  refine lv_iadd hx hb dL_law_529 ?_
  refine va_sld hx hb hX hbl hbA hS h_2 dL_law_530 ?_
  refine lv_aload_n hx hb dL_law_531 rfl (lv_at hl 0 rfl) ?_
  refine lv_iload_n hx hb dL_law_532 rfl (lv_at hl 3 rfl) ?_
  refine lv_iconst (v := 3) hx hb dL_law_533 (by decide) ?_
  refine lv_iadd hx hb dL_law_534 ?_
  refine va_sld hx hb hX hbl hbA hS h_3 dL_law_535 ?_
  refine lv_aload_n hx hb dL_law_536 rfl (lv_at hl 0 rfl) ?_
  refine lv_iload_n hx hb dL_law_537 rfl (lv_at hl 3 rfl) ?_
  refine lv_iconst (v := 4) hx hb dL_law_538 (by decide) ?_
  refine lv_iadd hx hb dL_law_539 ?_
  refine va_sld hx hb hX hbl hbA hS h_4 dL_law_540 ?_
  have hPs := va_P.swap (a := []) (c := u) hP
  have hDs := va_D.swap (a := []) (c := u) hD
  have hPc := P_last hPs
  have hDc := D_last hDs
  have hKc := hK.sub (tys' := mT y) [0, 1, 2, 3, 4, 5, 6, 7, 8, 9, 10, 11, 12, 13, 14, 15, 16] rfl
  have hFc := A_last hDs hS hA
  refine va_calli (va_runV (As := [.int (xs (nI (5 * k) + 1).toNatClampNeg), .int (xs (nI (5 * k) + 2).toNatClampNeg), .int (xs (nI (5 * k) + 3).toNatClampNeg), .int (xs (nI (5 * k) + 4).toNatClampNeg)]) (rest := [.int r1]) ⟨hx, hb, hml, hown, hts⟩ (met_X8_work l Dg m0 H1.size a y σ kd wh re aTo aPo aRw aRr aWs aRs (xs (nI (5 * k) + 1).toNatClampNeg) (xs (nI (5 * k) + 2).toNatClampNeg) (xs (nI (5 * k) + 3).toNatClampNeg) (xs (nI (5 * k) + 4).toNatClampNeg) hV hM) (cwV 4 hts gL_law_X8_work rfl rfl rfl (by decide +kernel) ⟨Nat.le_of_ble_eq_true rfl, Nat.le_of_ble_eq_true rfl⟩) (wPreV hKc hPc (hDc.weaken (fun _ _ _ _ => trivial)) (va_recv hKc hPc (ci := 6) (q0 := 0) rfl rfl)) rfl rfl hl.1 rfl (lv_room (Nat.le_of_ble_eq_true rfl)) dL_law_541 ⟨by show 30 + 2 * (k + 1) + 0 ≤ 600000; omega, by show 2000 + 18 * (k + 1) + 0 ≤ 7302250; omega⟩) hS (fun q _ h => hFc q h) hFc (fun r2 u1 t H2 locs ht hvm hw hB _ hk1 hS => ?_)
  obtain ⟨hP1, -, hD1⟩ := hB
  rw [ht] at hP1
  obtain ⟨hP2, hD2⟩ := join_last hPs hDs hk1 hFc hP1 hD1
  obtain ⟨e2, hm1⟩ := hw
  have hP := va_P.swap (a := []) (b := u) (c := u1) hP2
  have hD := va_D.swap (a := []) (b := u) (c := u1) hD2
  refine lv_icmp_eq (tgt := 1004) hx hb dL_law_544 (by decide) (fun _ => ?_) (fun c9 => absurd (e1.trans e2.symm) c9)
  exact kk (nw_work σ (xs (nI (5 * k) + 1).toNatClampNeg) (xs (nI (5 * k) + 2).toNatClampNeg) (xs (nI (5 * k) + 3).toNatClampNeg) (xs (nI (5 * k) + 4).toNatClampNeg)) (vk_work hV (xs (nI (5 * k) + 1).toNatClampNeg) (xs (nI (5 * k) + 2).toNatClampNeg) (xs (nI (5 * k) + 3).toNatClampNeg) (xs (nI (5 * k) + 4).toNatClampNeg)) u1 u hm1 hc1 _ _ hP hD hS ls hl

set_option maxHeartbeats 4000000 in
set_option maxRecDepth 100000 in
theorem law_strip {p : Program} {l : Launch} {e : Env} {s : State} {m : MethodId} {below : List Frame} {meth : Method} {c : Code} {Dg : va_G} {b L : Nat} {xs : Nat → Int32} (hL : L ≤ 2560) (C0 : lw_At p s m meth c b L xs) (hao : va_AO RX1 s) {x0 m0 : Nat} {bb : Nat → Nat} {z : Nat → ClassId} {a : Nat → Nat} {y : Nat → ClassId} (hK : va_K Dg vwCl (mT y ++ cT z) s) (k : Nat) (hkL : 5 * k + 5 ≤ L) (σ : St) (hV : vOK σ) (u1 u2 : va_W) (hm : MI m0 a y σ u1) (hc : CX x0 bb z σ u2) (H : Heap) (locs : List Loc) (hP : va_P Dg vwCl (u1 ++ u2) H) (hD : va_D (hS0 s) (u1 ++ u2)) (hS : va_S (hS0 s) s.heap H locs) (ls : Array Slot) (hl : lv_has ls 4 [(0, .ref b), (1, .ref x0), (2, .ref m0), (3, .int (nI (5 * k)))]) (kk : ∀ (τ : St), vOK τ → ∀ (u1 u2 : va_W), MI m0 a y τ u1 → CX x0 bb z τ u2 → ∀ (H : Heap) (locs : List Loc), va_P Dg vwCl (u1 ++ u2) H → va_D (hS0 s) (u1 ++ u2) → va_S (hS0 s) s.heap H locs → ∀ ls : Array Slot, lv_has ls 4 [(0, .ref b), (1, .ref x0), (2, .ref m0), (3, .int (nI (5 * k)))] → W p l e room_1 s m #[Value.ref b] below meth c H locs (30 + 2 * (k + 1)) (2000 + 18 * (k + 1)) (lw_Z below #[Value.ref b] s) (F0 m 1004 ls [])) : W p l e room_1 s m #[Value.ref b] below meth c H locs (30 + 2 * k) (2000 + 18 * k) (lw_Z below #[Value.ref b] s) (F0 m 549 ls []) := by
  obtain ⟨hx, hb, hr, hml, hown, hts, hX, hbl, hlocks, hgv⟩ := C0
  have hown : s.vm.findClass RL = some m.cls := hown
  have hts : ∀ w ∈ wsL_law, w.before #[Value.ref b] s = true := fun w h => hts w (wsL_law_in w h)
  have hA : ∀ q : Nat, s.heap.size ≤ q → hS0 s q := fun _ h => h
  have hbA : ¬ hS0 s b := Nat.not_le.mpr hbl
  have h_1 : vp_in (nI (5 * k) + 1) L := sc_in (j := 1) (by omega) hL
  have h_2 : vp_in (nI (5 * k) + 2) L := sc_in (j := 2) (by omega) hL
  have h_3 : vp_in (nI (5 * k) + 3) L := sc_in (j := 3) (by omega) hL
  have h_4 : vp_in (nI (5 * k) + 4) L := sc_in (j := 4) (by omega) hL
  obtain ⟨kd, wh, re, aTo, aPo, aRw, aRr, aWs, aRs, rfl, hM⟩ := hm
  obtain ⟨Lp, f, ad, g, rfl, hC⟩ := hc
  refine lv_aload_n hx hb dL_law_549 rfl (lv_at hl 1 rfl) ?_
  refine lv_aload_n hx hb dL_law_550 rfl (lv_at hl 0 rfl) ?_
  refine lv_iload_n hx hb dL_law_551 rfl (lv_at hl 3 rfl) ?_
  refine lv_iconst (v := 1) hx hb dL_law_552 (by decide) ?_
  refine lv_iadd hx hb dL_law_553 ?_
  refine va_sld hx hb hX hbl hbA hS h_1 dL_law_554 ?_
  refine lv_aload_n hx hb dL_law_555 rfl (lv_at hl 0 rfl) ?_
  refine lv_iload_n hx hb dL_law_556 rfl (lv_at hl 3 rfl) ?_
  refine lv_iconst (v := 2) hx hb dL_law_557 (by decide) ?_
  refine lv_iadd hx hb dL_law_558 ?_
  refine va_sld hx hb hX hbl hbA hS h_2 dL_law_559 ?_
  have hPc := P_last hP
  have hDc := D_last hD
  have hKc := hK.sub (tys' := cT z) [17, 18, 19, 20, 21, 22, 23] rfl
  have hFc := A_last hD hS hA
  refine va_calli (va_runV (As := [.int (xs (nI (5 * k) + 1).toNatClampNeg), .int (xs (nI (5 * k) + 2).toNatClampNeg)]) (rest := []) ⟨hx, hb, hml, hown, hts⟩ (met_X7_strip l Dg x0 H.size bb z σ Lp f ad g (xs (nI (5 * k) + 1).toNatClampNeg) (xs (nI (5 * k) + 2).toNatClampNeg) hV hC) (cwV 2 hts gL_law_X7_strip rfl rfl rfl (by decide +kernel) ⟨Nat.le_of_ble_eq_true rfl, Nat.le_of_ble_eq_true rfl⟩) (wPreV hKc hPc (hDc.weaken (fun _ _ _ _ => trivial)) (va_recv hKc hPc (ci := 5) (q0 := 0) rfl rfl)) rfl rfl hl.1 rfl (lv_room (Nat.le_of_ble_eq_true rfl)) dL_law_560 ⟨by show 30 + 2 * k + 2 ≤ 600000; omega, by show 2000 + 18 * k + 18 ≤ 7302250; omega⟩) hS (fun q _ h => hFc q h) hFc (fun r1 u t H1 locs ht hvm hw hB _ hk1 hS => ?_)
  obtain ⟨hP1, -, hD1⟩ := hB
  rw [ht] at hP1
  obtain ⟨hP, hD⟩ := join_last hP hD hk1 hFc hP1 hD1
  obtain ⟨e1, hc1⟩ := hw
  clear hP1 hD1 hPc hDc hFc hk1
  refine W.widen (k := 30 + 2 * (k + 1)) (n := 2000 + 18 * (k + 1)) (by omega) (by omega) ?_
  refine lv_aload_n hx hb dL_law_563 rfl (lv_at hl 2 rfl) ?_
  refine lv_aload_n hx hb dL_law_564 rfl (lv_at hl 0 rfl) ?_
  refine lv_iload_n hx hb dL_law_565 rfl (lv_at hl 3 rfl) ?_
  refine lv_iconst (v := 1) hx hb dL_law_566 (by decide) ?_
  refine lv_iadd hx hb dL_law_567 ?_
  refine va_sld hx hb hX hbl hbA hS h_1 dL_law_568 ?_
  refine lv_aload_n hx hb dL_law_569 rfl (lv_at hl 0 rfl) ?_
  refine lv_iload_n hx hb dL_law_570 rfl (lv_at hl 3 rfl) ?_
  refine lv_iconst (v := 2) hx hb dL_law_571 (by decide) ?_
  refine lv_iadd hx hb dL_law_572 ?_
  refine va_sld hx hb hX hbl hbA hS h_2 dL_law_573 ?_
  have hPs := va_P.swap (a := []) (c := u) hP
  have hDs := va_D.swap (a := []) (c := u) hD
  have hPc := P_last hPs
  have hDc := D_last hDs
  have hKc := hK.sub (tys' := mT y) [0, 1, 2, 3, 4, 5, 6, 7, 8, 9, 10, 11, 12, 13, 14, 15, 16] rfl
  have hFc := A_last hDs hS hA
  refine va_calli (va_runV (As := [.int (xs (nI (5 * k) + 1).toNatClampNeg), .int (xs (nI (5 * k) + 2).toNatClampNeg)]) (rest := [.int r1]) ⟨hx, hb, hml, hown, hts⟩ (met_X8_strip l Dg m0 H1.size a y σ kd wh re aTo aPo aRw aRr aWs aRs (xs (nI (5 * k) + 1).toNatClampNeg) (xs (nI (5 * k) + 2).toNatClampNeg) hV hM) (cwV 2 hts gL_law_X8_strip rfl rfl rfl (by decide +kernel) ⟨Nat.le_of_ble_eq_true rfl, Nat.le_of_ble_eq_true rfl⟩) (wPreV hKc hPc (hDc.weaken (fun _ _ _ _ => trivial)) (va_recv hKc hPc (ci := 6) (q0 := 0) rfl rfl)) rfl rfl hl.1 rfl (lv_room (Nat.le_of_ble_eq_true rfl)) dL_law_574 ⟨by show 30 + 2 * (k + 1) + 0 ≤ 600000; omega, by show 2000 + 18 * (k + 1) + 0 ≤ 7302250; omega⟩) hS (fun q _ h => hFc q h) hFc (fun r2 u1 t H2 locs ht hvm hw hB _ hk1 hS => ?_)
  obtain ⟨hP1, -, hD1⟩ := hB
  rw [ht] at hP1
  obtain ⟨hP2, hD2⟩ := join_last hPs hDs hk1 hFc hP1 hD1
  obtain ⟨e2, hm1⟩ := hw
  have hP := va_P.swap (a := []) (b := u) (c := u1) hP2
  have hD := va_D.swap (a := []) (b := u) (c := u1) hD2
  refine lv_icmp_eq (tgt := 1004) hx hb dL_law_577 (by decide) (fun _ => ?_) (fun c9 => absurd (e1.trans e2.symm) c9)
  exact kk (nw_strip σ (xs (nI (5 * k) + 1).toNatClampNeg) (xs (nI (5 * k) + 2).toNatClampNeg)) (vk_strip hV (xs (nI (5 * k) + 1).toNatClampNeg) (xs (nI (5 * k) + 2).toNatClampNeg)) u1 u hm1 hc1 _ _ hP hD hS ls hl

set_option maxHeartbeats 4000000 in
set_option maxRecDepth 100000 in
theorem law_tear {p : Program} {l : Launch} {e : Env} {s : State} {m : MethodId} {below : List Frame} {meth : Method} {c : Code} {Dg : va_G} {b L : Nat} {xs : Nat → Int32} (hL : L ≤ 2560) (C0 : lw_At p s m meth c b L xs) (hao : va_AO RX1 s) {x0 m0 : Nat} {bb : Nat → Nat} {z : Nat → ClassId} {a : Nat → Nat} {y : Nat → ClassId} (hK : va_K Dg vwCl (mT y ++ cT z) s) (k : Nat) (hkL : 5 * k + 5 ≤ L) (σ : St) (hV : vOK σ) (u1 u2 : va_W) (hm : MI m0 a y σ u1) (hc : CX x0 bb z σ u2) (H : Heap) (locs : List Loc) (hP : va_P Dg vwCl (u1 ++ u2) H) (hD : va_D (hS0 s) (u1 ++ u2)) (hS : va_S (hS0 s) s.heap H locs) (ls : Array Slot) (hl : lv_has ls 4 [(0, .ref b), (1, .ref x0), (2, .ref m0), (3, .int (nI (5 * k)))]) (kk : ∀ (τ : St), vOK τ → ∀ (u1 u2 : va_W), MI m0 a y τ u1 → CX x0 bb z τ u2 → ∀ (H : Heap) (locs : List Loc), va_P Dg vwCl (u1 ++ u2) H → va_D (hS0 s) (u1 ++ u2) → va_S (hS0 s) s.heap H locs → ∀ ls : Array Slot, lv_has ls 4 [(0, .ref b), (1, .ref x0), (2, .ref m0), (3, .int (nI (5 * k)))] → W p l e room_1 s m #[Value.ref b] below meth c H locs (30 + 2 * (k + 1)) (2000 + 18 * (k + 1)) (lw_Z below #[Value.ref b] s) (F0 m 1004 ls [])) : W p l e room_1 s m #[Value.ref b] below meth c H locs (30 + 2 * k) (2000 + 18 * k) (lw_Z below #[Value.ref b] s) (F0 m 582 ls []) := by
  obtain ⟨hx, hb, hr, hml, hown, hts, hX, hbl, hlocks, hgv⟩ := C0
  have hown : s.vm.findClass RL = some m.cls := hown
  have hts : ∀ w ∈ wsL_law, w.before #[Value.ref b] s = true := fun w h => hts w (wsL_law_in w h)
  have hA : ∀ q : Nat, s.heap.size ≤ q → hS0 s q := fun _ h => h
  have hbA : ¬ hS0 s b := Nat.not_le.mpr hbl
  have h_1 : vp_in (nI (5 * k) + 1) L := sc_in (j := 1) (by omega) hL
  have h_2 : vp_in (nI (5 * k) + 2) L := sc_in (j := 2) (by omega) hL
  have h_3 : vp_in (nI (5 * k) + 3) L := sc_in (j := 3) (by omega) hL
  have h_4 : vp_in (nI (5 * k) + 4) L := sc_in (j := 4) (by omega) hL
  obtain ⟨kd, wh, re, aTo, aPo, aRw, aRr, aWs, aRs, rfl, hM⟩ := hm
  obtain ⟨Lp, f, ad, g, rfl, hC⟩ := hc
  refine lv_aload_n hx hb dL_law_582 rfl (lv_at hl 1 rfl) ?_
  refine lv_aload_n hx hb dL_law_583 rfl (lv_at hl 0 rfl) ?_
  refine lv_iload_n hx hb dL_law_584 rfl (lv_at hl 3 rfl) ?_
  refine lv_iconst (v := 1) hx hb dL_law_585 (by decide) ?_
  refine lv_iadd hx hb dL_law_586 ?_
  refine va_sld hx hb hX hbl hbA hS h_1 dL_law_587 ?_
  have hPc := P_last hP
  have hDc := D_last hD
  have hKc := hK.sub (tys' := cT z) [17, 18, 19, 20, 21, 22, 23] rfl
  have hFc := A_last hD hS hA
  refine va_calli (va_runV (As := [.int (xs (nI (5 * k) + 1).toNatClampNeg)]) (rest := []) ⟨hx, hb, hml, hown, hts⟩ (met_X7_tear l Dg x0 H.size bb z σ Lp f ad g (xs (nI (5 * k) + 1).toNatClampNeg) hV hC) (cwV 1 hts gL_law_X7_tear rfl rfl rfl (by decide +kernel) ⟨Nat.le_of_ble_eq_true rfl, Nat.le_of_ble_eq_true rfl⟩) (wPreV hKc hPc (hDc.weaken (fun _ _ _ _ => trivial)) (va_recv hKc hPc (ci := 5) (q0 := 0) rfl rfl)) rfl rfl hl.1 rfl (lv_room (Nat.le_of_ble_eq_true rfl)) dL_law_588 ⟨by show 30 + 2 * k + 0 ≤ 600000; omega, by show 2000 + 18 * k + 0 ≤ 7302250; omega⟩) hS (fun q _ h => hFc q h) hFc (fun r1 u t H1 locs ht hvm hw hB _ hk1 hS => ?_)
  obtain ⟨hP1, -, hD1⟩ := hB
  rw [ht] at hP1
  obtain ⟨hP, hD⟩ := join_last hP hD hk1 hFc hP1 hD1
  obtain ⟨e1, hc1⟩ := hw
  clear hP1 hD1 hPc hDc hFc hk1
  refine W.widen (k := 30 + 2 * (k + 1)) (n := 2000 + 18 * (k + 1)) (by omega) (by omega) ?_
  refine lv_aload_n hx hb dL_law_591 rfl (lv_at hl 2 rfl) ?_
  refine lv_aload_n hx hb dL_law_592 rfl (lv_at hl 0 rfl) ?_
  refine lv_iload_n hx hb dL_law_593 rfl (lv_at hl 3 rfl) ?_
  refine lv_iconst (v := 1) hx hb dL_law_594 (by decide) ?_
  refine lv_iadd hx hb dL_law_595 ?_
  refine va_sld hx hb hX hbl hbA hS h_1 dL_law_596 ?_
  have hPs := va_P.swap (a := []) (c := u) hP
  have hDs := va_D.swap (a := []) (c := u) hD
  have hPc := P_last hPs
  have hDc := D_last hDs
  have hKc := hK.sub (tys' := mT y) [0, 1, 2, 3, 4, 5, 6, 7, 8, 9, 10, 11, 12, 13, 14, 15, 16] rfl
  have hFc := A_last hDs hS hA
  refine va_calli (va_runV (As := [.int (xs (nI (5 * k) + 1).toNatClampNeg)]) (rest := [.int r1]) ⟨hx, hb, hml, hown, hts⟩ (met_X8_tear l Dg m0 H1.size a y σ kd wh re aTo aPo aRw aRr aWs aRs (xs (nI (5 * k) + 1).toNatClampNeg) hV hM) (cwV 1 hts gL_law_X8_tear rfl rfl rfl (by decide +kernel) ⟨Nat.le_of_ble_eq_true rfl, Nat.le_of_ble_eq_true rfl⟩) (wPreV hKc hPc (hDc.weaken (fun _ _ _ _ => trivial)) (va_recv hKc hPc (ci := 6) (q0 := 0) rfl rfl)) rfl rfl hl.1 rfl (lv_room (Nat.le_of_ble_eq_true rfl)) dL_law_597 ⟨by show 30 + 2 * (k + 1) + 0 ≤ 600000; omega, by show 2000 + 18 * (k + 1) + 0 ≤ 7302250; omega⟩) hS (fun q _ h => hFc q h) hFc (fun r2 u1 t H2 locs ht hvm hw hB _ hk1 hS => ?_)
  obtain ⟨hP1, -, hD1⟩ := hB
  rw [ht] at hP1
  obtain ⟨hP2, hD2⟩ := join_last hPs hDs hk1 hFc hP1 hD1
  obtain ⟨e2, hm1⟩ := hw
  have hP := va_P.swap (a := []) (b := u) (c := u1) hP2
  have hD := va_D.swap (a := []) (b := u) (c := u1) hD2
  refine lv_icmp_eq (tgt := 1004) hx hb dL_law_600 (by decide) (fun _ => ?_) (fun c9 => absurd (e1.trans e2.symm) c9)
  exact kk (nw_tear σ (xs (nI (5 * k) + 1).toNatClampNeg)) (vk_tear hV (xs (nI (5 * k) + 1).toNatClampNeg)) u1 u hm1 hc1 _ _ hP hD hS ls hl

set_option maxHeartbeats 4000000 in
set_option maxRecDepth 100000 in
theorem law_keep {p : Program} {l : Launch} {e : Env} {s : State} {m : MethodId} {below : List Frame} {meth : Method} {c : Code} {Dg : va_G} {b L : Nat} {xs : Nat → Int32} (hL : L ≤ 2560) (C0 : lw_At p s m meth c b L xs) (hao : va_AO RX1 s) {x0 m0 : Nat} {bb : Nat → Nat} {z : Nat → ClassId} {a : Nat → Nat} {y : Nat → ClassId} (hK : va_K Dg vwCl (mT y ++ cT z) s) (k : Nat) (hkL : 5 * k + 5 ≤ L) (σ : St) (hV : vOK σ) (u1 u2 : va_W) (hm : MI m0 a y σ u1) (hc : CX x0 bb z σ u2) (H : Heap) (locs : List Loc) (hP : va_P Dg vwCl (u1 ++ u2) H) (hD : va_D (hS0 s) (u1 ++ u2)) (hS : va_S (hS0 s) s.heap H locs) (ls : Array Slot) (hl : lv_has ls 4 [(0, .ref b), (1, .ref x0), (2, .ref m0), (3, .int (nI (5 * k)))]) (kk : ∀ (τ : St), vOK τ → ∀ (u1 u2 : va_W), MI m0 a y τ u1 → CX x0 bb z τ u2 → ∀ (H : Heap) (locs : List Loc), va_P Dg vwCl (u1 ++ u2) H → va_D (hS0 s) (u1 ++ u2) → va_S (hS0 s) s.heap H locs → ∀ ls : Array Slot, lv_has ls 4 [(0, .ref b), (1, .ref x0), (2, .ref m0), (3, .int (nI (5 * k)))] → W p l e room_1 s m #[Value.ref b] below meth c H locs (30 + 2 * (k + 1)) (2000 + 18 * (k + 1)) (lw_Z below #[Value.ref b] s) (F0 m 1004 ls [])) : W p l e room_1 s m #[Value.ref b] below meth c H locs (30 + 2 * k) (2000 + 18 * k) (lw_Z below #[Value.ref b] s) (F0 m 605 ls []) := by
  obtain ⟨hx, hb, hr, hml, hown, hts, hX, hbl, hlocks, hgv⟩ := C0
  have hown : s.vm.findClass RL = some m.cls := hown
  have hts : ∀ w ∈ wsL_law, w.before #[Value.ref b] s = true := fun w h => hts w (wsL_law_in w h)
  have hA : ∀ q : Nat, s.heap.size ≤ q → hS0 s q := fun _ h => h
  have hbA : ¬ hS0 s b := Nat.not_le.mpr hbl
  have h_1 : vp_in (nI (5 * k) + 1) L := sc_in (j := 1) (by omega) hL
  have h_2 : vp_in (nI (5 * k) + 2) L := sc_in (j := 2) (by omega) hL
  have h_3 : vp_in (nI (5 * k) + 3) L := sc_in (j := 3) (by omega) hL
  have h_4 : vp_in (nI (5 * k) + 4) L := sc_in (j := 4) (by omega) hL
  obtain ⟨kd, wh, re, aTo, aPo, aRw, aRr, aWs, aRs, rfl, hM⟩ := hm
  obtain ⟨Lp, f, ad, g, rfl, hC⟩ := hc
  refine lv_aload_n hx hb dL_law_605 rfl (lv_at hl 1 rfl) ?_
  refine lv_aload_n hx hb dL_law_606 rfl (lv_at hl 0 rfl) ?_
  refine lv_iload_n hx hb dL_law_607 rfl (lv_at hl 3 rfl) ?_
  refine lv_iconst (v := 1) hx hb dL_law_608 (by decide) ?_
  refine lv_iadd hx hb dL_law_609 ?_
  refine va_sld hx hb hX hbl hbA hS h_1 dL_law_610 ?_
  refine lv_aload_n hx hb dL_law_611 rfl (lv_at hl 0 rfl) ?_
  refine lv_iload_n hx hb dL_law_612 rfl (lv_at hl 3 rfl) ?_
  refine lv_iconst (v := 2) hx hb dL_law_613 (by decide) ?_
  refine lv_iadd hx hb dL_law_614 ?_
  refine va_sld hx hb hX hbl hbA hS h_2 dL_law_615 ?_
  refine lv_aload_n hx hb dL_law_616 rfl (lv_at hl 0 rfl) ?_
  refine lv_iload_n hx hb dL_law_617 rfl (lv_at hl 3 rfl) ?_
  refine lv_iconst (v := 3) hx hb dL_law_618 (by decide) ?_
  refine lv_iadd hx hb dL_law_619 ?_
  refine va_sld hx hb hX hbl hbA hS h_3 dL_law_620 ?_
  refine lv_aload_n hx hb dL_law_621 rfl (lv_at hl 0 rfl) ?_
  refine lv_iload_n hx hb dL_law_622 rfl (lv_at hl 3 rfl) ?_
  refine lv_iconst (v := 4) hx hb dL_law_623 (by decide) ?_
  refine lv_iadd hx hb dL_law_624 ?_
  refine va_sld hx hb hX hbl hbA hS h_4 dL_law_625 ?_
  have hPc := P_last hP
  have hDc := D_last hD
  have hKc := hK.sub (tys' := cT z) [17, 18, 19, 20, 21, 22, 23] rfl
  have hFc := A_last hD hS hA
  refine va_calli (va_runV (As := [.int (xs (nI (5 * k) + 1).toNatClampNeg), .int (xs (nI (5 * k) + 2).toNatClampNeg), .int (xs (nI (5 * k) + 3).toNatClampNeg), .int (xs (nI (5 * k) + 4).toNatClampNeg)]) (rest := []) ⟨hx, hb, hml, hown, hts⟩ (met_X7_keep l Dg x0 H.size bb z σ Lp f ad g (xs (nI (5 * k) + 1).toNatClampNeg) (xs (nI (5 * k) + 2).toNatClampNeg) (xs (nI (5 * k) + 3).toNatClampNeg) (xs (nI (5 * k) + 4).toNatClampNeg) hV hC) (cwV 4 hts gL_law_X7_keep rfl rfl rfl (by decide +kernel) ⟨Nat.le_of_ble_eq_true rfl, Nat.le_of_ble_eq_true rfl⟩) (wPreV hKc hPc (hDc.weaken (fun _ _ _ _ => trivial)) (va_recv hKc hPc (ci := 5) (q0 := 0) rfl rfl)) rfl rfl hl.1 rfl (lv_room (Nat.le_of_ble_eq_true rfl)) dL_law_626 ⟨by show 30 + 2 * k + 0 ≤ 600000; omega, by show 2000 + 18 * k + 0 ≤ 7302250; omega⟩) hS (fun q _ h => hFc q h) hFc (fun r1 u t H1 locs ht hvm hw hB _ hk1 hS => ?_)
  obtain ⟨hP1, -, hD1⟩ := hB
  rw [ht] at hP1
  obtain ⟨hP, hD⟩ := join_last hP hD hk1 hFc hP1 hD1
  obtain ⟨e1, hc1⟩ := hw
  clear hP1 hD1 hPc hDc hFc hk1
  refine W.widen (k := 30 + 2 * (k + 1)) (n := 2000 + 18 * (k + 1)) (by omega) (by omega) ?_
  refine lv_aload_n hx hb dL_law_629 rfl (lv_at hl 2 rfl) ?_
  refine lv_aload_n hx hb dL_law_630 rfl (lv_at hl 0 rfl) ?_
  refine lv_iload_n hx hb dL_law_631 rfl (lv_at hl 3 rfl) ?_
  refine lv_iconst (v := 1) hx hb dL_law_632 (by decide) ?_
  refine lv_iadd hx hb dL_law_633 ?_
  refine va_sld hx hb hX hbl hbA hS h_1 dL_law_634 ?_
  refine lv_aload_n hx hb dL_law_635 rfl (lv_at hl 0 rfl) ?_
  refine lv_iload_n hx hb dL_law_636 rfl (lv_at hl 3 rfl) ?_
  refine lv_iconst (v := 2) hx hb dL_law_637 (by decide) ?_
  refine lv_iadd hx hb dL_law_638 ?_
  refine va_sld hx hb hX hbl hbA hS h_2 dL_law_639 ?_
  refine lv_aload_n hx hb dL_law_640 rfl (lv_at hl 0 rfl) ?_
  refine lv_iload_n hx hb dL_law_641 rfl (lv_at hl 3 rfl) ?_
  refine lv_iconst (v := 3) hx hb dL_law_642 (by decide) ?_
  refine lv_iadd hx hb dL_law_643 ?_
  refine va_sld hx hb hX hbl hbA hS h_3 dL_law_644 ?_
  refine lv_aload_n hx hb dL_law_645 rfl (lv_at hl 0 rfl) ?_
  refine lv_iload_n hx hb dL_law_646 rfl (lv_at hl 3 rfl) ?_
  refine lv_iconst (v := 4) hx hb dL_law_647 (by decide) ?_
  refine lv_iadd hx hb dL_law_648 ?_
  refine va_sld hx hb hX hbl hbA hS h_4 dL_law_649 ?_
  have hPs := va_P.swap (a := []) (c := u) hP
  have hDs := va_D.swap (a := []) (c := u) hD
  have hPc := P_last hPs
  have hDc := D_last hDs
  have hKc := hK.sub (tys' := mT y) [0, 1, 2, 3, 4, 5, 6, 7, 8, 9, 10, 11, 12, 13, 14, 15, 16] rfl
  have hFc := A_last hDs hS hA
  refine va_calli (va_runV (As := [.int (xs (nI (5 * k) + 1).toNatClampNeg), .int (xs (nI (5 * k) + 2).toNatClampNeg), .int (xs (nI (5 * k) + 3).toNatClampNeg), .int (xs (nI (5 * k) + 4).toNatClampNeg)]) (rest := [.int r1]) ⟨hx, hb, hml, hown, hts⟩ (met_X8_keep l Dg m0 H1.size a y σ kd wh re aTo aPo aRw aRr aWs aRs (xs (nI (5 * k) + 1).toNatClampNeg) (xs (nI (5 * k) + 2).toNatClampNeg) (xs (nI (5 * k) + 3).toNatClampNeg) (xs (nI (5 * k) + 4).toNatClampNeg) hV hM) (cwV 4 hts gL_law_X8_keep rfl rfl rfl (by decide +kernel) ⟨Nat.le_of_ble_eq_true rfl, Nat.le_of_ble_eq_true rfl⟩) (wPreV hKc hPc (hDc.weaken (fun _ _ _ _ => trivial)) (va_recv hKc hPc (ci := 6) (q0 := 0) rfl rfl)) rfl rfl hl.1 rfl (lv_room (Nat.le_of_ble_eq_true rfl)) dL_law_650 ⟨by show 30 + 2 * (k + 1) + 0 ≤ 600000; omega, by show 2000 + 18 * (k + 1) + 0 ≤ 7302250; omega⟩) hS (fun q _ h => hFc q h) hFc (fun r2 u1 t H2 locs ht hvm hw hB _ hk1 hS => ?_)
  obtain ⟨hP1, -, hD1⟩ := hB
  rw [ht] at hP1
  obtain ⟨hP2, hD2⟩ := join_last hPs hDs hk1 hFc hP1 hD1
  obtain ⟨e2, hm1⟩ := hw
  have hP := va_P.swap (a := []) (b := u) (c := u1) hP2
  have hD := va_D.swap (a := []) (b := u) (c := u1) hD2
  refine lv_icmp_eq (tgt := 1004) hx hb dL_law_653 (by decide) (fun _ => ?_) (fun c9 => absurd (e1.trans e2.symm) c9)
  exact kk (nw_keep σ (xs (nI (5 * k) + 1).toNatClampNeg) (xs (nI (5 * k) + 2).toNatClampNeg) (xs (nI (5 * k) + 3).toNatClampNeg) (xs (nI (5 * k) + 4).toNatClampNeg)) (vk_keep hV (xs (nI (5 * k) + 1).toNatClampNeg) (xs (nI (5 * k) + 2).toNatClampNeg) (xs (nI (5 * k) + 3).toNatClampNeg) (xs (nI (5 * k) + 4).toNatClampNeg)) u1 u hm1 hc1 _ _ hP hD hS ls hl

set_option maxHeartbeats 4000000 in
set_option maxRecDepth 100000 in
theorem law_kept {p : Program} {l : Launch} {e : Env} {s : State} {m : MethodId} {below : List Frame} {meth : Method} {c : Code} {Dg : va_G} {b L : Nat} {xs : Nat → Int32} (hL : L ≤ 2560) (C0 : lw_At p s m meth c b L xs) (hao : va_AO RX1 s) {x0 m0 : Nat} {bb : Nat → Nat} {z : Nat → ClassId} {a : Nat → Nat} {y : Nat → ClassId} (hK : va_K Dg vwCl (mT y ++ cT z) s) (k : Nat) (hkL : 5 * k + 5 ≤ L) (σ : St) (hV : vOK σ) (u1 u2 : va_W) (hm : MI m0 a y σ u1) (hc : CX x0 bb z σ u2) (H : Heap) (locs : List Loc) (hP : va_P Dg vwCl (u1 ++ u2) H) (hD : va_D (hS0 s) (u1 ++ u2)) (hS : va_S (hS0 s) s.heap H locs) (ls : Array Slot) (hl : lv_has ls 4 [(0, .ref b), (1, .ref x0), (2, .ref m0), (3, .int (nI (5 * k)))]) (kk : ∀ (τ : St), vOK τ → ∀ (u1 u2 : va_W), MI m0 a y τ u1 → CX x0 bb z τ u2 → ∀ (H : Heap) (locs : List Loc), va_P Dg vwCl (u1 ++ u2) H → va_D (hS0 s) (u1 ++ u2) → va_S (hS0 s) s.heap H locs → ∀ ls : Array Slot, lv_has ls 4 [(0, .ref b), (1, .ref x0), (2, .ref m0), (3, .int (nI (5 * k)))] → W p l e room_1 s m #[Value.ref b] below meth c H locs (30 + 2 * (k + 1)) (2000 + 18 * (k + 1)) (lw_Z below #[Value.ref b] s) (F0 m 1004 ls [])) : W p l e room_1 s m #[Value.ref b] below meth c H locs (30 + 2 * k) (2000 + 18 * k) (lw_Z below #[Value.ref b] s) (F0 m 658 ls []) := by
  obtain ⟨hx, hb, hr, hml, hown, hts, hX, hbl, hlocks, hgv⟩ := C0
  have hown : s.vm.findClass RL = some m.cls := hown
  have hts : ∀ w ∈ wsL_law, w.before #[Value.ref b] s = true := fun w h => hts w (wsL_law_in w h)
  have hA : ∀ q : Nat, s.heap.size ≤ q → hS0 s q := fun _ h => h
  have hbA : ¬ hS0 s b := Nat.not_le.mpr hbl
  have h_1 : vp_in (nI (5 * k) + 1) L := sc_in (j := 1) (by omega) hL
  have h_2 : vp_in (nI (5 * k) + 2) L := sc_in (j := 2) (by omega) hL
  have h_3 : vp_in (nI (5 * k) + 3) L := sc_in (j := 3) (by omega) hL
  have h_4 : vp_in (nI (5 * k) + 4) L := sc_in (j := 4) (by omega) hL
  obtain ⟨kd, wh, re, aTo, aPo, aRw, aRr, aWs, aRs, rfl, hM⟩ := hm
  obtain ⟨Lp, f, ad, g, rfl, hC⟩ := hc
  refine lv_aload_n hx hb dL_law_658 rfl (lv_at hl 1 rfl) ?_
  refine lv_aload_n hx hb dL_law_659 rfl (lv_at hl 0 rfl) ?_
  refine lv_iload_n hx hb dL_law_660 rfl (lv_at hl 3 rfl) ?_
  refine lv_iconst (v := 1) hx hb dL_law_661 (by decide) ?_
  refine lv_iadd hx hb dL_law_662 ?_
  refine va_sld hx hb hX hbl hbA hS h_1 dL_law_663 ?_
  refine lv_aload_n hx hb dL_law_664 rfl (lv_at hl 0 rfl) ?_
  refine lv_iload_n hx hb dL_law_665 rfl (lv_at hl 3 rfl) ?_
  refine lv_iconst (v := 2) hx hb dL_law_666 (by decide) ?_
  refine lv_iadd hx hb dL_law_667 ?_
  refine va_sld hx hb hX hbl hbA hS h_2 dL_law_668 ?_
  refine lv_aload_n hx hb dL_law_669 rfl (lv_at hl 0 rfl) ?_
  refine lv_iload_n hx hb dL_law_670 rfl (lv_at hl 3 rfl) ?_
  refine lv_iconst (v := 3) hx hb dL_law_671 (by decide) ?_
  refine lv_iadd hx hb dL_law_672 ?_
  refine va_sld hx hb hX hbl hbA hS h_3 dL_law_673 ?_
  have hPc := P_last hP
  have hDc := D_last hD
  have hKc := hK.sub (tys' := cT z) [17, 18, 19, 20, 21, 22, 23] rfl
  have hFc := A_last hD hS hA
  refine va_calll (va_runV (As := [.int (xs (nI (5 * k) + 1).toNatClampNeg), .int (xs (nI (5 * k) + 2).toNatClampNeg), .int (xs (nI (5 * k) + 3).toNatClampNeg)]) (rest := []) ⟨hx, hb, hml, hown, hts⟩ (met_X7_kept l Dg x0 H.size bb z σ Lp f ad g (xs (nI (5 * k) + 1).toNatClampNeg) (xs (nI (5 * k) + 2).toNatClampNeg) (xs (nI (5 * k) + 3).toNatClampNeg) hV hC) (cwV 3 hts gL_law_X7_kept rfl rfl rfl (by decide +kernel) ⟨Nat.le_of_ble_eq_true rfl, Nat.le_of_ble_eq_true rfl⟩) (wPreV hKc hPc (hDc.weaken (fun _ _ _ _ => trivial)) (va_recv hKc hPc (ci := 5) (q0 := 0) rfl rfl)) rfl rfl hl.1 rfl (lv_room (Nat.le_of_ble_eq_true rfl)) dL_law_674 ⟨by show 30 + 2 * k + 0 ≤ 600000; omega, by show 2000 + 18 * k + 0 ≤ 7302250; omega⟩) hS (fun q _ h => hFc q h) hFc (fun r1 u t H1 locs ht hvm hw hB _ hk1 hS => ?_)
  obtain ⟨hP1, -, hD1⟩ := hB
  rw [ht] at hP1
  obtain ⟨hP, hD⟩ := join_last hP hD hk1 hFc hP1 hD1
  obtain ⟨e1, hc1⟩ := hw
  clear hP1 hD1 hPc hDc hFc hk1
  refine W.widen (k := 30 + 2 * (k + 1)) (n := 2000 + 18 * (k + 1)) (by omega) (by omega) ?_
  refine lv_aload_n hx hb dL_law_677 rfl (lv_at hl 2 rfl) ?_
  refine lv_aload_n hx hb dL_law_678 rfl (lv_at hl 0 rfl) ?_
  refine lv_iload_n hx hb dL_law_679 rfl (lv_at hl 3 rfl) ?_
  refine lv_iconst (v := 1) hx hb dL_law_680 (by decide) ?_
  refine lv_iadd hx hb dL_law_681 ?_
  refine va_sld hx hb hX hbl hbA hS h_1 dL_law_682 ?_
  refine lv_aload_n hx hb dL_law_683 rfl (lv_at hl 0 rfl) ?_
  refine lv_iload_n hx hb dL_law_684 rfl (lv_at hl 3 rfl) ?_
  refine lv_iconst (v := 2) hx hb dL_law_685 (by decide) ?_
  refine lv_iadd hx hb dL_law_686 ?_
  refine va_sld hx hb hX hbl hbA hS h_2 dL_law_687 ?_
  refine lv_aload_n hx hb dL_law_688 rfl (lv_at hl 0 rfl) ?_
  refine lv_iload_n hx hb dL_law_689 rfl (lv_at hl 3 rfl) ?_
  refine lv_iconst (v := 3) hx hb dL_law_690 (by decide) ?_
  refine lv_iadd hx hb dL_law_691 ?_
  refine va_sld hx hb hX hbl hbA hS h_3 dL_law_692 ?_
  have hPs := va_P.swap (a := []) (c := u) hP
  have hDs := va_D.swap (a := []) (c := u) hD
  have hPc := P_last hPs
  have hDc := D_last hDs
  have hKc := hK.sub (tys' := mT y) [0, 1, 2, 3, 4, 5, 6, 7, 8, 9, 10, 11, 12, 13, 14, 15, 16] rfl
  have hFc := A_last hDs hS hA
  refine va_calll (va_runV (As := [.int (xs (nI (5 * k) + 1).toNatClampNeg), .int (xs (nI (5 * k) + 2).toNatClampNeg), .int (xs (nI (5 * k) + 3).toNatClampNeg)]) (rest := [.long r1]) ⟨hx, hb, hml, hown, hts⟩ (met_X8_kept l Dg m0 H1.size a y σ kd wh re aTo aPo aRw aRr aWs aRs (xs (nI (5 * k) + 1).toNatClampNeg) (xs (nI (5 * k) + 2).toNatClampNeg) (xs (nI (5 * k) + 3).toNatClampNeg) hV hM) (cwV 3 hts gL_law_X8_kept rfl rfl rfl (by decide +kernel) ⟨Nat.le_of_ble_eq_true rfl, Nat.le_of_ble_eq_true rfl⟩) (wPreV hKc hPc (hDc.weaken (fun _ _ _ _ => trivial)) (va_recv hKc hPc (ci := 6) (q0 := 0) rfl rfl)) rfl rfl hl.1 rfl (lv_room (Nat.le_of_ble_eq_true rfl)) dL_law_693 ⟨by show 30 + 2 * (k + 1) + 0 ≤ 600000; omega, by show 2000 + 18 * (k + 1) + 0 ≤ 7302250; omega⟩) hS (fun q _ h => hFc q h) hFc (fun r2 u1 t H2 locs ht hvm hw hB _ hk1 hS => ?_)
  obtain ⟨hP1, -, hD1⟩ := hB
  rw [ht] at hP1
  obtain ⟨hP2, hD2⟩ := join_last hPs hDs hk1 hFc hP1 hD1
  obtain ⟨e2, hm1⟩ := hw
  have hP := va_P.swap (a := []) (b := u) (c := u1) hP2
  have hD := va_D.swap (a := []) (b := u) (c := u1) hD2
  refine W.lcmp hx hb dL_law_696 ?_
  refine lv_if_eq (tgt := 1004) hx hb dL_law_697 (by decide) (fun _ => ?_) (fun c9 => absurd (lgc_eqq.mpr (e1.trans e2.symm)) c9)
  exact kk (nw_kept σ (xs (nI (5 * k) + 1).toNatClampNeg) (xs (nI (5 * k) + 2).toNatClampNeg) (xs (nI (5 * k) + 3).toNatClampNeg)) (vk_kept hV (xs (nI (5 * k) + 1).toNatClampNeg) (xs (nI (5 * k) + 2).toNatClampNeg) (xs (nI (5 * k) + 3).toNatClampNeg)) u1 u hm1 hc1 _ _ hP hD hS ls hl

set_option maxHeartbeats 4000000 in
set_option maxRecDepth 100000 in
theorem law_rests {p : Program} {l : Launch} {e : Env} {s : State} {m : MethodId} {below : List Frame} {meth : Method} {c : Code} {Dg : va_G} {b L : Nat} {xs : Nat → Int32} (hL : L ≤ 2560) (C0 : lw_At p s m meth c b L xs) (hao : va_AO RX1 s) {x0 m0 : Nat} {bb : Nat → Nat} {z : Nat → ClassId} {a : Nat → Nat} {y : Nat → ClassId} (hK : va_K Dg vwCl (mT y ++ cT z) s) (k : Nat) (hkL : 5 * k + 5 ≤ L) (σ : St) (hV : vOK σ) (u1 u2 : va_W) (hm : MI m0 a y σ u1) (hc : CX x0 bb z σ u2) (H : Heap) (locs : List Loc) (hP : va_P Dg vwCl (u1 ++ u2) H) (hD : va_D (hS0 s) (u1 ++ u2)) (hS : va_S (hS0 s) s.heap H locs) (ls : Array Slot) (hl : lv_has ls 4 [(0, .ref b), (1, .ref x0), (2, .ref m0), (3, .int (nI (5 * k)))]) (kk : ∀ (τ : St), vOK τ → ∀ (u1 u2 : va_W), MI m0 a y τ u1 → CX x0 bb z τ u2 → ∀ (H : Heap) (locs : List Loc), va_P Dg vwCl (u1 ++ u2) H → va_D (hS0 s) (u1 ++ u2) → va_S (hS0 s) s.heap H locs → ∀ ls : Array Slot, lv_has ls 4 [(0, .ref b), (1, .ref x0), (2, .ref m0), (3, .int (nI (5 * k)))] → W p l e room_1 s m #[Value.ref b] below meth c H locs (30 + 2 * (k + 1)) (2000 + 18 * (k + 1)) (lw_Z below #[Value.ref b] s) (F0 m 1004 ls [])) : W p l e room_1 s m #[Value.ref b] below meth c H locs (30 + 2 * k) (2000 + 18 * k) (lw_Z below #[Value.ref b] s) (F0 m 702 ls []) := by
  obtain ⟨hx, hb, hr, hml, hown, hts, hX, hbl, hlocks, hgv⟩ := C0
  have hown : s.vm.findClass RL = some m.cls := hown
  have hts : ∀ w ∈ wsL_law, w.before #[Value.ref b] s = true := fun w h => hts w (wsL_law_in w h)
  have hA : ∀ q : Nat, s.heap.size ≤ q → hS0 s q := fun _ h => h
  have hbA : ¬ hS0 s b := Nat.not_le.mpr hbl
  have h_1 : vp_in (nI (5 * k) + 1) L := sc_in (j := 1) (by omega) hL
  have h_2 : vp_in (nI (5 * k) + 2) L := sc_in (j := 2) (by omega) hL
  have h_3 : vp_in (nI (5 * k) + 3) L := sc_in (j := 3) (by omega) hL
  have h_4 : vp_in (nI (5 * k) + 4) L := sc_in (j := 4) (by omega) hL
  obtain ⟨kd, wh, re, aTo, aPo, aRw, aRr, aWs, aRs, rfl, hM⟩ := hm
  obtain ⟨Lp, f, ad, g, rfl, hC⟩ := hc
  refine lv_aload_n hx hb dL_law_702 rfl (lv_at hl 1 rfl) ?_
  refine lv_aload_n hx hb dL_law_703 rfl (lv_at hl 0 rfl) ?_
  refine lv_iload_n hx hb dL_law_704 rfl (lv_at hl 3 rfl) ?_
  refine lv_iconst (v := 1) hx hb dL_law_705 (by decide) ?_
  refine lv_iadd hx hb dL_law_706 ?_
  refine va_sld hx hb hX hbl hbA hS h_1 dL_law_707 ?_
  refine lv_aload_n hx hb dL_law_708 rfl (lv_at hl 0 rfl) ?_
  refine lv_iload_n hx hb dL_law_709 rfl (lv_at hl 3 rfl) ?_
  refine lv_iconst (v := 2) hx hb dL_law_710 (by decide) ?_
  refine lv_iadd hx hb dL_law_711 ?_
  refine va_sld hx hb hX hbl hbA hS h_2 dL_law_712 ?_
  have hPc := P_last hP
  have hDc := D_last hD
  have hKc := hK.sub (tys' := cT z) [17, 18, 19, 20, 21, 22, 23] rfl
  have hFc := A_last hD hS hA
  refine va_calli (va_runV (As := [.int (xs (nI (5 * k) + 1).toNatClampNeg), .int (xs (nI (5 * k) + 2).toNatClampNeg)]) (rest := []) ⟨hx, hb, hml, hown, hts⟩ (met_X7_rests l Dg x0 H.size bb z σ Lp f ad g (xs (nI (5 * k) + 1).toNatClampNeg) (xs (nI (5 * k) + 2).toNatClampNeg) hV hC) (cwV 2 hts gL_law_X7_rests rfl rfl rfl (by decide +kernel) ⟨Nat.le_of_ble_eq_true rfl, Nat.le_of_ble_eq_true rfl⟩) (wPreV hKc hPc (hDc.weaken (fun _ _ _ _ => trivial)) (va_recv hKc hPc (ci := 5) (q0 := 0) rfl rfl)) rfl rfl hl.1 rfl (lv_room (Nat.le_of_ble_eq_true rfl)) dL_law_713 ⟨by show 30 + 2 * k + 0 ≤ 600000; omega, by show 2000 + 18 * k + 0 ≤ 7302250; omega⟩) hS (fun q _ h => hFc q h) hFc (fun r1 u t H1 locs ht hvm hw hB _ hk1 hS => ?_)
  obtain ⟨hP1, -, hD1⟩ := hB
  rw [ht] at hP1
  obtain ⟨hP, hD⟩ := join_last hP hD hk1 hFc hP1 hD1
  obtain ⟨e1, hc1⟩ := hw
  clear hP1 hD1 hPc hDc hFc hk1
  refine W.widen (k := 30 + 2 * (k + 1)) (n := 2000 + 18 * (k + 1)) (by omega) (by omega) ?_
  refine lv_aload_n hx hb dL_law_716 rfl (lv_at hl 2 rfl) ?_
  refine lv_aload_n hx hb dL_law_717 rfl (lv_at hl 0 rfl) ?_
  refine lv_iload_n hx hb dL_law_718 rfl (lv_at hl 3 rfl) ?_
  refine lv_iconst (v := 1) hx hb dL_law_719 (by decide) ?_
  refine lv_iadd hx hb dL_law_720 ?_
  refine va_sld hx hb hX hbl hbA hS h_1 dL_law_721 ?_
  refine lv_aload_n hx hb dL_law_722 rfl (lv_at hl 0 rfl) ?_
  refine lv_iload_n hx hb dL_law_723 rfl (lv_at hl 3 rfl) ?_
  refine lv_iconst (v := 2) hx hb dL_law_724 (by decide) ?_
  refine lv_iadd hx hb dL_law_725 ?_
  refine va_sld hx hb hX hbl hbA hS h_2 dL_law_726 ?_
  have hPs := va_P.swap (a := []) (c := u) hP
  have hDs := va_D.swap (a := []) (c := u) hD
  have hPc := P_last hPs
  have hDc := D_last hDs
  have hKc := hK.sub (tys' := mT y) [0, 1, 2, 3, 4, 5, 6, 7, 8, 9, 10, 11, 12, 13, 14, 15, 16] rfl
  have hFc := A_last hDs hS hA
  refine va_calli (va_runV (As := [.int (xs (nI (5 * k) + 1).toNatClampNeg), .int (xs (nI (5 * k) + 2).toNatClampNeg)]) (rest := [.int r1]) ⟨hx, hb, hml, hown, hts⟩ (met_X8_rests l Dg m0 H1.size a y σ kd wh re aTo aPo aRw aRr aWs aRs (xs (nI (5 * k) + 1).toNatClampNeg) (xs (nI (5 * k) + 2).toNatClampNeg) hV hM) (cwV 2 hts gL_law_X8_rests rfl rfl rfl (by decide +kernel) ⟨Nat.le_of_ble_eq_true rfl, Nat.le_of_ble_eq_true rfl⟩) (wPreV hKc hPc (hDc.weaken (fun _ _ _ _ => trivial)) (va_recv hKc hPc (ci := 6) (q0 := 0) rfl rfl)) rfl rfl hl.1 rfl (lv_room (Nat.le_of_ble_eq_true rfl)) dL_law_727 ⟨by show 30 + 2 * (k + 1) + 0 ≤ 600000; omega, by show 2000 + 18 * (k + 1) + 0 ≤ 7302250; omega⟩) hS (fun q _ h => hFc q h) hFc (fun r2 u1 t H2 locs ht hvm hw hB _ hk1 hS => ?_)
  obtain ⟨hP1, -, hD1⟩ := hB
  rw [ht] at hP1
  obtain ⟨hP2, hD2⟩ := join_last hPs hDs hk1 hFc hP1 hD1
  obtain ⟨e2, hm1⟩ := hw
  have hP := va_P.swap (a := []) (b := u) (c := u1) hP2
  have hD := va_D.swap (a := []) (b := u) (c := u1) hD2
  refine lv_icmp_eq (tgt := 1004) hx hb dL_law_730 (by decide) (fun _ => ?_) (fun c9 => absurd (e1.trans e2.symm) c9)
  exact kk (nw_rests σ (xs (nI (5 * k) + 1).toNatClampNeg) (xs (nI (5 * k) + 2).toNatClampNeg)) (vk_rests hV (xs (nI (5 * k) + 1).toNatClampNeg) (xs (nI (5 * k) + 2).toNatClampNeg)) u1 u hm1 hc1 _ _ hP hD hS ls hl

set_option maxHeartbeats 4000000 in
set_option maxRecDepth 100000 in
theorem law_pointer {p : Program} {l : Launch} {e : Env} {s : State} {m : MethodId} {below : List Frame} {meth : Method} {c : Code} {Dg : va_G} {b L : Nat} {xs : Nat → Int32} (hL : L ≤ 2560) (C0 : lw_At p s m meth c b L xs) (hao : va_AO RX1 s) {x0 m0 : Nat} {bb : Nat → Nat} {z : Nat → ClassId} {a : Nat → Nat} {y : Nat → ClassId} (hK : va_K Dg vwCl (mT y ++ cT z) s) (k : Nat) (hkL : 5 * k + 5 ≤ L) (σ : St) (hV : vOK σ) (u1 u2 : va_W) (hm : MI m0 a y σ u1) (hc : CX x0 bb z σ u2) (H : Heap) (locs : List Loc) (hP : va_P Dg vwCl (u1 ++ u2) H) (hD : va_D (hS0 s) (u1 ++ u2)) (hS : va_S (hS0 s) s.heap H locs) (ls : Array Slot) (hl : lv_has ls 4 [(0, .ref b), (1, .ref x0), (2, .ref m0), (3, .int (nI (5 * k)))]) (kk : ∀ (τ : St), vOK τ → ∀ (u1 u2 : va_W), MI m0 a y τ u1 → CX x0 bb z τ u2 → ∀ (H : Heap) (locs : List Loc), va_P Dg vwCl (u1 ++ u2) H → va_D (hS0 s) (u1 ++ u2) → va_S (hS0 s) s.heap H locs → ∀ ls : Array Slot, lv_has ls 4 [(0, .ref b), (1, .ref x0), (2, .ref m0), (3, .int (nI (5 * k)))] → W p l e room_1 s m #[Value.ref b] below meth c H locs (30 + 2 * (k + 1)) (2000 + 18 * (k + 1)) (lw_Z below #[Value.ref b] s) (F0 m 1004 ls [])) : W p l e room_1 s m #[Value.ref b] below meth c H locs (30 + 2 * k) (2000 + 18 * k) (lw_Z below #[Value.ref b] s) (F0 m 735 ls []) := by
  obtain ⟨hx, hb, hr, hml, hown, hts, hX, hbl, hlocks, hgv⟩ := C0
  have hown : s.vm.findClass RL = some m.cls := hown
  have hts : ∀ w ∈ wsL_law, w.before #[Value.ref b] s = true := fun w h => hts w (wsL_law_in w h)
  have hA : ∀ q : Nat, s.heap.size ≤ q → hS0 s q := fun _ h => h
  have hbA : ¬ hS0 s b := Nat.not_le.mpr hbl
  have h_1 : vp_in (nI (5 * k) + 1) L := sc_in (j := 1) (by omega) hL
  have h_2 : vp_in (nI (5 * k) + 2) L := sc_in (j := 2) (by omega) hL
  have h_3 : vp_in (nI (5 * k) + 3) L := sc_in (j := 3) (by omega) hL
  have h_4 : vp_in (nI (5 * k) + 4) L := sc_in (j := 4) (by omega) hL
  obtain ⟨kd, wh, re, aTo, aPo, aRw, aRr, aWs, aRs, rfl, hM⟩ := hm
  obtain ⟨Lp, f, ad, g, rfl, hC⟩ := hc
  refine lv_aload_n hx hb dL_law_735 rfl (lv_at hl 1 rfl) ?_
  refine lv_aload_n hx hb dL_law_736 rfl (lv_at hl 0 rfl) ?_
  refine lv_iload_n hx hb dL_law_737 rfl (lv_at hl 3 rfl) ?_
  refine lv_iconst (v := 1) hx hb dL_law_738 (by decide) ?_
  refine lv_iadd hx hb dL_law_739 ?_
  refine va_sld hx hb hX hbl hbA hS h_1 dL_law_740 ?_
  refine lv_aload_n hx hb dL_law_741 rfl (lv_at hl 0 rfl) ?_
  refine lv_iload_n hx hb dL_law_742 rfl (lv_at hl 3 rfl) ?_
  refine lv_iconst (v := 2) hx hb dL_law_743 (by decide) ?_
  refine lv_iadd hx hb dL_law_744 ?_
  refine va_sld hx hb hX hbl hbA hS h_2 dL_law_745 ?_
  have hPc := P_last hP
  have hDc := D_last hD
  have hKc := hK.sub (tys' := cT z) [17, 18, 19, 20, 21, 22, 23] rfl
  have hFc := A_last hD hS hA
  refine va_calli (va_runV (As := [.int (xs (nI (5 * k) + 1).toNatClampNeg), .int (xs (nI (5 * k) + 2).toNatClampNeg)]) (rest := []) ⟨hx, hb, hml, hown, hts⟩ (met_X7_pointer l Dg x0 H.size bb z σ Lp f ad g (xs (nI (5 * k) + 1).toNatClampNeg) (xs (nI (5 * k) + 2).toNatClampNeg) hV hC) (cwV 2 hts gL_law_X7_pointer rfl rfl rfl (by decide +kernel) ⟨Nat.le_of_ble_eq_true rfl, Nat.le_of_ble_eq_true rfl⟩) (wPreV hKc hPc (hDc.weaken (fun _ _ _ _ => trivial)) (va_recv hKc hPc (ci := 5) (q0 := 0) rfl rfl)) rfl rfl hl.1 rfl (lv_room (Nat.le_of_ble_eq_true rfl)) dL_law_746 ⟨by show 30 + 2 * k + 1 ≤ 600000; omega, by show 2000 + 18 * k + 2 ≤ 7302250; omega⟩) hS (fun q _ h => hFc q h) hFc (fun r1 u t H1 locs ht hvm hw hB _ hk1 hS => ?_)
  obtain ⟨hP1, -, hD1⟩ := hB
  rw [ht] at hP1
  obtain ⟨hP, hD⟩ := join_last hP hD hk1 hFc hP1 hD1
  obtain ⟨e1, hc1⟩ := hw
  clear hP1 hD1 hPc hDc hFc hk1
  refine W.widen (k := 30 + 2 * (k + 1)) (n := 2000 + 18 * (k + 1)) (by omega) (by omega) ?_
  refine lv_aload_n hx hb dL_law_749 rfl (lv_at hl 2 rfl) ?_
  refine lv_aload_n hx hb dL_law_750 rfl (lv_at hl 0 rfl) ?_
  refine lv_iload_n hx hb dL_law_751 rfl (lv_at hl 3 rfl) ?_
  refine lv_iconst (v := 1) hx hb dL_law_752 (by decide) ?_
  refine lv_iadd hx hb dL_law_753 ?_
  refine va_sld hx hb hX hbl hbA hS h_1 dL_law_754 ?_
  refine lv_aload_n hx hb dL_law_755 rfl (lv_at hl 0 rfl) ?_
  refine lv_iload_n hx hb dL_law_756 rfl (lv_at hl 3 rfl) ?_
  refine lv_iconst (v := 2) hx hb dL_law_757 (by decide) ?_
  refine lv_iadd hx hb dL_law_758 ?_
  refine va_sld hx hb hX hbl hbA hS h_2 dL_law_759 ?_
  have hPs := va_P.swap (a := []) (c := u) hP
  have hDs := va_D.swap (a := []) (c := u) hD
  have hPc := P_last hPs
  have hDc := D_last hDs
  have hKc := hK.sub (tys' := mT y) [0, 1, 2, 3, 4, 5, 6, 7, 8, 9, 10, 11, 12, 13, 14, 15, 16] rfl
  have hFc := A_last hDs hS hA
  refine va_calli (va_runV (As := [.int (xs (nI (5 * k) + 1).toNatClampNeg), .int (xs (nI (5 * k) + 2).toNatClampNeg)]) (rest := [.int r1]) ⟨hx, hb, hml, hown, hts⟩ (met_X8_pointer l Dg m0 H1.size a y σ kd wh re aTo aPo aRw aRr aWs aRs (xs (nI (5 * k) + 1).toNatClampNeg) (xs (nI (5 * k) + 2).toNatClampNeg) hV hM) (cwV 2 hts gL_law_X8_pointer rfl rfl rfl (by decide +kernel) ⟨Nat.le_of_ble_eq_true rfl, Nat.le_of_ble_eq_true rfl⟩) (wPreV hKc hPc (hDc.weaken (fun _ _ _ _ => trivial)) (va_recv hKc hPc (ci := 6) (q0 := 0) rfl rfl)) rfl rfl hl.1 rfl (lv_room (Nat.le_of_ble_eq_true rfl)) dL_law_760 ⟨by show 30 + 2 * (k + 1) + 0 ≤ 600000; omega, by show 2000 + 18 * (k + 1) + 0 ≤ 7302250; omega⟩) hS (fun q _ h => hFc q h) hFc (fun r2 u1 t H2 locs ht hvm hw hB _ hk1 hS => ?_)
  obtain ⟨hP1, -, hD1⟩ := hB
  rw [ht] at hP1
  obtain ⟨hP2, hD2⟩ := join_last hPs hDs hk1 hFc hP1 hD1
  obtain ⟨e2, hm1⟩ := hw
  have hP := va_P.swap (a := []) (b := u) (c := u1) hP2
  have hD := va_D.swap (a := []) (b := u) (c := u1) hD2
  refine lv_icmp_eq (tgt := 1004) hx hb dL_law_763 (by decide) (fun _ => ?_) (fun c9 => absurd (e1.trans e2.symm) c9)
  exact kk (nw_pointer σ (xs (nI (5 * k) + 1).toNatClampNeg) (xs (nI (5 * k) + 2).toNatClampNeg)) (vk_pointer hV (xs (nI (5 * k) + 1).toNatClampNeg) (xs (nI (5 * k) + 2).toNatClampNeg)) u1 u hm1 hc1 _ _ hP hD hS ls hl

set_option maxHeartbeats 4000000 in
set_option maxRecDepth 100000 in
theorem law_stand {p : Program} {l : Launch} {e : Env} {s : State} {m : MethodId} {below : List Frame} {meth : Method} {c : Code} {Dg : va_G} {b L : Nat} {xs : Nat → Int32} (hL : L ≤ 2560) (C0 : lw_At p s m meth c b L xs) (hao : va_AO RX1 s) {x0 m0 : Nat} {bb : Nat → Nat} {z : Nat → ClassId} {a : Nat → Nat} {y : Nat → ClassId} (hK : va_K Dg vwCl (mT y ++ cT z) s) (k : Nat) (hkL : 5 * k + 5 ≤ L) (σ : St) (hV : vOK σ) (u1 u2 : va_W) (hm : MI m0 a y σ u1) (hc : CX x0 bb z σ u2) (H : Heap) (locs : List Loc) (hP : va_P Dg vwCl (u1 ++ u2) H) (hD : va_D (hS0 s) (u1 ++ u2)) (hS : va_S (hS0 s) s.heap H locs) (ls : Array Slot) (hl : lv_has ls 4 [(0, .ref b), (1, .ref x0), (2, .ref m0), (3, .int (nI (5 * k)))]) (kk : ∀ (τ : St), vOK τ → ∀ (u1 u2 : va_W), MI m0 a y τ u1 → CX x0 bb z τ u2 → ∀ (H : Heap) (locs : List Loc), va_P Dg vwCl (u1 ++ u2) H → va_D (hS0 s) (u1 ++ u2) → va_S (hS0 s) s.heap H locs → ∀ ls : Array Slot, lv_has ls 4 [(0, .ref b), (1, .ref x0), (2, .ref m0), (3, .int (nI (5 * k)))] → W p l e room_1 s m #[Value.ref b] below meth c H locs (30 + 2 * (k + 1)) (2000 + 18 * (k + 1)) (lw_Z below #[Value.ref b] s) (F0 m 1004 ls [])) : W p l e room_1 s m #[Value.ref b] below meth c H locs (30 + 2 * k) (2000 + 18 * k) (lw_Z below #[Value.ref b] s) (F0 m 768 ls []) := by
  obtain ⟨hx, hb, hr, hml, hown, hts, hX, hbl, hlocks, hgv⟩ := C0
  have hown : s.vm.findClass RL = some m.cls := hown
  have hts : ∀ w ∈ wsL_law, w.before #[Value.ref b] s = true := fun w h => hts w (wsL_law_in w h)
  have hA : ∀ q : Nat, s.heap.size ≤ q → hS0 s q := fun _ h => h
  have hbA : ¬ hS0 s b := Nat.not_le.mpr hbl
  have h_1 : vp_in (nI (5 * k) + 1) L := sc_in (j := 1) (by omega) hL
  have h_2 : vp_in (nI (5 * k) + 2) L := sc_in (j := 2) (by omega) hL
  have h_3 : vp_in (nI (5 * k) + 3) L := sc_in (j := 3) (by omega) hL
  have h_4 : vp_in (nI (5 * k) + 4) L := sc_in (j := 4) (by omega) hL
  obtain ⟨kd, wh, re, aTo, aPo, aRw, aRr, aWs, aRs, rfl, hM⟩ := hm
  obtain ⟨Lp, f, ad, g, rfl, hC⟩ := hc
  refine lv_aload_n hx hb dL_law_768 rfl (lv_at hl 1 rfl) ?_
  refine lv_aload_n hx hb dL_law_769 rfl (lv_at hl 0 rfl) ?_
  refine lv_iload_n hx hb dL_law_770 rfl (lv_at hl 3 rfl) ?_
  refine lv_iconst (v := 1) hx hb dL_law_771 (by decide) ?_
  refine lv_iadd hx hb dL_law_772 ?_
  refine va_sld hx hb hX hbl hbA hS h_1 dL_law_773 ?_
  refine lv_aload_n hx hb dL_law_774 rfl (lv_at hl 0 rfl) ?_
  refine lv_iload_n hx hb dL_law_775 rfl (lv_at hl 3 rfl) ?_
  refine lv_iconst (v := 2) hx hb dL_law_776 (by decide) ?_
  refine lv_iadd hx hb dL_law_777 ?_
  refine va_sld hx hb hX hbl hbA hS h_2 dL_law_778 ?_
  have hPc := P_last hP
  have hDc := D_last hD
  have hKc := hK.sub (tys' := cT z) [17, 18, 19, 20, 21, 22, 23] rfl
  have hFc := A_last hD hS hA
  refine va_calli (va_runV (As := [.int (xs (nI (5 * k) + 1).toNatClampNeg), .int (xs (nI (5 * k) + 2).toNatClampNeg)]) (rest := []) ⟨hx, hb, hml, hown, hts⟩ (met_X7_stand l Dg x0 H.size bb z σ Lp f ad g (xs (nI (5 * k) + 1).toNatClampNeg) (xs (nI (5 * k) + 2).toNatClampNeg) hV hC) (cwV 2 hts gL_law_X7_stand rfl rfl rfl (by decide +kernel) ⟨Nat.le_of_ble_eq_true rfl, Nat.le_of_ble_eq_true rfl⟩) (wPreVO hao hKc hPc (hDc.weaken (fun _ _ _ _ => trivial)) (va_recv hKc hPc (ci := 5) (q0 := 0) rfl rfl)) rfl rfl hl.1 rfl (lv_room (Nat.le_of_ble_eq_true rfl)) dL_law_779 ⟨by show 30 + 2 * k + 2 ≤ 600000; omega, by show 2000 + 18 * k + 8 ≤ 7302250; omega⟩) hS (fun q _ h => hFc q h) hFc (fun r1 u t H1 locs ht hvm hw hB _ hk1 hS => ?_)
  obtain ⟨hP1, -, hD1⟩ := hB
  rw [ht] at hP1
  obtain ⟨hP, hD⟩ := join_last hP hD hk1 hFc hP1 hD1
  obtain ⟨e1, hc1⟩ := hw
  clear hP1 hD1 hPc hDc hFc hk1
  refine W.widen (k := 30 + 2 * (k + 1)) (n := 2000 + 18 * (k + 1)) (by omega) (by omega) ?_
  refine lv_aload_n hx hb dL_law_782 rfl (lv_at hl 2 rfl) ?_
  refine lv_aload_n hx hb dL_law_783 rfl (lv_at hl 0 rfl) ?_
  refine lv_iload_n hx hb dL_law_784 rfl (lv_at hl 3 rfl) ?_
  refine lv_iconst (v := 1) hx hb dL_law_785 (by decide) ?_
  refine lv_iadd hx hb dL_law_786 ?_
  refine va_sld hx hb hX hbl hbA hS h_1 dL_law_787 ?_
  refine lv_aload_n hx hb dL_law_788 rfl (lv_at hl 0 rfl) ?_
  refine lv_iload_n hx hb dL_law_789 rfl (lv_at hl 3 rfl) ?_
  refine lv_iconst (v := 2) hx hb dL_law_790 (by decide) ?_
  refine lv_iadd hx hb dL_law_791 ?_
  refine va_sld hx hb hX hbl hbA hS h_2 dL_law_792 ?_
  have hPs := va_P.swap (a := []) (c := u) hP
  have hDs := va_D.swap (a := []) (c := u) hD
  have hPc := P_last hPs
  have hDc := D_last hDs
  have hKc := hK.sub (tys' := mT y) [0, 1, 2, 3, 4, 5, 6, 7, 8, 9, 10, 11, 12, 13, 14, 15, 16] rfl
  have hFc := A_last hDs hS hA
  refine va_calli (va_runV (As := [.int (xs (nI (5 * k) + 1).toNatClampNeg), .int (xs (nI (5 * k) + 2).toNatClampNeg)]) (rest := [.int r1]) ⟨hx, hb, hml, hown, hts⟩ (met_X8_stand l Dg m0 H1.size a y σ kd wh re aTo aPo aRw aRr aWs aRs (xs (nI (5 * k) + 1).toNatClampNeg) (xs (nI (5 * k) + 2).toNatClampNeg) hV hM) (cwV 2 hts gL_law_X8_stand rfl rfl rfl (by decide +kernel) ⟨Nat.le_of_ble_eq_true rfl, Nat.le_of_ble_eq_true rfl⟩) (wPreV hKc hPc (hDc.weaken (fun _ _ _ _ => trivial)) (va_recv hKc hPc (ci := 6) (q0 := 0) rfl rfl)) rfl rfl hl.1 rfl (lv_room (Nat.le_of_ble_eq_true rfl)) dL_law_793 ⟨by show 30 + 2 * (k + 1) + 0 ≤ 600000; omega, by show 2000 + 18 * (k + 1) + 0 ≤ 7302250; omega⟩) hS (fun q _ h => hFc q h) hFc (fun r2 u1 t H2 locs ht hvm hw hB _ hk1 hS => ?_)
  obtain ⟨hP1, -, hD1⟩ := hB
  rw [ht] at hP1
  obtain ⟨hP2, hD2⟩ := join_last hPs hDs hk1 hFc hP1 hD1
  obtain ⟨e2, hm1⟩ := hw
  have hP := va_P.swap (a := []) (b := u) (c := u1) hP2
  have hD := va_D.swap (a := []) (b := u) (c := u1) hD2
  refine lv_icmp_eq (tgt := 1004) hx hb dL_law_796 (by decide) (fun _ => ?_) (fun c9 => absurd (e1.trans e2.symm) c9)
  exact kk (nw_stand σ (xs (nI (5 * k) + 1).toNatClampNeg) (xs (nI (5 * k) + 2).toNatClampNeg)) (vk_stand hV (xs (nI (5 * k) + 1).toNatClampNeg) (xs (nI (5 * k) + 2).toNatClampNeg)) u1 u hm1 hc1 _ _ hP hD hS ls hl

set_option maxHeartbeats 4000000 in
set_option maxRecDepth 100000 in
theorem law_set {p : Program} {l : Launch} {e : Env} {s : State} {m : MethodId} {below : List Frame} {meth : Method} {c : Code} {Dg : va_G} {b L : Nat} {xs : Nat → Int32} (hL : L ≤ 2560) (C0 : lw_At p s m meth c b L xs) (hao : va_AO RX1 s) {x0 m0 : Nat} {bb : Nat → Nat} {z : Nat → ClassId} {a : Nat → Nat} {y : Nat → ClassId} (hK : va_K Dg vwCl (mT y ++ cT z) s) (k : Nat) (hkL : 5 * k + 5 ≤ L) (σ : St) (hV : vOK σ) (u1 u2 : va_W) (hm : MI m0 a y σ u1) (hc : CX x0 bb z σ u2) (H : Heap) (locs : List Loc) (hP : va_P Dg vwCl (u1 ++ u2) H) (hD : va_D (hS0 s) (u1 ++ u2)) (hS : va_S (hS0 s) s.heap H locs) (ls : Array Slot) (hl : lv_has ls 4 [(0, .ref b), (1, .ref x0), (2, .ref m0), (3, .int (nI (5 * k)))]) (kk : ∀ (τ : St), vOK τ → ∀ (u1 u2 : va_W), MI m0 a y τ u1 → CX x0 bb z τ u2 → ∀ (H : Heap) (locs : List Loc), va_P Dg vwCl (u1 ++ u2) H → va_D (hS0 s) (u1 ++ u2) → va_S (hS0 s) s.heap H locs → ∀ ls : Array Slot, lv_has ls 4 [(0, .ref b), (1, .ref x0), (2, .ref m0), (3, .int (nI (5 * k)))] → W p l e room_1 s m #[Value.ref b] below meth c H locs (30 + 2 * (k + 1)) (2000 + 18 * (k + 1)) (lw_Z below #[Value.ref b] s) (F0 m 1004 ls [])) : W p l e room_1 s m #[Value.ref b] below meth c H locs (30 + 2 * k) (2000 + 18 * k) (lw_Z below #[Value.ref b] s) (F0 m 801 ls []) := by
  obtain ⟨hx, hb, hr, hml, hown, hts, hX, hbl, hlocks, hgv⟩ := C0
  have hown : s.vm.findClass RL = some m.cls := hown
  have hts : ∀ w ∈ wsL_law, w.before #[Value.ref b] s = true := fun w h => hts w (wsL_law_in w h)
  have hA : ∀ q : Nat, s.heap.size ≤ q → hS0 s q := fun _ h => h
  have hbA : ¬ hS0 s b := Nat.not_le.mpr hbl
  have h_1 : vp_in (nI (5 * k) + 1) L := sc_in (j := 1) (by omega) hL
  have h_2 : vp_in (nI (5 * k) + 2) L := sc_in (j := 2) (by omega) hL
  have h_3 : vp_in (nI (5 * k) + 3) L := sc_in (j := 3) (by omega) hL
  have h_4 : vp_in (nI (5 * k) + 4) L := sc_in (j := 4) (by omega) hL
  obtain ⟨kd, wh, re, aTo, aPo, aRw, aRr, aWs, aRs, rfl, hM⟩ := hm
  obtain ⟨Lp, f, ad, g, rfl, hC⟩ := hc
  refine lv_aload_n hx hb dL_law_801 rfl (lv_at hl 1 rfl) ?_
  refine lv_aload_n hx hb dL_law_802 rfl (lv_at hl 0 rfl) ?_
  refine lv_iload_n hx hb dL_law_803 rfl (lv_at hl 3 rfl) ?_
  refine lv_iconst (v := 1) hx hb dL_law_804 (by decide) ?_
  refine lv_iadd hx hb dL_law_805 ?_
  refine va_sld hx hb hX hbl hbA hS h_1 dL_law_806 ?_
  refine lv_aload_n hx hb dL_law_807 rfl (lv_at hl 0 rfl) ?_
  refine lv_iload_n hx hb dL_law_808 rfl (lv_at hl 3 rfl) ?_
  refine lv_iconst (v := 2) hx hb dL_law_809 (by decide) ?_
  refine lv_iadd hx hb dL_law_810 ?_
  refine va_sld hx hb hX hbl hbA hS h_2 dL_law_811 ?_
  refine lv_aload_n hx hb dL_law_812 rfl (lv_at hl 0 rfl) ?_
  refine lv_iload_n hx hb dL_law_813 rfl (lv_at hl 3 rfl) ?_
  refine lv_iconst (v := 3) hx hb dL_law_814 (by decide) ?_
  refine lv_iadd hx hb dL_law_815 ?_
  refine va_sld hx hb hX hbl hbA hS h_3 dL_law_816 ?_
  have hPc := P_last hP
  have hDc := D_last hD
  have hKc := hK.sub (tys' := cT z) [17, 18, 19, 20, 21, 22, 23] rfl
  have hFc := A_last hD hS hA
  refine va_calli (va_runV (As := [.int (xs (nI (5 * k) + 1).toNatClampNeg), .int (xs (nI (5 * k) + 2).toNatClampNeg), .int (xs (nI (5 * k) + 3).toNatClampNeg)]) (rest := []) ⟨hx, hb, hml, hown, hts⟩ (met_X7_set l Dg x0 H.size bb z σ Lp f ad g (xs (nI (5 * k) + 1).toNatClampNeg) (xs (nI (5 * k) + 2).toNatClampNeg) (xs (nI (5 * k) + 3).toNatClampNeg) hV hC) (cwV 3 hts gL_law_X7_set rfl rfl rfl (by decide +kernel) ⟨Nat.le_of_ble_eq_true rfl, Nat.le_of_ble_eq_true rfl⟩) (wPreV hKc hPc (hDc.weaken (fun _ _ _ _ => trivial)) (va_recv hKc hPc (ci := 5) (q0 := 0) rfl rfl)) rfl rfl hl.1 rfl (lv_room (Nat.le_of_ble_eq_true rfl)) dL_law_817 ⟨by show 30 + 2 * k + 0 ≤ 600000; omega, by show 2000 + 18 * k + 0 ≤ 7302250; omega⟩) hS (fun q _ h => hFc q h) hFc (fun r1 u t H1 locs ht hvm hw hB _ hk1 hS => ?_)
  obtain ⟨hP1, -, hD1⟩ := hB
  rw [ht] at hP1
  obtain ⟨hP, hD⟩ := join_last hP hD hk1 hFc hP1 hD1
  obtain ⟨e1, hc1⟩ := hw
  clear hP1 hD1 hPc hDc hFc hk1
  refine W.widen (k := 30 + 2 * (k + 1)) (n := 2000 + 18 * (k + 1)) (by omega) (by omega) ?_
  refine lv_aload_n hx hb dL_law_820 rfl (lv_at hl 2 rfl) ?_
  refine lv_aload_n hx hb dL_law_821 rfl (lv_at hl 0 rfl) ?_
  refine lv_iload_n hx hb dL_law_822 rfl (lv_at hl 3 rfl) ?_
  refine lv_iconst (v := 1) hx hb dL_law_823 (by decide) ?_
  refine lv_iadd hx hb dL_law_824 ?_
  refine va_sld hx hb hX hbl hbA hS h_1 dL_law_825 ?_
  refine lv_aload_n hx hb dL_law_826 rfl (lv_at hl 0 rfl) ?_
  refine lv_iload_n hx hb dL_law_827 rfl (lv_at hl 3 rfl) ?_
  refine lv_iconst (v := 2) hx hb dL_law_828 (by decide) ?_
  refine lv_iadd hx hb dL_law_829 ?_
  refine va_sld hx hb hX hbl hbA hS h_2 dL_law_830 ?_
  refine lv_aload_n hx hb dL_law_831 rfl (lv_at hl 0 rfl) ?_
  refine lv_iload_n hx hb dL_law_832 rfl (lv_at hl 3 rfl) ?_
  refine lv_iconst (v := 3) hx hb dL_law_833 (by decide) ?_
  refine lv_iadd hx hb dL_law_834 ?_
  refine va_sld hx hb hX hbl hbA hS h_3 dL_law_835 ?_
  have hPs := va_P.swap (a := []) (c := u) hP
  have hDs := va_D.swap (a := []) (c := u) hD
  have hPc := P_last hPs
  have hDc := D_last hDs
  have hKc := hK.sub (tys' := mT y) [0, 1, 2, 3, 4, 5, 6, 7, 8, 9, 10, 11, 12, 13, 14, 15, 16] rfl
  have hFc := A_last hDs hS hA
  refine va_calli (va_runV (As := [.int (xs (nI (5 * k) + 1).toNatClampNeg), .int (xs (nI (5 * k) + 2).toNatClampNeg), .int (xs (nI (5 * k) + 3).toNatClampNeg)]) (rest := [.int r1]) ⟨hx, hb, hml, hown, hts⟩ (met_X8_set l Dg m0 H1.size a y σ kd wh re aTo aPo aRw aRr aWs aRs (xs (nI (5 * k) + 1).toNatClampNeg) (xs (nI (5 * k) + 2).toNatClampNeg) (xs (nI (5 * k) + 3).toNatClampNeg) hV hM) (cwV 3 hts gL_law_X8_set rfl rfl rfl (by decide +kernel) ⟨Nat.le_of_ble_eq_true rfl, Nat.le_of_ble_eq_true rfl⟩) (wPreV hKc hPc (hDc.weaken (fun _ _ _ _ => trivial)) (va_recv hKc hPc (ci := 6) (q0 := 0) rfl rfl)) rfl rfl hl.1 rfl (lv_room (Nat.le_of_ble_eq_true rfl)) dL_law_836 ⟨by show 30 + 2 * (k + 1) + 0 ≤ 600000; omega, by show 2000 + 18 * (k + 1) + 0 ≤ 7302250; omega⟩) hS (fun q _ h => hFc q h) hFc (fun r2 u1 t H2 locs ht hvm hw hB _ hk1 hS => ?_)
  obtain ⟨hP1, -, hD1⟩ := hB
  rw [ht] at hP1
  obtain ⟨hP2, hD2⟩ := join_last hPs hDs hk1 hFc hP1 hD1
  obtain ⟨e2, hm1⟩ := hw
  have hP := va_P.swap (a := []) (b := u) (c := u1) hP2
  have hD := va_D.swap (a := []) (b := u) (c := u1) hD2
  refine lv_icmp_eq (tgt := 1004) hx hb dL_law_839 (by decide) (fun _ => ?_) (fun c9 => absurd (e1.trans e2.symm) c9)
  exact kk (nw_set σ (xs (nI (5 * k) + 1).toNatClampNeg) (xs (nI (5 * k) + 2).toNatClampNeg) (xs (nI (5 * k) + 3).toNatClampNeg)) (vk_set hV (xs (nI (5 * k) + 1).toNatClampNeg) (xs (nI (5 * k) + 2).toNatClampNeg) (xs (nI (5 * k) + 3).toNatClampNeg)) u1 u hm1 hc1 _ _ hP hD hS ls hl

set_option maxHeartbeats 4000000 in
set_option maxRecDepth 100000 in
theorem law_hang {p : Program} {l : Launch} {e : Env} {s : State} {m : MethodId} {below : List Frame} {meth : Method} {c : Code} {Dg : va_G} {b L : Nat} {xs : Nat → Int32} (hL : L ≤ 2560) (C0 : lw_At p s m meth c b L xs) (hao : va_AO RX1 s) {x0 m0 : Nat} {bb : Nat → Nat} {z : Nat → ClassId} {a : Nat → Nat} {y : Nat → ClassId} (hK : va_K Dg vwCl (mT y ++ cT z) s) (k : Nat) (hkL : 5 * k + 5 ≤ L) (σ : St) (hV : vOK σ) (u1 u2 : va_W) (hm : MI m0 a y σ u1) (hc : CX x0 bb z σ u2) (H : Heap) (locs : List Loc) (hP : va_P Dg vwCl (u1 ++ u2) H) (hD : va_D (hS0 s) (u1 ++ u2)) (hS : va_S (hS0 s) s.heap H locs) (ls : Array Slot) (hl : lv_has ls 4 [(0, .ref b), (1, .ref x0), (2, .ref m0), (3, .int (nI (5 * k)))]) (kk : ∀ (τ : St), vOK τ → ∀ (u1 u2 : va_W), MI m0 a y τ u1 → CX x0 bb z τ u2 → ∀ (H : Heap) (locs : List Loc), va_P Dg vwCl (u1 ++ u2) H → va_D (hS0 s) (u1 ++ u2) → va_S (hS0 s) s.heap H locs → ∀ ls : Array Slot, lv_has ls 4 [(0, .ref b), (1, .ref x0), (2, .ref m0), (3, .int (nI (5 * k)))] → W p l e room_1 s m #[Value.ref b] below meth c H locs (30 + 2 * (k + 1)) (2000 + 18 * (k + 1)) (lw_Z below #[Value.ref b] s) (F0 m 1004 ls [])) : W p l e room_1 s m #[Value.ref b] below meth c H locs (30 + 2 * k) (2000 + 18 * k) (lw_Z below #[Value.ref b] s) (F0 m 844 ls []) := by
  obtain ⟨hx, hb, hr, hml, hown, hts, hX, hbl, hlocks, hgv⟩ := C0
  have hown : s.vm.findClass RL = some m.cls := hown
  have hts : ∀ w ∈ wsL_law, w.before #[Value.ref b] s = true := fun w h => hts w (wsL_law_in w h)
  have hA : ∀ q : Nat, s.heap.size ≤ q → hS0 s q := fun _ h => h
  have hbA : ¬ hS0 s b := Nat.not_le.mpr hbl
  have h_1 : vp_in (nI (5 * k) + 1) L := sc_in (j := 1) (by omega) hL
  have h_2 : vp_in (nI (5 * k) + 2) L := sc_in (j := 2) (by omega) hL
  have h_3 : vp_in (nI (5 * k) + 3) L := sc_in (j := 3) (by omega) hL
  have h_4 : vp_in (nI (5 * k) + 4) L := sc_in (j := 4) (by omega) hL
  obtain ⟨kd, wh, re, aTo, aPo, aRw, aRr, aWs, aRs, rfl, hM⟩ := hm
  obtain ⟨Lp, f, ad, g, rfl, hC⟩ := hc
  refine lv_aload_n hx hb dL_law_844 rfl (lv_at hl 1 rfl) ?_
  refine lv_aload_n hx hb dL_law_845 rfl (lv_at hl 0 rfl) ?_
  refine lv_iload_n hx hb dL_law_846 rfl (lv_at hl 3 rfl) ?_
  refine lv_iconst (v := 1) hx hb dL_law_847 (by decide) ?_
  refine lv_iadd hx hb dL_law_848 ?_
  refine va_sld hx hb hX hbl hbA hS h_1 dL_law_849 ?_
  refine lv_aload_n hx hb dL_law_850 rfl (lv_at hl 0 rfl) ?_
  refine lv_iload_n hx hb dL_law_851 rfl (lv_at hl 3 rfl) ?_
  refine lv_iconst (v := 2) hx hb dL_law_852 (by decide) ?_
  refine lv_iadd hx hb dL_law_853 ?_
  refine va_sld hx hb hX hbl hbA hS h_2 dL_law_854 ?_
  refine lv_aload_n hx hb dL_law_855 rfl (lv_at hl 0 rfl) ?_
  refine lv_iload_n hx hb dL_law_856 rfl (lv_at hl 3 rfl) ?_
  refine lv_iconst (v := 3) hx hb dL_law_857 (by decide) ?_
  refine lv_iadd hx hb dL_law_858 ?_
  refine va_sld hx hb hX hbl hbA hS h_3 dL_law_859 ?_
  have hPc := P_last hP
  have hDc := D_last hD
  have hKc := hK.sub (tys' := cT z) [17, 18, 19, 20, 21, 22, 23] rfl
  have hFc := A_last hD hS hA
  refine va_calli (va_runV (As := [.int (xs (nI (5 * k) + 1).toNatClampNeg), .int (xs (nI (5 * k) + 2).toNatClampNeg), .int (xs (nI (5 * k) + 3).toNatClampNeg)]) (rest := []) ⟨hx, hb, hml, hown, hts⟩ (met_X7_hang l Dg x0 H.size bb z σ Lp f ad g (xs (nI (5 * k) + 1).toNatClampNeg) (xs (nI (5 * k) + 2).toNatClampNeg) (xs (nI (5 * k) + 3).toNatClampNeg) hV hC) (cwV 3 hts gL_law_X7_hang rfl rfl rfl (by decide +kernel) ⟨Nat.le_of_ble_eq_true rfl, Nat.le_of_ble_eq_true rfl⟩) (wPreV hKc hPc (hDc.weaken (fun _ _ _ _ => trivial)) (va_recv hKc hPc (ci := 5) (q0 := 0) rfl rfl)) rfl rfl hl.1 rfl (lv_room (Nat.le_of_ble_eq_true rfl)) dL_law_860 ⟨by show 30 + 2 * k + 0 ≤ 600000; omega, by show 2000 + 18 * k + 0 ≤ 7302250; omega⟩) hS (fun q _ h => hFc q h) hFc (fun r1 u t H1 locs ht hvm hw hB _ hk1 hS => ?_)
  obtain ⟨hP1, -, hD1⟩ := hB
  rw [ht] at hP1
  obtain ⟨hP, hD⟩ := join_last hP hD hk1 hFc hP1 hD1
  obtain ⟨e1, hc1⟩ := hw
  clear hP1 hD1 hPc hDc hFc hk1
  refine W.widen (k := 30 + 2 * (k + 1)) (n := 2000 + 18 * (k + 1)) (by omega) (by omega) ?_
  refine lv_aload_n hx hb dL_law_863 rfl (lv_at hl 2 rfl) ?_
  refine lv_aload_n hx hb dL_law_864 rfl (lv_at hl 0 rfl) ?_
  refine lv_iload_n hx hb dL_law_865 rfl (lv_at hl 3 rfl) ?_
  refine lv_iconst (v := 1) hx hb dL_law_866 (by decide) ?_
  refine lv_iadd hx hb dL_law_867 ?_
  refine va_sld hx hb hX hbl hbA hS h_1 dL_law_868 ?_
  refine lv_aload_n hx hb dL_law_869 rfl (lv_at hl 0 rfl) ?_
  refine lv_iload_n hx hb dL_law_870 rfl (lv_at hl 3 rfl) ?_
  refine lv_iconst (v := 2) hx hb dL_law_871 (by decide) ?_
  refine lv_iadd hx hb dL_law_872 ?_
  refine va_sld hx hb hX hbl hbA hS h_2 dL_law_873 ?_
  refine lv_aload_n hx hb dL_law_874 rfl (lv_at hl 0 rfl) ?_
  refine lv_iload_n hx hb dL_law_875 rfl (lv_at hl 3 rfl) ?_
  refine lv_iconst (v := 3) hx hb dL_law_876 (by decide) ?_
  refine lv_iadd hx hb dL_law_877 ?_
  refine va_sld hx hb hX hbl hbA hS h_3 dL_law_878 ?_
  have hPs := va_P.swap (a := []) (c := u) hP
  have hDs := va_D.swap (a := []) (c := u) hD
  have hPc := P_last hPs
  have hDc := D_last hDs
  have hKc := hK.sub (tys' := mT y) [0, 1, 2, 3, 4, 5, 6, 7, 8, 9, 10, 11, 12, 13, 14, 15, 16] rfl
  have hFc := A_last hDs hS hA
  refine va_calli (va_runV (As := [.int (xs (nI (5 * k) + 1).toNatClampNeg), .int (xs (nI (5 * k) + 2).toNatClampNeg), .int (xs (nI (5 * k) + 3).toNatClampNeg)]) (rest := [.int r1]) ⟨hx, hb, hml, hown, hts⟩ (met_X8_hang l Dg m0 H1.size a y σ kd wh re aTo aPo aRw aRr aWs aRs (xs (nI (5 * k) + 1).toNatClampNeg) (xs (nI (5 * k) + 2).toNatClampNeg) (xs (nI (5 * k) + 3).toNatClampNeg) hV hM) (cwV 3 hts gL_law_X8_hang rfl rfl rfl (by decide +kernel) ⟨Nat.le_of_ble_eq_true rfl, Nat.le_of_ble_eq_true rfl⟩) (wPreV hKc hPc (hDc.weaken (fun _ _ _ _ => trivial)) (va_recv hKc hPc (ci := 6) (q0 := 0) rfl rfl)) rfl rfl hl.1 rfl (lv_room (Nat.le_of_ble_eq_true rfl)) dL_law_879 ⟨by show 30 + 2 * (k + 1) + 0 ≤ 600000; omega, by show 2000 + 18 * (k + 1) + 0 ≤ 7302250; omega⟩) hS (fun q _ h => hFc q h) hFc (fun r2 u1 t H2 locs ht hvm hw hB _ hk1 hS => ?_)
  obtain ⟨hP1, -, hD1⟩ := hB
  rw [ht] at hP1
  obtain ⟨hP2, hD2⟩ := join_last hPs hDs hk1 hFc hP1 hD1
  obtain ⟨e2, hm1⟩ := hw
  have hP := va_P.swap (a := []) (b := u) (c := u1) hP2
  have hD := va_D.swap (a := []) (b := u) (c := u1) hD2
  refine lv_icmp_eq (tgt := 1004) hx hb dL_law_882 (by decide) (fun _ => ?_) (fun c9 => absurd (e1.trans e2.symm) c9)
  exact kk (nw_hang σ (xs (nI (5 * k) + 1).toNatClampNeg) (xs (nI (5 * k) + 2).toNatClampNeg) (xs (nI (5 * k) + 3).toNatClampNeg)) (vk_hang hV (xs (nI (5 * k) + 1).toNatClampNeg) (xs (nI (5 * k) + 2).toNatClampNeg) (xs (nI (5 * k) + 3).toNatClampNeg)) u1 u hm1 hc1 _ _ hP hD hS ls hl

set_option maxHeartbeats 4000000 in
set_option maxRecDepth 100000 in
theorem law_show {p : Program} {l : Launch} {e : Env} {s : State} {m : MethodId} {below : List Frame} {meth : Method} {c : Code} {Dg : va_G} {b L : Nat} {xs : Nat → Int32} (hL : L ≤ 2560) (C0 : lw_At p s m meth c b L xs) (hao : va_AO RX1 s) {x0 m0 : Nat} {bb : Nat → Nat} {z : Nat → ClassId} {a : Nat → Nat} {y : Nat → ClassId} (hK : va_K Dg vwCl (mT y ++ cT z) s) (k : Nat) (hkL : 5 * k + 5 ≤ L) (σ : St) (hV : vOK σ) (u1 u2 : va_W) (hm : MI m0 a y σ u1) (hc : CX x0 bb z σ u2) (H : Heap) (locs : List Loc) (hP : va_P Dg vwCl (u1 ++ u2) H) (hD : va_D (hS0 s) (u1 ++ u2)) (hS : va_S (hS0 s) s.heap H locs) (ls : Array Slot) (hl : lv_has ls 4 [(0, .ref b), (1, .ref x0), (2, .ref m0), (3, .int (nI (5 * k)))]) (kk : ∀ (τ : St), vOK τ → ∀ (u1 u2 : va_W), MI m0 a y τ u1 → CX x0 bb z τ u2 → ∀ (H : Heap) (locs : List Loc), va_P Dg vwCl (u1 ++ u2) H → va_D (hS0 s) (u1 ++ u2) → va_S (hS0 s) s.heap H locs → ∀ ls : Array Slot, lv_has ls 4 [(0, .ref b), (1, .ref x0), (2, .ref m0), (3, .int (nI (5 * k)))] → W p l e room_1 s m #[Value.ref b] below meth c H locs (30 + 2 * (k + 1)) (2000 + 18 * (k + 1)) (lw_Z below #[Value.ref b] s) (F0 m 1004 ls [])) : W p l e room_1 s m #[Value.ref b] below meth c H locs (30 + 2 * k) (2000 + 18 * k) (lw_Z below #[Value.ref b] s) (F0 m 887 ls []) := by
  obtain ⟨hx, hb, hr, hml, hown, hts, hX, hbl, hlocks, hgv⟩ := C0
  have hown : s.vm.findClass RL = some m.cls := hown
  have hts : ∀ w ∈ wsL_law, w.before #[Value.ref b] s = true := fun w h => hts w (wsL_law_in w h)
  have hA : ∀ q : Nat, s.heap.size ≤ q → hS0 s q := fun _ h => h
  have hbA : ¬ hS0 s b := Nat.not_le.mpr hbl
  have h_1 : vp_in (nI (5 * k) + 1) L := sc_in (j := 1) (by omega) hL
  have h_2 : vp_in (nI (5 * k) + 2) L := sc_in (j := 2) (by omega) hL
  have h_3 : vp_in (nI (5 * k) + 3) L := sc_in (j := 3) (by omega) hL
  have h_4 : vp_in (nI (5 * k) + 4) L := sc_in (j := 4) (by omega) hL
  obtain ⟨kd, wh, re, aTo, aPo, aRw, aRr, aWs, aRs, rfl, hM⟩ := hm
  obtain ⟨Lp, f, ad, g, rfl, hC⟩ := hc
  refine lv_aload_n hx hb dL_law_887 rfl (lv_at hl 1 rfl) ?_
  refine lv_aload_n hx hb dL_law_888 rfl (lv_at hl 0 rfl) ?_
  refine lv_iload_n hx hb dL_law_889 rfl (lv_at hl 3 rfl) ?_
  refine lv_iconst (v := 1) hx hb dL_law_890 (by decide) ?_
  refine lv_iadd hx hb dL_law_891 ?_
  refine va_sld hx hb hX hbl hbA hS h_1 dL_law_892 ?_
  refine lv_aload_n hx hb dL_law_893 rfl (lv_at hl 0 rfl) ?_
  refine lv_iload_n hx hb dL_law_894 rfl (lv_at hl 3 rfl) ?_
  refine lv_iconst (v := 2) hx hb dL_law_895 (by decide) ?_
  refine lv_iadd hx hb dL_law_896 ?_
  refine va_sld hx hb hX hbl hbA hS h_2 dL_law_897 ?_
  have hPc := P_last hP
  have hDc := D_last hD
  have hKc := hK.sub (tys' := cT z) [17, 18, 19, 20, 21, 22, 23] rfl
  have hFc := A_last hD hS hA
  refine va_calll (va_runV (As := [.int (xs (nI (5 * k) + 1).toNatClampNeg), .int (xs (nI (5 * k) + 2).toNatClampNeg)]) (rest := []) ⟨hx, hb, hml, hown, hts⟩ (met_X7_show l Dg x0 H.size bb z σ Lp f ad g (xs (nI (5 * k) + 1).toNatClampNeg) (xs (nI (5 * k) + 2).toNatClampNeg) hV hC) (cwV 2 hts gL_law_X7_show rfl rfl rfl (by decide +kernel) ⟨Nat.le_of_ble_eq_true rfl, Nat.le_of_ble_eq_true rfl⟩) (wPreV hKc hPc (hDc.weaken (fun _ _ _ _ => trivial)) (va_recv hKc hPc (ci := 5) (q0 := 0) rfl rfl)) rfl rfl hl.1 rfl (lv_room (Nat.le_of_ble_eq_true rfl)) dL_law_898 ⟨by show 30 + 2 * k + 0 ≤ 600000; omega, by show 2000 + 18 * k + 0 ≤ 7302250; omega⟩) hS (fun q _ h => hFc q h) hFc (fun r1 u t H1 locs ht hvm hw hB _ hk1 hS => ?_)
  obtain ⟨hP1, -, hD1⟩ := hB
  rw [ht] at hP1
  obtain ⟨hP, hD⟩ := join_last hP hD hk1 hFc hP1 hD1
  obtain ⟨e1, hc1⟩ := hw
  clear hP1 hD1 hPc hDc hFc hk1
  refine W.widen (k := 30 + 2 * (k + 1)) (n := 2000 + 18 * (k + 1)) (by omega) (by omega) ?_
  refine lv_aload_n hx hb dL_law_901 rfl (lv_at hl 2 rfl) ?_
  refine lv_aload_n hx hb dL_law_902 rfl (lv_at hl 0 rfl) ?_
  refine lv_iload_n hx hb dL_law_903 rfl (lv_at hl 3 rfl) ?_
  refine lv_iconst (v := 1) hx hb dL_law_904 (by decide) ?_
  refine lv_iadd hx hb dL_law_905 ?_
  refine va_sld hx hb hX hbl hbA hS h_1 dL_law_906 ?_
  refine lv_aload_n hx hb dL_law_907 rfl (lv_at hl 0 rfl) ?_
  refine lv_iload_n hx hb dL_law_908 rfl (lv_at hl 3 rfl) ?_
  refine lv_iconst (v := 2) hx hb dL_law_909 (by decide) ?_
  refine lv_iadd hx hb dL_law_910 ?_
  refine va_sld hx hb hX hbl hbA hS h_2 dL_law_911 ?_
  have hPs := va_P.swap (a := []) (c := u) hP
  have hDs := va_D.swap (a := []) (c := u) hD
  have hPc := P_last hPs
  have hDc := D_last hDs
  have hKc := hK.sub (tys' := mT y) [0, 1, 2, 3, 4, 5, 6, 7, 8, 9, 10, 11, 12, 13, 14, 15, 16] rfl
  have hFc := A_last hDs hS hA
  refine va_calll (va_runV (As := [.int (xs (nI (5 * k) + 1).toNatClampNeg), .int (xs (nI (5 * k) + 2).toNatClampNeg)]) (rest := [.long r1]) ⟨hx, hb, hml, hown, hts⟩ (met_X8_show l Dg m0 H1.size a y σ kd wh re aTo aPo aRw aRr aWs aRs (xs (nI (5 * k) + 1).toNatClampNeg) (xs (nI (5 * k) + 2).toNatClampNeg) hV hM) (cwV 2 hts gL_law_X8_show rfl rfl rfl (by decide +kernel) ⟨Nat.le_of_ble_eq_true rfl, Nat.le_of_ble_eq_true rfl⟩) (wPreV hKc hPc (hDc.weaken (fun _ _ _ _ => trivial)) (va_recv hKc hPc (ci := 6) (q0 := 0) rfl rfl)) rfl rfl hl.1 rfl (lv_room (Nat.le_of_ble_eq_true rfl)) dL_law_912 ⟨by show 30 + 2 * (k + 1) + 0 ≤ 600000; omega, by show 2000 + 18 * (k + 1) + 0 ≤ 7302250; omega⟩) hS (fun q _ h => hFc q h) hFc (fun r2 u1 t H2 locs ht hvm hw hB _ hk1 hS => ?_)
  obtain ⟨hP1, -, hD1⟩ := hB
  rw [ht] at hP1
  obtain ⟨hP2, hD2⟩ := join_last hPs hDs hk1 hFc hP1 hD1
  obtain ⟨e2, hm1⟩ := hw
  have hP := va_P.swap (a := []) (b := u) (c := u1) hP2
  have hD := va_D.swap (a := []) (b := u) (c := u1) hD2
  refine W.lcmp hx hb dL_law_915 ?_
  refine lv_if_eq (tgt := 1004) hx hb dL_law_916 (by decide) (fun _ => ?_) (fun c9 => absurd (lgc_eqq.mpr (e1.trans e2.symm)) c9)
  exact kk (nw_show σ (xs (nI (5 * k) + 1).toNatClampNeg) (xs (nI (5 * k) + 2).toNatClampNeg)) (vk_show hV (xs (nI (5 * k) + 1).toNatClampNeg) (xs (nI (5 * k) + 2).toNatClampNeg)) u1 u hm1 hc1 _ _ hP hD hS ls hl

set_option maxHeartbeats 4000000 in
set_option maxRecDepth 100000 in
theorem law_all {p : Program} {l : Launch} {e : Env} {s : State} {m : MethodId} {below : List Frame} {meth : Method} {c : Code} {Dg : va_G} {b L : Nat} {xs : Nat → Int32} (hL : L ≤ 2560) (C0 : lw_At p s m meth c b L xs) (hao : va_AO RX1 s) {x0 m0 : Nat} {bb : Nat → Nat} {z : Nat → ClassId} {a : Nat → Nat} {y : Nat → ClassId} (hK : va_K Dg vwCl (mT y ++ cT z) s) (k : Nat) (hkL : 5 * k + 5 ≤ L) (σ : St) (hV : vOK σ) (u1 u2 : va_W) (hm : MI m0 a y σ u1) (hc : CX x0 bb z σ u2) (H : Heap) (locs : List Loc) (hP : va_P Dg vwCl (u1 ++ u2) H) (hD : va_D (hS0 s) (u1 ++ u2)) (hS : va_S (hS0 s) s.heap H locs) (ls : Array Slot) (hl : lv_has ls 4 [(0, .ref b), (1, .ref x0), (2, .ref m0), (3, .int (nI (5 * k)))]) (kk : ∀ (τ : St), vOK τ → ∀ (u1 u2 : va_W), MI m0 a y τ u1 → CX x0 bb z τ u2 → ∀ (H : Heap) (locs : List Loc), va_P Dg vwCl (u1 ++ u2) H → va_D (hS0 s) (u1 ++ u2) → va_S (hS0 s) s.heap H locs → ∀ ls : Array Slot, lv_has ls 4 [(0, .ref b), (1, .ref x0), (2, .ref m0), (3, .int (nI (5 * k)))] → W p l e room_1 s m #[Value.ref b] below meth c H locs (30 + 2 * (k + 1)) (2000 + 18 * (k + 1)) (lw_Z below #[Value.ref b] s) (F0 m 1004 ls [])) : W p l e room_1 s m #[Value.ref b] below meth c H locs (30 + 2 * k) (2000 + 18 * k) (lw_Z below #[Value.ref b] s) (F0 m 921 ls []) := by
  obtain ⟨hx, hb, hr, hml, hown, hts, hX, hbl, hlocks, hgv⟩ := C0
  have hown : s.vm.findClass RL = some m.cls := hown
  have hts : ∀ w ∈ wsL_law, w.before #[Value.ref b] s = true := fun w h => hts w (wsL_law_in w h)
  have hA : ∀ q : Nat, s.heap.size ≤ q → hS0 s q := fun _ h => h
  have hbA : ¬ hS0 s b := Nat.not_le.mpr hbl
  have h_1 : vp_in (nI (5 * k) + 1) L := sc_in (j := 1) (by omega) hL
  have h_2 : vp_in (nI (5 * k) + 2) L := sc_in (j := 2) (by omega) hL
  have h_3 : vp_in (nI (5 * k) + 3) L := sc_in (j := 3) (by omega) hL
  have h_4 : vp_in (nI (5 * k) + 4) L := sc_in (j := 4) (by omega) hL
  obtain ⟨kd, wh, re, aTo, aPo, aRw, aRr, aWs, aRs, rfl, hM⟩ := hm
  obtain ⟨Lp, f, ad, g, rfl, hC⟩ := hc
  refine lv_aload_n hx hb dL_law_921 rfl (lv_at hl 1 rfl) ?_
  refine lv_aload_n hx hb dL_law_922 rfl (lv_at hl 0 rfl) ?_
  refine lv_iload_n hx hb dL_law_923 rfl (lv_at hl 3 rfl) ?_
  refine lv_iconst (v := 1) hx hb dL_law_924 (by decide) ?_
  refine lv_iadd hx hb dL_law_925 ?_
  refine va_sld hx hb hX hbl hbA hS h_1 dL_law_926 ?_
  have hPc := P_last hP
  have hDc := D_last hD
  have hKc := hK.sub (tys' := cT z) [17, 18, 19, 20, 21, 22, 23] rfl
  have hFc := A_last hD hS hA
  refine va_calll (va_runV (As := [.int (xs (nI (5 * k) + 1).toNatClampNeg)]) (rest := []) ⟨hx, hb, hml, hown, hts⟩ (met_X7_all l Dg x0 H.size bb z σ Lp f ad g (xs (nI (5 * k) + 1).toNatClampNeg) hV hC) (cwV 1 hts gL_law_X7_all rfl rfl rfl (by decide +kernel) ⟨Nat.le_of_ble_eq_true rfl, Nat.le_of_ble_eq_true rfl⟩) (wPreV hKc hPc (hDc.weaken (fun _ _ _ _ => trivial)) (va_recv hKc hPc (ci := 5) (q0 := 0) rfl rfl)) rfl rfl hl.1 rfl (lv_room (Nat.le_of_ble_eq_true rfl)) dL_law_927 ⟨by show 30 + 2 * k + 0 ≤ 600000; omega, by show 2000 + 18 * k + 0 ≤ 7302250; omega⟩) hS (fun q _ h => hFc q h) hFc (fun r1 u t H1 locs ht hvm hw hB _ hk1 hS => ?_)
  obtain ⟨hP1, -, hD1⟩ := hB
  rw [ht] at hP1
  obtain ⟨hP, hD⟩ := join_last hP hD hk1 hFc hP1 hD1
  obtain ⟨e1, hc1⟩ := hw
  clear hP1 hD1 hPc hDc hFc hk1
  refine W.widen (k := 30 + 2 * (k + 1)) (n := 2000 + 18 * (k + 1)) (by omega) (by omega) ?_
  refine lv_aload_n hx hb dL_law_930 rfl (lv_at hl 2 rfl) ?_
  refine lv_aload_n hx hb dL_law_931 rfl (lv_at hl 0 rfl) ?_
  refine lv_iload_n hx hb dL_law_932 rfl (lv_at hl 3 rfl) ?_
  refine lv_iconst (v := 1) hx hb dL_law_933 (by decide) ?_
  refine lv_iadd hx hb dL_law_934 ?_
  refine va_sld hx hb hX hbl hbA hS h_1 dL_law_935 ?_
  have hPs := va_P.swap (a := []) (c := u) hP
  have hDs := va_D.swap (a := []) (c := u) hD
  have hPc := P_last hPs
  have hDc := D_last hDs
  have hKc := hK.sub (tys' := mT y) [0, 1, 2, 3, 4, 5, 6, 7, 8, 9, 10, 11, 12, 13, 14, 15, 16] rfl
  have hFc := A_last hDs hS hA
  refine va_calll (va_runV (As := [.int (xs (nI (5 * k) + 1).toNatClampNeg)]) (rest := [.long r1]) ⟨hx, hb, hml, hown, hts⟩ (met_X8_all l Dg m0 H1.size a y σ kd wh re aTo aPo aRw aRr aWs aRs (xs (nI (5 * k) + 1).toNatClampNeg) hV hM) (cwV 1 hts gL_law_X8_all rfl rfl rfl (by decide +kernel) ⟨Nat.le_of_ble_eq_true rfl, Nat.le_of_ble_eq_true rfl⟩) (wPreV hKc hPc (hDc.weaken (fun _ _ _ _ => trivial)) (va_recv hKc hPc (ci := 6) (q0 := 0) rfl rfl)) rfl rfl hl.1 rfl (lv_room (Nat.le_of_ble_eq_true rfl)) dL_law_936 ⟨by show 30 + 2 * (k + 1) + 0 ≤ 600000; omega, by show 2000 + 18 * (k + 1) + 0 ≤ 7302250; omega⟩) hS (fun q _ h => hFc q h) hFc (fun r2 u1 t H2 locs ht hvm hw hB _ hk1 hS => ?_)
  obtain ⟨hP1, -, hD1⟩ := hB
  rw [ht] at hP1
  obtain ⟨hP2, hD2⟩ := join_last hPs hDs hk1 hFc hP1 hD1
  obtain ⟨e2, hm1⟩ := hw
  have hP := va_P.swap (a := []) (b := u) (c := u1) hP2
  have hD := va_D.swap (a := []) (b := u) (c := u1) hD2
  refine W.lcmp hx hb dL_law_939 ?_
  refine lv_if_eq (tgt := 1004) hx hb dL_law_940 (by decide) (fun _ => ?_) (fun c9 => absurd (lgc_eqq.mpr (e1.trans e2.symm)) c9)
  exact kk (nw_all σ (xs (nI (5 * k) + 1).toNatClampNeg)) (vk_all hV (xs (nI (5 * k) + 1).toNatClampNeg)) u1 u hm1 hc1 _ _ hP hD hS ls hl

set_option maxHeartbeats 4000000 in
set_option maxRecDepth 100000 in
theorem law_count {p : Program} {l : Launch} {e : Env} {s : State} {m : MethodId} {below : List Frame} {meth : Method} {c : Code} {Dg : va_G} {b L : Nat} {xs : Nat → Int32} (hL : L ≤ 2560) (C0 : lw_At p s m meth c b L xs) (hao : va_AO RX1 s) {x0 m0 : Nat} {bb : Nat → Nat} {z : Nat → ClassId} {a : Nat → Nat} {y : Nat → ClassId} (hK : va_K Dg vwCl (mT y ++ cT z) s) (k : Nat) (hkL : 5 * k + 5 ≤ L) (σ : St) (hV : vOK σ) (u1 u2 : va_W) (hm : MI m0 a y σ u1) (hc : CX x0 bb z σ u2) (H : Heap) (locs : List Loc) (hP : va_P Dg vwCl (u1 ++ u2) H) (hD : va_D (hS0 s) (u1 ++ u2)) (hS : va_S (hS0 s) s.heap H locs) (ls : Array Slot) (hl : lv_has ls 4 [(0, .ref b), (1, .ref x0), (2, .ref m0), (3, .int (nI (5 * k)))]) (kk : ∀ (τ : St), vOK τ → ∀ (u1 u2 : va_W), MI m0 a y τ u1 → CX x0 bb z τ u2 → ∀ (H : Heap) (locs : List Loc), va_P Dg vwCl (u1 ++ u2) H → va_D (hS0 s) (u1 ++ u2) → va_S (hS0 s) s.heap H locs → ∀ ls : Array Slot, lv_has ls 4 [(0, .ref b), (1, .ref x0), (2, .ref m0), (3, .int (nI (5 * k)))] → W p l e room_1 s m #[Value.ref b] below meth c H locs (30 + 2 * (k + 1)) (2000 + 18 * (k + 1)) (lw_Z below #[Value.ref b] s) (F0 m 1004 ls [])) : W p l e room_1 s m #[Value.ref b] below meth c H locs (30 + 2 * k) (2000 + 18 * k) (lw_Z below #[Value.ref b] s) (F0 m 945 ls []) := by
  obtain ⟨hx, hb, hr, hml, hown, hts, hX, hbl, hlocks, hgv⟩ := C0
  have hown : s.vm.findClass RL = some m.cls := hown
  have hts : ∀ w ∈ wsL_law, w.before #[Value.ref b] s = true := fun w h => hts w (wsL_law_in w h)
  have hA : ∀ q : Nat, s.heap.size ≤ q → hS0 s q := fun _ h => h
  have hbA : ¬ hS0 s b := Nat.not_le.mpr hbl
  have h_1 : vp_in (nI (5 * k) + 1) L := sc_in (j := 1) (by omega) hL
  have h_2 : vp_in (nI (5 * k) + 2) L := sc_in (j := 2) (by omega) hL
  have h_3 : vp_in (nI (5 * k) + 3) L := sc_in (j := 3) (by omega) hL
  have h_4 : vp_in (nI (5 * k) + 4) L := sc_in (j := 4) (by omega) hL
  obtain ⟨kd, wh, re, aTo, aPo, aRw, aRr, aWs, aRs, rfl, hM⟩ := hm
  obtain ⟨Lp, f, ad, g, rfl, hC⟩ := hc
  refine lv_aload_n hx hb dL_law_945 rfl (lv_at hl 1 rfl) ?_
  refine lv_aload_n hx hb dL_law_946 rfl (lv_at hl 0 rfl) ?_
  refine lv_iload_n hx hb dL_law_947 rfl (lv_at hl 3 rfl) ?_
  refine lv_iconst (v := 1) hx hb dL_law_948 (by decide) ?_
  refine lv_iadd hx hb dL_law_949 ?_
  refine va_sld hx hb hX hbl hbA hS h_1 dL_law_950 ?_
  have hPc := P_last hP
  have hDc := D_last hD
  have hKc := hK.sub (tys' := cT z) [17, 18, 19, 20, 21, 22, 23] rfl
  have hFc := A_last hD hS hA
  refine va_calli (va_runV (As := [.int (xs (nI (5 * k) + 1).toNatClampNeg)]) (rest := []) ⟨hx, hb, hml, hown, hts⟩ (met_X7_count l Dg x0 H.size bb z σ Lp f ad g (xs (nI (5 * k) + 1).toNatClampNeg) hV hC) (cwV 1 hts gL_law_X7_count rfl rfl rfl (by decide +kernel) ⟨Nat.le_of_ble_eq_true rfl, Nat.le_of_ble_eq_true rfl⟩) (wPreV hKc hPc (hDc.weaken (fun _ _ _ _ => trivial)) (va_recv hKc hPc (ci := 5) (q0 := 0) rfl rfl)) rfl rfl hl.1 rfl (lv_room (Nat.le_of_ble_eq_true rfl)) dL_law_951 ⟨by show 30 + 2 * k + 0 ≤ 600000; omega, by show 2000 + 18 * k + 0 ≤ 7302250; omega⟩) hS (fun q _ h => hFc q h) hFc (fun r1 u t H1 locs ht hvm hw hB _ hk1 hS => ?_)
  obtain ⟨hP1, -, hD1⟩ := hB
  rw [ht] at hP1
  obtain ⟨hP, hD⟩ := join_last hP hD hk1 hFc hP1 hD1
  obtain ⟨e1, hc1⟩ := hw
  clear hP1 hD1 hPc hDc hFc hk1
  refine W.widen (k := 30 + 2 * (k + 1)) (n := 2000 + 18 * (k + 1)) (by omega) (by omega) ?_
  refine lv_aload_n hx hb dL_law_954 rfl (lv_at hl 2 rfl) ?_
  refine lv_aload_n hx hb dL_law_955 rfl (lv_at hl 0 rfl) ?_
  refine lv_iload_n hx hb dL_law_956 rfl (lv_at hl 3 rfl) ?_
  refine lv_iconst (v := 1) hx hb dL_law_957 (by decide) ?_
  refine lv_iadd hx hb dL_law_958 ?_
  refine va_sld hx hb hX hbl hbA hS h_1 dL_law_959 ?_
  have hPs := va_P.swap (a := []) (c := u) hP
  have hDs := va_D.swap (a := []) (c := u) hD
  have hPc := P_last hPs
  have hDc := D_last hDs
  have hKc := hK.sub (tys' := mT y) [0, 1, 2, 3, 4, 5, 6, 7, 8, 9, 10, 11, 12, 13, 14, 15, 16] rfl
  have hFc := A_last hDs hS hA
  refine va_calli (va_runV (As := [.int (xs (nI (5 * k) + 1).toNatClampNeg)]) (rest := [.int r1]) ⟨hx, hb, hml, hown, hts⟩ (met_X8_count l Dg m0 H1.size a y σ kd wh re aTo aPo aRw aRr aWs aRs (xs (nI (5 * k) + 1).toNatClampNeg) hV hM) (cwV 1 hts gL_law_X8_count rfl rfl rfl (by decide +kernel) ⟨Nat.le_of_ble_eq_true rfl, Nat.le_of_ble_eq_true rfl⟩) (wPreV hKc hPc (hDc.weaken (fun _ _ _ _ => trivial)) (va_recv hKc hPc (ci := 6) (q0 := 0) rfl rfl)) rfl rfl hl.1 rfl (lv_room (Nat.le_of_ble_eq_true rfl)) dL_law_960 ⟨by show 30 + 2 * (k + 1) + 0 ≤ 600000; omega, by show 2000 + 18 * (k + 1) + 0 ≤ 7302250; omega⟩) hS (fun q _ h => hFc q h) hFc (fun r2 u1 t H2 locs ht hvm hw hB _ hk1 hS => ?_)
  obtain ⟨hP1, -, hD1⟩ := hB
  rw [ht] at hP1
  obtain ⟨hP2, hD2⟩ := join_last hPs hDs hk1 hFc hP1 hD1
  obtain ⟨e2, hm1⟩ := hw
  have hP := va_P.swap (a := []) (b := u) (c := u1) hP2
  have hD := va_D.swap (a := []) (b := u) (c := u1) hD2
  refine lv_icmp_eq (tgt := 1004) hx hb dL_law_963 (by decide) (fun _ => ?_) (fun c9 => absurd (e1.trans e2.symm) c9)
  exact kk σ hV u1 u hm1 hc1 _ _ hP hD hS ls hl

set_option maxHeartbeats 4000000 in
set_option maxRecDepth 100000 in
theorem law_often {p : Program} {l : Launch} {e : Env} {s : State} {m : MethodId} {below : List Frame} {meth : Method} {c : Code} {Dg : va_G} {b L : Nat} {xs : Nat → Int32} (hL : L ≤ 2560) (C0 : lw_At p s m meth c b L xs) (hao : va_AO RX1 s) {x0 m0 : Nat} {bb : Nat → Nat} {z : Nat → ClassId} {a : Nat → Nat} {y : Nat → ClassId} (hK : va_K Dg vwCl (mT y ++ cT z) s) (k : Nat) (hkL : 5 * k + 5 ≤ L) (σ : St) (hV : vOK σ) (u1 u2 : va_W) (hm : MI m0 a y σ u1) (hc : CX x0 bb z σ u2) (H : Heap) (locs : List Loc) (hP : va_P Dg vwCl (u1 ++ u2) H) (hD : va_D (hS0 s) (u1 ++ u2)) (hS : va_S (hS0 s) s.heap H locs) (ls : Array Slot) (hl : lv_has ls 4 [(0, .ref b), (1, .ref x0), (2, .ref m0), (3, .int (nI (5 * k)))]) (kk : ∀ (τ : St), vOK τ → ∀ (u1 u2 : va_W), MI m0 a y τ u1 → CX x0 bb z τ u2 → ∀ (H : Heap) (locs : List Loc), va_P Dg vwCl (u1 ++ u2) H → va_D (hS0 s) (u1 ++ u2) → va_S (hS0 s) s.heap H locs → ∀ ls : Array Slot, lv_has ls 4 [(0, .ref b), (1, .ref x0), (2, .ref m0), (3, .int (nI (5 * k)))] → W p l e room_1 s m #[Value.ref b] below meth c H locs (30 + 2 * (k + 1)) (2000 + 18 * (k + 1)) (lw_Z below #[Value.ref b] s) (F0 m 1004 ls [])) : W p l e room_1 s m #[Value.ref b] below meth c H locs (30 + 2 * k) (2000 + 18 * k) (lw_Z below #[Value.ref b] s) (F0 m 968 ls []) := by
  obtain ⟨hx, hb, hr, hml, hown, hts, hX, hbl, hlocks, hgv⟩ := C0
  have hown : s.vm.findClass RL = some m.cls := hown
  have hts : ∀ w ∈ wsL_law, w.before #[Value.ref b] s = true := fun w h => hts w (wsL_law_in w h)
  have hA : ∀ q : Nat, s.heap.size ≤ q → hS0 s q := fun _ h => h
  have hbA : ¬ hS0 s b := Nat.not_le.mpr hbl
  have h_1 : vp_in (nI (5 * k) + 1) L := sc_in (j := 1) (by omega) hL
  have h_2 : vp_in (nI (5 * k) + 2) L := sc_in (j := 2) (by omega) hL
  have h_3 : vp_in (nI (5 * k) + 3) L := sc_in (j := 3) (by omega) hL
  have h_4 : vp_in (nI (5 * k) + 4) L := sc_in (j := 4) (by omega) hL
  obtain ⟨kd, wh, re, aTo, aPo, aRw, aRr, aWs, aRs, rfl, hM⟩ := hm
  obtain ⟨Lp, f, ad, g, rfl, hC⟩ := hc
  refine lv_aload_n hx hb dL_law_968 rfl (lv_at hl 1 rfl) ?_
  refine lv_aload_n hx hb dL_law_969 rfl (lv_at hl 0 rfl) ?_
  refine lv_iload_n hx hb dL_law_970 rfl (lv_at hl 3 rfl) ?_
  refine lv_iconst (v := 1) hx hb dL_law_971 (by decide) ?_
  refine lv_iadd hx hb dL_law_972 ?_
  refine va_sld hx hb hX hbl hbA hS h_1 dL_law_973 ?_
  have hPc := P_last hP
  have hDc := D_last hD
  have hKc := hK.sub (tys' := cT z) [17, 18, 19, 20, 21, 22, 23] rfl
  have hFc := A_last hD hS hA
  refine va_calli (va_runV (As := [.int (xs (nI (5 * k) + 1).toNatClampNeg)]) (rest := []) ⟨hx, hb, hml, hown, hts⟩ (met_X7_often l Dg x0 H.size bb z σ Lp f ad g (xs (nI (5 * k) + 1).toNatClampNeg) hV hC) (cwV 1 hts gL_law_X7_often rfl rfl rfl (by decide +kernel) ⟨Nat.le_of_ble_eq_true rfl, Nat.le_of_ble_eq_true rfl⟩) (wPreV hKc hPc (hDc.weaken (fun _ _ _ _ => trivial)) (va_recv hKc hPc (ci := 5) (q0 := 0) rfl rfl)) rfl rfl hl.1 rfl (lv_room (Nat.le_of_ble_eq_true rfl)) dL_law_974 ⟨by show 30 + 2 * k + 0 ≤ 600000; omega, by show 2000 + 18 * k + 0 ≤ 7302250; omega⟩) hS (fun q _ h => hFc q h) hFc (fun r1 u t H1 locs ht hvm hw hB _ hk1 hS => ?_)
  obtain ⟨hP1, -, hD1⟩ := hB
  rw [ht] at hP1
  obtain ⟨hP, hD⟩ := join_last hP hD hk1 hFc hP1 hD1
  obtain ⟨e1, hc1⟩ := hw
  clear hP1 hD1 hPc hDc hFc hk1
  refine W.widen (k := 30 + 2 * (k + 1)) (n := 2000 + 18 * (k + 1)) (by omega) (by omega) ?_
  refine lv_aload_n hx hb dL_law_977 rfl (lv_at hl 2 rfl) ?_
  refine lv_aload_n hx hb dL_law_978 rfl (lv_at hl 0 rfl) ?_
  refine lv_iload_n hx hb dL_law_979 rfl (lv_at hl 3 rfl) ?_
  refine lv_iconst (v := 1) hx hb dL_law_980 (by decide) ?_
  refine lv_iadd hx hb dL_law_981 ?_
  refine va_sld hx hb hX hbl hbA hS h_1 dL_law_982 ?_
  have hPs := va_P.swap (a := []) (c := u) hP
  have hDs := va_D.swap (a := []) (c := u) hD
  have hPc := P_last hPs
  have hDc := D_last hDs
  have hKc := hK.sub (tys' := mT y) [0, 1, 2, 3, 4, 5, 6, 7, 8, 9, 10, 11, 12, 13, 14, 15, 16] rfl
  have hFc := A_last hDs hS hA
  refine va_calli (va_runV (As := [.int (xs (nI (5 * k) + 1).toNatClampNeg)]) (rest := [.int r1]) ⟨hx, hb, hml, hown, hts⟩ (met_X8_often l Dg m0 H1.size a y σ kd wh re aTo aPo aRw aRr aWs aRs (xs (nI (5 * k) + 1).toNatClampNeg) hV hM) (cwV 1 hts gL_law_X8_often rfl rfl rfl (by decide +kernel) ⟨Nat.le_of_ble_eq_true rfl, Nat.le_of_ble_eq_true rfl⟩) (wPreV hKc hPc (hDc.weaken (fun _ _ _ _ => trivial)) (va_recv hKc hPc (ci := 6) (q0 := 0) rfl rfl)) rfl rfl hl.1 rfl (lv_room (Nat.le_of_ble_eq_true rfl)) dL_law_983 ⟨by show 30 + 2 * (k + 1) + 0 ≤ 600000; omega, by show 2000 + 18 * (k + 1) + 0 ≤ 7302250; omega⟩) hS (fun q _ h => hFc q h) hFc (fun r2 u1 t H2 locs ht hvm hw hB _ hk1 hS => ?_)
  obtain ⟨hP1, -, hD1⟩ := hB
  rw [ht] at hP1
  obtain ⟨hP2, hD2⟩ := join_last hPs hDs hk1 hFc hP1 hD1
  obtain ⟨e2, hm1⟩ := hw
  have hP := va_P.swap (a := []) (b := u) (c := u1) hP2
  have hD := va_D.swap (a := []) (b := u) (c := u1) hD2
  refine lv_icmp_eq (tgt := 1004) hx hb dL_law_986 (by decide) (fun _ => ?_) (fun c9 => absurd (e1.trans e2.symm) c9)
  exact kk σ hV u1 u hm1 hc1 _ _ hP hD hS ls hl

set_option maxHeartbeats 4000000 in
set_option maxRecDepth 100000 in
theorem law_refused {p : Program} {l : Launch} {e : Env} {s : State} {m : MethodId} {below : List Frame} {meth : Method} {c : Code} {Dg : va_G} {b L : Nat} {xs : Nat → Int32} (hL : L ≤ 2560) (C0 : lw_At p s m meth c b L xs) (hao : va_AO RX1 s) {x0 m0 : Nat} {bb : Nat → Nat} {z : Nat → ClassId} {a : Nat → Nat} {y : Nat → ClassId} (hK : va_K Dg vwCl (mT y ++ cT z) s) (k : Nat) (hkL : 5 * k + 5 ≤ L) (σ : St) (hV : vOK σ) (u1 u2 : va_W) (hm : MI m0 a y σ u1) (hc : CX x0 bb z σ u2) (H : Heap) (locs : List Loc) (hP : va_P Dg vwCl (u1 ++ u2) H) (hD : va_D (hS0 s) (u1 ++ u2)) (hS : va_S (hS0 s) s.heap H locs) (ls : Array Slot) (hl : lv_has ls 4 [(0, .ref b), (1, .ref x0), (2, .ref m0), (3, .int (nI (5 * k)))]) (kk : ∀ (τ : St), vOK τ → ∀ (u1 u2 : va_W), MI m0 a y τ u1 → CX x0 bb z τ u2 → ∀ (H : Heap) (locs : List Loc), va_P Dg vwCl (u1 ++ u2) H → va_D (hS0 s) (u1 ++ u2) → va_S (hS0 s) s.heap H locs → ∀ ls : Array Slot, lv_has ls 4 [(0, .ref b), (1, .ref x0), (2, .ref m0), (3, .int (nI (5 * k)))] → W p l e room_1 s m #[Value.ref b] below meth c H locs (30 + 2 * (k + 1)) (2000 + 18 * (k + 1)) (lw_Z below #[Value.ref b] s) (F0 m 1004 ls [])) : W p l e room_1 s m #[Value.ref b] below meth c H locs (30 + 2 * k) (2000 + 18 * k) (lw_Z below #[Value.ref b] s) (F0 m 991 ls []) := by
  obtain ⟨hx, hb, hr, hml, hown, hts, hX, hbl, hlocks, hgv⟩ := C0
  have hown : s.vm.findClass RL = some m.cls := hown
  have hts : ∀ w ∈ wsL_law, w.before #[Value.ref b] s = true := fun w h => hts w (wsL_law_in w h)
  have hA : ∀ q : Nat, s.heap.size ≤ q → hS0 s q := fun _ h => h
  have hbA : ¬ hS0 s b := Nat.not_le.mpr hbl
  have h_1 : vp_in (nI (5 * k) + 1) L := sc_in (j := 1) (by omega) hL
  have h_2 : vp_in (nI (5 * k) + 2) L := sc_in (j := 2) (by omega) hL
  have h_3 : vp_in (nI (5 * k) + 3) L := sc_in (j := 3) (by omega) hL
  have h_4 : vp_in (nI (5 * k) + 4) L := sc_in (j := 4) (by omega) hL
  obtain ⟨kd, wh, re, aTo, aPo, aRw, aRr, aWs, aRs, rfl, hM⟩ := hm
  obtain ⟨Lp, f, ad, g, rfl, hC⟩ := hc
  refine lv_aload_n hx hb dL_law_991 rfl (lv_at hl 1 rfl) ?_
  have hPc := P_last hP
  have hDc := D_last hD
  have hKc := hK.sub (tys' := cT z) [17, 18, 19, 20, 21, 22, 23] rfl
  have hFc := A_last hD hS hA
  refine va_calli (va_runV (As := []) (rest := []) ⟨hx, hb, hml, hown, hts⟩ (met_X7_refused l Dg x0 H.size bb z σ Lp f ad g  hV hC) (cwV 0 hts gL_law_X7_refused rfl rfl rfl (by decide +kernel) ⟨Nat.le_of_ble_eq_true rfl, Nat.le_of_ble_eq_true rfl⟩) (wPreV hKc hPc (hDc.weaken (fun _ _ _ _ => trivial)) (va_recv hKc hPc (ci := 5) (q0 := 0) rfl rfl)) rfl rfl hl.1 rfl (lv_room (Nat.le_of_ble_eq_true rfl)) dL_law_992 ⟨by show 30 + 2 * k + 0 ≤ 600000; omega, by show 2000 + 18 * k + 0 ≤ 7302250; omega⟩) hS (fun q _ h => hFc q h) hFc (fun r1 u t H1 locs ht hvm hw hB _ hk1 hS => ?_)
  obtain ⟨hP1, -, hD1⟩ := hB
  rw [ht] at hP1
  obtain ⟨hP, hD⟩ := join_last hP hD hk1 hFc hP1 hD1
  obtain ⟨e1, hc1⟩ := hw
  clear hP1 hD1 hPc hDc hFc hk1
  refine W.widen (k := 30 + 2 * (k + 1)) (n := 2000 + 18 * (k + 1)) (by omega) (by omega) ?_
  refine lv_aload_n hx hb dL_law_995 rfl (lv_at hl 2 rfl) ?_
  have hPs := va_P.swap (a := []) (c := u) hP
  have hDs := va_D.swap (a := []) (c := u) hD
  have hPc := P_last hPs
  have hDc := D_last hDs
  have hKc := hK.sub (tys' := mT y) [0, 1, 2, 3, 4, 5, 6, 7, 8, 9, 10, 11, 12, 13, 14, 15, 16] rfl
  have hFc := A_last hDs hS hA
  refine va_calli (va_runV (As := []) (rest := [.int r1]) ⟨hx, hb, hml, hown, hts⟩ (met_X8_refused l Dg m0 H1.size a y σ kd wh re aTo aPo aRw aRr aWs aRs  hV hM) (cwV 0 hts gL_law_X8_refused rfl rfl rfl (by decide +kernel) ⟨Nat.le_of_ble_eq_true rfl, Nat.le_of_ble_eq_true rfl⟩) (wPreV hKc hPc (hDc.weaken (fun _ _ _ _ => trivial)) (va_recv hKc hPc (ci := 6) (q0 := 0) rfl rfl)) rfl rfl hl.1 rfl (lv_room (Nat.le_of_ble_eq_true rfl)) dL_law_996 ⟨by show 30 + 2 * (k + 1) + 0 ≤ 600000; omega, by show 2000 + 18 * (k + 1) + 0 ≤ 7302250; omega⟩) hS (fun q _ h => hFc q h) hFc (fun r2 u1 t H2 locs ht hvm hw hB _ hk1 hS => ?_)
  obtain ⟨hP1, -, hD1⟩ := hB
  rw [ht] at hP1
  obtain ⟨hP2, hD2⟩ := join_last hPs hDs hk1 hFc hP1 hD1
  obtain ⟨e2, hm1⟩ := hw
  have hP := va_P.swap (a := []) (b := u) (c := u1) hP2
  have hD := va_D.swap (a := []) (b := u) (c := u1) hD2
  refine lv_icmp_eq (tgt := 1004) hx hb dL_law_999 (by decide) (fun _ => ?_) (fun c9 => absurd (e1.trans e2.symm) c9)
  exact kk σ hV u1 u hm1 hc1 _ _ hP hD hS ls hl
