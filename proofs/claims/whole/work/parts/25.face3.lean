/-! the class's face: rests, stands -/
theorem CI_rests {z : Nat → ClassId} {σ : St} {L : List Nat} {f : Nat → va_E} {ad : Nat → Nat → Nat} {g : Nat → Nat → Option Nat} {n : Nat} {k : Int32} {v : Int64} (h : CI z σ L f ad g) (hi : n < cN σ 1) (hk : k = 2 ∨ k = 3) (ho : okR k v) :
    CI z (sJ (ok0 σ) 2 n (cst k v (σ.1 4 n))) L (va_up f (ad 1 n) (.inr (1, [.int (σ.1 4 n), .long (csR (vl k v) (σ.1 4 n))]))) ad g := by
  rw [csR_self hk ho]; exact CI_store h hi
theorem P_one {D : va_G} {X : va_W} {L : List Nat} {f : Nat → va_E} {H : Heap} {a : Nat} {e : va_E} (hP : va_P D vwCl (X ++ va_pl L f) H) (h : a ∈ L) (hf : f a = e) : va_P D vwCl [(a, e)] H := fun k q hk => by
  obtain ⟨i, hi⟩ := va_pl_get (X := X) (f := f) h
  have hz : k < 1 := (List.getElem?_eq_some_iff.mp hk).1
  rw [show k = 0 by omega] at hk
  cases hk
  rw [← hf]; exact hP i _ hi
theorem P_two {D : va_G} {X : va_W} {L : List Nat} {f : Nat → va_E} {H : Heap} {a b : Nat} {e e2 : va_E} (hP : va_P D vwCl (X ++ va_pl L f) H) (h : a ∈ L) (hf : f a = e) (h2 : b ∈ L) (hf2 : f b = e2) : va_P D vwCl [(a, e), (b, e2)] H := by
  have j := va_P.app (P_one hP h hf) (P_one hP h2 hf2)
  exact j
theorem in_st {n i : Int32} (h : 1 ≤ n.toInt ∧ n.toInt ≤ 6) (g : fX8_isIn i 0 (n - 1) = true) : vp_in i (ix n) := by
  have g := (inC_iff (n := 6) ⟨by omega, h.2⟩).mp g
  rw [vp_in_iff]
  show _ ∧ i.toInt < ((n.toInt.toNat : Nat) : Int)
  omega
theorem pR_n {a : Nat → Nat} {x : Int32} (h : x = -1) : pR a x = none := if_pos h
theorem pR_s {a : Nat → Nat} {x : Int32} (h : ¬ x = -1) : pR a x = some (a (ix x)) := if_neg h

theorem in_X5_X7_rests : ∀ w ∈ wsX50, w ∈ wsX7_rests := fun w h => List.mem_cons_of_mem _ (List.mem_append_left _ (List.mem_append_left _ (List.mem_append_right _ h)))
theorem in_X3_X7_rests : ∀ w ∈ wsX30, w ∈ wsX7_rests := fun w h => List.mem_cons_of_mem _ (List.mem_append_left _ (List.mem_append_right _ h))
theorem in_X7_X7_rests : ∀ w ∈ wsX70, w ∈ wsX7_rests := fun w h => List.mem_cons_of_mem _ (List.mem_append_right _ h)
set_option maxHeartbeats 4000000 in
set_option maxRecDepth 100000 in
theorem met_X7_rests (l : Launch) (Dg : va_G) (x0 sz : Nat) (b : Nat → Nat) (z : Nat → ClassId) (σ : St) (L : List Nat) (f : Nat → va_E) (ad : Nat → Nat → Nat) (g : Nat → Nat → Option Nat) (p1 : Int32) (p2 : Int32) (hV : vOK σ) (hC : CI z σ L f ad g)  : Met l yX7_rests wsX7_rests ({ frames := 5, cells := 0, slots := 0, locals := 121 }) (va_Pc [.ref x0, .int p1, .int p2] (wB Dg (cT z) (cX x0 b z (σ.1 0 0) (σ.1 2 0) (σ.1 2 1) (σ.1 2 2) (σ.1 2 3) (σ.1 2 4) (σ.1 1) (g 0) (g 1) (g 2) (g 3) (g 4) ++ va_pl L f) sz)) (va_Qi (fun (r : Int32) (u : va_W) => r = an_rests σ p1 p2 ∧ CX x0 b z (nw_rests σ p1 p2) u) (wE Dg (cT z) (va_A (cX x0 b z (σ.1 0 0) (σ.1 2 0) (σ.1 2 1) (σ.1 2 2) (σ.1 2 3) (σ.1 2 4) (σ.1 1) (g 0) (g 1) (g 2) (g 3) (g 4) ++ va_pl L f) sz)) (va_A (cX x0 b z (σ.1 0 0) (σ.1 2 0) (σ.1 2 1) (σ.1 2 2) (σ.1 2 3) (σ.1 2 4) (σ.1 1) (g 0) (g 1) (g 2) (g 3) (g 4) ++ va_pl L f) sz)) 0 0 (va_A (cX x0 b z (σ.1 0 0) (σ.1 2 0) (σ.1 2 1) (σ.1 2 2) (σ.1 2 3) (σ.1 2 4) (σ.1 1) (g 0) (g 1) (g 2) (g 3) (g 4) ++ va_pl L f) sz) := by
  refine Met.ofW (cc := cX7_rests) (maxL := 13) (ret := (some .int)) (by decide) rfl ?_
  intro p e s m args below meth c s₁ B hml hv
  obtain ⟨rfl, hsz, hP, hK, hD0⟩ := hv
  have hx := B.exec
  have hb := B.bytes
  have hr := B.returns
  have hts := atoms_spec (ws := wsX7_rests) B.pre
  have hown : s.vm.findClass RX7 = some m.cls := findClass_of_methodNamed B.named
  have hlocks := B.notSynchronized
  subst hsz
  have hD := hD0.self (sz := s.heap.size)
  generalize hAe : va_A (cX x0 b z (σ.1 0 0) (σ.1 2 0) (σ.1 2 1) (σ.1 2 2) (σ.1 2 3) (σ.1 2 4) (σ.1 1) (g 0) (g 1) (g 2) (g 3) (g 4) ++ va_pl L f) s.heap.size = A at hD ⊢
  have hA : ∀ q : Nat, s.heap.size ≤ q → A q := fun q h => by rw [← hAe]; exact Or.inr h
  have hS : va_S A s.heap s.heap [] := va_S.rf
  have hP : va_P Dg vwCl (cX x0 b z (σ.1 0 0) (σ.1 2 0) (σ.1 2 1) (σ.1 2 2) (σ.1 2 3) (σ.1 2 4) (σ.1 1) (g 0) (g 1) (g 2) (g 3) (g 4) ++ va_pl L f) s.heap := hP
  have hl := lv_entry ([.ref x0, .int p1, .int p2]) (n := 13) (Nat.le_of_ble_eq_true rfl)
  rw [lg_entry_eq]
  generalize (lg_sl ([.ref x0, .int p1, .int p2]) ++ List.replicate (13 - (lg_sl ([.ref x0, .int p1, .int p2])).length) Slot.unset).toArray = ls at hl ⊢
  have hl : lv_has ls 13 [(0, .ref x0), (1, .int p1), (2, .int p2)] := hl
  refine lv_aload_n hx hb dX7_rests_0 rfl (lv_at hl 0 rfl) ?_
  refine lv_iload_n hx hb dX7_rests_1 rfl (lv_at hl 1 rfl) ?_
  rcases Decidable.em (fX8_isIn p1 0 ((σ.1 2 2) - 1) = true) with c_1 | c_1
  · refine va_csq ((va_runV (As := [.int p1]) (rest := []) ⟨hx, hb, hml, hown, hts⟩ (met_X7_stripAt l Dg x0 b z (σ.1 0 0) (σ.1 2 0) (σ.1 2 1) (σ.1 2 2) (σ.1 2 3) (σ.1 2 4) (σ.1 1) (g 0) (g 1) (g 2) (g 3) (g 4) L f p1 hV.1.2.2.1) (cwV 1 hts gX7_rests_X7_stripAt rfl rfl rfl (by decide +kernel) ⟨Nat.le_of_ble_eq_true rfl, Nat.le_of_ble_eq_true rfl⟩) (rPreV hK hP (va_recv hK hP (ci := 5) (q0 := 0) rfl rfl)) rfl rfl hl.1 rfl (lv_room (Nat.le_of_ble_eq_true rfl)) dX7_rests_2 ⟨Nat.le_of_ble_eq_true rfl, Nat.le_of_ble_eq_true rfl⟩).run) (fun r hw => ?_)
    obtain rfl : r = some (ad 2 (ix p1)) := hw.trans ((if_pos c_1).trans (hC.2.2.2.1 _ (inC_lt hV.1.2.2.1 c_1)))
    refine W.eq (g2 := F0 m 5 ls [.ref (ad 2 (ix p1))]) rfl ?_
    have lt_2 := inC_lt hV.1.2.2.1 c_1
    have o_2 := hC.1.1 2 _ (by decide) lt_2
    have f_2 : f (ad 2 (ix p1)) = .inr (3, [.int (σ.1 5 (ix p1)), (sR (ad 3 (ix p1)) (σ.1 7 (ix p1)))]) := o_2.2
    refine lv_astore_n (lv' := [(3, .ref (ad 2 (ix p1))), (0, .ref x0), (1, .int p1), (2, .int p2)]) hx hb dX7_rests_5 rfl hl (by decide) rfl (fun ls hl => ?_)
    refine lv_aload_n hx hb dX7_rests_6 rfl (lv_at hl 1 rfl) ?_
    refine lv_iload_n hx hb dX7_rests_7 rfl (lv_at hl 3 rfl) ?_
    rcases Decidable.em (fX8_isIn p2 0 ((σ.1 2 1) - 1) = true) with c_3 | c_3
    · refine va_csq ((va_runV (As := [.int p2]) (rest := []) ⟨hx, hb, hml, hown, hts⟩ (met_X7_registerAt l Dg x0 b z (σ.1 0 0) (σ.1 2 0) (σ.1 2 1) (σ.1 2 2) (σ.1 2 3) (σ.1 2 4) (σ.1 1) (g 0) (g 1) (g 2) (g 3) (g 4) L f p2 hV.1.2.1) (cwV 1 hts gX7_rests_X7_registerAt rfl rfl rfl (by decide +kernel) ⟨Nat.le_of_ble_eq_true rfl, Nat.le_of_ble_eq_true rfl⟩) (rPreV hK hP (va_recv hK hP (ci := 5) (q0 := 0) rfl rfl)) rfl rfl hl.1 rfl (lv_room (Nat.le_of_ble_eq_true rfl)) dX7_rests_8 ⟨Nat.le_of_ble_eq_true rfl, Nat.le_of_ble_eq_true rfl⟩).run) (fun r hw => ?_)
      obtain rfl : r = some (ad 1 (ix p2)) := hw.trans ((if_pos c_3).trans (hC.2.2.1 _ (inC_lt hV.1.2.1 c_3)))
      refine W.eq (g2 := F0 m 11 ls [.ref (ad 1 (ix p2))]) rfl ?_
      have lt_4 := inC_lt hV.1.2.1 c_3
      have o_4 := hC.1.1 1 _ (by decide) lt_4
      have f_4 : f (ad 1 (ix p2)) = .inr (1, [.int (σ.1 4 (ix p2)), .long (σ.2 2 (ix p2))]) := o_4.2
      refine lv_astore (lv' := [(4, .ref (ad 1 (ix p2))), (3, .ref (ad 2 (ix p1))), (0, .ref x0), (1, .int p1), (2, .int p2)]) hx hb dX7_rests_11 hl (by decide) rfl (fun ls hl => ?_)
      refine lv_aload_n hx hb dX7_rests_13 rfl (lv_at hl 1 rfl) ?_
      refine lv_ifnull hx hb dX7_rests_14 ?_
      refine lv_aload hx hb dX7_rests_17 (lv_at hl 0 rfl) ?_
      refine lv_ifnonnull (tgt := 29) hx hb dX7_rests_19 (by decide) ?_
      refine lv_aload_n hx hb dX7_rests_29 rfl (lv_at hl 1 rfl) ?_
      refine vg_get (D := Dg) (ci := 3) (v := (sR (ad 3 (ix p1)) (σ.1 7 (ix p1)))) (C := RX5) (T := TX5) (N := 2) hx hb hts in_X5_X7_rests hown hK hP o_2.1 f_2 rfl 1 (by decide) (hts (.fieldLink RX7 163 "OrreryWorks$Strip" "places" "[J") (by decide +kernel)) (fun _ h9 => h9) rfl dX7_rests_30 ?_
      rcases Decidable.em ((σ.1 7 (ix p1)) = 0) with c_5 | c_5
      · refine W.eq (g2 := F0 m 33 ls [.ref (ad 3 (ix p1))]) (by rw [sR_0 c_5]) ?_
        have o_6 := hC.1.1 3 _ (by decide) lt_2
        obtain ⟨gg, ge, gv⟩ := o_6.2
        have T1 := hV.2.2.2.1 _ lt_2
        refine lv_astore (lv' := [(5, .ref (ad 3 (ix p1))), (4, .ref (ad 1 (ix p2))), (3, .ref (ad 2 (ix p1))), (0, .ref x0), (1, .int p1), (2, .int p2)]) hx hb dX7_rests_33 hl (by decide) rfl (fun ls hl => ?_)
        refine lv_aload hx hb dX7_rests_35 (lv_at hl 0 rfl) ?_
        refine lv_ifnonnull (tgt := 47) hx hb dX7_rests_37 (by decide) ?_
        refine lv_aload_n hx hb dX7_rests_47 rfl (lv_at hl 2 rfl) ?_
        refine vg_get (D := Dg) (ci := 3) (v := .int (σ.1 5 (ix p1))) (C := RX5) (T := TX5) (N := 2) hx hb hts in_X5_X7_rests hown hK hP o_2.1 f_2 rfl 0 (by decide) (hts (.fieldLink RX7 167 "OrreryWorks$Strip" "lane" "I") (by decide +kernel)) (fun _ h9 => h9) rfl dX7_rests_48 ?_
        refine lv_istore (lv' := [(6, .int (σ.1 5 (ix p1))), (5, .ref (ad 3 (ix p1))), (4, .ref (ad 1 (ix p2))), (3, .ref (ad 2 (ix p1))), (0, .ref x0), (1, .int p1), (2, .int p2)]) hx hb dX7_rests_51 hl (by decide) rfl (fun ls hl => ?_)
        refine lv_iload hx hb dX7_rests_53 (lv_at hl 0 rfl) ?_
        refine lv_iconst (v := 1) hx hb dX7_rests_55 (by decide) ?_
        refine lv_icmp_gt (tgt := 66) hx hb dX7_rests_56 (by decide) (fun c_7 => ?_) (fun c_7 => ?_)
        · have hge := g1_ge c_7
          have hkR := kR_of T1.1 hge
          have hf : ∀ j, j < 16 → okR (σ.1 5 (ix p1)) ((fun j => σ.2 3 (16 * ix p1 + j)) j) := fun j hj => okRB hkR (T1.2.2 j hj)
          have hn1 := T1.2.1.1
          have hn2 := T1.2.1.2
          have R2 := rg_ok hV c_3
          refine lv_dconst0 hx hb dX7_rests_66 ?_
          refine lv_dstore (lv' := [(7, .double FP.dconst0), (6, .int (σ.1 5 (ix p1))), (5, .ref (ad 3 (ix p1))), (4, .ref (ad 1 (ix p2))), (3, .ref (ad 2 (ix p1))), (0, .ref x0), (1, .int p1), (2, .int p2)]) hx hb dX7_rests_67 hl (by decide) rfl (fun ls hl => ?_)
          refine lv_iconst (v := 0) hx hb dX7_rests_69 (by decide) ?_
          refine lv_istore (lv' := [(9, .int 0), (7, .double FP.dconst0), (6, .int (σ.1 5 (ix p1))), (5, .ref (ad 3 (ix p1))), (4, .ref (ad 1 (ix p2))), (3, .ref (ad 2 (ix p1))), (0, .ref x0), (1, .int p1), (2, .int p2)]) hx hb dX7_rests_70 hl (by decide) rfl (fun ls hl => ?_)
          refine lv_iconst (v := 0) hx hb dX7_rests_72 (by decide) ?_
          refine lv_istore (lv' := [(10, .int 0), (9, .int 0), (7, .double FP.dconst0), (6, .int (σ.1 5 (ix p1))), (5, .ref (ad 3 (ix p1))), (4, .ref (ad 1 (ix p2))), (3, .ref (ad 2 (ix p1))), (0, .ref x0), (1, .int p1), (2, .int p2)]) hx hb dX7_rests_73 hl (by decide) rfl (fun ls hl => ?_)
          have hq : ∃ j : Nat, lv_has ls 13 [(10, .int (nI j)), (9, .int (rsN (σ.1 5 (ix p1)) (fun j => σ.2 3 (16 * ix p1 + j)) j)), (7, .double (vl (σ.1 5 (ix p1)) (rsS (σ.1 5 (ix p1)) (fun j => σ.2 3 (16 * ix p1 + j)) j))), (6, .int (σ.1 5 (ix p1))), (5, .ref (ad 3 (ix p1))), (4, .ref (ad 1 (ix p2))), (3, .ref (ad 2 (ix p1))), (0, .ref x0), (1, .int p1), (2, .int p2)] ∧ j ≤ ix (σ.1 6 (ix p1)) - 1 := ⟨0, by rw [show vl (σ.1 5 (ix p1)) (rsS (σ.1 5 (ix p1)) (fun j => σ.2 3 (16 * ix p1 + j)) 0) = FP.dconst0 from vl_0]; exact hl, Nat.zero_le _⟩
          clear hl
          obtain ⟨j, hl, hj⟩ := hq
          have hN : ((ix (σ.1 6 (ix p1)) : Nat) : Int) = (σ.1 6 (ix p1)).toInt := by show (((σ.1 6 (ix p1)).toInt.toNat : Nat) : Int) = _; omega
          obtain ⟨n, hn⟩ : ∃ n : Nat, j + n = ix (σ.1 6 (ix p1)) - 1 := ⟨ix (σ.1 6 (ix p1)) - 1 - j, by omega⟩
          induction n generalizing j ls with
          | zero =>
            have ej : j = ix (σ.1 6 (ix p1)) - 1 := by omega
            have d1 : σ.1 6 (ix p1) ≤ nI j + 1 := by rw [nI_1, Int32.le_iff_toInt_le, nI_toInt (by omega)]; omega
            refine lv_iload hx hb dX7_rests_75 (lv_at hl 0 rfl) ?_
            refine lv_iconst (v := 1) hx hb dX7_rests_77 (by decide) ?_
            refine lv_iadd hx hb dX7_rests_78 ?_
            refine lv_aload hx hb dX7_rests_79 (lv_at hl 4 rfl) ?_
            refine vg_alen hx hb hK hP 6 o_6.1 ge rfl (v := (σ.1 6 (ix p1))) (len16 T1.2.1) dX7_rests_81 ?_
            refine lv_icmp_ge (tgt := 151) hx hb dX7_rests_82 (by decide) (fun _ => ?_) (fun h0 => absurd d1 h0)
            have oR := rs_ok hkR hf j (by omega)
            rw [ej] at oR hl
            have hl : lv_has ls 13 [(10, .int (nI (ix (σ.1 6 (ix p1)) - 1))), (9, .int (rsN (σ.1 5 (ix p1)) (fun j => σ.2 3 (16 * ix p1 + j)) (ix (σ.1 6 (ix p1)) - 1))), (7, .double (vl (σ.1 5 (ix p1)) (rsS (σ.1 5 (ix p1)) (fun j => σ.2 3 (16 * ix p1 + j)) (ix (σ.1 6 (ix p1)) - 1)))), (6, .int (σ.1 5 (ix p1))), (5, .ref (ad 3 (ix p1))), (4, .ref (ad 1 (ix p2))), (3, .ref (ad 2 (ix p1))), (0, .ref x0), (1, .int p1), (2, .int p2)] := hl
            refine lv_aload hx hb dX7_rests_151 (lv_at hl 5 rfl) ?_
            refine lv_dload hx hb dX7_rests_153 (lv_at hl 2 rfl) ?_
            refine lv_aload hx hb dX7_rests_155 (lv_at hl 5 rfl) ?_
            refine vg_get (D := Dg) (ci := 1) (v := .int (σ.1 4 (ix p2))) (C := RX3) (T := TX3) (N := 2) hx hb hts in_X3_X7_rests hown hK hP o_4.1 f_4 rfl 0 (by decide) (hts (.fieldLink RX7 139 "OrreryWorks$Register" "kind" "I") (by decide +kernel)) (fun _ h9 => h9) rfl dX7_rests_157 ?_
            refine vp_callSl ((va_runS (As := [.double (vl (σ.1 5 (ix p1)) (rsS (σ.1 5 (ix p1)) (fun j => σ.2 3 (16 * ix p1 + j)) (ix (σ.1 6 (ix p1)) - 1))), .int (σ.1 4 (ix p2))]) (rest := [.ref (ad 1 (ix p2))]) ⟨hx, hb, hml, hown, hts⟩ (met_X0_castReal l (vl (σ.1 5 (ix p1)) (rsS (σ.1 5 (ix p1)) (fun j => σ.2 3 (16 * ix p1 + j)) (ix (σ.1 6 (ix p1)) - 1))) (σ.1 4 (ix p2)) (vl_nn oR)) (va_cwS 2 hts gX7_rests_X0_castReal rfl rfl rfl (by decide +kernel) ⟨Nat.le_of_ble_eq_true rfl, Nat.le_of_ble_eq_true rfl⟩) ⟨fun _ _ _ _ q => q, fun U hU hW => ⟨rfl, trivial⟩⟩ rfl rfl hl.1 rfl (lv_room (Nat.le_of_ble_eq_true rfl)) dX7_rests_160 ⟨Nat.le_of_ble_eq_true rfl, Nat.le_of_ble_eq_true rfl⟩).run) (fun r_1 h_1 => ?_)
            subst h_1
            refine vg_put (D := Dg) (ci := 1) (v := .long (csR (vl (σ.1 5 (ix p1)) (rsS (σ.1 5 (ix p1)) (fun j => σ.2 3 (16 * ix p1 + j)) (ix (σ.1 6 (ix p1)) - 1))) (σ.1 4 (ix p2)))) (ty := .long) (C := RX3) (T := TX3) (N := 2) hx hb hts in_X3_X7_rests tyX3 tyX3_ok nmX3 hown hK hP hD hS o_4.1 f_4 rfl 1 (by decide) (hts (.fieldLink RX7 140 "OrreryWorks$Register" "bits" "J") (by decide +kernel)) (fun _ h9 => h9) rfl (by decide +kernel) rfl rfl (Nat.le_of_ble_eq_true rfl) dX7_rests_163 (fun H locs hP hD hS => ?_)
            have hP : va_P Dg vwCl (cX x0 b z (σ.1 0 0) (σ.1 2 0) (σ.1 2 1) (σ.1 2 2) (σ.1 2 3) (σ.1 2 4) (σ.1 1) (g 0) (g 1) (g 2) (g 3) (g 4) ++ va_pl L (va_up f (ad 1 (ix p2)) (.inr (1, [.int (σ.1 4 (ix p2)), .long (csR (vl (σ.1 5 (ix p1)) (rsS (σ.1 5 (ix p1)) (fun j => σ.2 3 (16 * ix p1 + j)) (ix (σ.1 6 (ix p1)) - 1))) (σ.1 4 (ix p2)))])))) H := hP
            have hD : va_D A (cX x0 b z (σ.1 0 0) (σ.1 2 0) (σ.1 2 1) (σ.1 2 2) (σ.1 2 3) (σ.1 2 4) (σ.1 1) (g 0) (g 1) (g 2) (g 3) (g 4) ++ va_pl L (va_up f (ad 1 (ix p2)) (.inr (1, [.int (σ.1 4 (ix p2)), .long (csR (vl (σ.1 5 (ix p1)) (rsS (σ.1 5 (ix p1)) (fun j => σ.2 3 (16 * ix p1 + j)) (ix (σ.1 6 (ix p1)) - 1))) (σ.1 4 (ix p2)))])))) := hD
            refine lv_aload_n hx hb dX7_rests_166 rfl (lv_at hl 7 rfl) ?_
            refine lv_iload hx hb dX7_rests_167 (lv_at hl 1 rfl) ?_
            have hFc := wFree hD hS hA
            refine va_calli (va_runV (As := [.int (rsN (σ.1 5 (ix p1)) (fun j => σ.2 3 (16 * ix p1 + j)) (ix (σ.1 6 (ix p1)) - 1))]) (rest := []) ⟨hx, hb, hml, hown, hts⟩ (met_X7_answer l Dg x0 H.size b z (σ.1 0 0) (σ.1 2 0) (σ.1 2 1) (σ.1 2 2) (σ.1 2 3) (σ.1 2 4) (σ.1 1) (g 0) (g 1) (g 2) (g 3) (g 4) L (va_up f (ad 1 (ix p2)) (.inr (1, [.int (σ.1 4 (ix p2)), .long (csR (vl (σ.1 5 (ix p1)) (rsS (σ.1 5 (ix p1)) (fun j => σ.2 3 (16 * ix p1 + j)) (ix (σ.1 6 (ix p1)) - 1))) (σ.1 4 (ix p2)))]))) (rsN (σ.1 5 (ix p1)) (fun j => σ.2 3 (16 * ix p1 + j)) (ix (σ.1 6 (ix p1)) - 1)) ) (cwV 1 hts gX7_rests_X7_answer rfl rfl rfl (by decide +kernel) ⟨Nat.le_of_ble_eq_true rfl, Nat.le_of_ble_eq_true rfl⟩) (wPreV hK hP (hD.weaken (fun _ _ _ _ => trivial)) (va_recv hK hP (ci := 5) (q0 := 0) rfl rfl)) rfl rfl hl.1 rfl (lv_room (Nat.le_of_ble_eq_true rfl)) dX7_rests_169 ⟨Nat.le_of_ble_eq_true rfl, Nat.le_of_ble_eq_true rfl⟩) hS (fun q _ h => hFc q h) hFc (fun r u t H locs ht hvm hw hB _ _ hS => ?_)
            obtain ⟨hP, -, hD⟩ := hB
            rw [ht] at hP
            replace hD := hD.weaken (fun _ q _ h => hFc q.1 h)
            rw [hw.2] at hP hD
            rw [hw.1]
            clear hw hFc
            have hP : va_P Dg vwCl (cX x0 b z 0 (σ.1 2 0) (σ.1 2 1) (σ.1 2 2) (σ.1 2 3) (σ.1 2 4) (σ.1 1) (g 0) (g 1) (g 2) (g 3) (g 4) ++ va_pl L (va_up f (ad 1 (ix p2)) (.inr (1, [.int (σ.1 4 (ix p2)), .long (csR (vl (σ.1 5 (ix p1)) (rsS (σ.1 5 (ix p1)) (fun j => σ.2 3 (16 * ix p1 + j)) (ix (σ.1 6 (ix p1)) - 1))) (σ.1 4 (ix p2)))])))) H := hP
            have hD : va_D A (cX x0 b z 0 (σ.1 2 0) (σ.1 2 1) (σ.1 2 2) (σ.1 2 3) (σ.1 2 4) (σ.1 1) (g 0) (g 1) (g 2) (g 3) (g 4) ++ va_pl L (va_up f (ad 1 (ix p2)) (.inr (1, [.int (σ.1 4 (ix p2)), .long (csR (vl (σ.1 5 (ix p1)) (rsS (σ.1 5 (ix p1)) (fun j => σ.2 3 (16 * ix p1 + j)) (ix (σ.1 6 (ix p1)) - 1))) (σ.1 4 (ix p2)))])))) := hD
            have hw : wh_rests σ p1 p2 = 0 := by simp only [wh_rests, if_pos c_1, if_pos c_3, if_pos c_5, if_pos (g1_ge c_7)]
            exact W.iret (v := (rsN (σ.1 5 (ix p1)) (fun j => σ.2 3 (16 * ix p1 + j)) (ix (σ.1 6 (ix p1)) - 1))) hx hb hr (fun t ht hW => ⟨⟨_, (cX x0 b z 0 (σ.1 2 0) (σ.1 2 1) (σ.1 2 2) (σ.1 2 3) (σ.1 2 4) (σ.1 1) (g 0) (g 1) (g 2) (g 3) (g 4) ++ va_pl L (va_up f (ad 1 (ix p2)) (.inr (1, [.int (σ.1 4 (ix p2)), .long (csR (vl (σ.1 5 (ix p1)) (rsS (σ.1 5 (ix p1)) (fun j => σ.2 3 (16 * ix p1 + j)) (ix (σ.1 6 (ix p1)) - 1))) (σ.1 4 (ix p2)))])))), rfl, ⟨by rw [an_rests, if_pos hw]; try rfl, L, va_up f (ad 1 (ix p2)) (.inr (1, [.int (σ.1 4 (ix p2)), .long (csR (vl (σ.1 5 (ix p1)) (rsS (σ.1 5 (ix p1)) (fun j => σ.2 3 (16 * ix p1 + j)) (ix (σ.1 6 (ix p1)) - 1))) (σ.1 4 (ix p2)))])), ad, g, by rw [nw_rests, if_pos hw]; rfl, by rw [nw_rests, if_pos hw]; exact CI_rests hC (inC_lt hV.1.2.1 c_3) hkR oR⟩, by rw [ht]; exact hP, va_K.moved hW.alike hK, hD⟩, hS.F ht⟩) hS.2.2 dX7_rests_172
          | succ n ih =>
            have d1 : ¬ σ.1 6 (ix p1) ≤ nI j + 1 := fun g => by rw [nI_1, Int32.le_iff_toInt_le, nI_toInt (by omega)] at g; omega
            have b1 : vp_in (nI j) (ix (σ.1 6 (ix p1))) := vp_in_nI (by omega) (by omega)
            have b2 : vp_in (nI j + 1) (ix (σ.1 6 (ix p1))) := by rw [nI_1]; exact vp_in_nI (by omega) (by omega)
            have x1 : gg (nI j).toNatClampNeg = (fun j => σ.2 3 (16 * ix p1 + j)) j := by rw [nI_clamp (by omega)]; exact gv j (by omega)
            have x2 : gg (nI j + 1).toNatClampNeg = (fun j => σ.2 3 (16 * ix p1 + j)) (j + 1) := by rw [nI_1, nI_clamp (by omega)]; exact gv (j + 1) (by omega)
            have o1 := hf j (by omega)
            have o2 := hf (j + 1) (by omega)
            have o3 := rs_ok hkR hf j (by omega)
            refine lv_iload hx hb dX7_rests_75 (lv_at hl 0 rfl) ?_
            refine lv_iconst (v := 1) hx hb dX7_rests_77 (by decide) ?_
            refine lv_iadd hx hb dX7_rests_78 ?_
            refine lv_aload hx hb dX7_rests_79 (lv_at hl 4 rfl) ?_
            refine vg_alen hx hb hK hP 6 o_6.1 ge rfl (v := (σ.1 6 (ix p1))) (len16 T1.2.1) dX7_rests_81 ?_
            refine lv_icmp_ge (tgt := 151) hx hb dX7_rests_82 (by decide) (fun h0 => absurd h0 d1) (fun _ => ?_)
            refine lv_iload hx hb dX7_rests_85 (lv_at hl 3 rfl) ?_
            refine lv_iconst (v := 4) hx hb dX7_rests_87 (by decide) ?_
            refine lv_aload hx hb dX7_rests_88 (lv_at hl 4 rfl) ?_
            refine lv_iload hx hb dX7_rests_90 (lv_at hl 0 rfl) ?_
            refine vg_lald hx hb hK hP 6 o_6.1 ge rfl b1 dX7_rests_92 ?_
            refine lv_topl (fun z_8 ez_8 => ?_)
            rw [show z_8 = ((fun j => σ.2 3 (16 * ix p1 + j)) j) from ez_8.trans x1]
            refine lv_aload hx hb dX7_rests_93 (lv_at hl 4 rfl) ?_
            refine lv_iload hx hb dX7_rests_95 (lv_at hl 0 rfl) ?_
            refine lv_iconst (v := 1) hx hb dX7_rests_97 (by decide) ?_
            refine lv_iadd hx hb dX7_rests_98 ?_
            refine vg_lald hx hb hK hP 6 o_6.1 ge rfl b2 dX7_rests_99 ?_
            refine lv_topl (fun z_9 ez_9 => ?_)
            rw [show z_9 = ((fun j => σ.2 3 (16 * ix p1 + j)) (j + 1)) from ez_9.trans x2]
            refine vp_callSi ((va_runS (As := [.int (σ.1 5 (ix p1)), .int 4, .long ((fun j => σ.2 3 (16 * ix p1 + j)) j), .long ((fun j => σ.2 3 (16 * ix p1 + j)) (j + 1))]) (rest := []) ⟨hx, hb, hml, hown, hts⟩ (met_X2_isVoid l (σ.1 5 (ix p1)) 4 ((fun j => σ.2 3 (16 * ix p1 + j)) j) ((fun j => σ.2 3 (16 * ix p1 + j)) (j + 1))) (va_cwS 4 hts gX7_rests_X2_isVoid rfl rfl rfl (by decide +kernel) ⟨Nat.le_of_ble_eq_true rfl, Nat.le_of_ble_eq_true rfl⟩) ⟨fun _ _ _ _ q => q, fun U hU hW => ⟨rfl, trivial⟩⟩ rfl rfl hl.1 rfl (lv_room (Nat.le_of_ble_eq_true rfl)) dX7_rests_100 ⟨Nat.le_of_ble_eq_true rfl, Nat.le_of_ble_eq_true rfl⟩).run) (fun r hw => ?_)
            subst hw
            refine lv_if_ne (tgt := 145) hx hb dX7_rests_103 (by decide) (fun c_10 => ?_) (fun c_10 => ?_)
            · replace c_10 := bI_ne c_10
              refine lv_iinc (v := (nI j) + 1) (lv' := [(10, .int ((nI j) + 1)), (9, .int (rsN (σ.1 5 (ix p1)) (fun j => σ.2 3 (16 * ix p1 + j)) j)), (7, .double (vl (σ.1 5 (ix p1)) (rsS (σ.1 5 (ix p1)) (fun j => σ.2 3 (16 * ix p1 + j)) j))), (6, .int (σ.1 5 (ix p1))), (5, .ref (ad 3 (ix p1))), (4, .ref (ad 1 (ix p2))), (3, .ref (ad 2 (ix p1))), (0, .ref x0), (1, .int p1), (2, .int p2)]) hx hb dX7_rests_145 hl (k := 0) rfl rfl (by decide) rfl (fun ls hl => ?_)
              refine lv_goto (tgt := 75) hx hb dX7_rests_148 (by decide) ?_
              exact ih (j := j + 1) (hl := by rw [← nI_1, show rsS (σ.1 5 (ix p1)) (fun j => σ.2 3 (16 * ix p1 + j)) (j + 1) = _ from if_pos c_10, show rsN (σ.1 5 (ix p1)) (fun j => σ.2 3 (16 * ix p1 + j)) (j + 1) = _ from if_pos c_10]; exact lv_sub hl [0, 1, 2, 3, 4, 5, 6, 7, 8, 9] rfl) (hj := by omega) (hn := by omega)
            · replace c_10 := bI_eq c_10
              have e1 : ¬ mgN (σ.1 5 (ix p1)) ((fun j => σ.2 3 (16 * ix p1 + j)) j) = infN (σ.1 5 (ix p1)) := fun g => c_10 (void_eq.mpr (show _ ∨ _ from Or.inr g))
              have e2 : ¬ mgN (σ.1 5 (ix p1)) ((fun j => σ.2 3 (16 * ix p1 + j)) (j + 1)) = 0 := fun g => c_10 (void_eq.mpr (show _ ∨ _ from Or.inl g))
              have hRs := rm_sign o1 o2 e1 e2
              have hRn := rm_ne o1 o2 e1 e2
              have qA := wk_ok (w := 0) hkR o3 hRs.1 (fun g => hRn (And.left (And.right (show _ ∧ _ ∧ _ from g)))) (Or.inl rfl)
              refine lv_iload hx hb dX7_rests_106 (lv_at hl 3 rfl) ?_
              refine lv_aload hx hb dX7_rests_108 (lv_at hl 4 rfl) ?_
              refine lv_iload hx hb dX7_rests_110 (lv_at hl 0 rfl) ?_
              refine vg_lald hx hb hK hP 6 o_6.1 ge rfl b1 dX7_rests_112 ?_
              refine lv_topl (fun z_11 ez_11 => ?_)
              rw [show z_11 = ((fun j => σ.2 3 (16 * ix p1 + j)) j) from ez_11.trans x1]
              refine lv_aload hx hb dX7_rests_113 (lv_at hl 4 rfl) ?_
              refine lv_iload hx hb dX7_rests_115 (lv_at hl 0 rfl) ?_
              refine lv_iconst (v := 1) hx hb dX7_rests_117 (by decide) ?_
              refine lv_iadd hx hb dX7_rests_118 ?_
              refine vg_lald hx hb hK hP 6 o_6.1 ge rfl b2 dX7_rests_119 ?_
              refine lv_topl (fun z_12 ez_12 => ?_)
              rw [show z_12 = ((fun j => σ.2 3 (16 * ix p1 + j)) (j + 1)) from ez_12.trans x2]
              refine vp_callSl ((va_runS (As := [.int (σ.1 5 (ix p1)), .long ((fun j => σ.2 3 (16 * ix p1 + j)) j), .long ((fun j => σ.2 3 (16 * ix p1 + j)) (j + 1))]) (rest := []) ⟨hx, hb, hml, hown, hts⟩ (met_X2_restOf l (σ.1 5 (ix p1)) ((fun j => σ.2 3 (16 * ix p1 + j)) j) ((fun j => σ.2 3 (16 * ix p1 + j)) (j + 1)) o1 o2 e1 e2) (va_cwS 3 hts gX7_rests_X2_restOf rfl rfl rfl (by decide +kernel) ⟨Nat.le_of_ble_eq_true rfl, Nat.le_of_ble_eq_true rfl⟩) ⟨fun _ _ _ _ q => q, fun U hU hW => ⟨rfl, trivial⟩⟩ rfl rfl hl.1 rfl (lv_room (Nat.le_of_ble_eq_true rfl)) dX7_rests_120 ⟨Nat.le_of_ble_eq_true rfl, Nat.le_of_ble_eq_true rfl⟩).run) (fun r_2 h_2 => ?_)
              subst h_2
              refine lv_lstore (lv' := [(11, .long (rmB (σ.1 5 (ix p1)) ((fun j => σ.2 3 (16 * ix p1 + j)) j) ((fun j => σ.2 3 (16 * ix p1 + j)) (j + 1)))), (10, .int (nI j)), (9, .int (rsN (σ.1 5 (ix p1)) (fun j => σ.2 3 (16 * ix p1 + j)) j)), (7, .double (vl (σ.1 5 (ix p1)) (rsS (σ.1 5 (ix p1)) (fun j => σ.2 3 (16 * ix p1 + j)) j))), (6, .int (σ.1 5 (ix p1))), (5, .ref (ad 3 (ix p1))), (4, .ref (ad 1 (ix p2))), (3, .ref (ad 2 (ix p1))), (0, .ref x0), (1, .int p1), (2, .int p2)]) hx hb dX7_rests_123 hl (by decide) rfl (fun ls hl => ?_)
              refine lv_iload hx hb dX7_rests_125 (lv_at hl 4 rfl) ?_
              refine lv_iconst (v := 0) hx hb dX7_rests_127 (by decide) ?_
              refine lv_dload hx hb dX7_rests_128 (lv_at hl 3 rfl) ?_
              refine lv_iload hx hb dX7_rests_130 (lv_at hl 4 rfl) ?_
              refine lv_lload hx hb dX7_rests_132 (lv_at hl 0 rfl) ?_
              refine vp_callSd ((va_runS (As := [.int (σ.1 5 (ix p1)), .long (rmB (σ.1 5 (ix p1)) ((fun j => σ.2 3 (16 * ix p1 + j)) j) ((fun j => σ.2 3 (16 * ix p1 + j)) (j + 1)))]) (rest := [.double (vl (σ.1 5 (ix p1)) (rsS (σ.1 5 (ix p1)) (fun j => σ.2 3 (16 * ix p1 + j)) j)), .int 0, .int (σ.1 5 (ix p1))]) ⟨hx, hb, hml, hown, hts⟩ (met_X2_valueOf l (σ.1 5 (ix p1)) (rmB (σ.1 5 (ix p1)) ((fun j => σ.2 3 (16 * ix p1 + j)) j) ((fun j => σ.2 3 (16 * ix p1 + j)) (j + 1))) hRs.1) (va_cwS 2 hts gX7_rests_X2_valueOf rfl rfl rfl (by decide +kernel) ⟨Nat.le_of_ble_eq_true rfl, Nat.le_of_ble_eq_true rfl⟩) ⟨fun _ _ _ _ q => q, fun U hU hW => ⟨rfl, trivial⟩⟩ rfl rfl hl.1 rfl (lv_room (Nat.le_of_ble_eq_true rfl)) dX7_rests_134 ⟨Nat.le_of_ble_eq_true rfl, Nat.le_of_ble_eq_true rfl⟩).run) (fun r_3 h_3 => ?_)
              subst h_3
              refine vp_callSd ((va_runS (As := [.int (σ.1 5 (ix p1)), .int 0, .double (vl (σ.1 5 (ix p1)) (rsS (σ.1 5 (ix p1)) (fun j => σ.2 3 (16 * ix p1 + j)) j)), .double (vl (σ.1 5 (ix p1)) (rmB (σ.1 5 (ix p1)) ((fun j => σ.2 3 (16 * ix p1 + j)) j) ((fun j => σ.2 3 (16 * ix p1 + j)) (j + 1))))]) (rest := []) ⟨hx, hb, hml, hown, hts⟩ (met_X2_worked l  (σ.1 5 (ix p1)) 0 (rsS (σ.1 5 (ix p1)) (fun j => σ.2 3 (16 * ix p1 + j)) j) (rmB (σ.1 5 (ix p1)) ((fun j => σ.2 3 (16 * ix p1 + j)) j) ((fun j => σ.2 3 (16 * ix p1 + j)) (j + 1))) o3 hRs.1 qA) (va_cwS 4 hts gX7_rests_X2_worked rfl rfl rfl (by decide +kernel) ⟨Nat.le_of_ble_eq_true rfl, Nat.le_of_ble_eq_true rfl⟩) ⟨fun _ _ _ _ q => q, fun U hU hW => ⟨rfl, trivial⟩⟩ rfl rfl hl.1 rfl (lv_room (Nat.le_of_ble_eq_true rfl)) dX7_rests_137 ⟨Nat.le_of_ble_eq_true rfl, Nat.le_of_ble_eq_true rfl⟩).run) (fun r_4 h_4 => ?_)
              subst h_4
              refine lv_dstore (lv' := [(7, .double (vl (σ.1 5 (ix p1)) (wkB (σ.1 5 (ix p1)) 0 (rsS (σ.1 5 (ix p1)) (fun j => σ.2 3 (16 * ix p1 + j)) j) (rmB (σ.1 5 (ix p1)) ((fun j => σ.2 3 (16 * ix p1 + j)) j) ((fun j => σ.2 3 (16 * ix p1 + j)) (j + 1)))))), (11, .long (rmB (σ.1 5 (ix p1)) ((fun j => σ.2 3 (16 * ix p1 + j)) j) ((fun j => σ.2 3 (16 * ix p1 + j)) (j + 1)))), (10, .int (nI j)), (9, .int (rsN (σ.1 5 (ix p1)) (fun j => σ.2 3 (16 * ix p1 + j)) j)), (6, .int (σ.1 5 (ix p1))), (5, .ref (ad 3 (ix p1))), (4, .ref (ad 1 (ix p2))), (3, .ref (ad 2 (ix p1))), (0, .ref x0), (1, .int p1), (2, .int p2)]) hx hb dX7_rests_140 hl (by decide) rfl (fun ls hl => ?_)
              refine lv_iinc (v := (rsN (σ.1 5 (ix p1)) (fun j => σ.2 3 (16 * ix p1 + j)) j) + 1) (lv' := [(9, .int ((rsN (σ.1 5 (ix p1)) (fun j => σ.2 3 (16 * ix p1 + j)) j) + 1)), (7, .double (vl (σ.1 5 (ix p1)) (wkB (σ.1 5 (ix p1)) 0 (rsS (σ.1 5 (ix p1)) (fun j => σ.2 3 (16 * ix p1 + j)) j) (rmB (σ.1 5 (ix p1)) ((fun j => σ.2 3 (16 * ix p1 + j)) j) ((fun j => σ.2 3 (16 * ix p1 + j)) (j + 1)))))), (11, .long (rmB (σ.1 5 (ix p1)) ((fun j => σ.2 3 (16 * ix p1 + j)) j) ((fun j => σ.2 3 (16 * ix p1 + j)) (j + 1)))), (10, .int (nI j)), (6, .int (σ.1 5 (ix p1))), (5, .ref (ad 3 (ix p1))), (4, .ref (ad 1 (ix p2))), (3, .ref (ad 2 (ix p1))), (0, .ref x0), (1, .int p1), (2, .int p2)]) hx hb dX7_rests_142 hl (k := 3) rfl rfl (by decide) rfl (fun ls hl => ?_)
              refine lv_iinc (v := (nI j) + 1) (lv' := [(10, .int ((nI j) + 1)), (9, .int ((rsN (σ.1 5 (ix p1)) (fun j => σ.2 3 (16 * ix p1 + j)) j) + 1)), (7, .double (vl (σ.1 5 (ix p1)) (wkB (σ.1 5 (ix p1)) 0 (rsS (σ.1 5 (ix p1)) (fun j => σ.2 3 (16 * ix p1 + j)) j) (rmB (σ.1 5 (ix p1)) ((fun j => σ.2 3 (16 * ix p1 + j)) j) ((fun j => σ.2 3 (16 * ix p1 + j)) (j + 1)))))), (11, .long (rmB (σ.1 5 (ix p1)) ((fun j => σ.2 3 (16 * ix p1 + j)) j) ((fun j => σ.2 3 (16 * ix p1 + j)) (j + 1)))), (6, .int (σ.1 5 (ix p1))), (5, .ref (ad 3 (ix p1))), (4, .ref (ad 1 (ix p2))), (3, .ref (ad 2 (ix p1))), (0, .ref x0), (1, .int p1), (2, .int p2)]) hx hb dX7_rests_145 hl (k := 3) rfl rfl (by decide) rfl (fun ls hl => ?_)
              refine lv_goto (tgt := 75) hx hb dX7_rests_148 (by decide) ?_
              exact ih (j := j + 1) (hl := by rw [← nI_1, show rsS (σ.1 5 (ix p1)) (fun j => σ.2 3 (16 * ix p1 + j)) (j + 1) = _ from if_neg c_10, show rsN (σ.1 5 (ix p1)) (fun j => σ.2 3 (16 * ix p1 + j)) (j + 1) = _ from if_neg c_10]; exact lv_sub hl [0, 1, 2, 4, 5, 6, 7, 8, 9, 10] rfl) (hj := by omega) (hn := by omega)
        · refine lv_aload_n hx hb dX7_rests_59 rfl (lv_at hl 4 rfl) ?_
          refine lv_bipush (v := (-7)) hx hb dX7_rests_60 (by decide) ?_
          have hFc := wFree hD hS hA
          refine va_calli (va_runV (As := [.int (-7)]) (rest := []) ⟨hx, hb, hml, hown, hts⟩ (met_X7_refuse l Dg x0 s.heap.size b z (σ.1 0 0) (σ.1 2 0) (σ.1 2 1) (σ.1 2 2) (σ.1 2 3) (σ.1 2 4) (σ.1 1) (g 0) (g 1) (g 2) (g 3) (g 4) L f (-7) (by decide) (by unfold vp_in; decide)) (cwV 1 hts gX7_rests_X7_refuse rfl rfl rfl (by decide +kernel) ⟨Nat.le_of_ble_eq_true rfl, Nat.le_of_ble_eq_true rfl⟩) (wPreV hK hP (hD.weaken (fun _ _ _ _ => trivial)) (va_recv hK hP (ci := 5) (q0 := 0) rfl rfl)) rfl rfl hl.1 rfl (lv_room (Nat.le_of_ble_eq_true rfl)) dX7_rests_62 ⟨Nat.le_of_ble_eq_true rfl, Nat.le_of_ble_eq_true rfl⟩) hS (fun q _ h => hFc q h) hFc (fun r u t H locs ht hvm hw hB _ _ hS => ?_)
          obtain ⟨hP, -, hD⟩ := hB
          rw [ht] at hP
          replace hD := hD.weaken (fun _ q _ h => hFc q.1 h)
          rw [hw.2] at hP hD
          rw [hw.1]
          clear hw hFc
          have hP : va_P Dg vwCl (cX x0 b z (-7) (σ.1 2 0) (σ.1 2 1) (σ.1 2 2) (σ.1 2 3) (σ.1 2 4) (rfO (-7) (σ.1 1)) (g 0) (g 1) (g 2) (g 3) (g 4) ++ va_pl L f) H := hP
          have hD : va_D A (cX x0 b z (-7) (σ.1 2 0) (σ.1 2 1) (σ.1 2 2) (σ.1 2 3) (σ.1 2 4) (rfO (-7) (σ.1 1)) (g 0) (g 1) (g 2) (g 3) (g 4) ++ va_pl L f) := hD
          have hw : wh_rests σ p1 p2 = (-7) := by simp only [wh_rests, if_pos c_1, if_pos c_3, if_pos c_5, if_neg (ng1_ge c_7)]
          have hn : ¬ wh_rests σ p1 p2 = 0 := by rw [hw]; decide
          exact W.iret (v := (-7)) hx hb hr (fun t ht hW => ⟨⟨_, (cX x0 b z (-7) (σ.1 2 0) (σ.1 2 1) (σ.1 2 2) (σ.1 2 3) (σ.1 2 4) (rfO (-7) (σ.1 1)) (g 0) (g 1) (g 2) (g 3) (g 4) ++ va_pl L f), rfl, ⟨by rw [an_rests, if_neg hn, hw]; try rfl, L, f, ad, g, by rw [nw_rests, if_neg hn, hw]; rfl, by rw [nw_rests, if_neg hn]; exact CI_rf hC _⟩, by rw [ht]; exact hP, va_K.moved hW.alike hK, hD⟩, hS.F ht⟩) hS.2.2 dX7_rests_65
      · refine W.eq (g2 := F0 m 33 ls [.null]) (by rw [sR_1 c_5]) ?_
        refine lv_astoreN (lv' := [(5, .null), (4, .ref (ad 1 (ix p2))), (3, .ref (ad 2 (ix p1))), (0, .ref x0), (1, .int p1), (2, .int p2)]) hx hb dX7_rests_33 hl (by decide) rfl (fun ls hl => ?_)
        refine lv_aloadN hx hb dX7_rests_35 (lv_at hl 0 rfl) ?_
        refine lv_ifnonnullN hx hb dX7_rests_37 ?_
        refine lv_aload_n hx hb dX7_rests_40 rfl (lv_at hl 3 rfl) ?_
        refine lv_bipush (v := (-10)) hx hb dX7_rests_41 (by decide) ?_
        have hFc := wFree hD hS hA
        refine va_calli (va_runV (As := [.int (-10)]) (rest := []) ⟨hx, hb, hml, hown, hts⟩ (met_X7_refuse l Dg x0 s.heap.size b z (σ.1 0 0) (σ.1 2 0) (σ.1 2 1) (σ.1 2 2) (σ.1 2 3) (σ.1 2 4) (σ.1 1) (g 0) (g 1) (g 2) (g 3) (g 4) L f (-10) (by decide) (by unfold vp_in; decide)) (cwV 1 hts gX7_rests_X7_refuse rfl rfl rfl (by decide +kernel) ⟨Nat.le_of_ble_eq_true rfl, Nat.le_of_ble_eq_true rfl⟩) (wPreV hK hP (hD.weaken (fun _ _ _ _ => trivial)) (va_recv hK hP (ci := 5) (q0 := 0) rfl rfl)) rfl rfl hl.1 rfl (lv_room (Nat.le_of_ble_eq_true rfl)) dX7_rests_43 ⟨Nat.le_of_ble_eq_true rfl, Nat.le_of_ble_eq_true rfl⟩) hS (fun q _ h => hFc q h) hFc (fun r u t H locs ht hvm hw hB _ _ hS => ?_)
        obtain ⟨hP, -, hD⟩ := hB
        rw [ht] at hP
        replace hD := hD.weaken (fun _ q _ h => hFc q.1 h)
        rw [hw.2] at hP hD
        rw [hw.1]
        clear hw hFc
        have hP : va_P Dg vwCl (cX x0 b z (-10) (σ.1 2 0) (σ.1 2 1) (σ.1 2 2) (σ.1 2 3) (σ.1 2 4) (rfO (-10) (σ.1 1)) (g 0) (g 1) (g 2) (g 3) (g 4) ++ va_pl L f) H := hP
        have hD : va_D A (cX x0 b z (-10) (σ.1 2 0) (σ.1 2 1) (σ.1 2 2) (σ.1 2 3) (σ.1 2 4) (rfO (-10) (σ.1 1)) (g 0) (g 1) (g 2) (g 3) (g 4) ++ va_pl L f) := hD
        have hw : wh_rests σ p1 p2 = (-10) := by simp only [wh_rests, if_pos c_1, if_pos c_3, if_neg c_5]
        have hn : ¬ wh_rests σ p1 p2 = 0 := by rw [hw]; decide
        exact W.iret (v := (-10)) hx hb hr (fun t ht hW => ⟨⟨_, (cX x0 b z (-10) (σ.1 2 0) (σ.1 2 1) (σ.1 2 2) (σ.1 2 3) (σ.1 2 4) (rfO (-10) (σ.1 1)) (g 0) (g 1) (g 2) (g 3) (g 4) ++ va_pl L f), rfl, ⟨by rw [an_rests, if_neg hn, hw]; try rfl, L, f, ad, g, by rw [nw_rests, if_neg hn, hw]; rfl, by rw [nw_rests, if_neg hn]; exact CI_rf hC _⟩, by rw [ht]; exact hP, va_K.moved hW.alike hK, hD⟩, hS.F ht⟩) hS.2.2 dX7_rests_46
    · refine va_csq ((va_runV (As := [.int p2]) (rest := []) ⟨hx, hb, hml, hown, hts⟩ (met_X7_registerAt l Dg x0 b z (σ.1 0 0) (σ.1 2 0) (σ.1 2 1) (σ.1 2 2) (σ.1 2 3) (σ.1 2 4) (σ.1 1) (g 0) (g 1) (g 2) (g 3) (g 4) L f p2 hV.1.2.1) (cwV 1 hts gX7_rests_X7_registerAt rfl rfl rfl (by decide +kernel) ⟨Nat.le_of_ble_eq_true rfl, Nat.le_of_ble_eq_true rfl⟩) (rPreV hK hP (va_recv hK hP (ci := 5) (q0 := 0) rfl rfl)) rfl rfl hl.1 rfl (lv_room (Nat.le_of_ble_eq_true rfl)) dX7_rests_8 ⟨Nat.le_of_ble_eq_true rfl, Nat.le_of_ble_eq_true rfl⟩).run) (fun r hw => ?_)
      obtain rfl : r = none := hw.trans (if_neg c_3)
      refine W.eq (g2 := F0 m 11 ls [.null]) rfl ?_
      refine lv_astoreN (lv' := [(4, .null), (3, .ref (ad 2 (ix p1))), (0, .ref x0), (1, .int p1), (2, .int p2)]) hx hb dX7_rests_11 hl (by decide) rfl (fun ls hl => ?_)
      refine lv_aload_n hx hb dX7_rests_13 rfl (lv_at hl 1 rfl) ?_
      refine lv_ifnull hx hb dX7_rests_14 ?_
      refine lv_aloadN hx hb dX7_rests_17 (lv_at hl 0 rfl) ?_
      refine lv_ifnonnullN hx hb dX7_rests_19 ?_
      refine lv_aload_n hx hb dX7_rests_22 rfl (lv_at hl 2 rfl) ?_
      refine lv_bipush (v := (-2)) hx hb dX7_rests_23 (by decide) ?_
      have hFc := wFree hD hS hA
      refine va_calli (va_runV (As := [.int (-2)]) (rest := []) ⟨hx, hb, hml, hown, hts⟩ (met_X7_refuse l Dg x0 s.heap.size b z (σ.1 0 0) (σ.1 2 0) (σ.1 2 1) (σ.1 2 2) (σ.1 2 3) (σ.1 2 4) (σ.1 1) (g 0) (g 1) (g 2) (g 3) (g 4) L f (-2) (by decide) (by unfold vp_in; decide)) (cwV 1 hts gX7_rests_X7_refuse rfl rfl rfl (by decide +kernel) ⟨Nat.le_of_ble_eq_true rfl, Nat.le_of_ble_eq_true rfl⟩) (wPreV hK hP (hD.weaken (fun _ _ _ _ => trivial)) (va_recv hK hP (ci := 5) (q0 := 0) rfl rfl)) rfl rfl hl.1 rfl (lv_room (Nat.le_of_ble_eq_true rfl)) dX7_rests_25 ⟨Nat.le_of_ble_eq_true rfl, Nat.le_of_ble_eq_true rfl⟩) hS (fun q _ h => hFc q h) hFc (fun r u t H locs ht hvm hw hB _ _ hS => ?_)
      obtain ⟨hP, -, hD⟩ := hB
      rw [ht] at hP
      replace hD := hD.weaken (fun _ q _ h => hFc q.1 h)
      rw [hw.2] at hP hD
      rw [hw.1]
      clear hw hFc
      have hP : va_P Dg vwCl (cX x0 b z (-2) (σ.1 2 0) (σ.1 2 1) (σ.1 2 2) (σ.1 2 3) (σ.1 2 4) (rfO (-2) (σ.1 1)) (g 0) (g 1) (g 2) (g 3) (g 4) ++ va_pl L f) H := hP
      have hD : va_D A (cX x0 b z (-2) (σ.1 2 0) (σ.1 2 1) (σ.1 2 2) (σ.1 2 3) (σ.1 2 4) (rfO (-2) (σ.1 1)) (g 0) (g 1) (g 2) (g 3) (g 4) ++ va_pl L f) := hD
      have hw : wh_rests σ p1 p2 = (-2) := by simp only [wh_rests, if_pos c_1, if_neg c_3]
      have hn : ¬ wh_rests σ p1 p2 = 0 := by rw [hw]; decide
      exact W.iret (v := (-2)) hx hb hr (fun t ht hW => ⟨⟨_, (cX x0 b z (-2) (σ.1 2 0) (σ.1 2 1) (σ.1 2 2) (σ.1 2 3) (σ.1 2 4) (rfO (-2) (σ.1 1)) (g 0) (g 1) (g 2) (g 3) (g 4) ++ va_pl L f), rfl, ⟨by rw [an_rests, if_neg hn, hw]; try rfl, L, f, ad, g, by rw [nw_rests, if_neg hn, hw]; rfl, by rw [nw_rests, if_neg hn]; exact CI_rf hC _⟩, by rw [ht]; exact hP, va_K.moved hW.alike hK, hD⟩, hS.F ht⟩) hS.2.2 dX7_rests_28
  · refine va_csq ((va_runV (As := [.int p1]) (rest := []) ⟨hx, hb, hml, hown, hts⟩ (met_X7_stripAt l Dg x0 b z (σ.1 0 0) (σ.1 2 0) (σ.1 2 1) (σ.1 2 2) (σ.1 2 3) (σ.1 2 4) (σ.1 1) (g 0) (g 1) (g 2) (g 3) (g 4) L f p1 hV.1.2.2.1) (cwV 1 hts gX7_rests_X7_stripAt rfl rfl rfl (by decide +kernel) ⟨Nat.le_of_ble_eq_true rfl, Nat.le_of_ble_eq_true rfl⟩) (rPreV hK hP (va_recv hK hP (ci := 5) (q0 := 0) rfl rfl)) rfl rfl hl.1 rfl (lv_room (Nat.le_of_ble_eq_true rfl)) dX7_rests_2 ⟨Nat.le_of_ble_eq_true rfl, Nat.le_of_ble_eq_true rfl⟩).run) (fun r hw => ?_)
    obtain rfl : r = none := hw.trans (if_neg c_1)
    refine W.eq (g2 := F0 m 5 ls [.null]) rfl ?_
    refine lv_astore_nN (lv' := [(3, .null), (0, .ref x0), (1, .int p1), (2, .int p2)]) hx hb dX7_rests_5 rfl hl (by decide) rfl (fun ls hl => ?_)
    refine lv_aload_n hx hb dX7_rests_6 rfl (lv_at hl 1 rfl) ?_
    refine lv_iload_n hx hb dX7_rests_7 rfl (lv_at hl 3 rfl) ?_
    rcases Decidable.em (fX8_isIn p2 0 ((σ.1 2 1) - 1) = true) with c_13 | c_13
    · refine va_csq ((va_runV (As := [.int p2]) (rest := []) ⟨hx, hb, hml, hown, hts⟩ (met_X7_registerAt l Dg x0 b z (σ.1 0 0) (σ.1 2 0) (σ.1 2 1) (σ.1 2 2) (σ.1 2 3) (σ.1 2 4) (σ.1 1) (g 0) (g 1) (g 2) (g 3) (g 4) L f p2 hV.1.2.1) (cwV 1 hts gX7_rests_X7_registerAt rfl rfl rfl (by decide +kernel) ⟨Nat.le_of_ble_eq_true rfl, Nat.le_of_ble_eq_true rfl⟩) (rPreV hK hP (va_recv hK hP (ci := 5) (q0 := 0) rfl rfl)) rfl rfl hl.1 rfl (lv_room (Nat.le_of_ble_eq_true rfl)) dX7_rests_8 ⟨Nat.le_of_ble_eq_true rfl, Nat.le_of_ble_eq_true rfl⟩).run) (fun r hw => ?_)
      obtain rfl : r = some (ad 1 (ix p2)) := hw.trans ((if_pos c_13).trans (hC.2.2.1 _ (inC_lt hV.1.2.1 c_13)))
      refine W.eq (g2 := F0 m 11 ls [.ref (ad 1 (ix p2))]) rfl ?_
      have lt_14 := inC_lt hV.1.2.1 c_13
      have o_14 := hC.1.1 1 _ (by decide) lt_14
      have f_14 : f (ad 1 (ix p2)) = .inr (1, [.int (σ.1 4 (ix p2)), .long (σ.2 2 (ix p2))]) := o_14.2
      refine lv_astore (lv' := [(4, .ref (ad 1 (ix p2))), (3, .null), (0, .ref x0), (1, .int p1), (2, .int p2)]) hx hb dX7_rests_11 hl (by decide) rfl (fun ls hl => ?_)
      refine lv_aload_nN hx hb dX7_rests_13 rfl (lv_at hl 1 rfl) ?_
      refine lv_ifnullN (tgt := 22) hx hb dX7_rests_14 (by decide) ?_
      refine lv_aload_n hx hb dX7_rests_22 rfl (lv_at hl 2 rfl) ?_
      refine lv_bipush (v := (-2)) hx hb dX7_rests_23 (by decide) ?_
      have hFc := wFree hD hS hA
      refine va_calli (va_runV (As := [.int (-2)]) (rest := []) ⟨hx, hb, hml, hown, hts⟩ (met_X7_refuse l Dg x0 s.heap.size b z (σ.1 0 0) (σ.1 2 0) (σ.1 2 1) (σ.1 2 2) (σ.1 2 3) (σ.1 2 4) (σ.1 1) (g 0) (g 1) (g 2) (g 3) (g 4) L f (-2) (by decide) (by unfold vp_in; decide)) (cwV 1 hts gX7_rests_X7_refuse rfl rfl rfl (by decide +kernel) ⟨Nat.le_of_ble_eq_true rfl, Nat.le_of_ble_eq_true rfl⟩) (wPreV hK hP (hD.weaken (fun _ _ _ _ => trivial)) (va_recv hK hP (ci := 5) (q0 := 0) rfl rfl)) rfl rfl hl.1 rfl (lv_room (Nat.le_of_ble_eq_true rfl)) dX7_rests_25 ⟨Nat.le_of_ble_eq_true rfl, Nat.le_of_ble_eq_true rfl⟩) hS (fun q _ h => hFc q h) hFc (fun r u t H locs ht hvm hw hB _ _ hS => ?_)
      obtain ⟨hP, -, hD⟩ := hB
      rw [ht] at hP
      replace hD := hD.weaken (fun _ q _ h => hFc q.1 h)
      rw [hw.2] at hP hD
      rw [hw.1]
      clear hw hFc
      have hP : va_P Dg vwCl (cX x0 b z (-2) (σ.1 2 0) (σ.1 2 1) (σ.1 2 2) (σ.1 2 3) (σ.1 2 4) (rfO (-2) (σ.1 1)) (g 0) (g 1) (g 2) (g 3) (g 4) ++ va_pl L f) H := hP
      have hD : va_D A (cX x0 b z (-2) (σ.1 2 0) (σ.1 2 1) (σ.1 2 2) (σ.1 2 3) (σ.1 2 4) (rfO (-2) (σ.1 1)) (g 0) (g 1) (g 2) (g 3) (g 4) ++ va_pl L f) := hD
      have hw : wh_rests σ p1 p2 = (-2) := by simp only [wh_rests, if_neg c_1, if_pos c_13]
      have hn : ¬ wh_rests σ p1 p2 = 0 := by rw [hw]; decide
      exact W.iret (v := (-2)) hx hb hr (fun t ht hW => ⟨⟨_, (cX x0 b z (-2) (σ.1 2 0) (σ.1 2 1) (σ.1 2 2) (σ.1 2 3) (σ.1 2 4) (rfO (-2) (σ.1 1)) (g 0) (g 1) (g 2) (g 3) (g 4) ++ va_pl L f), rfl, ⟨by rw [an_rests, if_neg hn, hw]; try rfl, L, f, ad, g, by rw [nw_rests, if_neg hn, hw]; rfl, by rw [nw_rests, if_neg hn]; exact CI_rf hC _⟩, by rw [ht]; exact hP, va_K.moved hW.alike hK, hD⟩, hS.F ht⟩) hS.2.2 dX7_rests_28
    · refine va_csq ((va_runV (As := [.int p2]) (rest := []) ⟨hx, hb, hml, hown, hts⟩ (met_X7_registerAt l Dg x0 b z (σ.1 0 0) (σ.1 2 0) (σ.1 2 1) (σ.1 2 2) (σ.1 2 3) (σ.1 2 4) (σ.1 1) (g 0) (g 1) (g 2) (g 3) (g 4) L f p2 hV.1.2.1) (cwV 1 hts gX7_rests_X7_registerAt rfl rfl rfl (by decide +kernel) ⟨Nat.le_of_ble_eq_true rfl, Nat.le_of_ble_eq_true rfl⟩) (rPreV hK hP (va_recv hK hP (ci := 5) (q0 := 0) rfl rfl)) rfl rfl hl.1 rfl (lv_room (Nat.le_of_ble_eq_true rfl)) dX7_rests_8 ⟨Nat.le_of_ble_eq_true rfl, Nat.le_of_ble_eq_true rfl⟩).run) (fun r hw => ?_)
      obtain rfl : r = none := hw.trans (if_neg c_13)
      refine W.eq (g2 := F0 m 11 ls [.null]) rfl ?_
      refine lv_astoreN (lv' := [(4, .null), (3, .null), (0, .ref x0), (1, .int p1), (2, .int p2)]) hx hb dX7_rests_11 hl (by decide) rfl (fun ls hl => ?_)
      refine lv_aload_nN hx hb dX7_rests_13 rfl (lv_at hl 1 rfl) ?_
      refine lv_ifnullN (tgt := 22) hx hb dX7_rests_14 (by decide) ?_
      refine lv_aload_n hx hb dX7_rests_22 rfl (lv_at hl 2 rfl) ?_
      refine lv_bipush (v := (-2)) hx hb dX7_rests_23 (by decide) ?_
      have hFc := wFree hD hS hA
      refine va_calli (va_runV (As := [.int (-2)]) (rest := []) ⟨hx, hb, hml, hown, hts⟩ (met_X7_refuse l Dg x0 s.heap.size b z (σ.1 0 0) (σ.1 2 0) (σ.1 2 1) (σ.1 2 2) (σ.1 2 3) (σ.1 2 4) (σ.1 1) (g 0) (g 1) (g 2) (g 3) (g 4) L f (-2) (by decide) (by unfold vp_in; decide)) (cwV 1 hts gX7_rests_X7_refuse rfl rfl rfl (by decide +kernel) ⟨Nat.le_of_ble_eq_true rfl, Nat.le_of_ble_eq_true rfl⟩) (wPreV hK hP (hD.weaken (fun _ _ _ _ => trivial)) (va_recv hK hP (ci := 5) (q0 := 0) rfl rfl)) rfl rfl hl.1 rfl (lv_room (Nat.le_of_ble_eq_true rfl)) dX7_rests_25 ⟨Nat.le_of_ble_eq_true rfl, Nat.le_of_ble_eq_true rfl⟩) hS (fun q _ h => hFc q h) hFc (fun r u t H locs ht hvm hw hB _ _ hS => ?_)
      obtain ⟨hP, -, hD⟩ := hB
      rw [ht] at hP
      replace hD := hD.weaken (fun _ q _ h => hFc q.1 h)
      rw [hw.2] at hP hD
      rw [hw.1]
      clear hw hFc
      have hP : va_P Dg vwCl (cX x0 b z (-2) (σ.1 2 0) (σ.1 2 1) (σ.1 2 2) (σ.1 2 3) (σ.1 2 4) (rfO (-2) (σ.1 1)) (g 0) (g 1) (g 2) (g 3) (g 4) ++ va_pl L f) H := hP
      have hD : va_D A (cX x0 b z (-2) (σ.1 2 0) (σ.1 2 1) (σ.1 2 2) (σ.1 2 3) (σ.1 2 4) (rfO (-2) (σ.1 1)) (g 0) (g 1) (g 2) (g 3) (g 4) ++ va_pl L f) := hD
      have hw : wh_rests σ p1 p2 = (-2) := by simp only [wh_rests, if_neg c_1, if_neg c_13]
      have hn : ¬ wh_rests σ p1 p2 = 0 := by rw [hw]; decide
      exact W.iret (v := (-2)) hx hb hr (fun t ht hW => ⟨⟨_, (cX x0 b z (-2) (σ.1 2 0) (σ.1 2 1) (σ.1 2 2) (σ.1 2 3) (σ.1 2 4) (rfO (-2) (σ.1 1)) (g 0) (g 1) (g 2) (g 3) (g 4) ++ va_pl L f), rfl, ⟨by rw [an_rests, if_neg hn, hw]; try rfl, L, f, ad, g, by rw [nw_rests, if_neg hn, hw]; rfl, by rw [nw_rests, if_neg hn]; exact CI_rf hC _⟩, by rw [ht]; exact hP, va_K.moved hW.alike hK, hD⟩, hS.F ht⟩) hS.2.2 dX7_rests_28

theorem in_X1_X7_putAtN : ∀ w ∈ wsX10, w ∈ wsX7_putAt := fun w h => List.mem_cons_of_mem _ (List.mem_append_left _ (List.mem_append_left _ (List.mem_append_right _ h)))
theorem in_X4_X7_putAtN : ∀ w ∈ wsX40, w ∈ wsX7_putAt := fun w h => List.mem_cons_of_mem _ (List.mem_append_left _ (List.mem_append_right _ h))
theorem in_X7_X7_putAtN : ∀ w ∈ wsX70, w ∈ wsX7_putAt := fun w h => List.mem_cons_of_mem _ (List.mem_append_right _ h)
set_option maxHeartbeats 4000000 in
set_option maxRecDepth 100000 in
theorem met_X7_putAtN (l : Launch) (Dg : va_G) (x0 sz : Nat) (b : Nat → Nat) (z : Nat → ClassId) (σ : St) (L : List Nat) (f : Nat → va_E) (ad : Nat → Nat → Nat) (g : Nat → Nat → Option Nat) (p1 : Int32) (p2 : Int32) (p3 : Int32) (hV : vOK σ) (hC : CI z σ L f ad g) (hs1 : fX8_isIn p1 0 (σ.1 2 4 - 1) = true) (hp1 : p3 = -1) : Met l yX7_putAt wsX7_putAt ({ frames := 1, cells := 0, slots := 0, locals := 21 }) (va_Pc [.ref x0, .ref (ad 5 (ix p1)), .int p2, .null] (wB Dg (cT z) (cX x0 b z (σ.1 0 0) (σ.1 2 0) (σ.1 2 1) (σ.1 2 2) (σ.1 2 3) (σ.1 2 4) (σ.1 1) (g 0) (g 1) (g 2) (g 3) (g 4) ++ va_pl L f) sz)) (va_Qi (fun (r : Int32) (u : va_W) => r = (if lyS σ p1 p2 p3 = 0 then 1 else lyS σ p1 p2 p3) ∧ CX x0 b z (if lyS σ p1 p2 p3 = 0 then sI (ok0 σ) 12 (6 * ix p1 + ix p2) p3 else rf σ (lyS σ p1 p2 p3)) u) (wE Dg (cT z) (va_A (cX x0 b z (σ.1 0 0) (σ.1 2 0) (σ.1 2 1) (σ.1 2 2) (σ.1 2 3) (σ.1 2 4) (σ.1 1) (g 0) (g 1) (g 2) (g 3) (g 4) ++ va_pl L f) sz)) (va_A (cX x0 b z (σ.1 0 0) (σ.1 2 0) (σ.1 2 1) (σ.1 2 2) (σ.1 2 3) (σ.1 2 4) (σ.1 1) (g 0) (g 1) (g 2) (g 3) (g 4) ++ va_pl L f) sz)) 0 0 (va_A (cX x0 b z (σ.1 0 0) (σ.1 2 0) (σ.1 2 1) (σ.1 2 2) (σ.1 2 3) (σ.1 2 4) (σ.1 1) (g 0) (g 1) (g 2) (g 3) (g 4) ++ va_pl L f) sz) := by
  refine Met.ofW (cc := cX7_putAt) (maxL := 4) (ret := (some .int)) (by decide) rfl ?_
  intro p e s m args below meth c s₁ B hml hv
  obtain ⟨rfl, hsz, hP, hK, hD0⟩ := hv
  have hx := B.exec
  have hb := B.bytes
  have hr := B.returns
  have hts := atoms_spec (ws := wsX7_putAt) B.pre
  have hown : s.vm.findClass RX7 = some m.cls := findClass_of_methodNamed B.named
  have hlocks := B.notSynchronized
  subst hsz
  have hD := hD0.self (sz := s.heap.size)
  generalize hAe : va_A (cX x0 b z (σ.1 0 0) (σ.1 2 0) (σ.1 2 1) (σ.1 2 2) (σ.1 2 3) (σ.1 2 4) (σ.1 1) (g 0) (g 1) (g 2) (g 3) (g 4) ++ va_pl L f) s.heap.size = A at hD ⊢
  have hA : ∀ q : Nat, s.heap.size ≤ q → A q := fun q h => by rw [← hAe]; exact Or.inr h
  have hS : va_S A s.heap s.heap [] := va_S.rf
  have hP : va_P Dg vwCl (cX x0 b z (σ.1 0 0) (σ.1 2 0) (σ.1 2 1) (σ.1 2 2) (σ.1 2 3) (σ.1 2 4) (σ.1 1) (g 0) (g 1) (g 2) (g 3) (g 4) ++ va_pl L f) s.heap := hP
  have hl := lv_entry ([.ref x0, .ref (ad 5 (ix p1)), .int p2, .null]) (n := 4) (Nat.le_of_ble_eq_true rfl)
  rw [lg_entry_eq]
  generalize (lg_sl ([.ref x0, .ref (ad 5 (ix p1)), .int p2, .null]) ++ List.replicate (4 - (lg_sl ([.ref x0, .ref (ad 5 (ix p1)), .int p2, .null])).length) Slot.unset).toArray = ls at hl ⊢
  have hl : lv_has ls 4 [(0, .ref x0), (1, .ref (ad 5 (ix p1))), (2, .int p2), (3, .null)] := hl
  have lt_s := inC_lt hV.1.2.2.2.2 hs1
  have o_s := hC.1.1 5 _ (by decide) lt_s
  have f_s : f (ad 5 (ix p1)) = .inr (2, [.int (σ.1 10 (ix p1)), .ref (ad 6 (ix p1))]) := o_s.2
  have o6_s := hC.1.1 6 _ (by decide) lt_s
  obtain ⟨gg, ge, gv⟩ := o6_s.2
  have T1 := hV.2.2.2.2.2 _ lt_s
  refine lv_aload_n hx hb dX7_putAt_0 rfl (lv_at hl 1 rfl) ?_
  refine lv_iload_n hx hb dX7_putAt_1 rfl (lv_at hl 2 rfl) ?_
  have hP2 := P_two hP o_s.1 f_s o6_s.1 ge
  have hK2 := hK.sub (tys' := [(z 3, .object RX1)]) [3] rfl
  refine vp_callSi ((va_runV (As := [.int p2]) (rest := []) ⟨hx, hb, hml, hown, hts⟩ (met_X4_hasPlace l Dg (ad 5 (ix p1)) (ad 6 (ix p1)) (z 3) (σ.1 10 (ix p1)) (σ.1 11 (ix p1)) gg p2 T1.2.1) (cwV 1 hts gX7_putAt_X4_hasPlace rfl rfl rfl (by decide +kernel) ⟨Nat.le_of_ble_eq_true rfl, Nat.le_of_ble_eq_true rfl⟩) (rPreV hK2 hP2 (va_recv hK2 hP2 (ci := 2) (q0 := 0) rfl rfl)) rfl rfl hl.1 rfl (lv_room (Nat.le_of_ble_eq_true rfl)) dX7_putAt_2 ⟨Nat.le_of_ble_eq_true rfl, Nat.le_of_ble_eq_true rfl⟩).run) (fun r hw => ?_)
  rw [hw]
  clear hP2 hK2
  refine lv_if_ne (tgt := 15) hx hb dX7_putAt_5 (by decide) (fun c_1 => ?_) (fun c_1 => ?_)
  · replace c_1 := bI_ne c_1
    refine lv_aload_nN hx hb dX7_putAt_15 rfl (lv_at hl 3 rfl) ?_
    refine lv_ifnullN (tgt := 37) hx hb dX7_putAt_16 (by decide) ?_
    have hjr := j_rng hV hs1 c_1
    have hj := ix_lt (n := 6) hjr
    have hI : vp_in p2 (ix (σ.1 11 (ix p1))) := in_st T1.2.1 c_1
    refine lv_aload_n hx hb dX7_putAt_37 rfl (lv_at hl 1 rfl) ?_
    refine vg_get (D := Dg) (ci := 2) (v := .ref (ad 6 (ix p1))) (C := RX4) (T := TX4) (N := 2) hx hb hts in_X4_X7_putAtN hown hK hP o_s.1 f_s rfl 1 (by decide) (hts (.fieldLink RX7 197 "OrreryWorks$Stand" "places" "[LOrreryWorks$Pointer;") (by decide +kernel)) (fun _ h9 => h9) rfl dX7_putAt_38 ?_
    refine lv_iload_n hx hb dX7_putAt_41 rfl (lv_at hl 2 rfl) ?_
    refine lv_aload_nN hx hb dX7_putAt_42 rfl (lv_at hl 3 rfl) ?_
    refine vg_astqN hx hb hK hP hD hS 3 o6_s.1 ge rfl hI dX7_putAt_43 (fun H locs hP hD hS => ?_)
    have hP : va_P Dg vwCl (cX x0 b z (σ.1 0 0) (σ.1 2 0) (σ.1 2 1) (σ.1 2 2) (σ.1 2 3) (σ.1 2 4) (σ.1 1) (g 0) (g 1) (g 2) (g 3) (g 4) ++ va_pl L (va_up f (ad 6 (ix p1)) (.inl (z 3, ix (σ.1 11 (ix p1)), .inr (.inr (.inr (.inr (va_up gg p2.toNatClampNeg (none))))))))) H := hP
    have hD : va_D A (cX x0 b z (σ.1 0 0) (σ.1 2 0) (σ.1 2 1) (σ.1 2 2) (σ.1 2 3) (σ.1 2 4) (σ.1 1) (g 0) (g 1) (g 2) (g 3) (g 4) ++ va_pl L (va_up f (ad 6 (ix p1)) (.inl (z 3, ix (σ.1 11 (ix p1)), .inr (.inr (.inr (.inr (va_up gg p2.toNatClampNeg (none))))))))) := hD
    refine lv_aload_n hx hb dX7_putAt_44 rfl (lv_at hl 0 rfl) ?_
    refine lv_iconst (v := 1) hx hb dX7_putAt_45 (by decide) ?_
    have hFc := wFree hD hS hA
    refine va_calli (va_runV (As := [.int 1]) (rest := []) ⟨hx, hb, hml, hown, hts⟩ (met_X7_answer l Dg x0 H.size b z (σ.1 0 0) (σ.1 2 0) (σ.1 2 1) (σ.1 2 2) (σ.1 2 3) (σ.1 2 4) (σ.1 1) (g 0) (g 1) (g 2) (g 3) (g 4) L (va_up f (ad 6 (ix p1)) (.inl (z 3, ix (σ.1 11 (ix p1)), .inr (.inr (.inr (.inr (va_up gg p2.toNatClampNeg (none)))))))) 1 ) (cwV 1 hts gX7_putAt_X7_answer rfl rfl rfl (by decide +kernel) ⟨Nat.le_of_ble_eq_true rfl, Nat.le_of_ble_eq_true rfl⟩) (wPreV hK hP (hD.weaken (fun _ _ _ _ => trivial)) (va_recv hK hP (ci := 5) (q0 := 0) rfl rfl)) rfl rfl hl.1 rfl (lv_room (Nat.le_of_ble_eq_true rfl)) dX7_putAt_46 ⟨Nat.le_of_ble_eq_true rfl, Nat.le_of_ble_eq_true rfl⟩) hS (fun q _ h => hFc q h) hFc (fun r u t H locs ht hvm hw hB _ _ hS => ?_)
    obtain ⟨hP, -, hD⟩ := hB
    rw [ht] at hP
    replace hD := hD.weaken (fun _ q _ h => hFc q.1 h)
    rw [hw.2] at hP hD
    rw [hw.1]
    clear hw hFc
    have hP : va_P Dg vwCl (cX x0 b z 0 (σ.1 2 0) (σ.1 2 1) (σ.1 2 2) (σ.1 2 3) (σ.1 2 4) (σ.1 1) (g 0) (g 1) (g 2) (g 3) (g 4) ++ va_pl L (va_up f (ad 6 (ix p1)) (.inl (z 3, ix (σ.1 11 (ix p1)), .inr (.inr (.inr (.inr (va_up gg p2.toNatClampNeg (none))))))))) H := hP
    have hD : va_D A (cX x0 b z 0 (σ.1 2 0) (σ.1 2 1) (σ.1 2 2) (σ.1 2 3) (σ.1 2 4) (σ.1 1) (g 0) (g 1) (g 2) (g 3) (g 4) ++ va_pl L (va_up f (ad 6 (ix p1)) (.inl (z 3, ix (σ.1 11 (ix p1)), .inr (.inr (.inr (.inr (va_up gg p2.toNatClampNeg (none))))))))) := hD
    have hL : lyS σ p1 p2 p3 = 0 := by simp only [lyS, if_pos c_1, if_pos hp1]
    exact W.iret (v := 1) hx hb hr (fun t ht hW => ⟨⟨_, (cX x0 b z 0 (σ.1 2 0) (σ.1 2 1) (σ.1 2 2) (σ.1 2 3) (σ.1 2 4) (σ.1 1) (g 0) (g 1) (g 2) (g 3) (g 4) ++ va_pl L (va_up f (ad 6 (ix p1)) (.inl (z 3, ix (σ.1 11 (ix p1)), .inr (.inr (.inr (.inr (va_up gg p2.toNatClampNeg (none))))))))), rfl, ⟨by rw [if_pos hL], L, va_up f (ad 6 (ix p1)) (.inl (z 3, ix (σ.1 11 (ix p1)), .inr (.inr (.inr (.inr (va_up gg p2.toNatClampNeg (none))))))), ad, g, by rw [if_pos hL]; rfl, by rw [if_pos hL]; exact CI_lay hC lt_s hj (by unfold pR; rw [if_pos hp1]) gv⟩, by rw [ht]; exact hP, va_K.moved hW.alike hK, hD⟩, hS.F ht⟩) hS.2.2 dX7_putAt_49
  · replace c_1 := bI_eq c_1
    refine lv_aload_n hx hb dX7_putAt_8 rfl (lv_at hl 0 rfl) ?_
    refine lv_bipush (v := (-8)) hx hb dX7_putAt_9 (by decide) ?_
    have hFc := wFree hD hS hA
    refine va_calli (va_runV (As := [.int (-8)]) (rest := []) ⟨hx, hb, hml, hown, hts⟩ (met_X7_refuse l Dg x0 s.heap.size b z (σ.1 0 0) (σ.1 2 0) (σ.1 2 1) (σ.1 2 2) (σ.1 2 3) (σ.1 2 4) (σ.1 1) (g 0) (g 1) (g 2) (g 3) (g 4) L f (-8) (by decide) (by unfold vp_in; decide)) (cwV 1 hts gX7_putAt_X7_refuse rfl rfl rfl (by decide +kernel) ⟨Nat.le_of_ble_eq_true rfl, Nat.le_of_ble_eq_true rfl⟩) (wPreV hK hP (hD.weaken (fun _ _ _ _ => trivial)) (va_recv hK hP (ci := 5) (q0 := 0) rfl rfl)) rfl rfl hl.1 rfl (lv_room (Nat.le_of_ble_eq_true rfl)) dX7_putAt_11 ⟨Nat.le_of_ble_eq_true rfl, Nat.le_of_ble_eq_true rfl⟩) hS (fun q _ h => hFc q h) hFc (fun r u t H locs ht hvm hw hB _ _ hS => ?_)
    obtain ⟨hP, -, hD⟩ := hB
    rw [ht] at hP
    replace hD := hD.weaken (fun _ q _ h => hFc q.1 h)
    rw [hw.2] at hP hD
    rw [hw.1]
    clear hw hFc
    have hP : va_P Dg vwCl (cX x0 b z (-8) (σ.1 2 0) (σ.1 2 1) (σ.1 2 2) (σ.1 2 3) (σ.1 2 4) (rfO (-8) (σ.1 1)) (g 0) (g 1) (g 2) (g 3) (g 4) ++ va_pl L f) H := hP
    have hD : va_D A (cX x0 b z (-8) (σ.1 2 0) (σ.1 2 1) (σ.1 2 2) (σ.1 2 3) (σ.1 2 4) (rfO (-8) (σ.1 1)) (g 0) (g 1) (g 2) (g 3) (g 4) ++ va_pl L f) := hD
    have hL : lyS σ p1 p2 p3 = (-8) := by simp only [lyS, if_neg c_1, if_pos hp1]
    have hn : ¬ lyS σ p1 p2 p3 = 0 := by rw [hL]; decide
    exact W.iret (v := (-8)) hx hb hr (fun t ht hW => ⟨⟨_, (cX x0 b z (-8) (σ.1 2 0) (σ.1 2 1) (σ.1 2 2) (σ.1 2 3) (σ.1 2 4) (rfO (-8) (σ.1 1)) (g 0) (g 1) (g 2) (g 3) (g 4) ++ va_pl L f), rfl, ⟨by rw [if_neg hn, hL], L, f, ad, g, by rw [if_neg hn, hL]; rfl, by rw [if_neg hn]; exact CI_rf hC _⟩, by rw [ht]; exact hP, va_K.moved hW.alike hK, hD⟩, hS.F ht⟩) hS.2.2 dX7_putAt_14

theorem in_X1_X7_putAt : ∀ w ∈ wsX10, w ∈ wsX7_putAt := fun w h => List.mem_cons_of_mem _ (List.mem_append_left _ (List.mem_append_left _ (List.mem_append_right _ h)))
theorem in_X4_X7_putAt : ∀ w ∈ wsX40, w ∈ wsX7_putAt := fun w h => List.mem_cons_of_mem _ (List.mem_append_left _ (List.mem_append_right _ h))
theorem in_X7_X7_putAt : ∀ w ∈ wsX70, w ∈ wsX7_putAt := fun w h => List.mem_cons_of_mem _ (List.mem_append_right _ h)
set_option maxHeartbeats 4000000 in
set_option maxRecDepth 100000 in
theorem met_X7_putAt (l : Launch) (Dg : va_G) (x0 sz : Nat) (b : Nat → Nat) (z : Nat → ClassId) (σ : St) (L : List Nat) (f : Nat → va_E) (ad : Nat → Nat → Nat) (g : Nat → Nat → Option Nat) (p1 : Int32) (p2 : Int32) (p3 : Int32) (hV : vOK σ) (hC : CI z σ L f ad g) (hs1 : fX8_isIn p1 0 (σ.1 2 4 - 1) = true) (hp0 : fX8_isIn p3 0 (σ.1 2 3 - 1) = true) : Met l yX7_putAt wsX7_putAt ({ frames := 1, cells := 0, slots := 0, locals := 21 }) (va_Pc [.ref x0, .ref (ad 5 (ix p1)), .int p2, .ref (ad 4 (ix p3))] (wB Dg (cT z) (cX x0 b z (σ.1 0 0) (σ.1 2 0) (σ.1 2 1) (σ.1 2 2) (σ.1 2 3) (σ.1 2 4) (σ.1 1) (g 0) (g 1) (g 2) (g 3) (g 4) ++ va_pl L f) sz)) (va_Qi (fun (r : Int32) (u : va_W) => r = (if lyS σ p1 p2 p3 = 0 then 1 else lyS σ p1 p2 p3) ∧ CX x0 b z (if lyS σ p1 p2 p3 = 0 then sI (ok0 σ) 12 (6 * ix p1 + ix p2) p3 else rf σ (lyS σ p1 p2 p3)) u) (wE Dg (cT z) (va_A (cX x0 b z (σ.1 0 0) (σ.1 2 0) (σ.1 2 1) (σ.1 2 2) (σ.1 2 3) (σ.1 2 4) (σ.1 1) (g 0) (g 1) (g 2) (g 3) (g 4) ++ va_pl L f) sz)) (va_A (cX x0 b z (σ.1 0 0) (σ.1 2 0) (σ.1 2 1) (σ.1 2 2) (σ.1 2 3) (σ.1 2 4) (σ.1 1) (g 0) (g 1) (g 2) (g 3) (g 4) ++ va_pl L f) sz)) 0 0 (va_A (cX x0 b z (σ.1 0 0) (σ.1 2 0) (σ.1 2 1) (σ.1 2 2) (σ.1 2 3) (σ.1 2 4) (σ.1 1) (g 0) (g 1) (g 2) (g 3) (g 4) ++ va_pl L f) sz) := by
  refine Met.ofW (cc := cX7_putAt) (maxL := 4) (ret := (some .int)) (by decide) rfl ?_
  intro p e s m args below meth c s₁ B hml hv
  obtain ⟨rfl, hsz, hP, hK, hD0⟩ := hv
  have hx := B.exec
  have hb := B.bytes
  have hr := B.returns
  have hts := atoms_spec (ws := wsX7_putAt) B.pre
  have hown : s.vm.findClass RX7 = some m.cls := findClass_of_methodNamed B.named
  have hlocks := B.notSynchronized
  subst hsz
  have hD := hD0.self (sz := s.heap.size)
  generalize hAe : va_A (cX x0 b z (σ.1 0 0) (σ.1 2 0) (σ.1 2 1) (σ.1 2 2) (σ.1 2 3) (σ.1 2 4) (σ.1 1) (g 0) (g 1) (g 2) (g 3) (g 4) ++ va_pl L f) s.heap.size = A at hD ⊢
  have hA : ∀ q : Nat, s.heap.size ≤ q → A q := fun q h => by rw [← hAe]; exact Or.inr h
  have hS : va_S A s.heap s.heap [] := va_S.rf
  have hP : va_P Dg vwCl (cX x0 b z (σ.1 0 0) (σ.1 2 0) (σ.1 2 1) (σ.1 2 2) (σ.1 2 3) (σ.1 2 4) (σ.1 1) (g 0) (g 1) (g 2) (g 3) (g 4) ++ va_pl L f) s.heap := hP
  have hl := lv_entry ([.ref x0, .ref (ad 5 (ix p1)), .int p2, .ref (ad 4 (ix p3))]) (n := 4) (Nat.le_of_ble_eq_true rfl)
  rw [lg_entry_eq]
  generalize (lg_sl ([.ref x0, .ref (ad 5 (ix p1)), .int p2, .ref (ad 4 (ix p3))]) ++ List.replicate (4 - (lg_sl ([.ref x0, .ref (ad 5 (ix p1)), .int p2, .ref (ad 4 (ix p3))])).length) Slot.unset).toArray = ls at hl ⊢
  have hl : lv_has ls 4 [(0, .ref x0), (1, .ref (ad 5 (ix p1))), (2, .int p2), (3, .ref (ad 4 (ix p3)))] := hl
  have lt_s := inC_lt hV.1.2.2.2.2 hs1
  have o_s := hC.1.1 5 _ (by decide) lt_s
  have f_s : f (ad 5 (ix p1)) = .inr (2, [.int (σ.1 10 (ix p1)), .ref (ad 6 (ix p1))]) := o_s.2
  have o6_s := hC.1.1 6 _ (by decide) lt_s
  obtain ⟨gg, ge, gv⟩ := o6_s.2
  have T1 := hV.2.2.2.2.2 _ lt_s
  have lt_p := inC_lt hV.1.2.2.2.1 hp0
  have o_p := hC.1.1 4 _ (by decide) lt_p
  have f_p : f (ad 4 (ix p3)) = .inr (0, [.int (σ.1 8 (ix p3)), .ref (ad 0 (ix (σ.1 9 (ix p3))))]) := o_p.2
  have hp1 : ¬ p3 = -1 := in_n1 hV.1.2.2.2.1 hp0
  have hpk := (hV.2.2.2.2.1 _ lt_p).1
  refine lv_aload_n hx hb dX7_putAt_0 rfl (lv_at hl 1 rfl) ?_
  refine lv_iload_n hx hb dX7_putAt_1 rfl (lv_at hl 2 rfl) ?_
  have hP2 := P_two hP o_s.1 f_s o6_s.1 ge
  have hK2 := hK.sub (tys' := [(z 3, .object RX1)]) [3] rfl
  refine vp_callSi ((va_runV (As := [.int p2]) (rest := []) ⟨hx, hb, hml, hown, hts⟩ (met_X4_hasPlace l Dg (ad 5 (ix p1)) (ad 6 (ix p1)) (z 3) (σ.1 10 (ix p1)) (σ.1 11 (ix p1)) gg p2 T1.2.1) (cwV 1 hts gX7_putAt_X4_hasPlace rfl rfl rfl (by decide +kernel) ⟨Nat.le_of_ble_eq_true rfl, Nat.le_of_ble_eq_true rfl⟩) (rPreV hK2 hP2 (va_recv hK2 hP2 (ci := 2) (q0 := 0) rfl rfl)) rfl rfl hl.1 rfl (lv_room (Nat.le_of_ble_eq_true rfl)) dX7_putAt_2 ⟨Nat.le_of_ble_eq_true rfl, Nat.le_of_ble_eq_true rfl⟩).run) (fun r hw => ?_)
  rw [hw]
  clear hP2 hK2
  refine lv_if_ne (tgt := 15) hx hb dX7_putAt_5 (by decide) (fun c_1 => ?_) (fun c_1 => ?_)
  · replace c_1 := bI_ne c_1
    refine lv_aload_n hx hb dX7_putAt_15 rfl (lv_at hl 3 rfl) ?_
    refine lv_ifnull hx hb dX7_putAt_16 ?_
    refine lv_aload_n hx hb dX7_putAt_19 rfl (lv_at hl 1 rfl) ?_
    refine lv_aload_n hx hb dX7_putAt_20 rfl (lv_at hl 3 rfl) ?_
    refine vg_get (D := Dg) (ci := 0) (v := .int (σ.1 8 (ix p3))) (C := RX1) (T := TX1) (N := 2) hx hb hts in_X1_X7_putAt hown hK hP o_p.1 f_p rfl 0 (by decide) (hts (.fieldLink RX7 189 "OrreryWorks$Pointer" "sort" "I") (by decide +kernel)) (fun _ h9 => h9) rfl dX7_putAt_21 ?_
    have hP2 := P_one hP o_s.1 f_s
    have hK2 := hK.sub (tys' := []) [] rfl
    refine vp_callSi ((va_runV (As := [.int (σ.1 8 (ix p3))]) (rest := []) ⟨hx, hb, hml, hown, hts⟩ (met_X4_isWideFor l Dg (ad 5 (ix p1)) (ad 6 (ix p1)) (σ.1 10 (ix p1)) (σ.1 8 (ix p3)) T1.1 hpk) (cwV 1 hts gX7_putAt_X4_isWideFor rfl rfl rfl (by decide +kernel) ⟨Nat.le_of_ble_eq_true rfl, Nat.le_of_ble_eq_true rfl⟩) (rPreV hK2 hP2 (va_recv hK2 hP2 (ci := 2) (q0 := 0) rfl rfl)) rfl rfl hl.1 rfl (lv_room (Nat.le_of_ble_eq_true rfl)) dX7_putAt_24 ⟨Nat.le_of_ble_eq_true rfl, Nat.le_of_ble_eq_true rfl⟩).run) (fun r hw => ?_)
    rw [hw]
    clear hP2 hK2
    refine lv_if_ne (tgt := 37) hx hb dX7_putAt_27 (by decide) (fun c_2 => ?_) (fun c_2 => ?_)
    · replace c_2 := bI_ne c_2
      have hjr := j_rng hV hs1 c_1
      have hj := ix_lt (n := 6) hjr
      have hI : vp_in p2 (ix (σ.1 11 (ix p1))) := in_st T1.2.1 c_1
      refine lv_aload_n hx hb dX7_putAt_37 rfl (lv_at hl 1 rfl) ?_
      refine vg_get (D := Dg) (ci := 2) (v := .ref (ad 6 (ix p1))) (C := RX4) (T := TX4) (N := 2) hx hb hts in_X4_X7_putAt hown hK hP o_s.1 f_s rfl 1 (by decide) (hts (.fieldLink RX7 197 "OrreryWorks$Stand" "places" "[LOrreryWorks$Pointer;") (by decide +kernel)) (fun _ h9 => h9) rfl dX7_putAt_38 ?_
      refine lv_iload_n hx hb dX7_putAt_41 rfl (lv_at hl 2 rfl) ?_
      refine lv_aload_n hx hb dX7_putAt_42 rfl (lv_at hl 3 rfl) ?_
      refine vg_astq hx hb hK hP hD hS 3 0 o6_s.1 ge rfl o_p.1 f_p rfl hI dX7_putAt_43 (fun H locs hP hD hS => ?_)
      have hP : va_P Dg vwCl (cX x0 b z (σ.1 0 0) (σ.1 2 0) (σ.1 2 1) (σ.1 2 2) (σ.1 2 3) (σ.1 2 4) (σ.1 1) (g 0) (g 1) (g 2) (g 3) (g 4) ++ va_pl L (va_up f (ad 6 (ix p1)) (.inl (z 3, ix (σ.1 11 (ix p1)), .inr (.inr (.inr (.inr (va_up gg p2.toNatClampNeg (some (ad 4 (ix p3))))))))))) H := hP
      have hD : va_D A (cX x0 b z (σ.1 0 0) (σ.1 2 0) (σ.1 2 1) (σ.1 2 2) (σ.1 2 3) (σ.1 2 4) (σ.1 1) (g 0) (g 1) (g 2) (g 3) (g 4) ++ va_pl L (va_up f (ad 6 (ix p1)) (.inl (z 3, ix (σ.1 11 (ix p1)), .inr (.inr (.inr (.inr (va_up gg p2.toNatClampNeg (some (ad 4 (ix p3))))))))))) := hD
      refine lv_aload_n hx hb dX7_putAt_44 rfl (lv_at hl 0 rfl) ?_
      refine lv_iconst (v := 1) hx hb dX7_putAt_45 (by decide) ?_
      have hFc := wFree hD hS hA
      refine va_calli (va_runV (As := [.int 1]) (rest := []) ⟨hx, hb, hml, hown, hts⟩ (met_X7_answer l Dg x0 H.size b z (σ.1 0 0) (σ.1 2 0) (σ.1 2 1) (σ.1 2 2) (σ.1 2 3) (σ.1 2 4) (σ.1 1) (g 0) (g 1) (g 2) (g 3) (g 4) L (va_up f (ad 6 (ix p1)) (.inl (z 3, ix (σ.1 11 (ix p1)), .inr (.inr (.inr (.inr (va_up gg p2.toNatClampNeg (some (ad 4 (ix p3)))))))))) 1 ) (cwV 1 hts gX7_putAt_X7_answer rfl rfl rfl (by decide +kernel) ⟨Nat.le_of_ble_eq_true rfl, Nat.le_of_ble_eq_true rfl⟩) (wPreV hK hP (hD.weaken (fun _ _ _ _ => trivial)) (va_recv hK hP (ci := 5) (q0 := 0) rfl rfl)) rfl rfl hl.1 rfl (lv_room (Nat.le_of_ble_eq_true rfl)) dX7_putAt_46 ⟨Nat.le_of_ble_eq_true rfl, Nat.le_of_ble_eq_true rfl⟩) hS (fun q _ h => hFc q h) hFc (fun r u t H locs ht hvm hw hB _ _ hS => ?_)
      obtain ⟨hP, -, hD⟩ := hB
      rw [ht] at hP
      replace hD := hD.weaken (fun _ q _ h => hFc q.1 h)
      rw [hw.2] at hP hD
      rw [hw.1]
      clear hw hFc
      have hP : va_P Dg vwCl (cX x0 b z 0 (σ.1 2 0) (σ.1 2 1) (σ.1 2 2) (σ.1 2 3) (σ.1 2 4) (σ.1 1) (g 0) (g 1) (g 2) (g 3) (g 4) ++ va_pl L (va_up f (ad 6 (ix p1)) (.inl (z 3, ix (σ.1 11 (ix p1)), .inr (.inr (.inr (.inr (va_up gg p2.toNatClampNeg (some (ad 4 (ix p3))))))))))) H := hP
      have hD : va_D A (cX x0 b z 0 (σ.1 2 0) (σ.1 2 1) (σ.1 2 2) (σ.1 2 3) (σ.1 2 4) (σ.1 1) (g 0) (g 1) (g 2) (g 3) (g 4) ++ va_pl L (va_up f (ad 6 (ix p1)) (.inl (z 3, ix (σ.1 11 (ix p1)), .inr (.inr (.inr (.inr (va_up gg p2.toNatClampNeg (some (ad 4 (ix p3))))))))))) := hD
      have hL : lyS σ p1 p2 p3 = 0 := by simp only [lyS, if_pos c_1, if_pos c_2, if_neg hp1]
      exact W.iret (v := 1) hx hb hr (fun t ht hW => ⟨⟨_, (cX x0 b z 0 (σ.1 2 0) (σ.1 2 1) (σ.1 2 2) (σ.1 2 3) (σ.1 2 4) (σ.1 1) (g 0) (g 1) (g 2) (g 3) (g 4) ++ va_pl L (va_up f (ad 6 (ix p1)) (.inl (z 3, ix (σ.1 11 (ix p1)), .inr (.inr (.inr (.inr (va_up gg p2.toNatClampNeg (some (ad 4 (ix p3))))))))))), rfl, ⟨by rw [if_pos hL], L, va_up f (ad 6 (ix p1)) (.inl (z 3, ix (σ.1 11 (ix p1)), .inr (.inr (.inr (.inr (va_up gg p2.toNatClampNeg (some (ad 4 (ix p3))))))))), ad, g, by rw [if_pos hL]; rfl, by rw [if_pos hL]; exact CI_lay hC lt_s hj (by unfold pR; rw [if_neg hp1]) gv⟩, by rw [ht]; exact hP, va_K.moved hW.alike hK, hD⟩, hS.F ht⟩) hS.2.2 dX7_putAt_49
    · replace c_2 := bI_eq c_2
      refine lv_aload_n hx hb dX7_putAt_30 rfl (lv_at hl 0 rfl) ?_
      refine lv_bipush (v := (-9)) hx hb dX7_putAt_31 (by decide) ?_
      have hFc := wFree hD hS hA
      refine va_calli (va_runV (As := [.int (-9)]) (rest := []) ⟨hx, hb, hml, hown, hts⟩ (met_X7_refuse l Dg x0 s.heap.size b z (σ.1 0 0) (σ.1 2 0) (σ.1 2 1) (σ.1 2 2) (σ.1 2 3) (σ.1 2 4) (σ.1 1) (g 0) (g 1) (g 2) (g 3) (g 4) L f (-9) (by decide) (by unfold vp_in; decide)) (cwV 1 hts gX7_putAt_X7_refuse rfl rfl rfl (by decide +kernel) ⟨Nat.le_of_ble_eq_true rfl, Nat.le_of_ble_eq_true rfl⟩) (wPreV hK hP (hD.weaken (fun _ _ _ _ => trivial)) (va_recv hK hP (ci := 5) (q0 := 0) rfl rfl)) rfl rfl hl.1 rfl (lv_room (Nat.le_of_ble_eq_true rfl)) dX7_putAt_33 ⟨Nat.le_of_ble_eq_true rfl, Nat.le_of_ble_eq_true rfl⟩) hS (fun q _ h => hFc q h) hFc (fun r u t H locs ht hvm hw hB _ _ hS => ?_)
      obtain ⟨hP, -, hD⟩ := hB
      rw [ht] at hP
      replace hD := hD.weaken (fun _ q _ h => hFc q.1 h)
      rw [hw.2] at hP hD
      rw [hw.1]
      clear hw hFc
      have hP : va_P Dg vwCl (cX x0 b z (-9) (σ.1 2 0) (σ.1 2 1) (σ.1 2 2) (σ.1 2 3) (σ.1 2 4) (rfO (-9) (σ.1 1)) (g 0) (g 1) (g 2) (g 3) (g 4) ++ va_pl L f) H := hP
      have hD : va_D A (cX x0 b z (-9) (σ.1 2 0) (σ.1 2 1) (σ.1 2 2) (σ.1 2 3) (σ.1 2 4) (rfO (-9) (σ.1 1)) (g 0) (g 1) (g 2) (g 3) (g 4) ++ va_pl L f) := hD
      have hL : lyS σ p1 p2 p3 = (-9) := by simp only [lyS, if_pos c_1, if_neg c_2, if_neg hp1]
      have hn : ¬ lyS σ p1 p2 p3 = 0 := by rw [hL]; decide
      exact W.iret (v := (-9)) hx hb hr (fun t ht hW => ⟨⟨_, (cX x0 b z (-9) (σ.1 2 0) (σ.1 2 1) (σ.1 2 2) (σ.1 2 3) (σ.1 2 4) (rfO (-9) (σ.1 1)) (g 0) (g 1) (g 2) (g 3) (g 4) ++ va_pl L f), rfl, ⟨by rw [if_neg hn, hL], L, f, ad, g, by rw [if_neg hn, hL]; rfl, by rw [if_neg hn]; exact CI_rf hC _⟩, by rw [ht]; exact hP, va_K.moved hW.alike hK, hD⟩, hS.F ht⟩) hS.2.2 dX7_putAt_36
  · replace c_1 := bI_eq c_1
    refine lv_aload_n hx hb dX7_putAt_8 rfl (lv_at hl 0 rfl) ?_
    refine lv_bipush (v := (-8)) hx hb dX7_putAt_9 (by decide) ?_
    have hFc := wFree hD hS hA
    refine va_calli (va_runV (As := [.int (-8)]) (rest := []) ⟨hx, hb, hml, hown, hts⟩ (met_X7_refuse l Dg x0 s.heap.size b z (σ.1 0 0) (σ.1 2 0) (σ.1 2 1) (σ.1 2 2) (σ.1 2 3) (σ.1 2 4) (σ.1 1) (g 0) (g 1) (g 2) (g 3) (g 4) L f (-8) (by decide) (by unfold vp_in; decide)) (cwV 1 hts gX7_putAt_X7_refuse rfl rfl rfl (by decide +kernel) ⟨Nat.le_of_ble_eq_true rfl, Nat.le_of_ble_eq_true rfl⟩) (wPreV hK hP (hD.weaken (fun _ _ _ _ => trivial)) (va_recv hK hP (ci := 5) (q0 := 0) rfl rfl)) rfl rfl hl.1 rfl (lv_room (Nat.le_of_ble_eq_true rfl)) dX7_putAt_11 ⟨Nat.le_of_ble_eq_true rfl, Nat.le_of_ble_eq_true rfl⟩) hS (fun q _ h => hFc q h) hFc (fun r u t H locs ht hvm hw hB _ _ hS => ?_)
    obtain ⟨hP, -, hD⟩ := hB
    rw [ht] at hP
    replace hD := hD.weaken (fun _ q _ h => hFc q.1 h)
    rw [hw.2] at hP hD
    rw [hw.1]
    clear hw hFc
    have hP : va_P Dg vwCl (cX x0 b z (-8) (σ.1 2 0) (σ.1 2 1) (σ.1 2 2) (σ.1 2 3) (σ.1 2 4) (rfO (-8) (σ.1 1)) (g 0) (g 1) (g 2) (g 3) (g 4) ++ va_pl L f) H := hP
    have hD : va_D A (cX x0 b z (-8) (σ.1 2 0) (σ.1 2 1) (σ.1 2 2) (σ.1 2 3) (σ.1 2 4) (rfO (-8) (σ.1 1)) (g 0) (g 1) (g 2) (g 3) (g 4) ++ va_pl L f) := hD
    have hL : lyS σ p1 p2 p3 = (-8) := by simp only [lyS, if_neg c_1, if_neg hp1]
    have hn : ¬ lyS σ p1 p2 p3 = 0 := by rw [hL]; decide
    exact W.iret (v := (-8)) hx hb hr (fun t ht hW => ⟨⟨_, (cX x0 b z (-8) (σ.1 2 0) (σ.1 2 1) (σ.1 2 2) (σ.1 2 3) (σ.1 2 4) (rfO (-8) (σ.1 1)) (g 0) (g 1) (g 2) (g 3) (g 4) ++ va_pl L f), rfl, ⟨by rw [if_neg hn, hL], L, f, ad, g, by rw [if_neg hn, hL]; rfl, by rw [if_neg hn]; exact CI_rf hC _⟩, by rw [ht]; exact hP, va_K.moved hW.alike hK, hD⟩, hS.F ht⟩) hS.2.2 dX7_putAt_14

theorem in_X7_X7_hang : ∀ w ∈ wsX70, w ∈ wsX7_hang := fun w h => List.mem_cons_of_mem _ (List.mem_append_left _ (List.mem_append_left _ (List.mem_append_right _ h)))
theorem in_X1_X7_hang : ∀ w ∈ wsX10, w ∈ wsX7_hang := fun w h => List.mem_cons_of_mem _ (List.mem_append_left _ (List.mem_append_right _ h))
theorem in_X4_X7_hang : ∀ w ∈ wsX40, w ∈ wsX7_hang := fun w h => List.mem_cons_of_mem _ (List.mem_append_right _ h)
set_option maxHeartbeats 4000000 in
set_option maxRecDepth 100000 in
theorem met_X7_hang (l : Launch) (Dg : va_G) (x0 sz : Nat) (b : Nat → Nat) (z : Nat → ClassId) (σ : St) (L : List Nat) (f : Nat → va_E) (ad : Nat → Nat → Nat) (g : Nat → Nat → Option Nat) (p1 : Int32) (p2 : Int32) (p3 : Int32) (hV : vOK σ) (hC : CI z σ L f ad g)  : Met l yX7_hang wsX7_hang ({ frames := 2, cells := 0, slots := 0, locals := 44 }) (va_Pc [.ref x0, .int p1, .int p2, .int p3] (wB Dg (cT z) (cX x0 b z (σ.1 0 0) (σ.1 2 0) (σ.1 2 1) (σ.1 2 2) (σ.1 2 3) (σ.1 2 4) (σ.1 1) (g 0) (g 1) (g 2) (g 3) (g 4) ++ va_pl L f) sz)) (va_Qi (fun (r : Int32) (u : va_W) => r = an_hang σ p1 p2 p3 ∧ CX x0 b z (nw_hang σ p1 p2 p3) u) (wE Dg (cT z) (va_A (cX x0 b z (σ.1 0 0) (σ.1 2 0) (σ.1 2 1) (σ.1 2 2) (σ.1 2 3) (σ.1 2 4) (σ.1 1) (g 0) (g 1) (g 2) (g 3) (g 4) ++ va_pl L f) sz)) (va_A (cX x0 b z (σ.1 0 0) (σ.1 2 0) (σ.1 2 1) (σ.1 2 2) (σ.1 2 3) (σ.1 2 4) (σ.1 1) (g 0) (g 1) (g 2) (g 3) (g 4) ++ va_pl L f) sz)) 0 0 (va_A (cX x0 b z (σ.1 0 0) (σ.1 2 0) (σ.1 2 1) (σ.1 2 2) (σ.1 2 3) (σ.1 2 4) (σ.1 1) (g 0) (g 1) (g 2) (g 3) (g 4) ++ va_pl L f) sz) := by
  refine Met.ofW (cc := cX7_hang) (maxL := 6) (ret := (some .int)) (by decide) rfl ?_
  intro p e s m args below meth c s₁ B hml hv
  obtain ⟨rfl, hsz, hP, hK, hD0⟩ := hv
  have hx := B.exec
  have hb := B.bytes
  have hr := B.returns
  have hts := atoms_spec (ws := wsX7_hang) B.pre
  have hown : s.vm.findClass RX7 = some m.cls := findClass_of_methodNamed B.named
  have hlocks := B.notSynchronized
  subst hsz
  have hD := hD0.self (sz := s.heap.size)
  generalize hAe : va_A (cX x0 b z (σ.1 0 0) (σ.1 2 0) (σ.1 2 1) (σ.1 2 2) (σ.1 2 3) (σ.1 2 4) (σ.1 1) (g 0) (g 1) (g 2) (g 3) (g 4) ++ va_pl L f) s.heap.size = A at hD ⊢
  have hA : ∀ q : Nat, s.heap.size ≤ q → A q := fun q h => by rw [← hAe]; exact Or.inr h
  have hS : va_S A s.heap s.heap [] := va_S.rf
  have hP : va_P Dg vwCl (cX x0 b z (σ.1 0 0) (σ.1 2 0) (σ.1 2 1) (σ.1 2 2) (σ.1 2 3) (σ.1 2 4) (σ.1 1) (g 0) (g 1) (g 2) (g 3) (g 4) ++ va_pl L f) s.heap := hP
  have hl := lv_entry ([.ref x0, .int p1, .int p2, .int p3]) (n := 6) (Nat.le_of_ble_eq_true rfl)
  rw [lg_entry_eq]
  generalize (lg_sl ([.ref x0, .int p1, .int p2, .int p3]) ++ List.replicate (6 - (lg_sl ([.ref x0, .int p1, .int p2, .int p3])).length) Slot.unset).toArray = ls at hl ⊢
  have hl : lv_has ls 6 [(0, .ref x0), (1, .int p1), (2, .int p2), (3, .int p3)] := hl
  refine lv_aload_n hx hb dX7_hang_0 rfl (lv_at hl 0 rfl) ?_
  refine lv_iload_n hx hb dX7_hang_1 rfl (lv_at hl 1 rfl) ?_
  rcases Decidable.em (fX8_isIn p1 0 ((σ.1 2 4) - 1) = true) with c_1 | c_1
  · refine va_csq ((va_runV (As := [.int p1]) (rest := []) ⟨hx, hb, hml, hown, hts⟩ (met_X7_standAt l Dg x0 b z (σ.1 0 0) (σ.1 2 0) (σ.1 2 1) (σ.1 2 2) (σ.1 2 3) (σ.1 2 4) (σ.1 1) (g 0) (g 1) (g 2) (g 3) (g 4) L f p1 hV.1.2.2.2.2) (cwV 1 hts gX7_hang_X7_standAt rfl rfl rfl (by decide +kernel) ⟨Nat.le_of_ble_eq_true rfl, Nat.le_of_ble_eq_true rfl⟩) (rPreV hK hP (va_recv hK hP (ci := 5) (q0 := 0) rfl rfl)) rfl rfl hl.1 rfl (lv_room (Nat.le_of_ble_eq_true rfl)) dX7_hang_2 ⟨Nat.le_of_ble_eq_true rfl, Nat.le_of_ble_eq_true rfl⟩).run) (fun r hw => ?_)
    obtain rfl : r = some (ad 5 (ix p1)) := hw.trans ((if_pos c_1).trans (hC.2.2.2.2.2 _ (inC_lt hV.1.2.2.2.2 c_1)))
    refine W.eq (g2 := F0 m 5 ls [.ref (ad 5 (ix p1))]) rfl ?_
    have lt_2 := inC_lt hV.1.2.2.2.2 c_1
    have o_2 := hC.1.1 5 _ (by decide) lt_2
    have f_2 : f (ad 5 (ix p1)) = .inr (2, [.int (σ.1 10 (ix p1)), .ref (ad 6 (ix p1))]) := o_2.2
    have o6_2 := hC.1.1 6 _ (by decide) lt_2
    obtain ⟨gg, ge, gv⟩ := o6_2.2
    have T1 := hV.2.2.2.2.2 _ lt_2
    refine lv_astore (lv' := [(4, .ref (ad 5 (ix p1))), (0, .ref x0), (1, .int p1), (2, .int p2), (3, .int p3)]) hx hb dX7_hang_5 hl (by decide) rfl (fun ls hl => ?_)
    refine lv_aload_n hx hb dX7_hang_7 rfl (lv_at hl 1 rfl) ?_
    refine lv_iload_n hx hb dX7_hang_8 rfl (lv_at hl 4 rfl) ?_
    rcases Decidable.em (fX8_isIn p3 0 ((σ.1 2 3) - 1) = true) with c_3 | c_3
    · refine va_csq ((va_runV (As := [.int p3]) (rest := []) ⟨hx, hb, hml, hown, hts⟩ (met_X7_pointerAt l Dg x0 b z (σ.1 0 0) (σ.1 2 0) (σ.1 2 1) (σ.1 2 2) (σ.1 2 3) (σ.1 2 4) (σ.1 1) (g 0) (g 1) (g 2) (g 3) (g 4) L f p3 hV.1.2.2.2.1) (cwV 1 hts gX7_hang_X7_pointerAt rfl rfl rfl (by decide +kernel) ⟨Nat.le_of_ble_eq_true rfl, Nat.le_of_ble_eq_true rfl⟩) (rPreV hK hP (va_recv hK hP (ci := 5) (q0 := 0) rfl rfl)) rfl rfl hl.1 rfl (lv_room (Nat.le_of_ble_eq_true rfl)) dX7_hang_9 ⟨Nat.le_of_ble_eq_true rfl, Nat.le_of_ble_eq_true rfl⟩).run) (fun r hw => ?_)
      obtain rfl : r = some (ad 4 (ix p3)) := hw.trans ((if_pos c_3).trans (hC.2.2.2.2.1 _ (inC_lt hV.1.2.2.2.1 c_3)))
      refine W.eq (g2 := F0 m 12 ls [.ref (ad 4 (ix p3))]) rfl ?_
      have lt_4 := inC_lt hV.1.2.2.2.1 c_3
      have o_4 := hC.1.1 4 _ (by decide) lt_4
      have f_4 : f (ad 4 (ix p3)) = .inr (0, [.int (σ.1 8 (ix p3)), .ref (ad 0 (ix (σ.1 9 (ix p3))))]) := o_4.2
      refine lv_astore (lv' := [(5, .ref (ad 4 (ix p3))), (4, .ref (ad 5 (ix p1))), (0, .ref x0), (1, .int p1), (2, .int p2), (3, .int p3)]) hx hb dX7_hang_12 hl (by decide) rfl (fun ls hl => ?_)
      refine lv_aload hx hb dX7_hang_14 (lv_at hl 1 rfl) ?_
      refine lv_ifnull hx hb dX7_hang_16 ?_
      refine lv_aload hx hb dX7_hang_19 (lv_at hl 0 rfl) ?_
      refine lv_ifnonnull (tgt := 36) hx hb dX7_hang_21 (by decide) ?_
      refine lv_aload_n hx hb dX7_hang_36 rfl (lv_at hl 2 rfl) ?_
      refine lv_aload hx hb dX7_hang_37 (lv_at hl 1 rfl) ?_
      refine lv_iload_n hx hb dX7_hang_39 rfl (lv_at hl 4 rfl) ?_
      refine lv_aload hx hb dX7_hang_40 (lv_at hl 0 rfl) ?_
      have hFc := wFree hD hS hA
      refine va_calli (va_runV (As := [.ref (ad 5 (ix p1)), .int p2, .ref (ad 4 (ix p3))]) (rest := []) ⟨hx, hb, hml, hown, hts⟩ (met_X7_putAt l Dg x0 s.heap.size b z σ L f ad g p1 p2 p3 hV hC c_1 c_3) (cwV 3 hts gX7_hang_X7_putAt rfl rfl rfl (by decide +kernel) ⟨Nat.le_of_ble_eq_true rfl, Nat.le_of_ble_eq_true rfl⟩) (wPreV hK hP (hD.weaken (fun _ _ _ _ => trivial)) (va_recv hK hP (ci := 5) (q0 := 0) rfl rfl)) rfl rfl hl.1 rfl (lv_room (Nat.le_of_ble_eq_true rfl)) dX7_hang_42 ⟨Nat.le_of_ble_eq_true rfl, Nat.le_of_ble_eq_true rfl⟩) hS (fun q _ h => hFc q h) hFc (fun r u t H locs ht hvm hw hB _ _ hS => ?_)
      obtain ⟨hP, -, hD⟩ := hB
      rw [ht] at hP
      replace hD := hD.weaken (fun _ q _ h => hFc q.1 h)
      have hw0 : wh_hang σ p1 p2 p3 = lyS σ p1 p2 p3 := by simp only [wh_hang, if_pos c_1, if_pos c_3, if_neg (in_n1 hV.1.2.2.2.1 c_3)]
      have hF : r = an_hang σ p1 p2 p3 ∧ CX x0 b z (nw_hang σ p1 p2 p3) u := ⟨by rw [an_hang, hw0]; exact hw.1, by rw [nw_hang, hw0]; exact hw.2⟩
      exact W.iret (v := r) hx hb hr (fun t ht hW => ⟨⟨_, u, rfl, hF, by rw [ht]; exact hP, va_K.moved hW.alike hK, hD⟩, hS.F ht⟩) hS.2.2 dX7_hang_45
    · refine va_csq ((va_runV (As := [.int p3]) (rest := []) ⟨hx, hb, hml, hown, hts⟩ (met_X7_pointerAt l Dg x0 b z (σ.1 0 0) (σ.1 2 0) (σ.1 2 1) (σ.1 2 2) (σ.1 2 3) (σ.1 2 4) (σ.1 1) (g 0) (g 1) (g 2) (g 3) (g 4) L f p3 hV.1.2.2.2.1) (cwV 1 hts gX7_hang_X7_pointerAt rfl rfl rfl (by decide +kernel) ⟨Nat.le_of_ble_eq_true rfl, Nat.le_of_ble_eq_true rfl⟩) (rPreV hK hP (va_recv hK hP (ci := 5) (q0 := 0) rfl rfl)) rfl rfl hl.1 rfl (lv_room (Nat.le_of_ble_eq_true rfl)) dX7_hang_9 ⟨Nat.le_of_ble_eq_true rfl, Nat.le_of_ble_eq_true rfl⟩).run) (fun r hw => ?_)
      obtain rfl : r = none := hw.trans (if_neg c_3)
      refine W.eq (g2 := F0 m 12 ls [.null]) rfl ?_
      refine lv_astoreN (lv' := [(5, .null), (4, .ref (ad 5 (ix p1))), (0, .ref x0), (1, .int p1), (2, .int p2), (3, .int p3)]) hx hb dX7_hang_12 hl (by decide) rfl (fun ls hl => ?_)
      refine lv_aload hx hb dX7_hang_14 (lv_at hl 1 rfl) ?_
      refine lv_ifnull hx hb dX7_hang_16 ?_
      refine lv_aloadN hx hb dX7_hang_19 (lv_at hl 0 rfl) ?_
      refine lv_ifnonnullN hx hb dX7_hang_21 ?_
      refine lv_iload_n hx hb dX7_hang_24 rfl (lv_at hl 5 rfl) ?_
      refine lv_iconst (v := (-1)) hx hb dX7_hang_25 (by decide) ?_
      refine lv_icmp_eq (tgt := 36) hx hb dX7_hang_26 (by decide) (fun c_5 => ?_) (fun c_5 => ?_)
      · refine lv_aload_n hx hb dX7_hang_36 rfl (lv_at hl 2 rfl) ?_
        refine lv_aload hx hb dX7_hang_37 (lv_at hl 1 rfl) ?_
        refine lv_iload_n hx hb dX7_hang_39 rfl (lv_at hl 4 rfl) ?_
        refine lv_aloadN hx hb dX7_hang_40 (lv_at hl 0 rfl) ?_
        have hFc := wFree hD hS hA
        refine va_calli (va_runV (As := [.ref (ad 5 (ix p1)), .int p2, .null]) (rest := []) ⟨hx, hb, hml, hown, hts⟩ (met_X7_putAtN l Dg x0 s.heap.size b z σ L f ad g p1 p2 p3 hV hC c_1 c_5) (cwV 3 hts gX7_hang_X7_putAt rfl rfl rfl (by decide +kernel) ⟨Nat.le_of_ble_eq_true rfl, Nat.le_of_ble_eq_true rfl⟩) (wPreV hK hP (hD.weaken (fun _ _ _ _ => trivial)) (va_recv hK hP (ci := 5) (q0 := 0) rfl rfl)) rfl rfl hl.1 rfl (lv_room (Nat.le_of_ble_eq_true rfl)) dX7_hang_42 ⟨Nat.le_of_ble_eq_true rfl, Nat.le_of_ble_eq_true rfl⟩) hS (fun q _ h => hFc q h) hFc (fun r u t H locs ht hvm hw hB _ _ hS => ?_)
        obtain ⟨hP, -, hD⟩ := hB
        rw [ht] at hP
        replace hD := hD.weaken (fun _ q _ h => hFc q.1 h)
        have hw0 : wh_hang σ p1 p2 p3 = lyS σ p1 p2 p3 := by simp only [wh_hang, if_pos c_1, if_neg c_3, if_pos c_5]
        have hF : r = an_hang σ p1 p2 p3 ∧ CX x0 b z (nw_hang σ p1 p2 p3) u := ⟨by rw [an_hang, hw0]; exact hw.1, by rw [nw_hang, hw0]; exact hw.2⟩
        exact W.iret (v := r) hx hb hr (fun t ht hW => ⟨⟨_, u, rfl, hF, by rw [ht]; exact hP, va_K.moved hW.alike hK, hD⟩, hS.F ht⟩) hS.2.2 dX7_hang_45
      · refine lv_aload_n hx hb dX7_hang_29 rfl (lv_at hl 2 rfl) ?_
        refine lv_bipush (v := (-2)) hx hb dX7_hang_30 (by decide) ?_
        have hFc := wFree hD hS hA
        refine va_calli (va_runV (As := [.int (-2)]) (rest := []) ⟨hx, hb, hml, hown, hts⟩ (met_X7_refuse l Dg x0 s.heap.size b z (σ.1 0 0) (σ.1 2 0) (σ.1 2 1) (σ.1 2 2) (σ.1 2 3) (σ.1 2 4) (σ.1 1) (g 0) (g 1) (g 2) (g 3) (g 4) L f (-2) (by decide) (by unfold vp_in; decide)) (cwV 1 hts gX7_hang_X7_refuse rfl rfl rfl (by decide +kernel) ⟨Nat.le_of_ble_eq_true rfl, Nat.le_of_ble_eq_true rfl⟩) (wPreV hK hP (hD.weaken (fun _ _ _ _ => trivial)) (va_recv hK hP (ci := 5) (q0 := 0) rfl rfl)) rfl rfl hl.1 rfl (lv_room (Nat.le_of_ble_eq_true rfl)) dX7_hang_32 ⟨Nat.le_of_ble_eq_true rfl, Nat.le_of_ble_eq_true rfl⟩) hS (fun q _ h => hFc q h) hFc (fun r u t H locs ht hvm hw hB _ _ hS => ?_)
        obtain ⟨hP, -, hD⟩ := hB
        rw [ht] at hP
        replace hD := hD.weaken (fun _ q _ h => hFc q.1 h)
        rw [hw.2] at hP hD
        rw [hw.1]
        clear hw hFc
        have hP : va_P Dg vwCl (cX x0 b z (-2) (σ.1 2 0) (σ.1 2 1) (σ.1 2 2) (σ.1 2 3) (σ.1 2 4) (rfO (-2) (σ.1 1)) (g 0) (g 1) (g 2) (g 3) (g 4) ++ va_pl L f) H := hP
        have hD : va_D A (cX x0 b z (-2) (σ.1 2 0) (σ.1 2 1) (σ.1 2 2) (σ.1 2 3) (σ.1 2 4) (rfO (-2) (σ.1 1)) (g 0) (g 1) (g 2) (g 3) (g 4) ++ va_pl L f) := hD
        have hw : wh_hang σ p1 p2 p3 = (-2) := by simp only [wh_hang, if_pos c_1, if_neg c_3, if_neg c_5]
        have hn : ¬ wh_hang σ p1 p2 p3 = 0 := by rw [hw]; decide
        exact W.iret (v := (-2)) hx hb hr (fun t ht hW => ⟨⟨_, (cX x0 b z (-2) (σ.1 2 0) (σ.1 2 1) (σ.1 2 2) (σ.1 2 3) (σ.1 2 4) (rfO (-2) (σ.1 1)) (g 0) (g 1) (g 2) (g 3) (g 4) ++ va_pl L f), rfl, ⟨by rw [an_hang, if_neg hn, hw]; try rfl, L, f, ad, g, by rw [nw_hang, if_neg hn, hw]; rfl, by rw [nw_hang, if_neg hn]; exact CI_rf hC _⟩, by rw [ht]; exact hP, va_K.moved hW.alike hK, hD⟩, hS.F ht⟩) hS.2.2 dX7_hang_35
  · refine va_csq ((va_runV (As := [.int p1]) (rest := []) ⟨hx, hb, hml, hown, hts⟩ (met_X7_standAt l Dg x0 b z (σ.1 0 0) (σ.1 2 0) (σ.1 2 1) (σ.1 2 2) (σ.1 2 3) (σ.1 2 4) (σ.1 1) (g 0) (g 1) (g 2) (g 3) (g 4) L f p1 hV.1.2.2.2.2) (cwV 1 hts gX7_hang_X7_standAt rfl rfl rfl (by decide +kernel) ⟨Nat.le_of_ble_eq_true rfl, Nat.le_of_ble_eq_true rfl⟩) (rPreV hK hP (va_recv hK hP (ci := 5) (q0 := 0) rfl rfl)) rfl rfl hl.1 rfl (lv_room (Nat.le_of_ble_eq_true rfl)) dX7_hang_2 ⟨Nat.le_of_ble_eq_true rfl, Nat.le_of_ble_eq_true rfl⟩).run) (fun r hw => ?_)
    obtain rfl : r = none := hw.trans (if_neg c_1)
    refine W.eq (g2 := F0 m 5 ls [.null]) rfl ?_
    refine lv_astoreN (lv' := [(4, .null), (0, .ref x0), (1, .int p1), (2, .int p2), (3, .int p3)]) hx hb dX7_hang_5 hl (by decide) rfl (fun ls hl => ?_)
    refine lv_aload_n hx hb dX7_hang_7 rfl (lv_at hl 1 rfl) ?_
    refine lv_iload_n hx hb dX7_hang_8 rfl (lv_at hl 4 rfl) ?_
    rcases Decidable.em (fX8_isIn p3 0 ((σ.1 2 3) - 1) = true) with c_6 | c_6
    · refine va_csq ((va_runV (As := [.int p3]) (rest := []) ⟨hx, hb, hml, hown, hts⟩ (met_X7_pointerAt l Dg x0 b z (σ.1 0 0) (σ.1 2 0) (σ.1 2 1) (σ.1 2 2) (σ.1 2 3) (σ.1 2 4) (σ.1 1) (g 0) (g 1) (g 2) (g 3) (g 4) L f p3 hV.1.2.2.2.1) (cwV 1 hts gX7_hang_X7_pointerAt rfl rfl rfl (by decide +kernel) ⟨Nat.le_of_ble_eq_true rfl, Nat.le_of_ble_eq_true rfl⟩) (rPreV hK hP (va_recv hK hP (ci := 5) (q0 := 0) rfl rfl)) rfl rfl hl.1 rfl (lv_room (Nat.le_of_ble_eq_true rfl)) dX7_hang_9 ⟨Nat.le_of_ble_eq_true rfl, Nat.le_of_ble_eq_true rfl⟩).run) (fun r hw => ?_)
      obtain rfl : r = some (ad 4 (ix p3)) := hw.trans ((if_pos c_6).trans (hC.2.2.2.2.1 _ (inC_lt hV.1.2.2.2.1 c_6)))
      refine W.eq (g2 := F0 m 12 ls [.ref (ad 4 (ix p3))]) rfl ?_
      have lt_7 := inC_lt hV.1.2.2.2.1 c_6
      have o_7 := hC.1.1 4 _ (by decide) lt_7
      have f_7 : f (ad 4 (ix p3)) = .inr (0, [.int (σ.1 8 (ix p3)), .ref (ad 0 (ix (σ.1 9 (ix p3))))]) := o_7.2
      refine lv_astore (lv' := [(5, .ref (ad 4 (ix p3))), (4, .null), (0, .ref x0), (1, .int p1), (2, .int p2), (3, .int p3)]) hx hb dX7_hang_12 hl (by decide) rfl (fun ls hl => ?_)
      refine lv_aloadN hx hb dX7_hang_14 (lv_at hl 1 rfl) ?_
      refine lv_ifnullN (tgt := 29) hx hb dX7_hang_16 (by decide) ?_
      refine lv_aload_n hx hb dX7_hang_29 rfl (lv_at hl 2 rfl) ?_
      refine lv_bipush (v := (-2)) hx hb dX7_hang_30 (by decide) ?_
      have hFc := wFree hD hS hA
      refine va_calli (va_runV (As := [.int (-2)]) (rest := []) ⟨hx, hb, hml, hown, hts⟩ (met_X7_refuse l Dg x0 s.heap.size b z (σ.1 0 0) (σ.1 2 0) (σ.1 2 1) (σ.1 2 2) (σ.1 2 3) (σ.1 2 4) (σ.1 1) (g 0) (g 1) (g 2) (g 3) (g 4) L f (-2) (by decide) (by unfold vp_in; decide)) (cwV 1 hts gX7_hang_X7_refuse rfl rfl rfl (by decide +kernel) ⟨Nat.le_of_ble_eq_true rfl, Nat.le_of_ble_eq_true rfl⟩) (wPreV hK hP (hD.weaken (fun _ _ _ _ => trivial)) (va_recv hK hP (ci := 5) (q0 := 0) rfl rfl)) rfl rfl hl.1 rfl (lv_room (Nat.le_of_ble_eq_true rfl)) dX7_hang_32 ⟨Nat.le_of_ble_eq_true rfl, Nat.le_of_ble_eq_true rfl⟩) hS (fun q _ h => hFc q h) hFc (fun r u t H locs ht hvm hw hB _ _ hS => ?_)
      obtain ⟨hP, -, hD⟩ := hB
      rw [ht] at hP
      replace hD := hD.weaken (fun _ q _ h => hFc q.1 h)
      rw [hw.2] at hP hD
      rw [hw.1]
      clear hw hFc
      have hP : va_P Dg vwCl (cX x0 b z (-2) (σ.1 2 0) (σ.1 2 1) (σ.1 2 2) (σ.1 2 3) (σ.1 2 4) (rfO (-2) (σ.1 1)) (g 0) (g 1) (g 2) (g 3) (g 4) ++ va_pl L f) H := hP
      have hD : va_D A (cX x0 b z (-2) (σ.1 2 0) (σ.1 2 1) (σ.1 2 2) (σ.1 2 3) (σ.1 2 4) (rfO (-2) (σ.1 1)) (g 0) (g 1) (g 2) (g 3) (g 4) ++ va_pl L f) := hD
      have hw : wh_hang σ p1 p2 p3 = (-2) := by simp only [wh_hang, if_neg c_1, if_pos c_6]
      have hn : ¬ wh_hang σ p1 p2 p3 = 0 := by rw [hw]; decide
      exact W.iret (v := (-2)) hx hb hr (fun t ht hW => ⟨⟨_, (cX x0 b z (-2) (σ.1 2 0) (σ.1 2 1) (σ.1 2 2) (σ.1 2 3) (σ.1 2 4) (rfO (-2) (σ.1 1)) (g 0) (g 1) (g 2) (g 3) (g 4) ++ va_pl L f), rfl, ⟨by rw [an_hang, if_neg hn, hw]; try rfl, L, f, ad, g, by rw [nw_hang, if_neg hn, hw]; rfl, by rw [nw_hang, if_neg hn]; exact CI_rf hC _⟩, by rw [ht]; exact hP, va_K.moved hW.alike hK, hD⟩, hS.F ht⟩) hS.2.2 dX7_hang_35
    · refine va_csq ((va_runV (As := [.int p3]) (rest := []) ⟨hx, hb, hml, hown, hts⟩ (met_X7_pointerAt l Dg x0 b z (σ.1 0 0) (σ.1 2 0) (σ.1 2 1) (σ.1 2 2) (σ.1 2 3) (σ.1 2 4) (σ.1 1) (g 0) (g 1) (g 2) (g 3) (g 4) L f p3 hV.1.2.2.2.1) (cwV 1 hts gX7_hang_X7_pointerAt rfl rfl rfl (by decide +kernel) ⟨Nat.le_of_ble_eq_true rfl, Nat.le_of_ble_eq_true rfl⟩) (rPreV hK hP (va_recv hK hP (ci := 5) (q0 := 0) rfl rfl)) rfl rfl hl.1 rfl (lv_room (Nat.le_of_ble_eq_true rfl)) dX7_hang_9 ⟨Nat.le_of_ble_eq_true rfl, Nat.le_of_ble_eq_true rfl⟩).run) (fun r hw => ?_)
      obtain rfl : r = none := hw.trans (if_neg c_6)
      refine W.eq (g2 := F0 m 12 ls [.null]) rfl ?_
      refine lv_astoreN (lv' := [(5, .null), (4, .null), (0, .ref x0), (1, .int p1), (2, .int p2), (3, .int p3)]) hx hb dX7_hang_12 hl (by decide) rfl (fun ls hl => ?_)
      refine lv_aloadN hx hb dX7_hang_14 (lv_at hl 1 rfl) ?_
      refine lv_ifnullN (tgt := 29) hx hb dX7_hang_16 (by decide) ?_
      refine lv_aload_n hx hb dX7_hang_29 rfl (lv_at hl 2 rfl) ?_
      refine lv_bipush (v := (-2)) hx hb dX7_hang_30 (by decide) ?_
      have hFc := wFree hD hS hA
      refine va_calli (va_runV (As := [.int (-2)]) (rest := []) ⟨hx, hb, hml, hown, hts⟩ (met_X7_refuse l Dg x0 s.heap.size b z (σ.1 0 0) (σ.1 2 0) (σ.1 2 1) (σ.1 2 2) (σ.1 2 3) (σ.1 2 4) (σ.1 1) (g 0) (g 1) (g 2) (g 3) (g 4) L f (-2) (by decide) (by unfold vp_in; decide)) (cwV 1 hts gX7_hang_X7_refuse rfl rfl rfl (by decide +kernel) ⟨Nat.le_of_ble_eq_true rfl, Nat.le_of_ble_eq_true rfl⟩) (wPreV hK hP (hD.weaken (fun _ _ _ _ => trivial)) (va_recv hK hP (ci := 5) (q0 := 0) rfl rfl)) rfl rfl hl.1 rfl (lv_room (Nat.le_of_ble_eq_true rfl)) dX7_hang_32 ⟨Nat.le_of_ble_eq_true rfl, Nat.le_of_ble_eq_true rfl⟩) hS (fun q _ h => hFc q h) hFc (fun r u t H locs ht hvm hw hB _ _ hS => ?_)
      obtain ⟨hP, -, hD⟩ := hB
      rw [ht] at hP
      replace hD := hD.weaken (fun _ q _ h => hFc q.1 h)
      rw [hw.2] at hP hD
      rw [hw.1]
      clear hw hFc
      have hP : va_P Dg vwCl (cX x0 b z (-2) (σ.1 2 0) (σ.1 2 1) (σ.1 2 2) (σ.1 2 3) (σ.1 2 4) (rfO (-2) (σ.1 1)) (g 0) (g 1) (g 2) (g 3) (g 4) ++ va_pl L f) H := hP
      have hD : va_D A (cX x0 b z (-2) (σ.1 2 0) (σ.1 2 1) (σ.1 2 2) (σ.1 2 3) (σ.1 2 4) (rfO (-2) (σ.1 1)) (g 0) (g 1) (g 2) (g 3) (g 4) ++ va_pl L f) := hD
      have hw : wh_hang σ p1 p2 p3 = (-2) := by simp only [wh_hang, if_neg c_1, if_neg c_6]
      have hn : ¬ wh_hang σ p1 p2 p3 = 0 := by rw [hw]; decide
      exact W.iret (v := (-2)) hx hb hr (fun t ht hW => ⟨⟨_, (cX x0 b z (-2) (σ.1 2 0) (σ.1 2 1) (σ.1 2 2) (σ.1 2 3) (σ.1 2 4) (rfO (-2) (σ.1 1)) (g 0) (g 1) (g 2) (g 3) (g 4) ++ va_pl L f), rfl, ⟨by rw [an_hang, if_neg hn, hw]; try rfl, L, f, ad, g, by rw [nw_hang, if_neg hn, hw]; rfl, by rw [nw_hang, if_neg hn]; exact CI_rf hC _⟩, by rw [ht]; exact hP, va_K.moved hW.alike hK, hD⟩, hS.F ht⟩) hS.2.2 dX7_hang_35

theorem in_X4_X7_set : ∀ w ∈ wsX40, w ∈ wsX7_set := fun w h => List.mem_cons_of_mem _ (List.mem_append_left _ (List.mem_append_left _ (List.mem_append_right _ h)))
theorem in_X1_X7_set : ∀ w ∈ wsX10, w ∈ wsX7_set := fun w h => List.mem_cons_of_mem _ (List.mem_append_left _ (List.mem_append_right _ h))
theorem in_X7_X7_set : ∀ w ∈ wsX70, w ∈ wsX7_set := fun w h => List.mem_cons_of_mem _ (List.mem_append_right _ h)
set_option maxHeartbeats 4000000 in
set_option maxRecDepth 100000 in
theorem met_X7_set (l : Launch) (Dg : va_G) (x0 sz : Nat) (b : Nat → Nat) (z : Nat → ClassId) (σ : St) (L : List Nat) (f : Nat → va_E) (ad : Nat → Nat → Nat) (g : Nat → Nat → Option Nat) (p1 : Int32) (p2 : Int32) (p3 : Int32) (hV : vOK σ) (hC : CI z σ L f ad g)  : Met l yX7_set wsX7_set ({ frames := 2, cells := 0, slots := 0, locals := 44 }) (va_Pc [.ref x0, .int p1, .int p2, .int p3] (wB Dg (cT z) (cX x0 b z (σ.1 0 0) (σ.1 2 0) (σ.1 2 1) (σ.1 2 2) (σ.1 2 3) (σ.1 2 4) (σ.1 1) (g 0) (g 1) (g 2) (g 3) (g 4) ++ va_pl L f) sz)) (va_Qi (fun (r : Int32) (u : va_W) => r = an_set σ p1 p2 p3 ∧ CX x0 b z (nw_set σ p1 p2 p3) u) (wE Dg (cT z) (va_A (cX x0 b z (σ.1 0 0) (σ.1 2 0) (σ.1 2 1) (σ.1 2 2) (σ.1 2 3) (σ.1 2 4) (σ.1 1) (g 0) (g 1) (g 2) (g 3) (g 4) ++ va_pl L f) sz)) (va_A (cX x0 b z (σ.1 0 0) (σ.1 2 0) (σ.1 2 1) (σ.1 2 2) (σ.1 2 3) (σ.1 2 4) (σ.1 1) (g 0) (g 1) (g 2) (g 3) (g 4) ++ va_pl L f) sz)) 0 0 (va_A (cX x0 b z (σ.1 0 0) (σ.1 2 0) (σ.1 2 1) (σ.1 2 2) (σ.1 2 3) (σ.1 2 4) (σ.1 1) (g 0) (g 1) (g 2) (g 3) (g 4) ++ va_pl L f) sz) := by
  refine Met.ofW (cc := cX7_set) (maxL := 6) (ret := (some .int)) (by decide) rfl ?_
  intro p e s m args below meth c s₁ B hml hv
  obtain ⟨rfl, hsz, hP, hK, hD0⟩ := hv
  have hx := B.exec
  have hb := B.bytes
  have hr := B.returns
  have hts := atoms_spec (ws := wsX7_set) B.pre
  have hown : s.vm.findClass RX7 = some m.cls := findClass_of_methodNamed B.named
  have hlocks := B.notSynchronized
  subst hsz
  have hD := hD0.self (sz := s.heap.size)
  generalize hAe : va_A (cX x0 b z (σ.1 0 0) (σ.1 2 0) (σ.1 2 1) (σ.1 2 2) (σ.1 2 3) (σ.1 2 4) (σ.1 1) (g 0) (g 1) (g 2) (g 3) (g 4) ++ va_pl L f) s.heap.size = A at hD ⊢
  have hA : ∀ q : Nat, s.heap.size ≤ q → A q := fun q h => by rw [← hAe]; exact Or.inr h
  have hS : va_S A s.heap s.heap [] := va_S.rf
  have hP : va_P Dg vwCl (cX x0 b z (σ.1 0 0) (σ.1 2 0) (σ.1 2 1) (σ.1 2 2) (σ.1 2 3) (σ.1 2 4) (σ.1 1) (g 0) (g 1) (g 2) (g 3) (g 4) ++ va_pl L f) s.heap := hP
  have hl := lv_entry ([.ref x0, .int p1, .int p2, .int p3]) (n := 6) (Nat.le_of_ble_eq_true rfl)
  rw [lg_entry_eq]
  generalize (lg_sl ([.ref x0, .int p1, .int p2, .int p3]) ++ List.replicate (6 - (lg_sl ([.ref x0, .int p1, .int p2, .int p3])).length) Slot.unset).toArray = ls at hl ⊢
  have hl : lv_has ls 6 [(0, .ref x0), (1, .int p1), (2, .int p2), (3, .int p3)] := hl
  refine lv_aload_n hx hb dX7_set_0 rfl (lv_at hl 0 rfl) ?_
  refine lv_iload_n hx hb dX7_set_1 rfl (lv_at hl 1 rfl) ?_
  rcases Decidable.em (fX8_isIn p1 0 ((σ.1 2 4) - 1) = true) with c_1 | c_1
  · refine va_csq ((va_runV (As := [.int p1]) (rest := []) ⟨hx, hb, hml, hown, hts⟩ (met_X7_standAt l Dg x0 b z (σ.1 0 0) (σ.1 2 0) (σ.1 2 1) (σ.1 2 2) (σ.1 2 3) (σ.1 2 4) (σ.1 1) (g 0) (g 1) (g 2) (g 3) (g 4) L f p1 hV.1.2.2.2.2) (cwV 1 hts gX7_set_X7_standAt rfl rfl rfl (by decide +kernel) ⟨Nat.le_of_ble_eq_true rfl, Nat.le_of_ble_eq_true rfl⟩) (rPreV hK hP (va_recv hK hP (ci := 5) (q0 := 0) rfl rfl)) rfl rfl hl.1 rfl (lv_room (Nat.le_of_ble_eq_true rfl)) dX7_set_2 ⟨Nat.le_of_ble_eq_true rfl, Nat.le_of_ble_eq_true rfl⟩).run) (fun r hw => ?_)
    obtain rfl : r = some (ad 5 (ix p1)) := hw.trans ((if_pos c_1).trans (hC.2.2.2.2.2 _ (inC_lt hV.1.2.2.2.2 c_1)))
    refine W.eq (g2 := F0 m 5 ls [.ref (ad 5 (ix p1))]) rfl ?_
    have lt_2 := inC_lt hV.1.2.2.2.2 c_1
    have o_2 := hC.1.1 5 _ (by decide) lt_2
    have f_2 : f (ad 5 (ix p1)) = .inr (2, [.int (σ.1 10 (ix p1)), .ref (ad 6 (ix p1))]) := o_2.2
    have o6_2 := hC.1.1 6 _ (by decide) lt_2
    obtain ⟨gg, ge, gv⟩ := o6_2.2
    have T1 := hV.2.2.2.2.2 _ lt_2
    refine lv_astore (lv' := [(4, .ref (ad 5 (ix p1))), (0, .ref x0), (1, .int p1), (2, .int p2), (3, .int p3)]) hx hb dX7_set_5 hl (by decide) rfl (fun ls hl => ?_)
    refine lv_aload_n hx hb dX7_set_7 rfl (lv_at hl 1 rfl) ?_
    refine lv_iload_n hx hb dX7_set_8 rfl (lv_at hl 4 rfl) ?_
    rcases Decidable.em (fX8_isIn p3 0 ((σ.1 2 3) - 1) = true) with c_3 | c_3
    · refine va_csq ((va_runV (As := [.int p3]) (rest := []) ⟨hx, hb, hml, hown, hts⟩ (met_X7_pointerAt l Dg x0 b z (σ.1 0 0) (σ.1 2 0) (σ.1 2 1) (σ.1 2 2) (σ.1 2 3) (σ.1 2 4) (σ.1 1) (g 0) (g 1) (g 2) (g 3) (g 4) L f p3 hV.1.2.2.2.1) (cwV 1 hts gX7_set_X7_pointerAt rfl rfl rfl (by decide +kernel) ⟨Nat.le_of_ble_eq_true rfl, Nat.le_of_ble_eq_true rfl⟩) (rPreV hK hP (va_recv hK hP (ci := 5) (q0 := 0) rfl rfl)) rfl rfl hl.1 rfl (lv_room (Nat.le_of_ble_eq_true rfl)) dX7_set_9 ⟨Nat.le_of_ble_eq_true rfl, Nat.le_of_ble_eq_true rfl⟩).run) (fun r hw => ?_)
      obtain rfl : r = some (ad 4 (ix p3)) := hw.trans ((if_pos c_3).trans (hC.2.2.2.2.1 _ (inC_lt hV.1.2.2.2.1 c_3)))
      refine W.eq (g2 := F0 m 12 ls [.ref (ad 4 (ix p3))]) rfl ?_
      have lt_4 := inC_lt hV.1.2.2.2.1 c_3
      have o_4 := hC.1.1 4 _ (by decide) lt_4
      have f_4 : f (ad 4 (ix p3)) = .inr (0, [.int (σ.1 8 (ix p3)), .ref (ad 0 (ix (σ.1 9 (ix p3))))]) := o_4.2
      refine lv_astore (lv' := [(5, .ref (ad 4 (ix p3))), (4, .ref (ad 5 (ix p1))), (0, .ref x0), (1, .int p1), (2, .int p2), (3, .int p3)]) hx hb dX7_set_12 hl (by decide) rfl (fun ls hl => ?_)
      refine lv_aload hx hb dX7_set_14 (lv_at hl 1 rfl) ?_
      refine lv_ifnull hx hb dX7_set_16 ?_
      refine lv_aload hx hb dX7_set_19 (lv_at hl 0 rfl) ?_
      refine lv_ifnonnull (tgt := 36) hx hb dX7_set_21 (by decide) ?_
      refine lv_aload hx hb dX7_set_36 (lv_at hl 1 rfl) ?_
      refine vg_get (D := Dg) (ci := 2) (v := .int (σ.1 10 (ix p1))) (C := RX4) (T := TX4) (N := 2) hx hb hts in_X4_X7_set hown hK hP o_2.1 f_2 rfl 0 (by decide) (hts (.fieldLink RX7 186 "OrreryWorks$Stand" "sort" "I") (by decide +kernel)) (fun _ h9 => h9) rfl dX7_set_38 ?_
      refine lv_iconst (v := 3) hx hb dX7_set_41 (by decide) ?_
      refine lv_icmp_eq (tgt := 59) hx hb dX7_set_42 (by decide) (fun c_5 => ?_) (fun c_5 => ?_)
      · refine lv_aload_n hx hb dX7_set_59 rfl (lv_at hl 2 rfl) ?_
        refine lv_bipush (v := (-7)) hx hb dX7_set_60 (by decide) ?_
        have hFc := wFree hD hS hA
        refine va_calli (va_runV (As := [.int (-7)]) (rest := []) ⟨hx, hb, hml, hown, hts⟩ (met_X7_refuse l Dg x0 s.heap.size b z (σ.1 0 0) (σ.1 2 0) (σ.1 2 1) (σ.1 2 2) (σ.1 2 3) (σ.1 2 4) (σ.1 1) (g 0) (g 1) (g 2) (g 3) (g 4) L f (-7) (by decide) (by unfold vp_in; decide)) (cwV 1 hts gX7_set_X7_refuse rfl rfl rfl (by decide +kernel) ⟨Nat.le_of_ble_eq_true rfl, Nat.le_of_ble_eq_true rfl⟩) (wPreV hK hP (hD.weaken (fun _ _ _ _ => trivial)) (va_recv hK hP (ci := 5) (q0 := 0) rfl rfl)) rfl rfl hl.1 rfl (lv_room (Nat.le_of_ble_eq_true rfl)) dX7_set_62 ⟨Nat.le_of_ble_eq_true rfl, Nat.le_of_ble_eq_true rfl⟩) hS (fun q _ h => hFc q h) hFc (fun r u t H locs ht hvm hw hB _ _ hS => ?_)
        obtain ⟨hP, -, hD⟩ := hB
        rw [ht] at hP
        replace hD := hD.weaken (fun _ q _ h => hFc q.1 h)
        rw [hw.2] at hP hD
        rw [hw.1]
        clear hw hFc
        have hP : va_P Dg vwCl (cX x0 b z (-7) (σ.1 2 0) (σ.1 2 1) (σ.1 2 2) (σ.1 2 3) (σ.1 2 4) (rfO (-7) (σ.1 1)) (g 0) (g 1) (g 2) (g 3) (g 4) ++ va_pl L f) H := hP
        have hD : va_D A (cX x0 b z (-7) (σ.1 2 0) (σ.1 2 1) (σ.1 2 2) (σ.1 2 3) (σ.1 2 4) (rfO (-7) (σ.1 1)) (g 0) (g 1) (g 2) (g 3) (g 4) ++ va_pl L f) := hD
        have hw : wh_set σ p1 p2 p3 = (-7) := by simp only [wh_set, if_pos c_1, if_pos c_3, if_pos c_5, if_neg (in_n1 hV.1.2.2.2.1 c_3)]
        have hn : ¬ wh_set σ p1 p2 p3 = 0 := by rw [hw]; decide
        exact W.iret (v := (-7)) hx hb hr (fun t ht hW => ⟨⟨_, (cX x0 b z (-7) (σ.1 2 0) (σ.1 2 1) (σ.1 2 2) (σ.1 2 3) (σ.1 2 4) (rfO (-7) (σ.1 1)) (g 0) (g 1) (g 2) (g 3) (g 4) ++ va_pl L f), rfl, ⟨by rw [an_set, if_neg hn, hw]; try rfl, L, f, ad, g, by rw [nw_set, if_neg hn, hw]; rfl, by rw [nw_set, if_neg hn]; exact CI_rf hC _⟩, by rw [ht]; exact hP, va_K.moved hW.alike hK, hD⟩, hS.F ht⟩) hS.2.2 dX7_set_65
      · refine lv_aload hx hb dX7_set_45 (lv_at hl 0 rfl) ?_
        refine lv_ifnull hx hb dX7_set_47 ?_
        refine lv_aload hx hb dX7_set_50 (lv_at hl 0 rfl) ?_
        refine vg_get (D := Dg) (ci := 0) (v := .int (σ.1 8 (ix p3))) (C := RX1) (T := TX1) (N := 2) hx hb hts in_X1_X7_set hown hK hP o_4.1 f_4 rfl 0 (by decide) (hts (.fieldLink RX7 189 "OrreryWorks$Pointer" "sort" "I") (by decide +kernel)) (fun _ h9 => h9) rfl dX7_set_52 ?_
        refine lv_iconst (v := 3) hx hb dX7_set_55 (by decide) ?_
        refine lv_icmp_ne (tgt := 66) hx hb dX7_set_56 (by decide) (fun c_6 => ?_) (fun c_6 => ?_)
        · refine lv_aload_n hx hb dX7_set_66 rfl (lv_at hl 2 rfl) ?_
          refine lv_aload hx hb dX7_set_67 (lv_at hl 1 rfl) ?_
          refine lv_iload_n hx hb dX7_set_69 rfl (lv_at hl 4 rfl) ?_
          refine lv_aload hx hb dX7_set_70 (lv_at hl 0 rfl) ?_
          have hFc := wFree hD hS hA
          refine va_calli (va_runV (As := [.ref (ad 5 (ix p1)), .int p2, .ref (ad 4 (ix p3))]) (rest := []) ⟨hx, hb, hml, hown, hts⟩ (met_X7_putAt l Dg x0 s.heap.size b z σ L f ad g p1 p2 p3 hV hC c_1 c_3) (cwV 3 hts gX7_set_X7_putAt rfl rfl rfl (by decide +kernel) ⟨Nat.le_of_ble_eq_true rfl, Nat.le_of_ble_eq_true rfl⟩) (wPreV hK hP (hD.weaken (fun _ _ _ _ => trivial)) (va_recv hK hP (ci := 5) (q0 := 0) rfl rfl)) rfl rfl hl.1 rfl (lv_room (Nat.le_of_ble_eq_true rfl)) dX7_set_72 ⟨Nat.le_of_ble_eq_true rfl, Nat.le_of_ble_eq_true rfl⟩) hS (fun q _ h => hFc q h) hFc (fun r u t H locs ht hvm hw hB _ _ hS => ?_)
          obtain ⟨hP, -, hD⟩ := hB
          rw [ht] at hP
          replace hD := hD.weaken (fun _ q _ h => hFc q.1 h)
          have hw0 : wh_set σ p1 p2 p3 = lyS σ p1 p2 p3 := by simp only [wh_set, if_pos c_1, if_pos c_3, if_neg c_5, if_neg c_6, if_neg (in_n1 hV.1.2.2.2.1 c_3)]
          have hF : r = an_set σ p1 p2 p3 ∧ CX x0 b z (nw_set σ p1 p2 p3) u := ⟨by rw [an_set, hw0]; exact hw.1, by rw [nw_set, hw0]; exact hw.2⟩
          exact W.iret (v := r) hx hb hr (fun t ht hW => ⟨⟨_, u, rfl, hF, by rw [ht]; exact hP, va_K.moved hW.alike hK, hD⟩, hS.F ht⟩) hS.2.2 dX7_set_75
        · refine lv_aload_n hx hb dX7_set_59 rfl (lv_at hl 2 rfl) ?_
          refine lv_bipush (v := (-7)) hx hb dX7_set_60 (by decide) ?_
          have hFc := wFree hD hS hA
          refine va_calli (va_runV (As := [.int (-7)]) (rest := []) ⟨hx, hb, hml, hown, hts⟩ (met_X7_refuse l Dg x0 s.heap.size b z (σ.1 0 0) (σ.1 2 0) (σ.1 2 1) (σ.1 2 2) (σ.1 2 3) (σ.1 2 4) (σ.1 1) (g 0) (g 1) (g 2) (g 3) (g 4) L f (-7) (by decide) (by unfold vp_in; decide)) (cwV 1 hts gX7_set_X7_refuse rfl rfl rfl (by decide +kernel) ⟨Nat.le_of_ble_eq_true rfl, Nat.le_of_ble_eq_true rfl⟩) (wPreV hK hP (hD.weaken (fun _ _ _ _ => trivial)) (va_recv hK hP (ci := 5) (q0 := 0) rfl rfl)) rfl rfl hl.1 rfl (lv_room (Nat.le_of_ble_eq_true rfl)) dX7_set_62 ⟨Nat.le_of_ble_eq_true rfl, Nat.le_of_ble_eq_true rfl⟩) hS (fun q _ h => hFc q h) hFc (fun r u t H locs ht hvm hw hB _ _ hS => ?_)
          obtain ⟨hP, -, hD⟩ := hB
          rw [ht] at hP
          replace hD := hD.weaken (fun _ q _ h => hFc q.1 h)
          rw [hw.2] at hP hD
          rw [hw.1]
          clear hw hFc
          have hP : va_P Dg vwCl (cX x0 b z (-7) (σ.1 2 0) (σ.1 2 1) (σ.1 2 2) (σ.1 2 3) (σ.1 2 4) (rfO (-7) (σ.1 1)) (g 0) (g 1) (g 2) (g 3) (g 4) ++ va_pl L f) H := hP
          have hD : va_D A (cX x0 b z (-7) (σ.1 2 0) (σ.1 2 1) (σ.1 2 2) (σ.1 2 3) (σ.1 2 4) (rfO (-7) (σ.1 1)) (g 0) (g 1) (g 2) (g 3) (g 4) ++ va_pl L f) := hD
          have hw : wh_set σ p1 p2 p3 = (-7) := by simp only [wh_set, if_pos c_1, if_pos c_3, if_neg c_5, if_pos c_6, if_neg (in_n1 hV.1.2.2.2.1 c_3)]
          have hn : ¬ wh_set σ p1 p2 p3 = 0 := by rw [hw]; decide
          exact W.iret (v := (-7)) hx hb hr (fun t ht hW => ⟨⟨_, (cX x0 b z (-7) (σ.1 2 0) (σ.1 2 1) (σ.1 2 2) (σ.1 2 3) (σ.1 2 4) (rfO (-7) (σ.1 1)) (g 0) (g 1) (g 2) (g 3) (g 4) ++ va_pl L f), rfl, ⟨by rw [an_set, if_neg hn, hw]; try rfl, L, f, ad, g, by rw [nw_set, if_neg hn, hw]; rfl, by rw [nw_set, if_neg hn]; exact CI_rf hC _⟩, by rw [ht]; exact hP, va_K.moved hW.alike hK, hD⟩, hS.F ht⟩) hS.2.2 dX7_set_65
    · refine va_csq ((va_runV (As := [.int p3]) (rest := []) ⟨hx, hb, hml, hown, hts⟩ (met_X7_pointerAt l Dg x0 b z (σ.1 0 0) (σ.1 2 0) (σ.1 2 1) (σ.1 2 2) (σ.1 2 3) (σ.1 2 4) (σ.1 1) (g 0) (g 1) (g 2) (g 3) (g 4) L f p3 hV.1.2.2.2.1) (cwV 1 hts gX7_set_X7_pointerAt rfl rfl rfl (by decide +kernel) ⟨Nat.le_of_ble_eq_true rfl, Nat.le_of_ble_eq_true rfl⟩) (rPreV hK hP (va_recv hK hP (ci := 5) (q0 := 0) rfl rfl)) rfl rfl hl.1 rfl (lv_room (Nat.le_of_ble_eq_true rfl)) dX7_set_9 ⟨Nat.le_of_ble_eq_true rfl, Nat.le_of_ble_eq_true rfl⟩).run) (fun r hw => ?_)
      obtain rfl : r = none := hw.trans (if_neg c_3)
      refine W.eq (g2 := F0 m 12 ls [.null]) rfl ?_
      refine lv_astoreN (lv' := [(5, .null), (4, .ref (ad 5 (ix p1))), (0, .ref x0), (1, .int p1), (2, .int p2), (3, .int p3)]) hx hb dX7_set_12 hl (by decide) rfl (fun ls hl => ?_)
      refine lv_aload hx hb dX7_set_14 (lv_at hl 1 rfl) ?_
      refine lv_ifnull hx hb dX7_set_16 ?_
      refine lv_aloadN hx hb dX7_set_19 (lv_at hl 0 rfl) ?_
      refine lv_ifnonnullN hx hb dX7_set_21 ?_
      refine lv_iload_n hx hb dX7_set_24 rfl (lv_at hl 5 rfl) ?_
      refine lv_iconst (v := (-1)) hx hb dX7_set_25 (by decide) ?_
      refine lv_icmp_eq (tgt := 36) hx hb dX7_set_26 (by decide) (fun c_7 => ?_) (fun c_7 => ?_)
      · refine lv_aload hx hb dX7_set_36 (lv_at hl 1 rfl) ?_
        refine vg_get (D := Dg) (ci := 2) (v := .int (σ.1 10 (ix p1))) (C := RX4) (T := TX4) (N := 2) hx hb hts in_X4_X7_set hown hK hP o_2.1 f_2 rfl 0 (by decide) (hts (.fieldLink RX7 186 "OrreryWorks$Stand" "sort" "I") (by decide +kernel)) (fun _ h9 => h9) rfl dX7_set_38 ?_
        refine lv_iconst (v := 3) hx hb dX7_set_41 (by decide) ?_
        refine lv_icmp_eq (tgt := 59) hx hb dX7_set_42 (by decide) (fun c_8 => ?_) (fun c_8 => ?_)
        · refine lv_aload_n hx hb dX7_set_59 rfl (lv_at hl 2 rfl) ?_
          refine lv_bipush (v := (-7)) hx hb dX7_set_60 (by decide) ?_
          have hFc := wFree hD hS hA
          refine va_calli (va_runV (As := [.int (-7)]) (rest := []) ⟨hx, hb, hml, hown, hts⟩ (met_X7_refuse l Dg x0 s.heap.size b z (σ.1 0 0) (σ.1 2 0) (σ.1 2 1) (σ.1 2 2) (σ.1 2 3) (σ.1 2 4) (σ.1 1) (g 0) (g 1) (g 2) (g 3) (g 4) L f (-7) (by decide) (by unfold vp_in; decide)) (cwV 1 hts gX7_set_X7_refuse rfl rfl rfl (by decide +kernel) ⟨Nat.le_of_ble_eq_true rfl, Nat.le_of_ble_eq_true rfl⟩) (wPreV hK hP (hD.weaken (fun _ _ _ _ => trivial)) (va_recv hK hP (ci := 5) (q0 := 0) rfl rfl)) rfl rfl hl.1 rfl (lv_room (Nat.le_of_ble_eq_true rfl)) dX7_set_62 ⟨Nat.le_of_ble_eq_true rfl, Nat.le_of_ble_eq_true rfl⟩) hS (fun q _ h => hFc q h) hFc (fun r u t H locs ht hvm hw hB _ _ hS => ?_)
          obtain ⟨hP, -, hD⟩ := hB
          rw [ht] at hP
          replace hD := hD.weaken (fun _ q _ h => hFc q.1 h)
          rw [hw.2] at hP hD
          rw [hw.1]
          clear hw hFc
          have hP : va_P Dg vwCl (cX x0 b z (-7) (σ.1 2 0) (σ.1 2 1) (σ.1 2 2) (σ.1 2 3) (σ.1 2 4) (rfO (-7) (σ.1 1)) (g 0) (g 1) (g 2) (g 3) (g 4) ++ va_pl L f) H := hP
          have hD : va_D A (cX x0 b z (-7) (σ.1 2 0) (σ.1 2 1) (σ.1 2 2) (σ.1 2 3) (σ.1 2 4) (rfO (-7) (σ.1 1)) (g 0) (g 1) (g 2) (g 3) (g 4) ++ va_pl L f) := hD
          have hw : wh_set σ p1 p2 p3 = (-7) := by simp only [wh_set, if_pos c_1, if_neg c_3, if_pos c_7, if_pos c_8]
          have hn : ¬ wh_set σ p1 p2 p3 = 0 := by rw [hw]; decide
          exact W.iret (v := (-7)) hx hb hr (fun t ht hW => ⟨⟨_, (cX x0 b z (-7) (σ.1 2 0) (σ.1 2 1) (σ.1 2 2) (σ.1 2 3) (σ.1 2 4) (rfO (-7) (σ.1 1)) (g 0) (g 1) (g 2) (g 3) (g 4) ++ va_pl L f), rfl, ⟨by rw [an_set, if_neg hn, hw]; try rfl, L, f, ad, g, by rw [nw_set, if_neg hn, hw]; rfl, by rw [nw_set, if_neg hn]; exact CI_rf hC _⟩, by rw [ht]; exact hP, va_K.moved hW.alike hK, hD⟩, hS.F ht⟩) hS.2.2 dX7_set_65
        · refine lv_aloadN hx hb dX7_set_45 (lv_at hl 0 rfl) ?_
          refine lv_ifnullN (tgt := 66) hx hb dX7_set_47 (by decide) ?_
          refine lv_aload_n hx hb dX7_set_66 rfl (lv_at hl 2 rfl) ?_
          refine lv_aload hx hb dX7_set_67 (lv_at hl 1 rfl) ?_
          refine lv_iload_n hx hb dX7_set_69 rfl (lv_at hl 4 rfl) ?_
          refine lv_aloadN hx hb dX7_set_70 (lv_at hl 0 rfl) ?_
          have hFc := wFree hD hS hA
          refine va_calli (va_runV (As := [.ref (ad 5 (ix p1)), .int p2, .null]) (rest := []) ⟨hx, hb, hml, hown, hts⟩ (met_X7_putAtN l Dg x0 s.heap.size b z σ L f ad g p1 p2 p3 hV hC c_1 c_7) (cwV 3 hts gX7_set_X7_putAt rfl rfl rfl (by decide +kernel) ⟨Nat.le_of_ble_eq_true rfl, Nat.le_of_ble_eq_true rfl⟩) (wPreV hK hP (hD.weaken (fun _ _ _ _ => trivial)) (va_recv hK hP (ci := 5) (q0 := 0) rfl rfl)) rfl rfl hl.1 rfl (lv_room (Nat.le_of_ble_eq_true rfl)) dX7_set_72 ⟨Nat.le_of_ble_eq_true rfl, Nat.le_of_ble_eq_true rfl⟩) hS (fun q _ h => hFc q h) hFc (fun r u t H locs ht hvm hw hB _ _ hS => ?_)
          obtain ⟨hP, -, hD⟩ := hB
          rw [ht] at hP
          replace hD := hD.weaken (fun _ q _ h => hFc q.1 h)
          have hw0 : wh_set σ p1 p2 p3 = lyS σ p1 p2 p3 := by simp only [wh_set, if_pos c_1, if_neg c_3, if_pos c_7, if_neg c_8]
          have hF : r = an_set σ p1 p2 p3 ∧ CX x0 b z (nw_set σ p1 p2 p3) u := ⟨by rw [an_set, hw0]; exact hw.1, by rw [nw_set, hw0]; exact hw.2⟩
          exact W.iret (v := r) hx hb hr (fun t ht hW => ⟨⟨_, u, rfl, hF, by rw [ht]; exact hP, va_K.moved hW.alike hK, hD⟩, hS.F ht⟩) hS.2.2 dX7_set_75
      · refine lv_aload_n hx hb dX7_set_29 rfl (lv_at hl 2 rfl) ?_
        refine lv_bipush (v := (-2)) hx hb dX7_set_30 (by decide) ?_
        have hFc := wFree hD hS hA
        refine va_calli (va_runV (As := [.int (-2)]) (rest := []) ⟨hx, hb, hml, hown, hts⟩ (met_X7_refuse l Dg x0 s.heap.size b z (σ.1 0 0) (σ.1 2 0) (σ.1 2 1) (σ.1 2 2) (σ.1 2 3) (σ.1 2 4) (σ.1 1) (g 0) (g 1) (g 2) (g 3) (g 4) L f (-2) (by decide) (by unfold vp_in; decide)) (cwV 1 hts gX7_set_X7_refuse rfl rfl rfl (by decide +kernel) ⟨Nat.le_of_ble_eq_true rfl, Nat.le_of_ble_eq_true rfl⟩) (wPreV hK hP (hD.weaken (fun _ _ _ _ => trivial)) (va_recv hK hP (ci := 5) (q0 := 0) rfl rfl)) rfl rfl hl.1 rfl (lv_room (Nat.le_of_ble_eq_true rfl)) dX7_set_32 ⟨Nat.le_of_ble_eq_true rfl, Nat.le_of_ble_eq_true rfl⟩) hS (fun q _ h => hFc q h) hFc (fun r u t H locs ht hvm hw hB _ _ hS => ?_)
        obtain ⟨hP, -, hD⟩ := hB
        rw [ht] at hP
        replace hD := hD.weaken (fun _ q _ h => hFc q.1 h)
        rw [hw.2] at hP hD
        rw [hw.1]
        clear hw hFc
        have hP : va_P Dg vwCl (cX x0 b z (-2) (σ.1 2 0) (σ.1 2 1) (σ.1 2 2) (σ.1 2 3) (σ.1 2 4) (rfO (-2) (σ.1 1)) (g 0) (g 1) (g 2) (g 3) (g 4) ++ va_pl L f) H := hP
        have hD : va_D A (cX x0 b z (-2) (σ.1 2 0) (σ.1 2 1) (σ.1 2 2) (σ.1 2 3) (σ.1 2 4) (rfO (-2) (σ.1 1)) (g 0) (g 1) (g 2) (g 3) (g 4) ++ va_pl L f) := hD
        have hw : wh_set σ p1 p2 p3 = (-2) := by simp only [wh_set, if_pos c_1, if_neg c_3, if_neg c_7]
        have hn : ¬ wh_set σ p1 p2 p3 = 0 := by rw [hw]; decide
        exact W.iret (v := (-2)) hx hb hr (fun t ht hW => ⟨⟨_, (cX x0 b z (-2) (σ.1 2 0) (σ.1 2 1) (σ.1 2 2) (σ.1 2 3) (σ.1 2 4) (rfO (-2) (σ.1 1)) (g 0) (g 1) (g 2) (g 3) (g 4) ++ va_pl L f), rfl, ⟨by rw [an_set, if_neg hn, hw]; try rfl, L, f, ad, g, by rw [nw_set, if_neg hn, hw]; rfl, by rw [nw_set, if_neg hn]; exact CI_rf hC _⟩, by rw [ht]; exact hP, va_K.moved hW.alike hK, hD⟩, hS.F ht⟩) hS.2.2 dX7_set_35
  · refine va_csq ((va_runV (As := [.int p1]) (rest := []) ⟨hx, hb, hml, hown, hts⟩ (met_X7_standAt l Dg x0 b z (σ.1 0 0) (σ.1 2 0) (σ.1 2 1) (σ.1 2 2) (σ.1 2 3) (σ.1 2 4) (σ.1 1) (g 0) (g 1) (g 2) (g 3) (g 4) L f p1 hV.1.2.2.2.2) (cwV 1 hts gX7_set_X7_standAt rfl rfl rfl (by decide +kernel) ⟨Nat.le_of_ble_eq_true rfl, Nat.le_of_ble_eq_true rfl⟩) (rPreV hK hP (va_recv hK hP (ci := 5) (q0 := 0) rfl rfl)) rfl rfl hl.1 rfl (lv_room (Nat.le_of_ble_eq_true rfl)) dX7_set_2 ⟨Nat.le_of_ble_eq_true rfl, Nat.le_of_ble_eq_true rfl⟩).run) (fun r hw => ?_)
    obtain rfl : r = none := hw.trans (if_neg c_1)
    refine W.eq (g2 := F0 m 5 ls [.null]) rfl ?_
    refine lv_astoreN (lv' := [(4, .null), (0, .ref x0), (1, .int p1), (2, .int p2), (3, .int p3)]) hx hb dX7_set_5 hl (by decide) rfl (fun ls hl => ?_)
    refine lv_aload_n hx hb dX7_set_7 rfl (lv_at hl 1 rfl) ?_
    refine lv_iload_n hx hb dX7_set_8 rfl (lv_at hl 4 rfl) ?_
    rcases Decidable.em (fX8_isIn p3 0 ((σ.1 2 3) - 1) = true) with c_9 | c_9
    · refine va_csq ((va_runV (As := [.int p3]) (rest := []) ⟨hx, hb, hml, hown, hts⟩ (met_X7_pointerAt l Dg x0 b z (σ.1 0 0) (σ.1 2 0) (σ.1 2 1) (σ.1 2 2) (σ.1 2 3) (σ.1 2 4) (σ.1 1) (g 0) (g 1) (g 2) (g 3) (g 4) L f p3 hV.1.2.2.2.1) (cwV 1 hts gX7_set_X7_pointerAt rfl rfl rfl (by decide +kernel) ⟨Nat.le_of_ble_eq_true rfl, Nat.le_of_ble_eq_true rfl⟩) (rPreV hK hP (va_recv hK hP (ci := 5) (q0 := 0) rfl rfl)) rfl rfl hl.1 rfl (lv_room (Nat.le_of_ble_eq_true rfl)) dX7_set_9 ⟨Nat.le_of_ble_eq_true rfl, Nat.le_of_ble_eq_true rfl⟩).run) (fun r hw => ?_)
      obtain rfl : r = some (ad 4 (ix p3)) := hw.trans ((if_pos c_9).trans (hC.2.2.2.2.1 _ (inC_lt hV.1.2.2.2.1 c_9)))
      refine W.eq (g2 := F0 m 12 ls [.ref (ad 4 (ix p3))]) rfl ?_
      have lt_10 := inC_lt hV.1.2.2.2.1 c_9
      have o_10 := hC.1.1 4 _ (by decide) lt_10
      have f_10 : f (ad 4 (ix p3)) = .inr (0, [.int (σ.1 8 (ix p3)), .ref (ad 0 (ix (σ.1 9 (ix p3))))]) := o_10.2
      refine lv_astore (lv' := [(5, .ref (ad 4 (ix p3))), (4, .null), (0, .ref x0), (1, .int p1), (2, .int p2), (3, .int p3)]) hx hb dX7_set_12 hl (by decide) rfl (fun ls hl => ?_)
      refine lv_aloadN hx hb dX7_set_14 (lv_at hl 1 rfl) ?_
      refine lv_ifnullN (tgt := 29) hx hb dX7_set_16 (by decide) ?_
      refine lv_aload_n hx hb dX7_set_29 rfl (lv_at hl 2 rfl) ?_
      refine lv_bipush (v := (-2)) hx hb dX7_set_30 (by decide) ?_
      have hFc := wFree hD hS hA
      refine va_calli (va_runV (As := [.int (-2)]) (rest := []) ⟨hx, hb, hml, hown, hts⟩ (met_X7_refuse l Dg x0 s.heap.size b z (σ.1 0 0) (σ.1 2 0) (σ.1 2 1) (σ.1 2 2) (σ.1 2 3) (σ.1 2 4) (σ.1 1) (g 0) (g 1) (g 2) (g 3) (g 4) L f (-2) (by decide) (by unfold vp_in; decide)) (cwV 1 hts gX7_set_X7_refuse rfl rfl rfl (by decide +kernel) ⟨Nat.le_of_ble_eq_true rfl, Nat.le_of_ble_eq_true rfl⟩) (wPreV hK hP (hD.weaken (fun _ _ _ _ => trivial)) (va_recv hK hP (ci := 5) (q0 := 0) rfl rfl)) rfl rfl hl.1 rfl (lv_room (Nat.le_of_ble_eq_true rfl)) dX7_set_32 ⟨Nat.le_of_ble_eq_true rfl, Nat.le_of_ble_eq_true rfl⟩) hS (fun q _ h => hFc q h) hFc (fun r u t H locs ht hvm hw hB _ _ hS => ?_)
      obtain ⟨hP, -, hD⟩ := hB
      rw [ht] at hP
      replace hD := hD.weaken (fun _ q _ h => hFc q.1 h)
      rw [hw.2] at hP hD
      rw [hw.1]
      clear hw hFc
      have hP : va_P Dg vwCl (cX x0 b z (-2) (σ.1 2 0) (σ.1 2 1) (σ.1 2 2) (σ.1 2 3) (σ.1 2 4) (rfO (-2) (σ.1 1)) (g 0) (g 1) (g 2) (g 3) (g 4) ++ va_pl L f) H := hP
      have hD : va_D A (cX x0 b z (-2) (σ.1 2 0) (σ.1 2 1) (σ.1 2 2) (σ.1 2 3) (σ.1 2 4) (rfO (-2) (σ.1 1)) (g 0) (g 1) (g 2) (g 3) (g 4) ++ va_pl L f) := hD
      have hw : wh_set σ p1 p2 p3 = (-2) := by simp only [wh_set, if_neg c_1, if_pos c_9]
      have hn : ¬ wh_set σ p1 p2 p3 = 0 := by rw [hw]; decide
      exact W.iret (v := (-2)) hx hb hr (fun t ht hW => ⟨⟨_, (cX x0 b z (-2) (σ.1 2 0) (σ.1 2 1) (σ.1 2 2) (σ.1 2 3) (σ.1 2 4) (rfO (-2) (σ.1 1)) (g 0) (g 1) (g 2) (g 3) (g 4) ++ va_pl L f), rfl, ⟨by rw [an_set, if_neg hn, hw]; try rfl, L, f, ad, g, by rw [nw_set, if_neg hn, hw]; rfl, by rw [nw_set, if_neg hn]; exact CI_rf hC _⟩, by rw [ht]; exact hP, va_K.moved hW.alike hK, hD⟩, hS.F ht⟩) hS.2.2 dX7_set_35
    · refine va_csq ((va_runV (As := [.int p3]) (rest := []) ⟨hx, hb, hml, hown, hts⟩ (met_X7_pointerAt l Dg x0 b z (σ.1 0 0) (σ.1 2 0) (σ.1 2 1) (σ.1 2 2) (σ.1 2 3) (σ.1 2 4) (σ.1 1) (g 0) (g 1) (g 2) (g 3) (g 4) L f p3 hV.1.2.2.2.1) (cwV 1 hts gX7_set_X7_pointerAt rfl rfl rfl (by decide +kernel) ⟨Nat.le_of_ble_eq_true rfl, Nat.le_of_ble_eq_true rfl⟩) (rPreV hK hP (va_recv hK hP (ci := 5) (q0 := 0) rfl rfl)) rfl rfl hl.1 rfl (lv_room (Nat.le_of_ble_eq_true rfl)) dX7_set_9 ⟨Nat.le_of_ble_eq_true rfl, Nat.le_of_ble_eq_true rfl⟩).run) (fun r hw => ?_)
      obtain rfl : r = none := hw.trans (if_neg c_9)
      refine W.eq (g2 := F0 m 12 ls [.null]) rfl ?_
      refine lv_astoreN (lv' := [(5, .null), (4, .null), (0, .ref x0), (1, .int p1), (2, .int p2), (3, .int p3)]) hx hb dX7_set_12 hl (by decide) rfl (fun ls hl => ?_)
      refine lv_aloadN hx hb dX7_set_14 (lv_at hl 1 rfl) ?_
      refine lv_ifnullN (tgt := 29) hx hb dX7_set_16 (by decide) ?_
      refine lv_aload_n hx hb dX7_set_29 rfl (lv_at hl 2 rfl) ?_
      refine lv_bipush (v := (-2)) hx hb dX7_set_30 (by decide) ?_
      have hFc := wFree hD hS hA
      refine va_calli (va_runV (As := [.int (-2)]) (rest := []) ⟨hx, hb, hml, hown, hts⟩ (met_X7_refuse l Dg x0 s.heap.size b z (σ.1 0 0) (σ.1 2 0) (σ.1 2 1) (σ.1 2 2) (σ.1 2 3) (σ.1 2 4) (σ.1 1) (g 0) (g 1) (g 2) (g 3) (g 4) L f (-2) (by decide) (by unfold vp_in; decide)) (cwV 1 hts gX7_set_X7_refuse rfl rfl rfl (by decide +kernel) ⟨Nat.le_of_ble_eq_true rfl, Nat.le_of_ble_eq_true rfl⟩) (wPreV hK hP (hD.weaken (fun _ _ _ _ => trivial)) (va_recv hK hP (ci := 5) (q0 := 0) rfl rfl)) rfl rfl hl.1 rfl (lv_room (Nat.le_of_ble_eq_true rfl)) dX7_set_32 ⟨Nat.le_of_ble_eq_true rfl, Nat.le_of_ble_eq_true rfl⟩) hS (fun q _ h => hFc q h) hFc (fun r u t H locs ht hvm hw hB _ _ hS => ?_)
      obtain ⟨hP, -, hD⟩ := hB
      rw [ht] at hP
      replace hD := hD.weaken (fun _ q _ h => hFc q.1 h)
      rw [hw.2] at hP hD
      rw [hw.1]
      clear hw hFc
      have hP : va_P Dg vwCl (cX x0 b z (-2) (σ.1 2 0) (σ.1 2 1) (σ.1 2 2) (σ.1 2 3) (σ.1 2 4) (rfO (-2) (σ.1 1)) (g 0) (g 1) (g 2) (g 3) (g 4) ++ va_pl L f) H := hP
      have hD : va_D A (cX x0 b z (-2) (σ.1 2 0) (σ.1 2 1) (σ.1 2 2) (σ.1 2 3) (σ.1 2 4) (rfO (-2) (σ.1 1)) (g 0) (g 1) (g 2) (g 3) (g 4) ++ va_pl L f) := hD
      have hw : wh_set σ p1 p2 p3 = (-2) := by simp only [wh_set, if_neg c_1, if_neg c_9]
      have hn : ¬ wh_set σ p1 p2 p3 = 0 := by rw [hw]; decide
      exact W.iret (v := (-2)) hx hb hr (fun t ht hW => ⟨⟨_, (cX x0 b z (-2) (σ.1 2 0) (σ.1 2 1) (σ.1 2 2) (σ.1 2 3) (σ.1 2 4) (rfO (-2) (σ.1 1)) (g 0) (g 1) (g 2) (g 3) (g 4) ++ va_pl L f), rfl, ⟨by rw [an_set, if_neg hn, hw]; try rfl, L, f, ad, g, by rw [nw_set, if_neg hn, hw]; rfl, by rw [nw_set, if_neg hn]; exact CI_rf hC _⟩, by rw [ht]; exact hP, va_K.moved hW.alike hK, hD⟩, hS.F ht⟩) hS.2.2 dX7_set_35

theorem in_X4_X7_show : ∀ w ∈ wsX40, w ∈ wsX7_show := fun w h => List.mem_cons_of_mem _ (List.mem_append_left _ (List.mem_append_left _ (List.mem_append_left _ (List.mem_append_right _ h))))
theorem in_X7_X7_show : ∀ w ∈ wsX70, w ∈ wsX7_show := fun w h => List.mem_cons_of_mem _ (List.mem_append_left _ (List.mem_append_left _ (List.mem_append_right _ h)))
theorem in_X1_X7_show : ∀ w ∈ wsX10, w ∈ wsX7_show := fun w h => List.mem_cons_of_mem _ (List.mem_append_left _ (List.mem_append_right _ h))
theorem in_X6_X7_show : ∀ w ∈ wsX60, w ∈ wsX7_show := fun w h => List.mem_cons_of_mem _ (List.mem_append_right _ h)
set_option maxHeartbeats 4000000 in
set_option maxRecDepth 100000 in
theorem met_X7_show (l : Launch) (Dg : va_G) (x0 sz : Nat) (b : Nat → Nat) (z : Nat → ClassId) (σ : St) (L : List Nat) (f : Nat → va_E) (ad : Nat → Nat → Nat) (g : Nat → Nat → Option Nat) (p1 : Int32) (p2 : Int32) (hV : vOK σ) (hC : CI z σ L f ad g)  : Met l yX7_show wsX7_show ({ frames := 7, cells := 0, slots := 0, locals := 161 }) (va_Pc [.ref x0, .int p1, .int p2] (wB Dg (cT z) (cX x0 b z (σ.1 0 0) (σ.1 2 0) (σ.1 2 1) (σ.1 2 2) (σ.1 2 3) (σ.1 2 4) (σ.1 1) (g 0) (g 1) (g 2) (g 3) (g 4) ++ va_pl L f) sz)) (va_Ql (fun (r : Int64) (u : va_W) => r = an_show σ p1 p2 ∧ CX x0 b z (nw_show σ p1 p2) u) (wE Dg (cT z) (va_A (cX x0 b z (σ.1 0 0) (σ.1 2 0) (σ.1 2 1) (σ.1 2 2) (σ.1 2 3) (σ.1 2 4) (σ.1 1) (g 0) (g 1) (g 2) (g 3) (g 4) ++ va_pl L f) sz)) (va_A (cX x0 b z (σ.1 0 0) (σ.1 2 0) (σ.1 2 1) (σ.1 2 2) (σ.1 2 3) (σ.1 2 4) (σ.1 1) (g 0) (g 1) (g 2) (g 3) (g 4) ++ va_pl L f) sz)) 0 0 (va_A (cX x0 b z (σ.1 0 0) (σ.1 2 0) (σ.1 2 1) (σ.1 2 2) (σ.1 2 3) (σ.1 2 4) (σ.1 1) (g 0) (g 1) (g 2) (g 3) (g 4) ++ va_pl L f) sz) := by
  refine Met.ofW (cc := cX7_show) (maxL := 5) (ret := (some .long)) (by decide) rfl ?_
  intro p e s m args below meth c s₁ B hml hv
  obtain ⟨rfl, hsz, hP, hK, hD0⟩ := hv
  have hx := B.exec
  have hb := B.bytes
  have hr := B.returns
  have hts := atoms_spec (ws := wsX7_show) B.pre
  have hown : s.vm.findClass RX7 = some m.cls := findClass_of_methodNamed B.named
  have hlocks := B.notSynchronized
  subst hsz
  have hD := hD0.self (sz := s.heap.size)
  generalize hAe : va_A (cX x0 b z (σ.1 0 0) (σ.1 2 0) (σ.1 2 1) (σ.1 2 2) (σ.1 2 3) (σ.1 2 4) (σ.1 1) (g 0) (g 1) (g 2) (g 3) (g 4) ++ va_pl L f) s.heap.size = A at hD ⊢
  have hA : ∀ q : Nat, s.heap.size ≤ q → A q := fun q h => by rw [← hAe]; exact Or.inr h
  have hS : va_S A s.heap s.heap [] := va_S.rf
  have hP : va_P Dg vwCl (cX x0 b z (σ.1 0 0) (σ.1 2 0) (σ.1 2 1) (σ.1 2 2) (σ.1 2 3) (σ.1 2 4) (σ.1 1) (g 0) (g 1) (g 2) (g 3) (g 4) ++ va_pl L f) s.heap := hP
  have hl := lv_entry ([.ref x0, .int p1, .int p2]) (n := 5) (Nat.le_of_ble_eq_true rfl)
  rw [lg_entry_eq]
  generalize (lg_sl ([.ref x0, .int p1, .int p2]) ++ List.replicate (5 - (lg_sl ([.ref x0, .int p1, .int p2])).length) Slot.unset).toArray = ls at hl ⊢
  have hl : lv_has ls 5 [(0, .ref x0), (1, .int p1), (2, .int p2)] := hl
  refine lv_aload_n hx hb dX7_show_0 rfl (lv_at hl 0 rfl) ?_
  refine lv_iload_n hx hb dX7_show_1 rfl (lv_at hl 1 rfl) ?_
  rcases Decidable.em (fX8_isIn p1 0 ((σ.1 2 4) - 1) = true) with c_1 | c_1
  · refine va_csq ((va_runV (As := [.int p1]) (rest := []) ⟨hx, hb, hml, hown, hts⟩ (met_X7_standAt l Dg x0 b z (σ.1 0 0) (σ.1 2 0) (σ.1 2 1) (σ.1 2 2) (σ.1 2 3) (σ.1 2 4) (σ.1 1) (g 0) (g 1) (g 2) (g 3) (g 4) L f p1 hV.1.2.2.2.2) (cwV 1 hts gX7_show_X7_standAt rfl rfl rfl (by decide +kernel) ⟨Nat.le_of_ble_eq_true rfl, Nat.le_of_ble_eq_true rfl⟩) (rPreV hK hP (va_recv hK hP (ci := 5) (q0 := 0) rfl rfl)) rfl rfl hl.1 rfl (lv_room (Nat.le_of_ble_eq_true rfl)) dX7_show_2 ⟨Nat.le_of_ble_eq_true rfl, Nat.le_of_ble_eq_true rfl⟩).run) (fun r hw => ?_)
    obtain rfl : r = some (ad 5 (ix p1)) := hw.trans ((if_pos c_1).trans (hC.2.2.2.2.2 _ (inC_lt hV.1.2.2.2.2 c_1)))
    refine W.eq (g2 := F0 m 5 ls [.ref (ad 5 (ix p1))]) rfl ?_
    have lt_2 := inC_lt hV.1.2.2.2.2 c_1
    have o_2 := hC.1.1 5 _ (by decide) lt_2
    have f_2 : f (ad 5 (ix p1)) = .inr (2, [.int (σ.1 10 (ix p1)), .ref (ad 6 (ix p1))]) := o_2.2
    have o6_2 := hC.1.1 6 _ (by decide) lt_2
    obtain ⟨gg, ge, gv⟩ := o6_2.2
    have T1 := hV.2.2.2.2.2 _ lt_2
    refine lv_astore_n (lv' := [(3, .ref (ad 5 (ix p1))), (0, .ref x0), (1, .int p1), (2, .int p2)]) hx hb dX7_show_5 rfl hl (by decide) rfl (fun ls hl => ?_)
    refine lv_aload_n hx hb dX7_show_6 rfl (lv_at hl 0 rfl) ?_
    refine lv_ifnonnull (tgt := 18) hx hb dX7_show_7 (by decide) ?_
    refine lv_aload_n hx hb dX7_show_18 rfl (lv_at hl 0 rfl) ?_
    refine lv_iload_n hx hb dX7_show_19 rfl (lv_at hl 3 rfl) ?_
    have hP2 := P_two hP o_2.1 f_2 o6_2.1 ge
    have hK2 := hK.sub (tys' := [(z 3, .object RX1)]) [3] rfl
    refine vp_callSi ((va_runV (As := [.int p2]) (rest := []) ⟨hx, hb, hml, hown, hts⟩ (met_X4_hasPlace l Dg (ad 5 (ix p1)) (ad 6 (ix p1)) (z 3) (σ.1 10 (ix p1)) (σ.1 11 (ix p1)) gg p2 T1.2.1) (cwV 1 hts gX7_show_X4_hasPlace rfl rfl rfl (by decide +kernel) ⟨Nat.le_of_ble_eq_true rfl, Nat.le_of_ble_eq_true rfl⟩) (rPreV hK2 hP2 (va_recv hK2 hP2 (ci := 2) (q0 := 0) rfl rfl)) rfl rfl hl.1 rfl (lv_room (Nat.le_of_ble_eq_true rfl)) dX7_show_20 ⟨Nat.le_of_ble_eq_true rfl, Nat.le_of_ble_eq_true rfl⟩).run) (fun r hw => ?_)
    rw [hw]
    clear hP2 hK2
    refine lv_if_ne (tgt := 34) hx hb dX7_show_23 (by decide) (fun c_3 => ?_) (fun c_3 => ?_)
    · replace c_3 := bI_ne c_3
      have hjr := j_rng hV c_1 c_3
      have hj := ix_lt (n := 6) hjr
      have hI : vp_in p2 (ix (σ.1 11 (ix p1))) := in_st T1.2.1 c_3
      refine lv_aload_n hx hb dX7_show_34 rfl (lv_at hl 0 rfl) ?_
      refine vg_get (D := Dg) (ci := 2) (v := .ref (ad 6 (ix p1))) (C := RX4) (T := TX4) (N := 2) hx hb hts in_X4_X7_show hown hK hP o_2.1 f_2 rfl 1 (by decide) (hts (.fieldLink RX7 197 "OrreryWorks$Stand" "places" "[LOrreryWorks$Pointer;") (by decide +kernel)) (fun _ h9 => h9) rfl dX7_show_35 ?_
      refine lv_iload_n hx hb dX7_show_38 rfl (lv_at hl 3 rfl) ?_
      refine vg_aldq hx hb hK hP 3 o6_2.1 ge rfl hI dX7_show_39 ?_
      rcases Decidable.em ((σ.1 12 (6 * ix p1 + ix p2)) = (-1)) with c_4 | c_4
      · refine W.eq (g2 := F0 m 40 ls [.null]) (by rw [show gg p2.toNatClampNeg = _ from gv _ hj, pR_n c_4]; rfl) ?_
        refine lv_astoreN (lv' := [(4, .null), (3, .ref (ad 5 (ix p1))), (0, .ref x0), (1, .int p1), (2, .int p2)]) hx hb dX7_show_40 hl (by decide) rfl (fun ls hl => ?_)
        refine lv_aloadN hx hb dX7_show_42 (lv_at hl 0 rfl) ?_
        refine lv_ifnonnullN hx hb dX7_show_44 ?_
        refine lv_aload_n hx hb dX7_show_47 rfl (lv_at hl 2 rfl) ?_
        refine lv_bipush (v := (-10)) hx hb dX7_show_48 (by decide) ?_
        have hFc := wFree hD hS hA
        refine va_calli (va_runV (As := [.int (-10)]) (rest := []) ⟨hx, hb, hml, hown, hts⟩ (met_X7_refuseAnyNumber l Dg x0 s.heap.size b z (σ.1 0 0) (σ.1 2 0) (σ.1 2 1) (σ.1 2 2) (σ.1 2 3) (σ.1 2 4) (σ.1 1) (g 0) (g 1) (g 2) (g 3) (g 4) L f (-10) (by decide) (by unfold vp_in; decide)) (cwV 1 hts gX7_show_X7_refuseAnyNumber rfl rfl rfl (by decide +kernel) ⟨Nat.le_of_ble_eq_true rfl, Nat.le_of_ble_eq_true rfl⟩) (wPreV hK hP (hD.weaken (fun _ _ _ _ => trivial)) (va_recv hK hP (ci := 5) (q0 := 0) rfl rfl)) rfl rfl hl.1 rfl (lv_room (Nat.le_of_ble_eq_true rfl)) dX7_show_50 ⟨Nat.le_of_ble_eq_true rfl, Nat.le_of_ble_eq_true rfl⟩) hS (fun q _ h => hFc q h) hFc (fun r u t H locs ht hvm hw hB _ _ hS => ?_)
        obtain ⟨hP, -, hD⟩ := hB
        rw [ht] at hP
        replace hD := hD.weaken (fun _ q _ h => hFc q.1 h)
        rw [hw.2] at hP hD
        rw [hw.1]
        clear hw hFc
        have hP : va_P Dg vwCl (cX x0 b z (-10) (σ.1 2 0) (σ.1 2 1) (σ.1 2 2) (σ.1 2 3) (σ.1 2 4) (rfO (-10) (σ.1 1)) (g 0) (g 1) (g 2) (g 3) (g 4) ++ va_pl L f) H := hP
        have hD : va_D A (cX x0 b z (-10) (σ.1 2 0) (σ.1 2 1) (σ.1 2 2) (σ.1 2 3) (σ.1 2 4) (rfO (-10) (σ.1 1)) (g 0) (g 1) (g 2) (g 3) (g 4) ++ va_pl L f) := hD
        refine lv_i2l hx hb dX7_show_53 rfl ?_
        have hw : wh_show σ p1 p2 = (-10) := by simp only [wh_show, if_pos c_1, if_pos c_3, if_pos c_4]
        have hn : ¬ wh_show σ p1 p2 = 0 := by rw [hw]; decide
        exact W.lret (v := (0 : Int32).toInt64) hx hb hr (fun t ht hW => ⟨⟨_, (cX x0 b z (-10) (σ.1 2 0) (σ.1 2 1) (σ.1 2 2) (σ.1 2 3) (σ.1 2 4) (rfO (-10) (σ.1 1)) (g 0) (g 1) (g 2) (g 3) (g 4) ++ va_pl L f), rfl, ⟨by rw [an_show, if_neg hn]; try rfl, L, f, ad, g, by rw [nw_show, if_neg hn, hw]; rfl, by rw [nw_show, if_neg hn]; exact CI_rf hC _⟩, by rw [ht]; exact hP, va_K.moved hW.alike hK, hD⟩, hS.F ht⟩) hS.2.2 dX7_show_54
      · refine W.eq (g2 := F0 m 40 ls [.ref (ad 4 (ix (σ.1 12 (6 * ix p1 + ix p2))))]) (by rw [show gg p2.toNatClampNeg = _ from gv _ hj, pR_s c_4]; rfl) ?_
        have pr_4 : 0 ≤ ((σ.1 12 (6 * ix p1 + ix p2))).toInt ∧ ((σ.1 12 (6 * ix p1 + ix p2))).toInt < (σ.1 2 3).toInt := (tp_ok hV c_1 hjr).resolve_left c_4
        have lp_4 : ix (σ.1 12 (6 * ix p1 + ix p2)) < cN σ 3 := by show ((σ.1 12 (6 * ix p1 + ix p2))).toInt.toNat < (σ.1 2 3).toInt.toNat; omega
        have op_4 := hC.1.1 4 _ (by decide) lp_4
        have fp_4 : f (ad 4 (ix (σ.1 12 (6 * ix p1 + ix p2)))) = .inr (0, [.int (σ.1 8 (ix (σ.1 12 (6 * ix p1 + ix p2)))), .ref (ad 0 (ix (σ.1 9 (ix (σ.1 12 (6 * ix p1 + ix p2))))))]) := op_4.2
        have pv_4 := hV.2.2.2.2.1 _ lp_4
        have pk_4 := pv_4.1
        have pw_4 := pv_4.2
        have lw_4 : ix (σ.1 9 (ix (σ.1 12 (6 * ix p1 + ix p2)))) < cN σ 0 := by show (σ.1 9 (ix (σ.1 12 (6 * ix p1 + ix p2)))).toInt.toNat < (σ.1 2 0).toInt.toNat; omega
        have ow_4 := hC.1.1 0 _ (by decide) lw_4
        have fw_4 : f (ad 0 (ix (σ.1 9 (ix (σ.1 12 (6 * ix p1 + ix p2)))))) = .inr (4, [.int (σ.1 3 (ix (σ.1 9 (ix (σ.1 12 (6 * ix p1 + ix p2)))))), .long (σ.2 0 (ix (σ.1 9 (ix (σ.1 12 (6 * ix p1 + ix p2)))))), .long (σ.2 1 (ix (σ.1 9 (ix (σ.1 12 (6 * ix p1 + ix p2))))))]) := ow_4.2
        have ww_4 := hV.2.1 _ lw_4
        refine lv_astore (lv' := [(4, .ref (ad 4 (ix (σ.1 12 (6 * ix p1 + ix p2))))), (3, .ref (ad 5 (ix p1))), (0, .ref x0), (1, .int p1), (2, .int p2)]) hx hb dX7_show_40 hl (by decide) rfl (fun ls hl => ?_)
        refine lv_aload hx hb dX7_show_42 (lv_at hl 0 rfl) ?_
        refine lv_ifnonnull (tgt := 55) hx hb dX7_show_44 (by decide) ?_
        refine lv_aload_n hx hb dX7_show_55 rfl (lv_at hl 2 rfl) ?_
        refine lv_aload hx hb dX7_show_56 (lv_at hl 0 rfl) ?_
        have hP2 := P_two hP op_4.1 fp_4 ow_4.1 fw_4
        have hK2 := hK.sub (tys' := []) [] rfl
        refine vp_callSl ((va_runV (As := []) (rest := [.ref x0]) ⟨hx, hb, hml, hown, hts⟩ (met_X1_shown l Dg (ad 4 (ix (σ.1 12 (6 * ix p1 + ix p2)))) (ad 0 (ix (σ.1 9 (ix (σ.1 12 (6 * ix p1 + ix p2)))))) (σ.1 8 (ix (σ.1 12 (6 * ix p1 + ix p2)))) (σ.1 3 (ix (σ.1 9 (ix (σ.1 12 (6 * ix p1 + ix p2)))))) (σ.2 0 (ix (σ.1 9 (ix (σ.1 12 (6 * ix p1 + ix p2)))))) (σ.2 1 (ix (σ.1 9 (ix (σ.1 12 (6 * ix p1 + ix p2)))))) ww_4.1 ww_4.2.2.2.1 pk_4) (cwV 0 hts gX7_show_X1_shown rfl rfl rfl (by decide +kernel) ⟨Nat.le_of_ble_eq_true rfl, Nat.le_of_ble_eq_true rfl⟩) (rPreV hK2 hP2 (va_recv hK2 hP2 (ci := 0) (q0 := 0) rfl rfl)) rfl rfl hl.1 rfl (lv_room (Nat.le_of_ble_eq_true rfl)) dX7_show_58 ⟨Nat.le_of_ble_eq_true rfl, Nat.le_of_ble_eq_true rfl⟩).run) (fun r hw => ?_)
        rw [hw]
        clear hP2 hK2
        have hFc := wFree hD hS hA
        refine va_calll (va_runV (As := [.long (shP σ (σ.1 12 (6 * ix p1 + ix p2)))]) (rest := []) ⟨hx, hb, hml, hown, hts⟩ (met_X7_answerLong l Dg x0 s.heap.size b z (σ.1 0 0) (σ.1 2 0) (σ.1 2 1) (σ.1 2 2) (σ.1 2 3) (σ.1 2 4) (σ.1 1) (g 0) (g 1) (g 2) (g 3) (g 4) L f (shP σ (σ.1 12 (6 * ix p1 + ix p2))) ) (cwV 1 hts gX7_show_X7_answerLong rfl rfl rfl (by decide +kernel) ⟨Nat.le_of_ble_eq_true rfl, Nat.le_of_ble_eq_true rfl⟩) (wPreV hK hP (hD.weaken (fun _ _ _ _ => trivial)) (va_recv hK hP (ci := 5) (q0 := 0) rfl rfl)) rfl rfl hl.1 rfl (lv_room (Nat.le_of_ble_eq_true rfl)) dX7_show_61 ⟨Nat.le_of_ble_eq_true rfl, Nat.le_of_ble_eq_true rfl⟩) hS (fun q _ h => hFc q h) hFc (fun r u t H locs ht hvm hw hB _ _ hS => ?_)
        obtain ⟨hP, -, hD⟩ := hB
        rw [ht] at hP
        replace hD := hD.weaken (fun _ q _ h => hFc q.1 h)
        rw [hw.2] at hP hD
        rw [hw.1]
        clear hw hFc
        have hP : va_P Dg vwCl (cX x0 b z 0 (σ.1 2 0) (σ.1 2 1) (σ.1 2 2) (σ.1 2 3) (σ.1 2 4) (σ.1 1) (g 0) (g 1) (g 2) (g 3) (g 4) ++ va_pl L f) H := hP
        have hD : va_D A (cX x0 b z 0 (σ.1 2 0) (σ.1 2 1) (σ.1 2 2) (σ.1 2 3) (σ.1 2 4) (σ.1 1) (g 0) (g 1) (g 2) (g 3) (g 4) ++ va_pl L f) := hD
        have hw : wh_show σ p1 p2 = 0 := by simp only [wh_show, if_pos c_1, if_pos c_3, if_neg c_4]
        exact W.lret (v := (shP σ (σ.1 12 (6 * ix p1 + ix p2)))) hx hb hr (fun t ht hW => ⟨⟨_, (cX x0 b z 0 (σ.1 2 0) (σ.1 2 1) (σ.1 2 2) (σ.1 2 3) (σ.1 2 4) (σ.1 1) (g 0) (g 1) (g 2) (g 3) (g 4) ++ va_pl L f), rfl, ⟨by rw [an_show, if_pos hw]; try rfl, L, f, ad, g, by rw [nw_show, if_pos hw]; rfl, by rw [nw_show, if_pos hw]; exact CI_ok0 hC⟩, by rw [ht]; exact hP, va_K.moved hW.alike hK, hD⟩, hS.F ht⟩) hS.2.2 dX7_show_64
    · replace c_3 := bI_eq c_3
      refine lv_aload_n hx hb dX7_show_26 rfl (lv_at hl 1 rfl) ?_
      refine lv_bipush (v := (-8)) hx hb dX7_show_27 (by decide) ?_
      have hFc := wFree hD hS hA
      refine va_calli (va_runV (As := [.int (-8)]) (rest := []) ⟨hx, hb, hml, hown, hts⟩ (met_X7_refuseAnyNumber l Dg x0 s.heap.size b z (σ.1 0 0) (σ.1 2 0) (σ.1 2 1) (σ.1 2 2) (σ.1 2 3) (σ.1 2 4) (σ.1 1) (g 0) (g 1) (g 2) (g 3) (g 4) L f (-8) (by decide) (by unfold vp_in; decide)) (cwV 1 hts gX7_show_X7_refuseAnyNumber rfl rfl rfl (by decide +kernel) ⟨Nat.le_of_ble_eq_true rfl, Nat.le_of_ble_eq_true rfl⟩) (wPreV hK hP (hD.weaken (fun _ _ _ _ => trivial)) (va_recv hK hP (ci := 5) (q0 := 0) rfl rfl)) rfl rfl hl.1 rfl (lv_room (Nat.le_of_ble_eq_true rfl)) dX7_show_29 ⟨Nat.le_of_ble_eq_true rfl, Nat.le_of_ble_eq_true rfl⟩) hS (fun q _ h => hFc q h) hFc (fun r u t H locs ht hvm hw hB _ _ hS => ?_)
      obtain ⟨hP, -, hD⟩ := hB
      rw [ht] at hP
      replace hD := hD.weaken (fun _ q _ h => hFc q.1 h)
      rw [hw.2] at hP hD
      rw [hw.1]
      clear hw hFc
      have hP : va_P Dg vwCl (cX x0 b z (-8) (σ.1 2 0) (σ.1 2 1) (σ.1 2 2) (σ.1 2 3) (σ.1 2 4) (rfO (-8) (σ.1 1)) (g 0) (g 1) (g 2) (g 3) (g 4) ++ va_pl L f) H := hP
      have hD : va_D A (cX x0 b z (-8) (σ.1 2 0) (σ.1 2 1) (σ.1 2 2) (σ.1 2 3) (σ.1 2 4) (rfO (-8) (σ.1 1)) (g 0) (g 1) (g 2) (g 3) (g 4) ++ va_pl L f) := hD
      refine lv_i2l hx hb dX7_show_32 rfl ?_
      have hw : wh_show σ p1 p2 = (-8) := by simp only [wh_show, if_pos c_1, if_neg c_3]
      have hn : ¬ wh_show σ p1 p2 = 0 := by rw [hw]; decide
      exact W.lret (v := (0 : Int32).toInt64) hx hb hr (fun t ht hW => ⟨⟨_, (cX x0 b z (-8) (σ.1 2 0) (σ.1 2 1) (σ.1 2 2) (σ.1 2 3) (σ.1 2 4) (rfO (-8) (σ.1 1)) (g 0) (g 1) (g 2) (g 3) (g 4) ++ va_pl L f), rfl, ⟨by rw [an_show, if_neg hn]; try rfl, L, f, ad, g, by rw [nw_show, if_neg hn, hw]; rfl, by rw [nw_show, if_neg hn]; exact CI_rf hC _⟩, by rw [ht]; exact hP, va_K.moved hW.alike hK, hD⟩, hS.F ht⟩) hS.2.2 dX7_show_33
  · refine va_csq ((va_runV (As := [.int p1]) (rest := []) ⟨hx, hb, hml, hown, hts⟩ (met_X7_standAt l Dg x0 b z (σ.1 0 0) (σ.1 2 0) (σ.1 2 1) (σ.1 2 2) (σ.1 2 3) (σ.1 2 4) (σ.1 1) (g 0) (g 1) (g 2) (g 3) (g 4) L f p1 hV.1.2.2.2.2) (cwV 1 hts gX7_show_X7_standAt rfl rfl rfl (by decide +kernel) ⟨Nat.le_of_ble_eq_true rfl, Nat.le_of_ble_eq_true rfl⟩) (rPreV hK hP (va_recv hK hP (ci := 5) (q0 := 0) rfl rfl)) rfl rfl hl.1 rfl (lv_room (Nat.le_of_ble_eq_true rfl)) dX7_show_2 ⟨Nat.le_of_ble_eq_true rfl, Nat.le_of_ble_eq_true rfl⟩).run) (fun r hw => ?_)
    obtain rfl : r = none := hw.trans (if_neg c_1)
    refine W.eq (g2 := F0 m 5 ls [.null]) rfl ?_
    refine lv_astore_nN (lv' := [(3, .null), (0, .ref x0), (1, .int p1), (2, .int p2)]) hx hb dX7_show_5 rfl hl (by decide) rfl (fun ls hl => ?_)
    refine lv_aload_nN hx hb dX7_show_6 rfl (lv_at hl 0 rfl) ?_
    refine lv_ifnonnullN hx hb dX7_show_7 ?_
    refine lv_aload_n hx hb dX7_show_10 rfl (lv_at hl 1 rfl) ?_
    refine lv_bipush (v := (-2)) hx hb dX7_show_11 (by decide) ?_
    have hFc := wFree hD hS hA
    refine va_calli (va_runV (As := [.int (-2)]) (rest := []) ⟨hx, hb, hml, hown, hts⟩ (met_X7_refuseAnyNumber l Dg x0 s.heap.size b z (σ.1 0 0) (σ.1 2 0) (σ.1 2 1) (σ.1 2 2) (σ.1 2 3) (σ.1 2 4) (σ.1 1) (g 0) (g 1) (g 2) (g 3) (g 4) L f (-2) (by decide) (by unfold vp_in; decide)) (cwV 1 hts gX7_show_X7_refuseAnyNumber rfl rfl rfl (by decide +kernel) ⟨Nat.le_of_ble_eq_true rfl, Nat.le_of_ble_eq_true rfl⟩) (wPreV hK hP (hD.weaken (fun _ _ _ _ => trivial)) (va_recv hK hP (ci := 5) (q0 := 0) rfl rfl)) rfl rfl hl.1 rfl (lv_room (Nat.le_of_ble_eq_true rfl)) dX7_show_13 ⟨Nat.le_of_ble_eq_true rfl, Nat.le_of_ble_eq_true rfl⟩) hS (fun q _ h => hFc q h) hFc (fun r u t H locs ht hvm hw hB _ _ hS => ?_)
    obtain ⟨hP, -, hD⟩ := hB
    rw [ht] at hP
    replace hD := hD.weaken (fun _ q _ h => hFc q.1 h)
    rw [hw.2] at hP hD
    rw [hw.1]
    clear hw hFc
    have hP : va_P Dg vwCl (cX x0 b z (-2) (σ.1 2 0) (σ.1 2 1) (σ.1 2 2) (σ.1 2 3) (σ.1 2 4) (rfO (-2) (σ.1 1)) (g 0) (g 1) (g 2) (g 3) (g 4) ++ va_pl L f) H := hP
    have hD : va_D A (cX x0 b z (-2) (σ.1 2 0) (σ.1 2 1) (σ.1 2 2) (σ.1 2 3) (σ.1 2 4) (rfO (-2) (σ.1 1)) (g 0) (g 1) (g 2) (g 3) (g 4) ++ va_pl L f) := hD
    refine lv_i2l hx hb dX7_show_16 rfl ?_
    have hw : wh_show σ p1 p2 = (-2) := by simp only [wh_show, if_neg c_1]
    have hn : ¬ wh_show σ p1 p2 = 0 := by rw [hw]; decide
    exact W.lret (v := (0 : Int32).toInt64) hx hb hr (fun t ht hW => ⟨⟨_, (cX x0 b z (-2) (σ.1 2 0) (σ.1 2 1) (σ.1 2 2) (σ.1 2 3) (σ.1 2 4) (rfO (-2) (σ.1 1)) (g 0) (g 1) (g 2) (g 3) (g 4) ++ va_pl L f), rfl, ⟨by rw [an_show, if_neg hn]; try rfl, L, f, ad, g, by rw [nw_show, if_neg hn, hw]; rfl, by rw [nw_show, if_neg hn]; exact CI_rf hC _⟩, by rw [ht]; exact hP, va_K.moved hW.alike hK, hD⟩, hS.F ht⟩) hS.2.2 dX7_show_17

theorem in_X4_X7_all : ∀ w ∈ wsX40, w ∈ wsX7_all := fun w h => List.mem_cons_of_mem _ (List.mem_append_left _ (List.mem_append_left _ (List.mem_append_left _ (List.mem_append_right _ h))))
theorem in_X7_X7_all : ∀ w ∈ wsX70, w ∈ wsX7_all := fun w h => List.mem_cons_of_mem _ (List.mem_append_left _ (List.mem_append_left _ (List.mem_append_right _ h)))
theorem in_X1_X7_all : ∀ w ∈ wsX10, w ∈ wsX7_all := fun w h => List.mem_cons_of_mem _ (List.mem_append_left _ (List.mem_append_right _ h))
theorem in_X6_X7_all : ∀ w ∈ wsX60, w ∈ wsX7_all := fun w h => List.mem_cons_of_mem _ (List.mem_append_right _ h)
set_option maxHeartbeats 4000000 in
set_option maxRecDepth 100000 in
theorem met_X7_all (l : Launch) (Dg : va_G) (x0 sz : Nat) (b : Nat → Nat) (z : Nat → ClassId) (σ : St) (L : List Nat) (f : Nat → va_E) (ad : Nat → Nat → Nat) (g : Nat → Nat → Option Nat) (p1 : Int32) (hV : vOK σ) (hC : CI z σ L f ad g)  : Met l yX7_all wsX7_all ({ frames := 7, cells := 0, slots := 0, locals := 161 }) (va_Pc [.ref x0, .int p1] (wB Dg (cT z) (cX x0 b z (σ.1 0 0) (σ.1 2 0) (σ.1 2 1) (σ.1 2 2) (σ.1 2 3) (σ.1 2 4) (σ.1 1) (g 0) (g 1) (g 2) (g 3) (g 4) ++ va_pl L f) sz)) (va_Ql (fun (r : Int64) (u : va_W) => r = an_all σ p1 ∧ CX x0 b z (nw_all σ p1) u) (wE Dg (cT z) (va_A (cX x0 b z (σ.1 0 0) (σ.1 2 0) (σ.1 2 1) (σ.1 2 2) (σ.1 2 3) (σ.1 2 4) (σ.1 1) (g 0) (g 1) (g 2) (g 3) (g 4) ++ va_pl L f) sz)) (va_A (cX x0 b z (σ.1 0 0) (σ.1 2 0) (σ.1 2 1) (σ.1 2 2) (σ.1 2 3) (σ.1 2 4) (σ.1 1) (g 0) (g 1) (g 2) (g 3) (g 4) ++ va_pl L f) sz)) 0 0 (va_A (cX x0 b z (σ.1 0 0) (σ.1 2 0) (σ.1 2 1) (σ.1 2 2) (σ.1 2 3) (σ.1 2 4) (σ.1 1) (g 0) (g 1) (g 2) (g 3) (g 4) ++ va_pl L f) sz) := by
  refine Met.ofW (cc := cX7_all) (maxL := 9) (ret := (some .long)) (by decide) rfl ?_
  intro p e s m args below meth c s₁ B hml hv
  obtain ⟨rfl, hsz, hP, hK, hD0⟩ := hv
  have hx := B.exec
  have hb := B.bytes
  have hr := B.returns
  have hts := atoms_spec (ws := wsX7_all) B.pre
  have hown : s.vm.findClass RX7 = some m.cls := findClass_of_methodNamed B.named
  have hlocks := B.notSynchronized
  subst hsz
  have hD := hD0.self (sz := s.heap.size)
  generalize hAe : va_A (cX x0 b z (σ.1 0 0) (σ.1 2 0) (σ.1 2 1) (σ.1 2 2) (σ.1 2 3) (σ.1 2 4) (σ.1 1) (g 0) (g 1) (g 2) (g 3) (g 4) ++ va_pl L f) s.heap.size = A at hD ⊢
  have hA : ∀ q : Nat, s.heap.size ≤ q → A q := fun q h => by rw [← hAe]; exact Or.inr h
  have hS : va_S A s.heap s.heap [] := va_S.rf
  have hP : va_P Dg vwCl (cX x0 b z (σ.1 0 0) (σ.1 2 0) (σ.1 2 1) (σ.1 2 2) (σ.1 2 3) (σ.1 2 4) (σ.1 1) (g 0) (g 1) (g 2) (g 3) (g 4) ++ va_pl L f) s.heap := hP
  have hl := lv_entry ([.ref x0, .int p1]) (n := 9) (Nat.le_of_ble_eq_true rfl)
  rw [lg_entry_eq]
  generalize (lg_sl ([.ref x0, .int p1]) ++ List.replicate (9 - (lg_sl ([.ref x0, .int p1])).length) Slot.unset).toArray = ls at hl ⊢
  have hl : lv_has ls 9 [(0, .ref x0), (1, .int p1)] := hl
  refine lv_aload_n hx hb dX7_all_0 rfl (lv_at hl 0 rfl) ?_
  refine lv_iload_n hx hb dX7_all_1 rfl (lv_at hl 1 rfl) ?_
  rcases Decidable.em (fX8_isIn p1 0 ((σ.1 2 4) - 1) = true) with c_1 | c_1
  · refine va_csq ((va_runV (As := [.int p1]) (rest := []) ⟨hx, hb, hml, hown, hts⟩ (met_X7_standAt l Dg x0 b z (σ.1 0 0) (σ.1 2 0) (σ.1 2 1) (σ.1 2 2) (σ.1 2 3) (σ.1 2 4) (σ.1 1) (g 0) (g 1) (g 2) (g 3) (g 4) L f p1 hV.1.2.2.2.2) (cwV 1 hts gX7_all_X7_standAt rfl rfl rfl (by decide +kernel) ⟨Nat.le_of_ble_eq_true rfl, Nat.le_of_ble_eq_true rfl⟩) (rPreV hK hP (va_recv hK hP (ci := 5) (q0 := 0) rfl rfl)) rfl rfl hl.1 rfl (lv_room (Nat.le_of_ble_eq_true rfl)) dX7_all_2 ⟨Nat.le_of_ble_eq_true rfl, Nat.le_of_ble_eq_true rfl⟩).run) (fun r hw => ?_)
    obtain rfl : r = some (ad 5 (ix p1)) := hw.trans ((if_pos c_1).trans (hC.2.2.2.2.2 _ (inC_lt hV.1.2.2.2.2 c_1)))
    refine W.eq (g2 := F0 m 5 ls [.ref (ad 5 (ix p1))]) rfl ?_
    have lt_2 := inC_lt hV.1.2.2.2.2 c_1
    have o_2 := hC.1.1 5 _ (by decide) lt_2
    have f_2 : f (ad 5 (ix p1)) = .inr (2, [.int (σ.1 10 (ix p1)), .ref (ad 6 (ix p1))]) := o_2.2
    have o6_2 := hC.1.1 6 _ (by decide) lt_2
    obtain ⟨gg, ge, gv⟩ := o6_2.2
    have T1 := hV.2.2.2.2.2 _ lt_2
    refine lv_astore_n (lv' := [(2, .ref (ad 5 (ix p1))), (0, .ref x0), (1, .int p1)]) hx hb dX7_all_5 rfl hl (by decide) rfl (fun ls hl => ?_)
    refine lv_aload_n hx hb dX7_all_6 rfl (lv_at hl 0 rfl) ?_
    refine lv_ifnonnull (tgt := 18) hx hb dX7_all_7 (by decide) ?_
    refine lv_lconst (v := 0) hx hb dX7_all_18 (by decide) ?_
    refine lv_lstore_n (lv' := [(3, .long 0), (2, .ref (ad 5 (ix p1))), (0, .ref x0), (1, .int p1)]) hx hb dX7_all_19 rfl hl (by decide) rfl (fun ls hl => ?_)
    refine lv_aload_n hx hb dX7_all_20 rfl (lv_at hl 1 rfl) ?_
    refine vg_get (D := Dg) (ci := 2) (v := .ref (ad 6 (ix p1))) (C := RX4) (T := TX4) (N := 2) hx hb hts in_X4_X7_all hown hK hP o_2.1 f_2 rfl 1 (by decide) (hts (.fieldLink RX7 197 "OrreryWorks$Stand" "places" "[LOrreryWorks$Pointer;") (by decide +kernel)) (fun _ h9 => h9) rfl dX7_all_21 ?_
    refine lv_astore (lv' := [(5, .ref (ad 6 (ix p1))), (3, .long 0), (2, .ref (ad 5 (ix p1))), (0, .ref x0), (1, .int p1)]) hx hb dX7_all_24 hl (by decide) rfl (fun ls hl => ?_)
    refine lv_aload hx hb dX7_all_26 (lv_at hl 0 rfl) ?_
    refine vg_alen hx hb hK hP 3 o6_2.1 ge rfl (v := (σ.1 11 (ix p1))) (len_eq T1.2.1) dX7_all_28 ?_
    refine lv_istore (lv' := [(6, .int (σ.1 11 (ix p1))), (5, .ref (ad 6 (ix p1))), (3, .long 0), (2, .ref (ad 5 (ix p1))), (0, .ref x0), (1, .int p1)]) hx hb dX7_all_29 hl (by decide) rfl (fun ls hl => ?_)
    refine lv_iconst (v := 0) hx hb dX7_all_31 (by decide) ?_
    refine lv_istore (lv' := [(7, .int 0), (6, .int (σ.1 11 (ix p1))), (5, .ref (ad 6 (ix p1))), (3, .long 0), (2, .ref (ad 5 (ix p1))), (0, .ref x0), (1, .int p1)]) hx hb dX7_all_32 hl (by decide) rfl (fun ls hl => ?_)
    have hn1 := T1.2.1.1
    have hn2 := T1.2.1.2
    have hq : ∃ j : Nat, lv_has ls 9 [(7, .int (nI j)), (3, .long (alS σ (ix p1) j)), (6, .int (σ.1 11 (ix p1))), (5, .ref (ad 6 (ix p1))), (2, .ref (ad 5 (ix p1))), (0, .ref x0), (1, .int p1)] ∧ j ≤ ix (σ.1 11 (ix p1)) := ⟨0, lv_sub hl [0, 3, 1, 2, 4, 5, 6] rfl, Nat.zero_le _⟩
    clear hl
    obtain ⟨j, hl, hj⟩ := hq
    have hN : ((ix (σ.1 11 (ix p1)) : Nat) : Int) = (σ.1 11 (ix p1)).toInt := by show (((σ.1 11 (ix p1)).toInt.toNat : Nat) : Int) = _; omega
    obtain ⟨n, hn⟩ : ∃ n : Nat, j + n = ix (σ.1 11 (ix p1)) := ⟨ix (σ.1 11 (ix p1)) - j, by omega⟩
    induction n generalizing j ls with
    | zero =>
      have ej : j = ix (σ.1 11 (ix p1)) := by omega
      have d1 : σ.1 11 (ix p1) ≤ nI j := by rw [Int32.le_iff_toInt_le, nI_toInt (by omega)]; omega
      refine lv_iload hx hb dX7_all_34 (lv_at hl 0 rfl) ?_
      refine lv_iload hx hb dX7_all_36 (lv_at hl 2 rfl) ?_
      refine lv_icmp_ge (tgt := 67) hx hb dX7_all_38 (by decide) (fun _ => ?_) (fun h0 => absurd d1 h0)
      refine lv_aload_n hx hb dX7_all_67 rfl (lv_at hl 5 rfl) ?_
      refine lv_lload_n hx hb dX7_all_68 rfl (lv_at hl 1 rfl) ?_
      have hFc := wFree hD hS hA
      refine va_calll (va_runV (As := [.long (alS σ (ix p1) j)]) (rest := []) ⟨hx, hb, hml, hown, hts⟩ (met_X7_answerLong l Dg x0 s.heap.size b z (σ.1 0 0) (σ.1 2 0) (σ.1 2 1) (σ.1 2 2) (σ.1 2 3) (σ.1 2 4) (σ.1 1) (g 0) (g 1) (g 2) (g 3) (g 4) L f (alS σ (ix p1) j) ) (cwV 1 hts gX7_all_X7_answerLong rfl rfl rfl (by decide +kernel) ⟨Nat.le_of_ble_eq_true rfl, Nat.le_of_ble_eq_true rfl⟩) (wPreV hK hP (hD.weaken (fun _ _ _ _ => trivial)) (va_recv hK hP (ci := 5) (q0 := 0) rfl rfl)) rfl rfl hl.1 rfl (lv_room (Nat.le_of_ble_eq_true rfl)) dX7_all_69 ⟨Nat.le_of_ble_eq_true rfl, Nat.le_of_ble_eq_true rfl⟩) hS (fun q _ h => hFc q h) hFc (fun r u t H locs ht hvm hw hB _ _ hS => ?_)
      obtain ⟨hP, -, hD⟩ := hB
      rw [ht] at hP
      replace hD := hD.weaken (fun _ q _ h => hFc q.1 h)
      rw [hw.2] at hP hD
      rw [hw.1]
      clear hw hFc
      have hP : va_P Dg vwCl (cX x0 b z 0 (σ.1 2 0) (σ.1 2 1) (σ.1 2 2) (σ.1 2 3) (σ.1 2 4) (σ.1 1) (g 0) (g 1) (g 2) (g 3) (g 4) ++ va_pl L f) H := hP
      have hD : va_D A (cX x0 b z 0 (σ.1 2 0) (σ.1 2 1) (σ.1 2 2) (σ.1 2 3) (σ.1 2 4) (σ.1 1) (g 0) (g 1) (g 2) (g 3) (g 4) ++ va_pl L f) := hD
      have hw : wh_all σ p1 = 0 := by simp only [wh_all, if_pos c_1]
      exact W.lret (v := (alS σ (ix p1) j)) hx hb hr (fun t ht hW => ⟨⟨_, (cX x0 b z 0 (σ.1 2 0) (σ.1 2 1) (σ.1 2 2) (σ.1 2 3) (σ.1 2 4) (σ.1 1) (g 0) (g 1) (g 2) (g 3) (g 4) ++ va_pl L f), rfl, ⟨by rw [an_all, if_pos hw]; rw [← ej], L, f, ad, g, by rw [nw_all, if_pos hw]; rfl, by rw [nw_all, if_pos hw]; exact CI_ok0 hC⟩, by rw [ht]; exact hP, va_K.moved hW.alike hK, hD⟩, hS.F ht⟩) hS.2.2 dX7_all_72
    | succ n ih =>
      have d1 : ¬ σ.1 11 (ix p1) ≤ nI j := fun g => by rw [Int32.le_iff_toInt_le, nI_toInt (by omega)] at g; omega
      have hj6 : j < 6 := by omega
      have b1 : vp_in (nI j) (ix (σ.1 11 (ix p1))) := vp_in_nI (by omega) (by omega)
      have x1 : gg (nI j).toNatClampNeg = pR (ad 4) (σ.1 12 (6 * ix p1 + j)) := by rw [nI_clamp (by omega)]; exact gv j hj6
      refine lv_iload hx hb dX7_all_34 (lv_at hl 0 rfl) ?_
      refine lv_iload hx hb dX7_all_36 (lv_at hl 2 rfl) ?_
      refine lv_icmp_ge (tgt := 67) hx hb dX7_all_38 (by decide) (fun h0 => absurd h0 d1) (fun _ => ?_)
      refine lv_aload hx hb dX7_all_41 (lv_at hl 3 rfl) ?_
      refine lv_iload hx hb dX7_all_43 (lv_at hl 0 rfl) ?_
      refine vg_aldq hx hb hK hP 3 o6_2.1 ge rfl b1 dX7_all_45 ?_
      rcases Decidable.em ((σ.1 12 (6 * ix p1 + j)) = (-1)) with c_3 | c_3
      · refine W.eq (g2 := F0 m 46 ls [.null]) (by rw [show gg (nI j).toNatClampNeg = _ from x1, pR_n c_3]; rfl) ?_
        refine lv_astoreN (lv' := [(8, .null), (7, .int (nI j)), (3, .long (alS σ (ix p1) j)), (6, .int (σ.1 11 (ix p1))), (5, .ref (ad 6 (ix p1))), (2, .ref (ad 5 (ix p1))), (0, .ref x0), (1, .int p1)]) hx hb dX7_all_46 hl (by decide) rfl (fun ls hl => ?_)
        refine lv_aloadN hx hb dX7_all_48 (lv_at hl 0 rfl) ?_
        refine lv_ifnullN (tgt := 61) hx hb dX7_all_50 (by decide) ?_
        refine lv_iinc (v := (nI j) + 1) (lv' := [(7, .int ((nI j) + 1)), (8, .null), (3, .long (alS σ (ix p1) j)), (6, .int (σ.1 11 (ix p1))), (5, .ref (ad 6 (ix p1))), (2, .ref (ad 5 (ix p1))), (0, .ref x0), (1, .int p1)]) hx hb dX7_all_61 hl (k := 1) rfl rfl (by decide) rfl (fun ls hl => ?_)
        refine lv_goto (tgt := 34) hx hb dX7_all_64 (by decide) ?_
        exact ih (j := j + 1) (hl := by rw [← nI_1, show alS σ (ix p1) (j + 1) = _ from if_pos c_3]; exact lv_sub hl [0, 2, 3, 4, 5, 6, 7] rfl) (hj := by omega) (hn := by omega)
      · refine W.eq (g2 := F0 m 46 ls [.ref (ad 4 (ix (σ.1 12 (6 * ix p1 + j))))]) (by rw [show gg (nI j).toNatClampNeg = _ from x1, pR_s c_3]; rfl) ?_
        have pr_3 : 0 ≤ ((σ.1 12 (6 * ix p1 + j))).toInt ∧ ((σ.1 12 (6 * ix p1 + j))).toInt < (σ.1 2 3).toInt := (T1.2.2 j hj6).resolve_left c_3
        have lp_3 : ix (σ.1 12 (6 * ix p1 + j)) < cN σ 3 := by show ((σ.1 12 (6 * ix p1 + j))).toInt.toNat < (σ.1 2 3).toInt.toNat; omega
        have op_3 := hC.1.1 4 _ (by decide) lp_3
        have fp_3 : f (ad 4 (ix (σ.1 12 (6 * ix p1 + j)))) = .inr (0, [.int (σ.1 8 (ix (σ.1 12 (6 * ix p1 + j)))), .ref (ad 0 (ix (σ.1 9 (ix (σ.1 12 (6 * ix p1 + j))))))]) := op_3.2
        have pv_3 := hV.2.2.2.2.1 _ lp_3
        have pk_3 := pv_3.1
        have pw_3 := pv_3.2
        have lw_3 : ix (σ.1 9 (ix (σ.1 12 (6 * ix p1 + j)))) < cN σ 0 := by show (σ.1 9 (ix (σ.1 12 (6 * ix p1 + j)))).toInt.toNat < (σ.1 2 0).toInt.toNat; omega
        have ow_3 := hC.1.1 0 _ (by decide) lw_3
        have fw_3 : f (ad 0 (ix (σ.1 9 (ix (σ.1 12 (6 * ix p1 + j)))))) = .inr (4, [.int (σ.1 3 (ix (σ.1 9 (ix (σ.1 12 (6 * ix p1 + j)))))), .long (σ.2 0 (ix (σ.1 9 (ix (σ.1 12 (6 * ix p1 + j)))))), .long (σ.2 1 (ix (σ.1 9 (ix (σ.1 12 (6 * ix p1 + j))))))]) := ow_3.2
        have ww_3 := hV.2.1 _ lw_3
        refine lv_astore (lv' := [(8, .ref (ad 4 (ix (σ.1 12 (6 * ix p1 + j))))), (7, .int (nI j)), (3, .long (alS σ (ix p1) j)), (6, .int (σ.1 11 (ix p1))), (5, .ref (ad 6 (ix p1))), (2, .ref (ad 5 (ix p1))), (0, .ref x0), (1, .int p1)]) hx hb dX7_all_46 hl (by decide) rfl (fun ls hl => ?_)
        refine lv_aload hx hb dX7_all_48 (lv_at hl 0 rfl) ?_
        refine lv_ifnull hx hb dX7_all_50 ?_
        refine lv_lload_n hx hb dX7_all_53 rfl (lv_at hl 2 rfl) ?_
        refine lv_aload hx hb dX7_all_54 (lv_at hl 0 rfl) ?_
        have hP2 := P_two hP op_3.1 fp_3 ow_3.1 fw_3
        have hK2 := hK.sub (tys' := []) [] rfl
        refine vp_callSl ((va_runV (As := []) (rest := [.long (alS σ (ix p1) j)]) ⟨hx, hb, hml, hown, hts⟩ (met_X1_shown l Dg (ad 4 (ix (σ.1 12 (6 * ix p1 + j)))) (ad 0 (ix (σ.1 9 (ix (σ.1 12 (6 * ix p1 + j)))))) (σ.1 8 (ix (σ.1 12 (6 * ix p1 + j)))) (σ.1 3 (ix (σ.1 9 (ix (σ.1 12 (6 * ix p1 + j)))))) (σ.2 0 (ix (σ.1 9 (ix (σ.1 12 (6 * ix p1 + j)))))) (σ.2 1 (ix (σ.1 9 (ix (σ.1 12 (6 * ix p1 + j)))))) ww_3.1 ww_3.2.2.2.1 pk_3) (cwV 0 hts gX7_all_X1_shown rfl rfl rfl (by decide +kernel) ⟨Nat.le_of_ble_eq_true rfl, Nat.le_of_ble_eq_true rfl⟩) (rPreV hK2 hP2 (va_recv hK2 hP2 (ci := 0) (q0 := 0) rfl rfl)) rfl rfl hl.1 rfl (lv_room (Nat.le_of_ble_eq_true rfl)) dX7_all_56 ⟨Nat.le_of_ble_eq_true rfl, Nat.le_of_ble_eq_true rfl⟩).run) (fun r hw => ?_)
        rw [hw]
        clear hP2 hK2
        refine lv_ladd hx hb dX7_all_59 ?_
        refine lv_lstore_n (lv' := [(3, .long ((alS σ (ix p1) j) + (shP σ (σ.1 12 (6 * ix p1 + j))))), (8, .ref (ad 4 (ix (σ.1 12 (6 * ix p1 + j))))), (7, .int (nI j)), (6, .int (σ.1 11 (ix p1))), (5, .ref (ad 6 (ix p1))), (2, .ref (ad 5 (ix p1))), (0, .ref x0), (1, .int p1)]) hx hb dX7_all_60 rfl hl (by decide) rfl (fun ls hl => ?_)
        refine lv_iinc (v := (nI j) + 1) (lv' := [(7, .int ((nI j) + 1)), (3, .long ((alS σ (ix p1) j) + (shP σ (σ.1 12 (6 * ix p1 + j))))), (8, .ref (ad 4 (ix (σ.1 12 (6 * ix p1 + j))))), (6, .int (σ.1 11 (ix p1))), (5, .ref (ad 6 (ix p1))), (2, .ref (ad 5 (ix p1))), (0, .ref x0), (1, .int p1)]) hx hb dX7_all_61 hl (k := 2) rfl rfl (by decide) rfl (fun ls hl => ?_)
        refine lv_goto (tgt := 34) hx hb dX7_all_64 (by decide) ?_
        exact ih (j := j + 1) (hl := by rw [← nI_1, show alS σ (ix p1) (j + 1) = _ from if_neg c_3]; exact lv_sub hl [0, 1, 3, 4, 5, 6, 7] rfl) (hj := by omega) (hn := by omega)
  · refine va_csq ((va_runV (As := [.int p1]) (rest := []) ⟨hx, hb, hml, hown, hts⟩ (met_X7_standAt l Dg x0 b z (σ.1 0 0) (σ.1 2 0) (σ.1 2 1) (σ.1 2 2) (σ.1 2 3) (σ.1 2 4) (σ.1 1) (g 0) (g 1) (g 2) (g 3) (g 4) L f p1 hV.1.2.2.2.2) (cwV 1 hts gX7_all_X7_standAt rfl rfl rfl (by decide +kernel) ⟨Nat.le_of_ble_eq_true rfl, Nat.le_of_ble_eq_true rfl⟩) (rPreV hK hP (va_recv hK hP (ci := 5) (q0 := 0) rfl rfl)) rfl rfl hl.1 rfl (lv_room (Nat.le_of_ble_eq_true rfl)) dX7_all_2 ⟨Nat.le_of_ble_eq_true rfl, Nat.le_of_ble_eq_true rfl⟩).run) (fun r hw => ?_)
    obtain rfl : r = none := hw.trans (if_neg c_1)
    refine W.eq (g2 := F0 m 5 ls [.null]) rfl ?_
    refine lv_astore_nN (lv' := [(2, .null), (0, .ref x0), (1, .int p1)]) hx hb dX7_all_5 rfl hl (by decide) rfl (fun ls hl => ?_)
    refine lv_aload_nN hx hb dX7_all_6 rfl (lv_at hl 0 rfl) ?_
    refine lv_ifnonnullN hx hb dX7_all_7 ?_
    refine lv_aload_n hx hb dX7_all_10 rfl (lv_at hl 1 rfl) ?_
    refine lv_bipush (v := (-2)) hx hb dX7_all_11 (by decide) ?_
    have hFc := wFree hD hS hA
    refine va_calli (va_runV (As := [.int (-2)]) (rest := []) ⟨hx, hb, hml, hown, hts⟩ (met_X7_refuseAnyNumber l Dg x0 s.heap.size b z (σ.1 0 0) (σ.1 2 0) (σ.1 2 1) (σ.1 2 2) (σ.1 2 3) (σ.1 2 4) (σ.1 1) (g 0) (g 1) (g 2) (g 3) (g 4) L f (-2) (by decide) (by unfold vp_in; decide)) (cwV 1 hts gX7_all_X7_refuseAnyNumber rfl rfl rfl (by decide +kernel) ⟨Nat.le_of_ble_eq_true rfl, Nat.le_of_ble_eq_true rfl⟩) (wPreV hK hP (hD.weaken (fun _ _ _ _ => trivial)) (va_recv hK hP (ci := 5) (q0 := 0) rfl rfl)) rfl rfl hl.1 rfl (lv_room (Nat.le_of_ble_eq_true rfl)) dX7_all_13 ⟨Nat.le_of_ble_eq_true rfl, Nat.le_of_ble_eq_true rfl⟩) hS (fun q _ h => hFc q h) hFc (fun r u t H locs ht hvm hw hB _ _ hS => ?_)
    obtain ⟨hP, -, hD⟩ := hB
    rw [ht] at hP
    replace hD := hD.weaken (fun _ q _ h => hFc q.1 h)
    rw [hw.2] at hP hD
    rw [hw.1]
    clear hw hFc
    have hP : va_P Dg vwCl (cX x0 b z (-2) (σ.1 2 0) (σ.1 2 1) (σ.1 2 2) (σ.1 2 3) (σ.1 2 4) (rfO (-2) (σ.1 1)) (g 0) (g 1) (g 2) (g 3) (g 4) ++ va_pl L f) H := hP
    have hD : va_D A (cX x0 b z (-2) (σ.1 2 0) (σ.1 2 1) (σ.1 2 2) (σ.1 2 3) (σ.1 2 4) (rfO (-2) (σ.1 1)) (g 0) (g 1) (g 2) (g 3) (g 4) ++ va_pl L f) := hD
    refine lv_i2l hx hb dX7_all_16 rfl ?_
    have hw : wh_all σ p1 = (-2) := by simp only [wh_all, if_neg c_1]
    have hn : ¬ wh_all σ p1 = 0 := by rw [hw]; decide
    exact W.lret (v := (0 : Int32).toInt64) hx hb hr (fun t ht hW => ⟨⟨_, (cX x0 b z (-2) (σ.1 2 0) (σ.1 2 1) (σ.1 2 2) (σ.1 2 3) (σ.1 2 4) (rfO (-2) (σ.1 1)) (g 0) (g 1) (g 2) (g 3) (g 4) ++ va_pl L f), rfl, ⟨by rw [an_all, if_neg hn]; try rfl, L, f, ad, g, by rw [nw_all, if_neg hn, hw]; rfl, by rw [nw_all, if_neg hn]; exact CI_rf hC _⟩, by rw [ht]; exact hP, va_K.moved hW.alike hK, hD⟩, hS.F ht⟩) hS.2.2 dX7_all_17
