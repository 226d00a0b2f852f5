/-! values that are exact: rounding, scaling by powers of two -/
theorem fm_veq {A A' : Nat} {e e' z : Int} (h1 : z ≤ e) (h2 : z ≤ e') (h : A * 2 ^ (e - z).toNat = A' * 2 ^ (e' - z).toNat) : A * 1 * 2 ^ (e - e').toNat = A' * 1 * 2 ^ (e' - e).toNat := by
  rw [Nat.mul_one, Nat.mul_one]
  have a1 : (e - z).toNat = (e - e').toNat + (min e e' - z).toNat := by omega
  have a2 : (e' - z).toNat = (e' - e).toNat + (min e e' - z).toNat := by omega
  rw [a1, a2, Nat.pow_add, Nat.pow_add, ← Nat.mul_assoc, ← Nat.mul_assoc] at h
  exact Nat.eq_of_mul_eq_mul_right (Nat.two_pow_pos _) h
theorem fm_rnd {f : FP.Core.Fmt} {s : Bool} {A A' : Nat} {e e' z : Int} (h1 : z ≤ e) (h2 : z ≤ e') (h : A * 2 ^ (e - z).toNat = A' * 2 ^ (e' - z).toNat) : FP.Core.round f (.fin s A e) = FP.Core.round f (.fin s A' e') :=
  FP.Core.roundRatio_congr (by decide) (by decide) (fm_veq h1 h2 h)
theorem fm_p64 : FP.Core.b64.p = 53 := rfl
theorem fm_p32 : FP.Core.b32.p = 24 := rfl
theorem fm_qmin64 : FP.Core.b64.qmin = -1074 := by decide
theorem fm_qmax64 : FP.Core.b64.qmax = 971 := by decide
theorem fm_qmin32 : FP.Core.b32.qmin = -149 := by decide
theorem fm_qmax32 : FP.Core.b32.qmax = 104 := by decide
theorem fm_tails64 : FP.Core.b64.tails = 2 ^ 52 := by decide
theorem fm_tails32 : FP.Core.b32.tails = 2 ^ 23 := by decide
/-- a significand of 53 digits, an exponent in range: rounding keeps the value -/
theorem fm_ex64 (s : Bool) {w : Nat} {e : Int} (hw : w < 2 ^ 53) (h1 : -1074 ≤ e) (h2 : e ≤ 971) :
    ∃ c q, FP.Core.round FP.Core.b64 (.fin s w e) = .fin s c q ∧ -1074 ≤ q ∧ c * 2 ^ (q + 1074).toNat = w * 2 ^ (e + 1074).toNat := by
  obtain ⟨c, q, h3, h4⟩ := FP.Core.round_exact FP.Core.good_b64 s (c := w) (q := e) hw (by rw [fm_qmin64]; exact h1) (by rw [fm_qmax64]; exact h2)
  have hf := FP.Core.round_fits FP.Core.good_b64 (.fin s w e)
  rw [h3] at hf
  have hq : -1074 ≤ q := by have := hf.2.1; rw [fm_qmin64] at this; exact this
  refine ⟨c, q, h3, hq, ?_⟩
  unfold FP.Core.inUnits at h4
  rw [fm_qmin64] at h4
  rw [show q + 1074 = q - -1074 by omega, show e + 1074 = e - -1074 by omega]
  exact h4
theorem fm_ex32 (s : Bool) {w : Nat} {e : Int} (hw : w < 2 ^ 24) (h1 : -149 ≤ e) (h2 : e ≤ 104) :
    ∃ c q, FP.Core.round FP.Core.b32 (.fin s w e) = .fin s c q ∧ -149 ≤ q ∧ c * 2 ^ (q + 149).toNat = w * 2 ^ (e + 149).toNat := by
  obtain ⟨c, q, h3, h4⟩ := FP.Core.round_exact FP.Core.good_b32 s (c := w) (q := e) hw (by rw [fm_qmin32]; exact h1) (by rw [fm_qmax32]; exact h2)
  have hf := FP.Core.round_fits FP.Core.good_b32 (.fin s w e)
  rw [h3] at hf
  have hq : -149 ≤ q := by have := hf.2.1; rw [fm_qmin32] at this; exact this
  refine ⟨c, q, h3, hq, ?_⟩
  unfold FP.Core.inUnits at h4
  rw [fm_qmin32] at h4
  rw [show q + 149 = q - -149 by omega, show e + 149 = e - -149 by omega]
  exact h4
/-- the double d is w * 2^e -/
def dE (d : UInt64) (w : Nat) (e : Int) : Prop := FP.Core.val64 d = FP.Core.round FP.Core.b64 (.fin false w e)
theorem dE_mul {d t : UInt64} {w k : Nat} {e : Int} (hd : dE d w e) (hw : w < 2 ^ 53) (h1 : -1074 ≤ e) (h2 : e ≤ 971) (ht : dE t (2 ^ k) 0) (hk : k ≤ 52) : dE (FP.dmul d t) w (e + k) := by
  unfold dE at *
  obtain ⟨c, q, a1, a2, a3⟩ := fm_ex64 false hw h1 h2
  have hk2 : 2 ^ k < 2 ^ 53 := Nat.pow_lt_pow_right (by decide) (by omega)
  obtain ⟨c2, q2, b1, b2, b3⟩ := fm_ex64 false hk2 (show (-1074 : Int) ≤ 0 by omega) (show (0 : Int) ≤ 971 by omega)
  obtain ⟨z, hz⟩ : ∃ z : Nat, z = ((0 : Int) + 1074).toNat := ⟨_, rfl⟩
  rw [← hz] at b3
  rw [FP.Core.val64_dmul, hd, ht, a1, b1]
  show FP.Core.round FP.Core.b64 (.fin (false != false) (c * c2) (q + q2)) = _
  refine fm_rnd (z := -2148) (by omega) (by omega) ?_
  calc c * c2 * 2 ^ (q + q2 - -2148).toNat = (c * 2 ^ (q + 1074).toNat) * (c2 * 2 ^ (q2 + 1074).toNat) := by
        rw [show (q + q2 - -2148).toNat = (q + 1074).toNat + (q2 + 1074).toNat by omega, Nat.pow_add]; ac_rfl
    _ = (w * 2 ^ (e + 1074).toNat) * (2 ^ k * 2 ^ z) := by rw [a3, b3]
    _ = w * 2 ^ (e + ↑k - -2148).toNat := by
        rw [show (e + ↑k - -2148).toNat = (e + 1074).toNat + (k + z) by omega, Nat.pow_add, Nat.pow_add]; ac_rfl
theorem dE_div {d t : UInt64} {w k : Nat} {e : Int} (hd : dE d w e) (hw : w < 2 ^ 53) (h1 : -1074 ≤ e) (h2 : e ≤ 971) (ht : dE t (2 ^ k) 0) (hk : k ≤ 52) : dE (FP.ddiv d t) w (e - k) := by
  unfold dE at *
  obtain ⟨c, q, a1, a2, a3⟩ := fm_ex64 false hw h1 h2
  have hk2 : 2 ^ k < 2 ^ 53 := Nat.pow_lt_pow_right (by decide) (by omega)
  obtain ⟨c2, q2, b1, b2, b3⟩ := fm_ex64 false hk2 (show (-1074 : Int) ≤ 0 by omega) (show (0 : Int) ≤ 971 by omega)
  have hc2 : c2 ≠ 0 := by
    intro h; rw [h, Nat.zero_mul] at b3
    have := Nat.mul_pos (Nat.two_pow_pos k) (Nat.two_pow_pos (0 + 1074 : Int).toNat)
    omega
  obtain ⟨z, hz⟩ : ∃ z : Nat, z = ((0 : Int) + 1074).toNat := ⟨_, rfl⟩
  rw [← hz] at b3
  rw [FP.Core.val64_ddiv, hd, ht, a1, b1]
  show (if c2 = 0 then (if c = 0 then FP.Core.Datum.nan else .inf (false != false)) else FP.Core.roundRatio FP.Core.b64 (false != false) c c2 (q - q2)) = _
  rw [if_neg hc2]
  refine FP.Core.roundRatio_congr (by omega) (by decide) ?_
  have key := fm_veq (A := c) (A' := w * c2) (e := q + k) (e' := e + q2) (z := -2148) (by omega) (by omega) (by
    calc c * 2 ^ (q + ↑k - -2148).toNat = (c * 2 ^ (q + 1074).toNat) * (2 ^ k * 2 ^ z) := by
          rw [show (q + ↑k - -2148).toNat = (q + 1074).toNat + (k + z) by omega, Nat.pow_add, Nat.pow_add]; ac_rfl
      _ = (w * 2 ^ (e + 1074).toNat) * (c2 * 2 ^ (q2 + 1074).toNat) := by rw [a3, b3]
      _ = w * c2 * 2 ^ (e + q2 - -2148).toNat := by
          rw [show (e + q2 - -2148).toNat = (e + 1074).toNat + (q2 + 1074).toNat by omega, Nat.pow_add]; ac_rfl)
  rw [Nat.mul_one, Nat.mul_one] at key
  rw [Nat.mul_one, show q - q2 - (e - ↑k) = q + ↑k - (e + q2) by omega, show e - ↑k - (q - q2) = e + q2 - (q + ↑k) by omega]
  exact key
theorem dE_l2d {n : Nat} (h : n < 2 ^ 63) : dE (FP.l2d (lN n)) n 0 := by
  unfold dE
  rw [FP.Core.val64_l2d, pk_lT h]
  unfold FP.Core.ofInt
  rw [show decide ((n : Int) < 0) = false from decide_eq_false (by omega), Int.natAbs_natCast]
theorem dE_32 : dE 4751297606875873280 (2 ^ 32) 0 := by unfold dE; decide +kernel
theorem dE_1 : dE FP.dconst1 1 0 := by unfold dE; decide +kernel
theorem dE_nn {d : UInt64} {w : Nat} {e : Int} (h : dE d w e) : FP.Core.val64 d ≠ .nan := by
  unfold dE at h; rw [h]; exact FP.Core.roundRatio_ne_nan _ _ _ _ _
theorem fm_n64 {r : UInt64} : vf_n64 r ↔ FP.Core.val64 r ≠ .nan := by
  rw [FP.Core.ne_nan]; unfold vf_n64
  rw [UInt64.le_iff_toNat_le, FP.Core.mask_toNat]; rfl
theorem fm_n32 {r : UInt32} : vf_n32 r ↔ FP.Core.val32 r ≠ .nan := by
  rw [FP.Core.ne_nan32]; unfold vf_n32
  rw [UInt32.le_iff_toNat_le, FP.Core.mask_toNat32]; rfl
theorem dE_n {d : UInt64} {w : Nat} {e : Int} (h : dE d w e) : vf_n64 d := fm_n64.mpr (dE_nn h)
theorem dE_zval {d : UInt64} {w : Nat} {e : Int} (hd : dE d w e) (hw : w < 2 ^ 53) (h1 : -1074 ≤ e) (h2 : e ≤ 971) : FP.Core.zval FP.Core.b64 (FP.Core.val64 d) = ((w * 2 ^ (e + 1074).toNat : Nat) : Int) := by
  obtain ⟨c, q, a1, a2, a3⟩ := fm_ex64 false hw h1 h2
  unfold dE at hd
  rw [hd, a1, ← a3]
  show ((c * 2 ^ (q - FP.Core.b64.qmin).toNat : Nat) : Int) = _
  rw [fm_qmin64, show q - -1074 = q + 1074 by omega]
/-- two doubles that are compared by whole numbers of the least double -/
theorem dE_cmp {d t : UInt64} {w v : Nat} {e g : Int} (hd : dE d w e) (hw : w < 2 ^ 53) (h1 : -1074 ≤ e) (h2 : e ≤ 971) (ht : dE t v g) (hv : v < 2 ^ 53) (g1 : -1074 ≤ g) (g2 : g ≤ 971) :
    FP.dcmp d t = some (compare ((w * 2 ^ (e + 1074).toNat : Nat) : Int) ((v * 2 ^ (g + 1074).toNat : Nat) : Int)) := by
  rw [← dE_zval hd hw h1 h2, ← dE_zval ht hv g1 g2]
  exact FP.Core.dcmp_zval (dE_nn hd) (dE_nn ht)
/-! double rounding: floats added, divided as doubles, then rounded -/
/-- what lies within a 32nd of a last digit of a float rounds to it -/
theorem fm_near {s : Bool} {A c : Nat} {e q : Int} (h1 : 2 ^ 23 ≤ c) (h2 : c < 2 ^ 24) (q1 : -149 ≤ q) (q2 : q ≤ 104) (he : -160 ≤ e)
    (hlo : c * (32 * 2 ^ (q + 155).toNat) ≤ A * 2 ^ (e + 160).toNat + 2 ^ (q + 155).toNat) (hhi : A * 2 ^ (e + 160).toNat ≤ c * (32 * 2 ^ (q + 155).toNat) + 2 ^ (q + 155).toNat) :
    FP.Core.roundRatio FP.Core.b32 s A 1 e = .fin s c q := by
  have hK := Nat.two_pow_pos (q + 155).toNat
  have hun : FP.Core.inUnits c q (-160) = c * (32 * 2 ^ (q + 155).toNat) := by
    unfold FP.Core.inUnits
    rw [show (q - -160).toNat = 5 + (q + 155).toNat by omega, Nat.pow_add]
  have huA : FP.Core.inUnits A e (-160) = A * 2 ^ (e + 160).toNat := by
    unfold FP.Core.inUnits; rw [show e - -160 = e + 160 by omega]
  rcases FP.Core.roundRatio_cases FP.Core.b32 s A 1 e with ⟨c1, q1', hR⟩ | hR
  · have hfit := FP.Core.roundRatio_fits FP.Core.good_b32 s A (B := 1) (by decide) e
    have hd := FP.Core.roundRatio_nearest FP.Core.good_b32 (e0 := -160) (B := 1) (by decide) hR (c' := c) (q' := q) h2 (by rw [fm_qmin32]; exact q1) (by rw [fm_qmin32]; decide) he
    rw [hR] at hfit ⊢
    obtain ⟨f1, f2, f3, f4⟩ := hfit
    rw [fm_qmin32] at f2 f4
    rw [fm_p32] at f1
    rw [fm_tails32] at f4
    unfold FP.Core.distance at hd
    rw [hun, huA] at hd
    generalize A * 2 ^ (e + 160).toNat = X at *
    rcases Int.lt_or_le q1' q with hlt | hge
    · -- the other one is below
      have u1 : FP.Core.inUnits c1 q1' (-160) ≤ (2 ^ 24 - 1) * (16 * 2 ^ (q + 155).toNat) := by
        unfold FP.Core.inUnits
        refine Nat.mul_le_mul (by omega) ?_
        calc 2 ^ (q1' - -160).toNat ≤ 2 ^ (4 + (q + 155).toNat) := Nat.pow_le_pow_right (by decide) (by omega)
          _ = 16 * 2 ^ (q + 155).toNat := by rw [Nat.pow_add]
      have u2 : 2 ^ 23 * (32 * 2 ^ (q + 155).toNat) ≤ c * (32 * 2 ^ (q + 155).toNat) := Nat.mul_le_mul_right _ h1
      generalize FP.Core.inUnits c1 q1' (-160) = Y at *
      generalize hCC : c * (32 * 2 ^ (q + 155).toNat) = C at *
      generalize 2 ^ (q + 155).toNat = K at *
      exfalso
      omega
    · have e1 : FP.Core.inUnits c1 q1' (-160) = c1 * 2 ^ (q1' - q).toNat * (32 * 2 ^ (q + 155).toNat) := by
        unfold FP.Core.inUnits
        rw [show (q1' - -160).toNat = (q1' - q).toNat + (5 + (q + 155).toNat) by omega, Nat.pow_add, Nat.pow_add, Nat.mul_assoc]
      rw [e1] at hd
      have e2 : c1 * 2 ^ (q1' - q).toNat = c := by
        generalize hc1 : c1 * 2 ^ (q1' - q).toNat = c3 at *
        generalize 2 ^ (q + 155).toNat = K at *
        rcases Nat.lt_trichotomy c3 c with h | h | h
        · have : (c3 + 1) * (32 * K) ≤ c * (32 * K) := Nat.mul_le_mul_right _ h
          rw [Nat.add_mul, Nat.one_mul] at this
          generalize c3 * (32 * K) = P at *
          generalize c * (32 * K) = Q at *
          exfalso; omega
        · exact h
        · have : (c + 1) * (32 * K) ≤ c3 * (32 * K) := Nat.mul_le_mul_right _ h
          rw [Nat.add_mul, Nat.one_mul] at this
          generalize c3 * (32 * K) = P at *
          generalize c * (32 * K) = Q at *
          exfalso; omega
      by_cases hqq : q1' = q
      · subst hqq
        rw [Int.sub_self] at e2
        simp at e2
        rw [e2]
      · exfalso
        have : 2 ^ 1 ≤ 2 ^ (q1' - q).toNat := Nat.pow_le_pow_right (by decide) (by omega)
        have h5 : 2 ^ 23 ≤ c1 := by omega
        have := Nat.mul_le_mul h5 this
        omega
  · exfalso
    have h3 := (FP.Core.roundRatio_inf FP.Core.good_b32 (e0 := -160) (B := 1) (by decide) (by rw [fm_qmin32]; decide) he).mp hR
    rw [huA, fm_p32, fm_qmax32, Nat.mul_one] at h3
    have u1 : c * (32 * 2 ^ (q + 155).toNat) + 2 ^ (q + 155).toNat ≤ ((2 ^ 24 - 1) * 32 + 1) * 2 ^ (104 + 155 : Int).toNat := by
      have h5 : c * 32 + 1 ≤ (2 ^ 24 - 1) * 32 + 1 := by omega
      have h6 : 2 ^ (q + 155).toNat ≤ 2 ^ (104 + 155 : Int).toNat := Nat.pow_le_pow_right (by decide) (by omega)
      calc c * (32 * 2 ^ (q + 155).toNat) + 2 ^ (q + 155).toNat = (c * 32 + 1) * 2 ^ (q + 155).toNat := by rw [Nat.add_mul, Nat.one_mul, Nat.mul_assoc]
        _ ≤ _ := Nat.mul_le_mul h5 h6
    have u2 : ((2 ^ 24 - 1) * 32 + 1) * 2 ^ (104 + 155 : Int).toNat < (2 ^ (24 + 1) - 1) * 2 ^ ((104 : Int) - 1 - -160).toNat := by decide +kernel
    omega
/-- the exact sum, told in whole numbers of the least double -/
theorem fm_sumV {s t : Bool} {c d : Nat} {q r : Int} (hq : -1074 ≤ q) (hr : -1074 ≤ r) :
    ∃ n e, FP.Core.exactSum (.fin s c q) (.fin t d r) = .fin (FP.Core.sumSign s t (FP.Core.signed s (c * 2 ^ (q + 1074).toNat) + FP.Core.signed t (d * 2 ^ (r + 1074).toNat))) n e ∧ e = min q r ∧
      n * 2 ^ (e + 1074).toNat = (FP.Core.signed s (c * 2 ^ (q + 1074).toNat) + FP.Core.signed t (d * 2 ^ (r + 1074).toNat)).natAbs := by
  have hu : FP.Core.sumUnits s c q t d r (min q r) * ((2 ^ (min q r + 1074).toNat : Nat) : Int) = FP.Core.signed s (c * 2 ^ (q + 1074).toNat) + FP.Core.signed t (d * 2 ^ (r + 1074).toNat) := by
    unfold FP.Core.sumUnits FP.Core.inUnits
    rw [Int.add_mul, ← FP.Core.signed_mul, ← FP.Core.signed_mul, Nat.mul_assoc, Nat.mul_assoc, ← Nat.pow_add, ← Nat.pow_add,
      show (q - min q r).toNat + (min q r + 1074).toNat = (q + 1074).toNat by omega, show (r - min q r).toNat + (min q r + 1074).toNat = (r + 1074).toNat by omega]
  have hp := Nat.two_pow_pos (min q r + 1074).toNat
  refine ⟨(FP.Core.sumUnits s c q t d r (min q r)).natAbs, min q r, ?_, rfl, ?_⟩
  · show FP.Core.Datum.fin _ _ _ = _
    congr 1
    rw [← hu]
    unfold FP.Core.sumSign
    generalize FP.Core.sumUnits s c q t d r (min q r) = v at *
    generalize 2 ^ (min q r + 1074).toNat = P at *
    have hP : (0 : Int) < (P : Int) := by omega
    have z : v * (P : Int) = 0 ↔ v = 0 := ⟨fun h => (Int.mul_eq_zero.mp h).elim id (fun h => by omega), fun h => by rw [h, Int.zero_mul]⟩
    have g : v * (P : Int) < 0 ↔ v < 0 := by
      constructor
      · intro h
        rcases Int.lt_or_le v 0 with h1 | h1
        · exact h1
        · have := Int.mul_nonneg h1 (Int.le_of_lt hP); omega
      · intro h; exact Int.mul_neg_of_neg_of_pos h hP
    by_cases h : v = 0
    · rw [if_pos h, if_pos (z.mpr h)]
    · rw [if_neg h, if_neg (fun h1 => h (z.mp h1))]
      exact (decide_eq_decide.mpr g).symm
  · rw [← hu, Int.natAbs_mul]; rfl
theorem fm_sgabs (s : Bool) (x : Nat) : FP.Core.signed s x = x ∨ FP.Core.signed s x = -(x : Int) := by cases s <;> simp [FP.Core.signed]
/-- floats added: rounding to a double first changes nothing -/
theorem fm_sum1 {s t : Bool} {c d : Nat} {q r : Int} (hc : c < 2 ^ 24) (hd : d < 2 ^ 24) (hq1 : -149 ≤ q) (hq2 : q ≤ 104) (hr1 : -149 ≤ r) (hcan : q = -149 ∨ 2 ^ 23 ≤ c) (hrq : r ≤ q) :
    FP.Core.round FP.Core.b32 (FP.Core.round FP.Core.b64 (FP.Core.exactSum (.fin s c q) (.fin t d r))) = FP.Core.round FP.Core.b32 (FP.Core.exactSum (.fin s c q) (.fin t d r)) := by
  obtain ⟨n, e, h1, he, h2⟩ := fm_sumV (s := s) (t := t) (c := c) (d := d) (q := q) (r := r) (by omega) (by omega)
  rw [h1]
  have he : e = r := by omega
  subst he
  have hx : c * 2 ^ (q + 1074).toNat = c * 2 ^ (q - e).toNat * 2 ^ (e + 1074).toNat := by
    rw [Nat.mul_assoc, ← Nat.pow_add, show (q - e).toNat + (e + 1074).toNat = (q + 1074).toNat by omega]
  have hP := Nat.two_pow_pos (e + 1074).toNat
  -- n lies between
  have b1 : n ≤ c * 2 ^ (q - e).toNat + d := by
    have : n * 2 ^ (e + 1074).toNat ≤ (c * 2 ^ (q - e).toNat + d) * 2 ^ (e + 1074).toNat := by
      rw [h2, Nat.add_mul, ← hx]
      rcases fm_sgabs s (c * 2 ^ (q + 1074).toNat) with a | a <;> rcases fm_sgabs t (d * 2 ^ (e + 1074).toNat) with b | b <;> rw [a, b] <;> omega
    exact Nat.le_of_mul_le_mul_right this hP
  by_cases hk : q - e ≤ 28
  · -- all fits a double
    have hn : n < 2 ^ 53 := by
      have p1 : 2 ^ (q - e).toNat ≤ 2 ^ 28 := Nat.pow_le_pow_right (by decide) (by omega)
      have p2 : c * 2 ^ (q - e).toNat ≤ (2 ^ 24 - 1) * 2 ^ 28 := Nat.mul_le_mul (by omega) p1
      omega
    obtain ⟨c', q', g1, g2, g3⟩ := fm_ex64 (FP.Core.sumSign s t (FP.Core.signed s (c * 2 ^ (q + 1074).toNat) + FP.Core.signed t (d * 2 ^ (e + 1074).toNat))) hn (show -1074 ≤ e by omega) (show e ≤ 971 by omega)
    rw [g1]
    exact fm_rnd (z := -1074) g2 (by omega) (by rw [show q' - -1074 = q' + 1074 by omega, show e - -1074 = e + 1074 by omega]; exact g3)
  · -- one is far below the other
    have hcl : 2 ^ 23 ≤ c := by omega
    have hdl : d * 2 ^ 5 ≤ 2 ^ (q - e).toNat := by
      have : 2 ^ 29 ≤ 2 ^ (q - e).toNat := Nat.pow_le_pow_right (by decide) (by omega)
      omega
    have hbig : d < c * 2 ^ (q - e).toNat := by
      have : 2 ^ 23 * 2 ^ (q - e).toNat ≤ c * 2 ^ (q - e).toNat := Nat.mul_le_mul_right _ hcl
      have := Nat.two_pow_pos (q - e).toNat
      omega
    have b2 : c * 2 ^ (q - e).toNat ≤ n + d := by
      have : c * 2 ^ (q - e).toNat * 2 ^ (e + 1074).toNat ≤ (n + d) * 2 ^ (e + 1074).toNat := by
        rw [Nat.add_mul, h2, ← hx]
        rcases fm_sgabs s (c * 2 ^ (q + 1074).toNat) with a | a <;> rcases fm_sgabs t (d * 2 ^ (e + 1074).toNat) with b | b <;> rw [a, b] <;> omega
      exact Nat.le_of_mul_le_mul_right this hP
    have hsg : FP.Core.sumSign s t (FP.Core.signed s (c * 2 ^ (q + 1074).toNat) + FP.Core.signed t (d * 2 ^ (e + 1074).toNat)) = s := by
      have hb2 : d * 2 ^ (e + 1074).toNat < c * 2 ^ (q + 1074).toNat := by rw [hx]; exact Nat.mul_lt_mul_of_pos_right hbig hP
      generalize d * 2 ^ (e + 1074).toNat = y at *
      generalize c * 2 ^ (q + 1074).toNat = x at *
      unfold FP.Core.sumSign
      rcases fm_sgabs t y with b | b <;> rw [b] <;> cases s <;> simp only [FP.Core.signed, if_true, Bool.false_eq_true, if_false]
      all_goals (rw [if_neg (by omega)]; first | (rw [decide_eq_true_iff]; omega) | (rw [decide_eq_false_iff_not]; omega))
    rw [hsg]
    generalize hk0 : (q - e).toNat = k at *
    have hk29 : 29 ≤ k := by omega
    have u0 : 2 ^ (q + 155).toNat * 2 ^ 5 = 2 ^ k * 2 ^ (e + 160).toNat := by rw [← Nat.pow_add, ← Nat.pow_add]; congr 1; omega
    have u1 : c * (32 * 2 ^ (q + 155).toNat) = c * 2 ^ k * 2 ^ (e + 160).toNat := by
      rw [Nat.mul_assoc c, ← u0]; rw [show (2 : Nat) ^ 5 = 32 from rfl, Nat.mul_comm (2 ^ (q + 155).toNat)]
    have u2 : d * 2 ^ (e + 160).toNat ≤ 2 ^ (q + 155).toNat := by
      have := Nat.mul_le_mul_right (2 ^ (e + 160).toNat) hdl
      rw [← u0] at this
      refine Nat.le_of_mul_le_mul_right (c := 2 ^ 5) ?_ (by decide)
      calc d * 2 ^ (e + 160).toNat * 2 ^ 5 = d * 2 ^ 5 * 2 ^ (e + 160).toNat := by ac_rfl
        _ ≤ _ := this
    have n1 := Nat.mul_le_mul_right (2 ^ (e + 160).toNat) b1
    have n2 := Nat.mul_le_mul_right (2 ^ (e + 160).toNat) b2
    rw [Nat.add_mul] at n1 n2
    have r1 : FP.Core.round FP.Core.b32 (.fin s n e) = .fin s c q := by
      refine fm_near hcl hc hq1 hq2 (by omega) ?_ ?_
      · rw [u1]; omega
      · rw [u1]; omega
    rw [r1]
    -- the double
    have vlo := fm_ex64 false (w := 32 * c - 1) (e := q - 5) (by omega) (by omega) (by omega)
    have vhi := fm_ex64 false (w := 32 * c + 1) (e := q - 5) (by omega) (by omega) (by omega)
    obtain ⟨cl, ql, l1, l2, l3⟩ := vlo
    obtain ⟨ch, qh, m1, m2, m3⟩ := vhi
    have fl := FP.Core.round_fits FP.Core.good_b64 (.fin false (32 * c - 1) (q - 5))
    have fh := FP.Core.round_fits FP.Core.good_b64 (.fin false (32 * c + 1) (q - 5))
    rw [l1] at fl
    rw [m1] at fh
    have un : FP.Core.inUnits n e (-1074) = n * 2 ^ (e + 160).toNat * 2 ^ 914 := by
      unfold FP.Core.inUnits
      rw [Nat.mul_assoc, ← Nat.pow_add]; congr 2; omega
    have zl : FP.Core.zmag FP.Core.b64 (.fin false cl ql) = (32 * c - 1) * 2 ^ (q + 155).toNat * 2 ^ 914 := by
      show FP.Core.inUnits cl ql FP.Core.b64.qmin = _
      unfold FP.Core.inUnits
      rw [fm_qmin64, show ql - -1074 = ql + 1074 by omega, l3, Nat.mul_assoc, ← Nat.pow_add]; congr 2; omega
    have zh : FP.Core.zmag FP.Core.b64 (.fin false ch qh) = (32 * c + 1) * 2 ^ (q + 155).toNat * 2 ^ 914 := by
      show FP.Core.inUnits ch qh FP.Core.b64.qmin = _
      unfold FP.Core.inUnits
      rw [fm_qmin64, show qh - -1074 = qh + 1074 by omega, m3, Nat.mul_assoc, ← Nat.pow_add]; congr 2; omega
    have e0 : (FP.Core.b64.qmin - -1074).toNat = 0 := by rw [fm_qmin64]; rfl
    have le := FP.Core.zmag_roundRatio_le FP.Core.good_b64 (s := s) (A := n) (B := 1) (e := e) (e0 := -1074) (by decide) fh (by intro h; cases h) (by rw [fm_qmin64]; decide) (by omega) (by
      rw [un, zh, e0, Nat.pow_zero, Nat.mul_one, Nat.mul_one]
      refine Nat.mul_le_mul_right _ ?_
      rw [Nat.add_mul, Nat.one_mul, Nat.mul_comm 32 c, Nat.mul_assoc, u1]; omega)
    have ge := FP.Core.zmag_roundRatio_ge FP.Core.good_b64 (s := s) (A := n) (B := 1) (e := e) (e0 := -1074) (by decide) fl (by rw [fm_qmin64]; decide) (by omega) (by
      rw [un, zl, e0, Nat.pow_zero, Nat.mul_one, Nat.mul_one]
      refine Nat.mul_le_mul_right _ ?_
      rw [Nat.sub_mul, Nat.one_mul, Nat.mul_comm 32 c, Nat.mul_assoc, u1]; omega)
    rw [zh] at le
    rw [zl] at ge
    show FP.Core.round FP.Core.b32 (FP.Core.roundRatio FP.Core.b64 s n 1 e) = _
    rcases FP.Core.roundRatio_cases FP.Core.b64 s n 1 e with ⟨cy, qy, hy⟩ | hy
    · have fy := FP.Core.roundRatio_fits FP.Core.good_b64 s n (B := 1) (by decide) e
      rw [hy] at fy le ge ⊢
      have zy : FP.Core.zmag FP.Core.b64 (.fin s cy qy) = cy * 2 ^ (qy + 1074).toNat := by
        show FP.Core.inUnits cy qy FP.Core.b64.qmin = _
        unfold FP.Core.inUnits
        rw [fm_qmin64, show qy - -1074 = qy + 1074 by omega]
      rw [zy] at le ge
      have hqy : -160 ≤ qy := by
        rcases Int.lt_or_le qy (q - 31) with hlt | hge
        · exfalso
          have f1 := fy.1
          rw [fm_p64] at f1
          have k1 : cy * 2 ^ (qy + 1074).toNat ≤ 2 ^ 53 * 2 ^ (q + 1042).toNat := Nat.mul_le_mul (Nat.le_of_lt f1) (Nat.pow_le_pow_right (by decide) (by omega))
          have k2 : 2 ^ 27 * 2 ^ (q + 155).toNat * 2 ^ 914 ≤ (32 * c - 1) * 2 ^ (q + 155).toNat * 2 ^ 914 := Nat.mul_le_mul_right _ (Nat.mul_le_mul_right _ (by omega))
          have k3 : 2 ^ 27 * 2 ^ (q + 155).toNat * 2 ^ 914 = 2 * (2 ^ 53 * 2 ^ (q + 1042).toNat) := by
            rw [← Nat.pow_add, ← Nat.pow_add, ← Nat.pow_add, show (2 : Nat) * 2 ^ (53 + (q + 1042).toNat) = 2 ^ (53 + (q + 1042).toNat + 1) by rw [Nat.pow_succ, Nat.mul_comm]]
            congr 1; omega
          have := Nat.mul_pos (Nat.two_pow_pos 53) (Nat.two_pow_pos (q + 1042).toNat)
          omega
        · omega
      have uy : cy * 2 ^ (qy + 1074).toNat = cy * 2 ^ (qy + 160).toNat * 2 ^ 914 := by
        rw [Nat.mul_assoc, ← Nat.pow_add]; congr 2; omega
      rw [uy] at le ge
      have le2 := Nat.le_of_mul_le_mul_right le (Nat.two_pow_pos 914)
      have ge2 := Nat.le_of_mul_le_mul_right ge (Nat.two_pow_pos 914)
      rw [Nat.add_mul, Nat.one_mul, Nat.mul_comm 32 c, Nat.mul_assoc] at le2
      rw [Nat.sub_mul, Nat.one_mul, Nat.mul_comm 32 c, Nat.mul_assoc] at ge2
      exact fm_near hcl hc hq1 hq2 hqy (by omega) le2
    · exfalso
      rw [hy] at le
      have k1 : FP.Core.zmag FP.Core.b64 (.inf s) = 2 ^ 52 * 2 ^ 2046 := by show FP.Core.b64.tails * 2 ^ (FP.Core.b64.exps - 2) = _; rw [fm_tails64, show FP.Core.b64.exps - 2 = 2046 by decide]
      rw [k1] at le
      have k2 : (32 * c + 1) * 2 ^ (q + 155).toNat * 2 ^ 914 ≤ 2 ^ 29 * 2 ^ 260 * 2 ^ 914 := Nat.mul_le_mul_right _ (Nat.mul_le_mul (by omega) (Nat.pow_le_pow_right (by decide) (by omega)))
      have k3 : 2 ^ 29 * 2 ^ 260 * 2 ^ 914 < 2 ^ 52 * 2 ^ 2046 := by decide +kernel
      omega
/-- floats added as doubles -/
theorem fm_add {x y : FP.Core.Datum} (hx : FP.Core.fits FP.Core.b32 x) (hy : FP.Core.fits FP.Core.b32 y) :
    FP.Core.round FP.Core.b32 (FP.Core.round FP.Core.b64 (FP.Core.exactSum (FP.Core.round FP.Core.b64 x) (FP.Core.round FP.Core.b64 y))) = FP.Core.round FP.Core.b32 (FP.Core.exactSum x y) := by
  cases x with
  | nan => rfl
  | inf s => cases y with
    | nan => rfl
    | inf t => by_cases h : s = t
               · subst h; simp [FP.Core.round, FP.Core.exactSum]
               · simp [FP.Core.round, FP.Core.exactSum, h]
    | fin t d r =>
      rcases FP.Core.roundRatio_cases FP.Core.b64 t d 1 r with ⟨c', q', h⟩ | h
      · show FP.Core.round FP.Core.b32 (FP.Core.round FP.Core.b64 (FP.Core.exactSum (.inf s) (FP.Core.roundRatio FP.Core.b64 t d 1 r))) = _
        rw [h]; rfl
      · obtain ⟨h1, h2, h3, h4⟩ := hy
        rw [fm_p32] at h1; rw [fm_qmin32] at h2; rw [fm_qmax32] at h3
        obtain ⟨c', q', g, -⟩ := fm_ex64 t (w := d) (e := r) (by omega) (by omega) (by omega)
        rw [show FP.Core.roundRatio FP.Core.b64 t d 1 r = FP.Core.round FP.Core.b64 (.fin t d r) from rfl, g] at h
        cases h
  | fin s c q =>
    obtain ⟨h1, h2, h3, h4⟩ := hx
    rw [fm_p32] at h1; rw [fm_qmin32] at h2 h4; rw [fm_qmax32] at h3; rw [fm_tails32] at h4
    obtain ⟨c', q', g1, g2, g3⟩ := fm_ex64 s (w := c) (e := q) (by omega) (by omega) (by omega)
    rw [g1]
    cases y with
    | nan => rfl
    | inf t => rfl
    | fin t d r =>
      obtain ⟨k1, k2, k3, k4⟩ := hy
      rw [fm_p32] at k1; rw [fm_qmin32] at k2 k4; rw [fm_qmax32] at k3; rw [fm_tails32] at k4
      obtain ⟨d', r', j1, j2, j3⟩ := fm_ex64 t (w := d) (e := r) (by omega) (by omega) (by omega)
      rw [j1]
      obtain ⟨n1, e1, a1, a2, a3⟩ := fm_sumV (s := s) (t := t) (c := c') (d := d') (q := q') (r := r') g2 j2
      obtain ⟨n2, e2, b1, b2, b3⟩ := fm_sumV (s := s) (t := t) (c := c) (d := d) (q := q) (r := r) (by omega) (by omega)
      rw [g3, j3] at a1 a3
      have : FP.Core.round FP.Core.b64 (FP.Core.exactSum (.fin s c' q') (.fin t d' r')) = FP.Core.round FP.Core.b64 (FP.Core.exactSum (.fin s c q) (.fin t d r)) := by
        rw [a1, b1]
        refine fm_rnd (z := -1074) (by omega) (by omega) ?_
        rw [show e1 - -1074 = e1 + 1074 by omega, show e2 - -1074 = e2 + 1074 by omega, a3, b3]
      rw [this]
      rcases Int.le_total r q with h | h
      · exact fm_sum1 h1 k1 h2 h3 k2 h4 h
      · rw [FP.Core.exactSum_comm]
        exact fm_sum1 k1 h1 k2 k3 h2 k4 h
/-- floats multiplied as doubles -/
theorem fm_mul {x y : FP.Core.Datum} (hx : FP.Core.fits FP.Core.b32 x) (hy : FP.Core.fits FP.Core.b32 y) :
    FP.Core.round FP.Core.b32 (FP.Core.round FP.Core.b64 (FP.Core.exactProduct (FP.Core.round FP.Core.b64 x) (FP.Core.round FP.Core.b64 y))) = FP.Core.round FP.Core.b32 (FP.Core.exactProduct x y) := by
  have zero : ∀ {c d : Nat} {q r : Int}, c * 2 ^ (q + 1074).toNat = d * 2 ^ (r + 1074).toNat → (c = 0 ↔ d = 0) := by
    intro c d q r h
    have p1 := Nat.two_pow_pos (q + 1074).toNat
    have p2 := Nat.two_pow_pos (r + 1074).toNat
    constructor
    · rintro rfl; rw [Nat.zero_mul] at h; rcases Nat.mul_eq_zero.mp h.symm with h | h <;> omega
    · rintro rfl; rw [Nat.zero_mul] at h; rcases Nat.mul_eq_zero.mp h with h | h <;> omega
  cases x with
  | nan => rfl
  | inf s => cases y with
    | nan => rfl
    | inf t => rfl
    | fin t d r =>
      obtain ⟨k1, k2, k3, k4⟩ := hy
      rw [fm_p32] at k1; rw [fm_qmin32] at k2; rw [fm_qmax32] at k3
      obtain ⟨d', r', j1, j2, j3⟩ := fm_ex64 t (w := d) (e := r) (by omega) (by omega) (by omega)
      rw [j1]
      show FP.Core.round FP.Core.b32 (FP.Core.round FP.Core.b64 (if d' = 0 then .nan else .inf (s != t))) = FP.Core.round FP.Core.b32 (if d = 0 then .nan else .inf (s != t))
      by_cases h : d = 0
      · rw [if_pos h, if_pos ((zero j3).mpr h)]; rfl
      · rw [if_neg h, if_neg (fun h1 => h ((zero j3).mp h1))]; rfl
  | fin s c q =>
    obtain ⟨h1, h2, h3, h4⟩ := hx
    rw [fm_p32] at h1; rw [fm_qmin32] at h2 h4; rw [fm_qmax32] at h3; rw [fm_tails32] at h4
    obtain ⟨c', q', g1, g2, g3⟩ := fm_ex64 s (w := c) (e := q) (by omega) (by omega) (by omega)
    rw [g1]
    cases y with
    | nan => rfl
    | inf t =>
      show FP.Core.round FP.Core.b32 (FP.Core.round FP.Core.b64 (if c' = 0 then .nan else .inf (s != t))) = FP.Core.round FP.Core.b32 (if c = 0 then .nan else .inf (s != t))
      by_cases h : c = 0
      · rw [if_pos h, if_pos ((zero g3).mpr h)]; rfl
      · rw [if_neg h, if_neg (fun h1 => h ((zero g3).mp h1))]; rfl
    | fin t d r =>
      obtain ⟨k1, k2, k3, k4⟩ := hy
      rw [fm_p32] at k1; rw [fm_qmin32] at k2 k4; rw [fm_qmax32] at k3; rw [fm_tails32] at k4
      obtain ⟨d', r', j1, j2, j3⟩ := fm_ex64 t (w := d) (e := r) (by omega) (by omega) (by omega)
      rw [j1]
      show FP.Core.round FP.Core.b32 (FP.Core.round FP.Core.b64 (.fin (s != t) (c' * d') (q' + r'))) = FP.Core.round FP.Core.b32 (.fin (s != t) (c * d) (q + r))
      have e1 : FP.Core.round FP.Core.b64 (.fin (s != t) (c' * d') (q' + r')) = FP.Core.round FP.Core.b64 (.fin (s != t) (c * d) (q + r)) := by
        refine fm_rnd (z := -2148) (by omega) (by omega) ?_
        calc c' * d' * 2 ^ (q' + r' - -2148).toNat = (c' * 2 ^ (q' + 1074).toNat) * (d' * 2 ^ (r' + 1074).toNat) := by
              rw [show (q' + r' - -2148).toNat = (q' + 1074).toNat + (r' + 1074).toNat by omega, Nat.pow_add]; ac_rfl
          _ = (c * 2 ^ (q + 1074).toNat) * (d * 2 ^ (r + 1074).toNat) := by rw [g3, j3]
          _ = c * d * 2 ^ (q + r - -2148).toNat := by
              rw [show (q + r - -2148).toNat = (q + 1074).toNat + (r + 1074).toNat by omega, Nat.pow_add]; ac_rfl
      rw [e1]
      have hcd : c * d < 2 ^ 53 := by
        have : c * d ≤ (2 ^ 24 - 1) * (2 ^ 24 - 1) := Nat.mul_le_mul (by omega) (by omega)
        omega
      obtain ⟨c3, q3, m1, m2, m3⟩ := fm_ex64 (s != t) (w := c * d) (e := q + r) hcd (by omega) (by omega)
      rw [m1]
      exact fm_rnd (z := -1074) (by omega) (by omega) (by rw [show q3 - -1074 = q3 + 1074 by omega, show q + r - -1074 = q + r + 1074 by omega]; exact m3)
/-- a quotient and its rounding lie on one side of what is coarse -/
theorem fm_tri {x0 n u d : Nat} (T0 : Nat) (hd : 0 < d) (hd2 : d < 2 ^ 24) (hu : 0 < u) (h1 : 2 * (x0 * (2 ^ 24 * u)) ≤ 2 * (n * u * d) + u * d) (h2 : 2 * (n * u * d) ≤ 2 * (x0 * (2 ^ 24 * u)) + u * d) :
    (x0 * (2 ^ 24 * u) < T0 * (2 ^ 24 * u) * d → n * u < T0 * (2 ^ 24 * u)) ∧ (T0 * (2 ^ 24 * u) * d < x0 * (2 ^ 24 * u) → T0 * (2 ^ 24 * u) < n * u) ∧ (x0 * (2 ^ 24 * u) = T0 * (2 ^ 24 * u) * d → n * u = T0 * (2 ^ 24 * u)) := by
  have hM : u * d < 2 ^ 24 * u := by rw [Nat.mul_comm]; exact Nat.mul_lt_mul_of_pos_right hd2 hu
  have hMp : 0 < 2 ^ 24 * u := Nat.mul_pos (by decide) hu
  have eT : T0 * (2 ^ 24 * u) * d = T0 * d * (2 ^ 24 * u) := by ac_rfl
  refine ⟨fun h => ?_, fun h => ?_, fun h => ?_⟩
  · rw [eT] at h
    have h3 : x0 + 1 ≤ T0 * d := Nat.lt_of_mul_lt_mul_right h
    have h4 := Nat.mul_le_mul_right (2 ^ 24 * u) h3
    rw [Nat.add_mul, Nat.one_mul, ← eT] at h4
    have h5 : n * u * d < T0 * (2 ^ 24 * u) * d := by
      generalize x0 * (2 ^ 24 * u) = X at *
      generalize T0 * (2 ^ 24 * u) * d = T at *
      generalize n * u * d = Y at *
      omega
    exact Nat.lt_of_mul_lt_mul_right h5
  · rw [eT] at h
    have h3 : T0 * d + 1 ≤ x0 := Nat.lt_of_mul_lt_mul_right h
    have h4 := Nat.mul_le_mul_right (2 ^ 24 * u) h3
    rw [Nat.add_mul, Nat.one_mul, ← eT] at h4
    have h5 : T0 * (2 ^ 24 * u) * d < n * u * d := by
      generalize x0 * (2 ^ 24 * u) = X at *
      generalize T0 * (2 ^ 24 * u) * d = T at *
      generalize n * u * d = Y at *
      omega
    exact Nat.lt_of_mul_lt_mul_right h5
  · rw [h] at h1 h2
    have e1 : T0 * (2 ^ 24 * u) * d = (T0 * 2 ^ 24) * (u * d) := by ac_rfl
    have e2 : n * u * d = n * (u * d) := by ac_rfl
    rw [e1, e2] at h1 h2
    have hD : 0 < u * d := Nat.mul_pos hu hd
    have e3 : n = T0 * 2 ^ 24 := by
      generalize T0 * 2 ^ 24 = t at *
      generalize u * d = D at *
      rcases Nat.lt_trichotomy n t with g | g | g
      · have := Nat.mul_le_mul_right D (show n + 1 ≤ t from g)
        rw [Nat.add_mul, Nat.one_mul] at this
        generalize n * D = a at *
        generalize t * D = b at *
        omega
      · exact g
      · have := Nat.mul_le_mul_right D (show t + 1 ≤ n from g)
        rw [Nat.add_mul, Nat.one_mul] at this
        generalize n * D = a at *
        generalize t * D = b at *
        omega
    rw [e3, Nat.mul_assoc]
/-- floats divided as doubles -/
theorem fm_quo (s : Bool) {c d : Nat} (hc : 0 < c) (hc2 : c < 2 ^ 24) (hd : 0 < d) (hd2 : d < 2 ^ 24) {e : Int} (he1 : -300 ≤ e) (he2 : e ≤ 300) :
    FP.Core.round FP.Core.b32 (FP.Core.roundRatio FP.Core.b64 s c d e) = FP.Core.roundRatio FP.Core.b32 s c d e := by
  have g1 := FP.Core.quantum_ge FP.Core.b64 c d e
  have g2 := FP.Core.nearest_units_le (f := FP.Core.b64) hc hd e
  have g3 := FP.Core.quantum_not_below (f := FP.Core.b64) hc hd e
  have hR : FP.Core.roundRatio FP.Core.b64 s c d e = FP.Core.settle FP.Core.b64 s (FP.Core.nearest (FP.Core.unitsNum c e (FP.Core.quantum FP.Core.b64 c d e)) (FP.Core.unitsDen d e (FP.Core.quantum FP.Core.b64 c d e))) (FP.Core.quantum FP.Core.b64 c d e) := by
    unfold FP.Core.roundRatio FP.Core.roundAt
    rw [if_neg (by omega)]
  rw [hR]
  generalize FP.Core.quantum FP.Core.b64 c d e = Q at *
  rw [fm_qmin64] at g1 g3
  rw [fm_p64] at g2 g3
  have hQ : Q ≤ e - 29 := by
    rcases g3 with g3 | g3
    · omega
    · rcases Int.lt_or_le (e - 29) Q with h | h
      · exfalso
        refine g3 ?_
        unfold FP.Core.Below
        have a1 : 2 ^ 24 ≤ 2 ^ (Q - e + ((53 : Nat) - 1 : Int)).toNat := Nat.pow_le_pow_right (by decide) (by omega)
        have a2 : (-(Q - e + ((53 : Nat) - 1 : Int))).toNat = 0 := by omega
        rw [a2, Nat.pow_zero, Nat.mul_one]
        calc c < 2 ^ 24 := hc2
          _ ≤ 2 ^ (Q - e + ((53 : Nat) - 1 : Int)).toNat := a1
          _ ≤ d * 2 ^ (Q - e + ((53 : Nat) - 1 : Int)).toNat := Nat.le_mul_of_pos_left _ hd
      · exact h
  have hD : FP.Core.unitsDen d e Q = d := by unfold FP.Core.unitsDen; rw [show (Q - e).toNat = 0 by omega, Nat.pow_zero, Nat.mul_one]
  have hN : FP.Core.unitsNum c e Q = c * 2 ^ (e - Q).toNat := rfl
  rw [hD, hN] at g2 ⊢
  have big : Q = -1074 ∨ 2 ^ 52 * d ≤ c * 2 ^ (e - Q).toNat := by
    rcases g3 with g3 | g3
    · exact .inl g3
    · refine .inr ?_
      rw [show (((53 : Nat) : Int) - 1) = ((52 : Nat) : Int) by omega, ← FP.Core.units_below, hD, hN] at g3
      exact Nat.le_of_not_lt g3
  obtain ⟨n1, n2, -⟩ := FP.Core.nearest_spec (c * 2 ^ (e - Q).toNat) d hd
  have bign : Q = -1074 ∨ 2 ^ 52 ≤ FP.Core.nearest (c * 2 ^ (e - Q).toNat) d := big.imp id (fun h => FP.Core.nearest_ge hd h)
  generalize hn : FP.Core.nearest (c * 2 ^ (e - Q).toNat) d = n at *
  have hY : FP.Core.round FP.Core.b32 (FP.Core.settle FP.Core.b64 s n Q) = FP.Core.roundRatio FP.Core.b32 s n 1 Q := by
    unfold FP.Core.settle FP.Core.bound
    rw [fm_p64, fm_qmax64, fm_tails64]
    by_cases h : n < 2 ^ 53
    · rw [if_pos h, if_pos (by omega)]; rfl
    · rw [if_neg h, if_pos (by omega)]
      have : n = 2 ^ 53 := by omega
      rw [this]
      exact fm_rnd (z := Q) (by omega) (by omega) (by rw [show (Q + 1 - Q).toNat = 1 by omega, show (Q - Q).toNat = 0 by omega])
  rw [hY]
  have hu := Nat.two_pow_pos (Q + 1100).toNat
  have hX : FP.Core.inUnits c e (-1100) = c * 2 ^ (e - Q).toNat * 2 ^ (Q + 1100).toNat := by
    unfold FP.Core.inUnits
    rw [Nat.mul_assoc, ← Nat.pow_add]; congr 2; omega
  have hX0 : c * 2 ^ (e - Q).toNat * 2 ^ (Q + 1100).toNat = c * 2 ^ (e - Q - 24).toNat * (2 ^ 24 * 2 ^ (Q + 1100).toNat) := by
    rw [← Nat.mul_assoc, Nat.mul_assoc c _ (2 ^ 24), ← Nat.pow_add, show (e - Q - 24).toNat + 24 = (e - Q).toNat by omega]
  have hYv : FP.Core.inUnits n Q (-1100) = n * 2 ^ (Q + 1100).toNat := by
    unfold FP.Core.inUnits; rw [show Q - -1100 = Q + 1100 by omega]
  have m1 := Nat.mul_le_mul_right (2 ^ (Q + 1100).toNat) n1
  have m2 := Nat.mul_le_mul_right (2 ^ (Q + 1100).toNat) n2
  have tri := fun T0 => fm_tri (x0 := c * 2 ^ (e - Q - 24).toNat) (n := n) (u := 2 ^ (Q + 1100).toNat) (d := d) T0 hd hd2 hu
    (by
      rw [← hX0]
      calc 2 * (c * 2 ^ (e - Q).toNat * 2 ^ (Q + 1100).toNat) = 2 * (c * 2 ^ (e - Q).toNat) * 2 ^ (Q + 1100).toNat := by ac_rfl
        _ ≤ (2 * n + 1) * d * 2 ^ (Q + 1100).toNat := m1
        _ = 2 * (n * 2 ^ (Q + 1100).toNat * d) + 2 ^ (Q + 1100).toNat * d := by rw [Nat.add_mul, Nat.add_mul, Nat.one_mul]; congr 1 <;> ac_rfl)
    (by
      rw [← hX0]
      calc 2 * (n * 2 ^ (Q + 1100).toNat * d) = 2 * n * d * 2 ^ (Q + 1100).toNat := by ac_rfl
        _ ≤ (2 * (c * 2 ^ (e - Q).toNat) + d) * 2 ^ (Q + 1100).toNat := m2
        _ = 2 * (c * 2 ^ (e - Q).toNat * 2 ^ (Q + 1100).toNat) + 2 ^ (Q + 1100).toNat * d := by rw [Nat.add_mul]; congr 1 <;> ac_rfl)
  rw [← hX0] at tri
  -- in the same way too great
  have i1 := FP.Core.roundRatio_inf FP.Core.good_b32 (s := s) (A := c) (B := d) (e := e) (e0 := -1100) hd (by rw [fm_qmin32]; decide) (by omega)
  have i2 := FP.Core.roundRatio_inf FP.Core.good_b32 (s := s) (A := n) (B := 1) (e := Q) (e0 := -1100) (by decide) (by rw [fm_qmin32]; decide) (by omega)
  rw [fm_p32, fm_qmax32, hX] at i1
  rw [fm_p32, fm_qmax32, hYv, Nat.mul_one] at i2
  have hw : FP.Core.roundRatio FP.Core.b32 s c d e = .inf s ↔ FP.Core.roundRatio FP.Core.b32 s n 1 Q = .inf s := by
    rw [i1, i2]
    by_cases hq : Q ≤ 79
    · have hT : (2 ^ (24 + 1) - 1) * 2 ^ ((104 : Int) - 1 - -1100).toNat = (2 ^ 25 - 1) * 2 ^ (79 - Q).toNat * (2 ^ 24 * 2 ^ (Q + 1100).toNat) := by
        rw [Nat.mul_assoc (2 ^ 25 - 1), ← Nat.pow_add, ← Nat.pow_add]; congr 2; omega
      rw [hT]
      obtain ⟨t1, t2, t3⟩ := tri ((2 ^ 25 - 1) * 2 ^ (79 - Q).toNat)
      generalize (2 ^ 25 - 1) * 2 ^ (79 - Q).toNat * (2 ^ 24 * 2 ^ (Q + 1100).toNat) = T at *
      generalize c * 2 ^ (e - Q).toNat * 2 ^ (Q + 1100).toNat = X at *
      generalize T * d = Td at *
      constructor
      · intro h
        rcases Nat.lt_or_ge Td X with g | g
        · exact Nat.le_of_lt (t2 g)
        · exact Nat.le_of_eq (t3 (by omega)).symm
      · intro h
        rcases Nat.lt_or_ge X Td with g | g
        · have := t1 g; omega
        · exact g
    · have b1 : 2 ^ 52 * d ≤ c * 2 ^ (e - Q).toNat := by omega
      have b2 : 2 ^ 52 ≤ n := by omega
      have b3 : 2 ^ 1180 ≤ 2 ^ (Q + 1100).toNat := Nat.pow_le_pow_right (by decide) (by omega)
      have b4 : (2 ^ (24 + 1) - 1) * 2 ^ ((104 : Int) - 1 - -1100).toNat ≤ 2 ^ 52 * 2 ^ 1180 := by decide +kernel
      refine iff_of_true ?_ ?_
      · calc (2 ^ (24 + 1) - 1) * 2 ^ ((104 : Int) - 1 - -1100).toNat * d ≤ 2 ^ 52 * 2 ^ 1180 * d := Nat.mul_le_mul_right _ b4
          _ = 2 ^ 52 * d * 2 ^ 1180 := Nat.mul_right_comm _ _ _
          _ ≤ _ := Nat.mul_le_mul b1 b3
      · exact Nat.le_trans b4 (Nat.mul_le_mul b2 b3)
  rcases FP.Core.roundRatio_cases FP.Core.b32 s c d e with ⟨c1, q1, z1⟩ | z1
  · rcases FP.Core.roundRatio_cases FP.Core.b32 s n 1 Q with ⟨c2, q2, z2⟩ | z2
    · have f1 := FP.Core.roundRatio_fits FP.Core.good_b32 s c hd e
      have f2 := FP.Core.roundRatio_fits FP.Core.good_b32 s n (B := 1) (by decide) Q
      rw [z1] at f1
      rw [z2] at f2
      have ff1 := f1
      have ff2 := f2
      obtain ⟨a1, a2, a3, -⟩ := f1
      obtain ⟨b1, b2, b3, -⟩ := f2
      rw [fm_p32] at a1 b1
      have q149 := fm_qmin32
      have qq1 : Q + 26 ≤ q1 := by
        rcases Int.lt_or_le q1 (Q + 26) with h | h
        · exfalso
          have hQ2 : -175 < Q := by rw [fm_qmin32] at a2; omega
          have nd := FP.Core.roundRatio_nearest FP.Core.good_b32 (e0 := -1100) hd z1 (c' := 2 ^ 23) (q' := Q + 29) (by rw [fm_p32]; decide) (by rw [fm_qmin32]; omega) (by rw [fm_qmin32]; decide) (by omega)
          unfold FP.Core.distance at nd
          rw [hX] at nd
          have v1 : FP.Core.inUnits c1 q1 (-1100) ≤ (2 ^ 24 - 1) * (2 ^ 25 * 2 ^ (Q + 1100).toNat) := by
            unfold FP.Core.inUnits
            refine Nat.mul_le_mul (by omega) ?_
            rw [← Nat.pow_add]
            exact Nat.pow_le_pow_right (by decide) (by omega)
          have v2 : FP.Core.inUnits (2 ^ 23) (Q + 29) (-1100) = 2 ^ 52 * 2 ^ (Q + 1100).toNat := by
            unfold FP.Core.inUnits
            rw [← Nat.pow_add, ← Nat.pow_add]; congr 1; omega
          rw [v2] at nd
          have v3 : 2 ^ 52 * 2 ^ (Q + 1100).toNat * d ≤ c * 2 ^ (e - Q).toNat * 2 ^ (Q + 1100).toNat := by
            have := Nat.mul_le_mul_right (2 ^ (Q + 1100).toNat) (show 2 ^ 52 * d ≤ c * 2 ^ (e - Q).toNat by omega)
            rw [Nat.mul_right_comm] at this; exact this
          have v4 : FP.Core.inUnits c1 q1 (-1100) * d < 2 ^ 52 * 2 ^ (Q + 1100).toNat * d := by
            refine Nat.mul_lt_mul_of_pos_right ?_ hd
            generalize 2 ^ (Q + 1100).toNat = u at *
            omega
          rw [← Int.natCast_mul, ← Int.natCast_mul] at nd
          generalize c * 2 ^ (e - Q).toNat * 2 ^ (Q + 1100).toNat = X at *
          generalize FP.Core.inUnits c1 q1 (-1100) * d = V at *
          generalize 2 ^ 52 * 2 ^ (Q + 1100).toNat * d = W at *
          omega
        · exact h
      have qq2 : Q + 26 ≤ q2 := by
        rcases Int.lt_or_le q2 (Q + 26) with h | h
        · exfalso
          have hQ2 : -175 < Q := by rw [fm_qmin32] at b2; omega
          have nd := FP.Core.roundRatio_nearest FP.Core.good_b32 (e0 := -1100) (B := 1) (by decide) z2 (c' := 2 ^ 23) (q' := Q + 29) (by rw [fm_p32]; decide) (by rw [fm_qmin32]; omega) (by rw [fm_qmin32]; decide) (by omega)
          unfold FP.Core.distance at nd
          rw [hYv] at nd
          have v1 : FP.Core.inUnits c2 q2 (-1100) ≤ (2 ^ 24 - 1) * (2 ^ 25 * 2 ^ (Q + 1100).toNat) := by
            unfold FP.Core.inUnits
            refine Nat.mul_le_mul (by omega) ?_
            rw [← Nat.pow_add]
            exact Nat.pow_le_pow_right (by decide) (by omega)
          have v2 : FP.Core.inUnits (2 ^ 23) (Q + 29) (-1100) = 2 ^ 52 * 2 ^ (Q + 1100).toNat := by
            unfold FP.Core.inUnits
            rw [← Nat.pow_add, ← Nat.pow_add]; congr 1; omega
          rw [v2] at nd
          have v3 : 2 ^ 52 * 2 ^ (Q + 1100).toNat ≤ n * 2 ^ (Q + 1100).toNat := Nat.mul_le_mul_right _ (by omega)
          generalize FP.Core.inUnits c2 q2 (-1100) = V at *
          generalize n * 2 ^ (Q + 1100).toNat = Y at *
          generalize 2 ^ (Q + 1100).toNat = u at *
          omega
        · exact h
      have V1 : FP.Core.inUnits c1 q1 (-1100) = 2 * (c1 * 2 ^ (q1 - Q - 26).toNat * 2 * (2 ^ 24 * 2 ^ (Q + 1100).toNat)) := by
        unfold FP.Core.inUnits
        rw [show (q1 - -1100).toNat = (q1 - Q - 26).toNat + (1 + (1 + (24 + (Q + 1100).toNat))) by omega, Nat.pow_add, Nat.pow_add, Nat.pow_add, Nat.pow_add, Nat.pow_one]; ac_rfl
      have V2 : FP.Core.inUnits c2 q2 (-1100) = 2 * (c2 * 2 ^ (q2 - Q - 26).toNat * 2 * (2 ^ 24 * 2 ^ (Q + 1100).toNat)) := by
        unfold FP.Core.inUnits
        rw [show (q2 - -1100).toNat = (q2 - Q - 26).toNat + (1 + (1 + (24 + (Q + 1100).toNat))) by omega, Nat.pow_add, Nat.pow_add, Nat.pow_add, Nat.pow_add, Nat.pow_one]; ac_rfl
      have nd1 := FP.Core.roundRatio_nearest FP.Core.good_b32 (e0 := -1100) hd z1 (c' := c2) (q' := q2) (by rw [fm_p32]; exact b1) b2 (by rw [fm_qmin32]; decide) (by omega)
      have nd2 := FP.Core.roundRatio_nearest FP.Core.good_b32 (e0 := -1100) (B := 1) (by decide) z2 (c' := c1) (q' := q1) (by rw [fm_p32]; exact a1) a2 (by rw [fm_qmin32]; decide) (by omega)
      unfold FP.Core.distance at nd1 nd2
      rw [hX, V1, V2] at nd1
      rw [hYv, V1, V2] at nd2
      obtain ⟨t1, t2, t3⟩ := tri (c1 * 2 ^ (q1 - Q - 26).toNat * 2 + c2 * 2 ^ (q2 - Q - 26).toNat * 2)
      rw [Nat.add_mul] at t1 t2 t3
      rw [← Int.natCast_mul, ← Int.natCast_mul] at nd1
      have d1 : ∀ x : Nat, 2 * x * d = 2 * (x * d) := fun x => Nat.mul_assoc ..
      rw [d1, d1] at nd1
      rw [Nat.add_mul] at t1 t2 t3
      have same : c * 2 ^ (e - Q).toNat * 2 ^ (Q + 1100).toNat = n * 2 ^ (Q + 1100).toNat * d → FP.Core.roundRatio FP.Core.b32 s n 1 Q = FP.Core.roundRatio FP.Core.b32 s c d e := by
        intro h
        have h3 : c * 2 ^ (e - Q).toNat = n * d := by
          refine Nat.eq_of_mul_eq_mul_right hu ?_
          rw [h]; ac_rfl
        refine FP.Core.roundRatio_congr (by decide) hd ?_
        rw [show (Q - e).toNat = 0 by omega, Nat.pow_zero, Nat.mul_one, Nat.mul_one, h3]
      have eqv : FP.Core.inUnits c1 q1 (-1100) = FP.Core.inUnits c2 q2 (-1100) → FP.Core.roundRatio FP.Core.b32 s n 1 Q = FP.Core.roundRatio FP.Core.b32 s c d e := by
        intro h
        rw [z1, z2, ← FP.Core.round_of_fits FP.Core.good_b32 ff1, ← FP.Core.round_of_fits FP.Core.good_b32 ff2]
        refine (fm_rnd (z := -1100) (by omega) (by omega) ?_).symm
        exact h
      rw [V1, V2] at eqv
      generalize c1 * 2 ^ (q1 - Q - 26).toNat * 2 * (2 ^ 24 * 2 ^ (Q + 1100).toNat) = v1 at *
      generalize c2 * 2 ^ (q2 - Q - 26).toNat * 2 * (2 ^ 24 * 2 ^ (Q + 1100).toNat) = v2 at *
      generalize c * 2 ^ (e - Q).toNat * 2 ^ (Q + 1100).toNat = X at *
      generalize hYY : n * 2 ^ (Q + 1100).toNat = Y at *
      rcases Nat.lt_trichotomy v1 v2 with h | h | h
      · have h5 := Nat.mul_lt_mul_of_pos_right h hd
        have h6 : X ≤ v1 * d + v2 * d := by
          generalize v1 * d = p1 at *
          generalize v2 * d = p2 at *
          omega
        have h7 : v1 + v2 ≤ Y := by omega
        rcases Nat.lt_or_ge X (v1 * d + v2 * d) with g | g
        · exact absurd (t1 g) (by omega)
        · have g2 : X = v1 * d + v2 * d := by omega
          refine same ?_
          rw [t3 g2, g2, Nat.add_mul]
      · exact eqv (by rw [h])
      · have h5 := Nat.mul_lt_mul_of_pos_right h hd
        have h6 : v1 * d + v2 * d ≤ X := by
          generalize v1 * d = p1 at *
          generalize v2 * d = p2 at *
          omega
        have h7 : Y ≤ v1 + v2 := by omega
        rcases Nat.lt_or_ge (v1 * d + v2 * d) X with g | g
        · exact absurd (t2 g) (by omega)
        · have g2 : X = v1 * d + v2 * d := by omega
          refine same ?_
          rw [t3 g2, g2, Nat.add_mul]
    · rw [z2]; exact (hw.mpr z2).symm
  · rw [z1]; exact hw.mp z1
theorem fm_div {x y : FP.Core.Datum} (hx : FP.Core.fits FP.Core.b32 x) (hy : FP.Core.fits FP.Core.b32 y) :
    FP.Core.round FP.Core.b32 (FP.Core.quotient FP.Core.b64 (FP.Core.round FP.Core.b64 x) (FP.Core.round FP.Core.b64 y)) = FP.Core.quotient FP.Core.b32 x y := by
  have zero : ∀ {c d : Nat} {q r : Int}, c * 2 ^ (q + 1074).toNat = d * 2 ^ (r + 1074).toNat → (c = 0 ↔ d = 0) := by
    intro c d q r h
    have p1 := Nat.two_pow_pos (q + 1074).toNat
    have p2 := Nat.two_pow_pos (r + 1074).toNat
    constructor
    · rintro rfl; rw [Nat.zero_mul] at h; rcases Nat.mul_eq_zero.mp h.symm with h | h <;> omega
    · rintro rfl; rw [Nat.zero_mul] at h; rcases Nat.mul_eq_zero.mp h with h | h <;> omega
  cases x with
  | nan => rfl
  | inf s => cases y with
    | nan => rfl
    | inf t => rfl
    | fin t d r =>
      obtain ⟨k1, k2, k3, k4⟩ := hy
      rw [fm_p32] at k1; rw [fm_qmin32] at k2; rw [fm_qmax32] at k3
      obtain ⟨d', r', j1, j2, j3⟩ := fm_ex64 t (w := d) (e := r) (by omega) (by omega) (by omega)
      rw [j1]; rfl
  | fin s c q =>
    obtain ⟨h1, h2, h3, h4⟩ := hx
    rw [fm_p32] at h1; rw [fm_qmin32] at h2 h4; rw [fm_qmax32] at h3; rw [fm_tails32] at h4
    obtain ⟨c', q', g1, g2, g3⟩ := fm_ex64 s (w := c) (e := q) (by omega) (by omega) (by omega)
    rw [g1]
    cases y with
    | nan => rfl
    | inf t => rfl
    | fin t d r =>
      obtain ⟨k1, k2, k3, k4⟩ := hy
      rw [fm_p32] at k1; rw [fm_qmin32] at k2 k4; rw [fm_qmax32] at k3; rw [fm_tails32] at k4
      obtain ⟨d', r', j1, j2, j3⟩ := fm_ex64 t (w := d) (e := r) (by omega) (by omega) (by omega)
      rw [j1]
      show FP.Core.round FP.Core.b32 (if d' = 0 then (if c' = 0 then .nan else .inf (s != t)) else FP.Core.roundRatio FP.Core.b64 (s != t) c' d' (q' - r')) = (if d = 0 then (if c = 0 then .nan else .inf (s != t)) else FP.Core.roundRatio FP.Core.b32 (s != t) c d (q - r))
      by_cases hd : d = 0
      · rw [if_pos hd, if_pos ((zero j3).mpr hd)]
        by_cases hc : c = 0
        · rw [if_pos hc, if_pos ((zero g3).mpr hc)]; rfl
        · rw [if_neg hc, if_neg (fun h => hc ((zero g3).mp h))]; rfl
      · have hd' : d' ≠ 0 := fun h => hd ((zero j3).mp h)
        rw [if_neg hd, if_neg hd']
        have e1 : FP.Core.roundRatio FP.Core.b64 (s != t) c' d' (q' - r') = FP.Core.roundRatio FP.Core.b64 (s != t) c d (q - r) := by
          refine FP.Core.roundRatio_congr (by omega) (by omega) ?_
          have key := fm_veq (A := c' * d) (A' := c * d') (e := q' + r) (e' := q + r') (z := -2148) (by omega) (by omega) (by
            calc c' * d * 2 ^ (q' + r - -2148).toNat = (c' * 2 ^ (q' + 1074).toNat) * (d * 2 ^ (r + 1074).toNat) := by
                  rw [show (q' + r - -2148).toNat = (q' + 1074).toNat + (r + 1074).toNat by omega, Nat.pow_add]; ac_rfl
              _ = (c * 2 ^ (q + 1074).toNat) * (d' * 2 ^ (r' + 1074).toNat) := by rw [g3, j3]
              _ = c * d' * 2 ^ (q + r' - -2148).toNat := by
                  rw [show (q + r' - -2148).toNat = (q + 1074).toNat + (r' + 1074).toNat by omega, Nat.pow_add]; ac_rfl)
          rw [Nat.mul_one, Nat.mul_one] at key
          rw [show q' - r' - (q - r) = q' + r - (q + r') by omega, show q - r - (q' - r') = q + r' - (q' + r) by omega]
          exact key
        rw [e1]
        have z : ∀ (f : FP.Core.Fmt) (s : Bool) (B : Nat) (e : Int), FP.Core.roundRatio f s 0 B e = .fin s 0 f.qmin := fun f s B e => by unfold FP.Core.roundRatio; rw [if_pos rfl]
        by_cases hc : c = 0
        · subst hc; rw [z, z]; exact z _ _ _ _
        · exact fm_quo (s != t) (by omega) h1 (by omega) k1 (by omega) (by omega)
/-! on bits -/
theorem fm_nn {a : UInt64} : FP.Core.val64 a ≠ .nan ↔ FP.dIsNaN a = false := (FP.Core.notNaN_iff a).symm
theorem fm_nn32 {a : UInt32} : FP.Core.val32 a ≠ .nan ↔ FP.fIsNaN a = false := (FP.Core.notNaN_iff32 a).symm
theorem fm_d2f {a : UInt64} (h : FP.Core.val64 a ≠ .nan) : FP.Core.val32 (FP.d2f a) = FP.Core.round FP.Core.b32 (FP.Core.val64 a) := by
  rw [FP.d2f_core (fm_nn.mp h), FP.Core.val32_d2f]
theorem fm_f2d {a : UInt32} (h : FP.Core.val32 a ≠ .nan) : FP.Core.val64 (FP.f2d a) = FP.Core.round FP.Core.b64 (FP.Core.val32 a) := by
  rw [FP.f2d_core (fm_nn32.mp h), FP.Core.val64_f2d]
theorem fm_f2dn {a : UInt32} (h : FP.Core.val32 a ≠ .nan) : FP.Core.val64 (FP.f2d a) ≠ .nan := by
  rw [fm_f2d h]
  cases hd : FP.Core.val32 a with
  | nan => exact absurd hd h
  | inf s => exact FP.Core.Datum.noConfusion
  | fin s c q => exact FP.Core.roundRatio_ne_nan _ _ _ _ _
theorem fm_d2fn {a : UInt64} (h : FP.Core.val64 a ≠ .nan) : FP.Core.val32 (FP.d2f a) ≠ .nan := by
  rw [fm_d2f h]
  cases hd : FP.Core.val64 a with
  | nan => exact absurd hd h
  | inf s => exact FP.Core.Datum.noConfusion
  | fin s c q => exact FP.Core.roundRatio_ne_nan _ _ _ _ _
theorem fm_d2f_f2d {a : UInt32} (h : FP.Core.val32 a ≠ .nan) : FP.d2f (FP.f2d a) = a := by
  rw [FP.d2f_core (fm_nn.mp (fm_f2dn h)), FP.f2d_core (fm_nn32.mp h)]
  exact FP.Core.d2f_f2d h
theorem fm_round_nan {f : FP.Core.Fmt} {d : FP.Core.Datum} (h : FP.Core.round f d ≠ .nan) : d ≠ .nan := by
  intro e; rw [e] at h; exact h rfl
theorem fm_inj32 {a b : UInt32} (h : FP.Core.val32 b ≠ .nan) (e : FP.Core.val32 a = FP.Core.val32 b) : a = b := (FP.Core.val32_inj h e.symm).symm
theorem fm_inj64 {a b : UInt64} (h : FP.Core.val64 b ≠ .nan) (e : FP.Core.val64 a = FP.Core.val64 b) : a = b := (FP.Core.val64_inj h e.symm).symm
theorem dr_add {a b : UInt32} (ha : FP.Core.val32 a ≠ .nan) (hb : FP.Core.val32 b ≠ .nan) (h : FP.Core.val32 (FP.fadd a b) ≠ .nan) : FP.Core.val64 (FP.dadd (FP.f2d a) (FP.f2d b)) ≠ .nan ∧ FP.d2f (FP.dadd (FP.f2d a) (FP.f2d b)) = FP.fadd a b := by
  have e1 : FP.Core.val64 (FP.dadd (FP.f2d a) (FP.f2d b)) = FP.Core.round FP.Core.b64 (FP.Core.exactSum (FP.Core.round FP.Core.b64 (FP.Core.val32 a)) (FP.Core.round FP.Core.b64 (FP.Core.val32 b))) := by
    rw [FP.Core.val64_dadd, fm_f2d ha, fm_f2d hb]
  have e2 : FP.Core.round FP.Core.b32 (FP.Core.val64 (FP.dadd (FP.f2d a) (FP.f2d b))) = FP.Core.val32 (FP.fadd a b) := by
    rw [e1, fm_add (FP.Core.val32_fits a) (FP.Core.val32_fits b), FP.Core.val32_fadd]
  have n : FP.Core.val64 (FP.dadd (FP.f2d a) (FP.f2d b)) ≠ .nan := fm_round_nan (f := FP.Core.b32) (by rw [e2]; exact h)
  exact ⟨n, fm_inj32 h (by rw [fm_d2f n, e2])⟩
theorem dr_sub {a b : UInt32} (ha : FP.Core.val32 a ≠ .nan) (hb : FP.Core.val32 b ≠ .nan) (h : FP.Core.val32 (FP.fsub a b) ≠ .nan) : FP.Core.val64 (FP.dsub (FP.f2d a) (FP.f2d b)) ≠ .nan ∧ FP.d2f (FP.dsub (FP.f2d a) (FP.f2d b)) = FP.fsub a b := by
  have e1 : FP.Core.val64 (FP.dsub (FP.f2d a) (FP.f2d b)) = FP.Core.round FP.Core.b64 (FP.Core.exactSum (FP.Core.round FP.Core.b64 (FP.Core.val32 a)) (FP.Core.round FP.Core.b64 (FP.Core.negate (FP.Core.val32 b)))) := by
    rw [FP.Core.val64_dsub, fm_f2d ha, fm_f2d hb, FP.Core.negate_round]
  have e2 : FP.Core.round FP.Core.b32 (FP.Core.val64 (FP.dsub (FP.f2d a) (FP.f2d b))) = FP.Core.val32 (FP.fsub a b) := by
    rw [e1, fm_add (FP.Core.val32_fits a) (FP.Core.negate_fits (FP.Core.val32_fits b)), FP.Core.val32_fsub]
  have n : FP.Core.val64 (FP.dsub (FP.f2d a) (FP.f2d b)) ≠ .nan := fm_round_nan (f := FP.Core.b32) (by rw [e2]; exact h)
  exact ⟨n, fm_inj32 h (by rw [fm_d2f n, e2])⟩
theorem dr_mul {a b : UInt32} (ha : FP.Core.val32 a ≠ .nan) (hb : FP.Core.val32 b ≠ .nan) (h : FP.Core.val32 (FP.fmul a b) ≠ .nan) : FP.Core.val64 (FP.dmul (FP.f2d a) (FP.f2d b)) ≠ .nan ∧ FP.d2f (FP.dmul (FP.f2d a) (FP.f2d b)) = FP.fmul a b := by
  have e1 : FP.Core.val64 (FP.dmul (FP.f2d a) (FP.f2d b)) = FP.Core.round FP.Core.b64 (FP.Core.exactProduct (FP.Core.round FP.Core.b64 (FP.Core.val32 a)) (FP.Core.round FP.Core.b64 (FP.Core.val32 b))) := by
    rw [FP.Core.val64_dmul, fm_f2d ha, fm_f2d hb]
  have e2 : FP.Core.round FP.Core.b32 (FP.Core.val64 (FP.dmul (FP.f2d a) (FP.f2d b))) = FP.Core.val32 (FP.fmul a b) := by
    rw [e1, fm_mul (FP.Core.val32_fits a) (FP.Core.val32_fits b), FP.Core.val32_fmul]
  have n : FP.Core.val64 (FP.dmul (FP.f2d a) (FP.f2d b)) ≠ .nan := fm_round_nan (f := FP.Core.b32) (by rw [e2]; exact h)
  exact ⟨n, fm_inj32 h (by rw [fm_d2f n, e2])⟩
theorem dr_div {a b : UInt32} (ha : FP.Core.val32 a ≠ .nan) (hb : FP.Core.val32 b ≠ .nan) (h : FP.Core.val32 (FP.fdiv a b) ≠ .nan) : FP.Core.val64 (FP.ddiv (FP.f2d a) (FP.f2d b)) ≠ .nan ∧ FP.d2f (FP.ddiv (FP.f2d a) (FP.f2d b)) = FP.fdiv a b := by
  have e1 : FP.Core.val64 (FP.ddiv (FP.f2d a) (FP.f2d b)) = FP.Core.quotient FP.Core.b64 (FP.Core.round FP.Core.b64 (FP.Core.val32 a)) (FP.Core.round FP.Core.b64 (FP.Core.val32 b)) := by
    rw [FP.Core.val64_ddiv, fm_f2d ha, fm_f2d hb]
  have e2 : FP.Core.round FP.Core.b32 (FP.Core.val64 (FP.ddiv (FP.f2d a) (FP.f2d b))) = FP.Core.val32 (FP.fdiv a b) := by
    rw [e1, fm_div (FP.Core.val32_fits a) (FP.Core.val32_fits b), FP.Core.val32_fdiv]
  have n : FP.Core.val64 (FP.ddiv (FP.f2d a) (FP.f2d b)) ≠ .nan := fm_round_nan (f := FP.Core.b32) (by rw [e2]; exact h)
  exact ⟨n, fm_inj32 h (by rw [fm_d2f n, e2])⟩
/-- the rest of floats, as doubles -/
theorem dr_rem {a b : UInt32} (ha : FP.Core.FFin a) (hb : FP.Core.val32 b ≠ .nan) (hz : ¬ FP.Core.FZero b) : FP.Core.val32 (FP.frem a b) ≠ .nan ∧ FP.drem (FP.f2d a) (FP.f2d b) = FP.f2d (FP.frem a b) := by
  have han := ha.ne_nan
  have hn : FP.Core.val32 (FP.frem a b) ≠ .nan := fm_nn32.mpr (FP.Core.frem_out ha (fm_nn32.mp hb) hz)
  refine ⟨hn, fm_inj64 (fm_f2dn hn) ?_⟩
  rw [FP.Core.val64_drem, fm_f2d han, fm_f2d hb, fm_f2d hn]
  obtain ⟨s, c, q, hA⟩ := ha
  have fa := FP.Core.val32_fits a
  have fb := FP.Core.val32_fits b
  rw [hA] at fa
  have fa' := fa
  obtain ⟨h1, h2, h3, h4⟩ := fa
  rw [fm_p32] at h1; rw [fm_qmin32] at h2; rw [fm_qmax32] at h3
  obtain ⟨c', q', g1, g2, g3⟩ := fm_ex64 s (w := c) (e := q) (by omega) (by omega) (by omega)
  have fA := FP.Core.round_fits FP.Core.good_b64 (.fin s c q)
  rw [FP.Core.val32_frem, hA, g1]
  rw [g1] at fA
  cases hB : FP.Core.val32 b with
  | nan => exact absurd hB hb
  | inf t =>
    show FP.Core.round FP.Core.b64 (.fin s c' q') = FP.Core.round FP.Core.b64 (FP.Core.round FP.Core.b32 (.fin s c q))
    rw [FP.Core.round_of_fits FP.Core.good_b32 fa', g1, FP.Core.round_of_fits FP.Core.good_b64 fA]
  | fin t d r =>
    have hd : d ≠ 0 := fun h => hz ⟨t, r, by rw [hB, h]⟩
    rw [hB] at fb
    have fb' := fb
    obtain ⟨k1, k2, k3, k4⟩ := fb
    rw [fm_p32] at k1; rw [fm_qmin32] at k2; rw [fm_qmax32] at k3
    obtain ⟨d', r', j1, j2, j3⟩ := fm_ex64 t (w := d) (e := r) (by omega) (by omega) (by omega)
    have fB := FP.Core.round_fits FP.Core.good_b64 (.fin t d r)
    rw [j1] at fB ⊢
    have hd' : d' ≠ 0 := by
      intro h; rw [h, Nat.zero_mul] at j3
      have := Nat.mul_pos (show 0 < d by omega) (Nat.two_pow_pos (r + 1074).toNat)
      omega
    obtain ⟨c1, q1, m1, m2⟩ := FP.Core.remainder_exact FP.Core.good_b64 fA fB hd'
    obtain ⟨c2, q2, o1, o2⟩ := FP.Core.remainder_exact FP.Core.good_b32 fa' fb' hd
    have f1 := FP.Core.round_fits FP.Core.good_b64 (FP.Core.exactRemainder (.fin s c' q') (.fin t d' r'))
    have f2 := FP.Core.round_fits FP.Core.good_b32 (FP.Core.exactRemainder (.fin s c q) (.fin t d r))
    rw [m1] at f1 ⊢
    rw [o1] at f2 ⊢
    have p1 := f1.2.1
    have p2 := f2.2.1
    rw [fm_qmin64] at p1
    rw [fm_qmin32] at p2
    rw [← FP.Core.round_of_fits FP.Core.good_b64 f1]
    refine fm_rnd (z := -1074) (by omega) (by omega) ?_
    unfold FP.Core.inUnits at m2 o2
    rw [fm_qmin64, show q' - -1074 = q' + 1074 by omega, show r' - -1074 = r' + 1074 by omega, g3, j3] at m2
    rw [fm_qmin32] at o2
    rw [m2]
    have w : ∀ (x : Nat) (z : Int), -149 ≤ z → x * 2 ^ (z + 1074).toNat = x * 2 ^ (z - -149).toNat * 2 ^ 925 := by
      intro x z hz; rw [Nat.mul_assoc, ← Nat.pow_add]; congr 2; omega
    rw [w c q h2, w d r k2, Nat.mul_mod_mul_right, show q2 - -1074 = q2 + 1074 by omega, w c2 q2 p2, o2]
