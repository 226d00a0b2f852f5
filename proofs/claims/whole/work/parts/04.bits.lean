theorem wb_tb (n : Nat) : (lN n).toBitVec = BitVec.ofNat 64 n := rfl
theorem wb_inj {a b : Int64} (h : a.toBitVec = b.toBitVec) : a = b := Int64.toBitVec_inj.mp h
theorem wb_tn {n : Nat} (h : n < 2 ^ 64) : (lN n).toBitVec.toNat = n := by rw [wb_tb, BitVec.toNat_ofNat, Nat.mod_eq_of_lt h]
theorem wb_of (x : Int64) : ∃ n, n < 2 ^ 64 ∧ x = lN n := ⟨x.toBitVec.toNat, x.toBitVec.isLt, wb_inj (by rw [wb_tb]; simp)⟩
theorem wb_of32 (x : Int32) : ∃ n, n < 2 ^ 32 ∧ x = nI n := ⟨x.toBitVec.toNat, x.toBitVec.isLt, Int32.toBitVec_inj.mp (by show _ = BitVec.ofNat 32 _; simp)⟩
theorem wb_c : ∀ k, k < 64 → ((nI k).toInt64 &&& 63) = lN k := by decide +kernel
theorem wb_cu : ∀ k, k < 64 → ((nI k).toInt64.toUInt64 &&& Int64.toUInt64 63) = UInt64.ofNat k := by decide +kernel
theorem wb_sm : ∀ k, k < 64 → (BitVec.ofNat 64 k).smod 64 = BitVec.ofNat 64 k := by decide +kernel
theorem wb_pw {a b : Nat} (h : a ≤ b) : 2 ^ b = 2 ^ a * 2 ^ (b - a) := by rw [← Nat.pow_add]; congr 1; omega
theorem wb_lt2 {a b : Nat} (h : a < b) : 2 ^ a < 2 ^ b := Nat.pow_lt_pow_right (by decide) h
theorem wb_mod (n : Nat) : lN n = lN (n % 2 ^ 64) := wb_inj (by rw [wb_tb, wb_tb]; apply BitVec.eq_of_toNat_eq; rw [BitVec.toNat_ofNat, BitVec.toNat_ofNat, Nat.mod_mod])
theorem wb_shr {n k : Nat} (hn : n < 2 ^ 64) (hk : k < 64) : ((lN n).toUInt64 >>> ((nI k).toInt64.toUInt64 &&& Int64.toUInt64 63)).toInt64 = lN (n / 2 ^ k) := by
  rw [wb_cu k hk]
  apply wb_inj
  apply BitVec.eq_of_toNat_eq
  show ((lN n).toUInt64 >>> UInt64.ofNat k).toNat = (BitVec.ofNat 64 _).toNat
  have h1 : (UInt64.ofNat k).toNat = k := by
    show (BitVec.ofNat 64 k).toNat = k
    rw [BitVec.toNat_ofNat, Nat.mod_eq_of_lt (by omega)]
  have h2 : (lN n).toUInt64.toNat = n := wb_tn hn
  rw [UInt64.toNat_shiftRight, h1, h2, Nat.mod_eq_of_lt hk, Nat.shiftRight_eq_div_pow, BitVec.toNat_ofNat, Nat.mod_eq_of_lt (Nat.lt_of_le_of_lt (Nat.div_le_self _ _) hn)]
theorem wb_shl (n : Nat) {k : Nat} (hk : k < 64) : lN n <<< ((nI k).toInt64 &&& 63) = lN (n * 2 ^ k) := by
  rw [wb_c k hk]
  apply wb_inj
  rw [Int64.toBitVec_shiftLeft, wb_tb, wb_tb, wb_tb, wb_sm k hk]
  apply BitVec.eq_of_toNat_eq
  rw [BitVec.shiftLeft_eq', BitVec.toNat_shiftLeft, BitVec.toNat_ofNat, BitVec.toNat_ofNat, BitVec.toNat_ofNat, Nat.mod_eq_of_lt (show k < 2 ^ 64 by omega), Nat.shiftLeft_eq, Nat.mul_mod, Nat.mod_mod, ← Nat.mul_mod]
theorem wb_and {a b : Nat} (ha : a < 2 ^ 64) (hb : b < 2 ^ 64) : lN a &&& lN b = lN (a &&& b) := by
  apply wb_inj
  rw [Int64.toBitVec_and, wb_tb, wb_tb, wb_tb]
  apply BitVec.eq_of_toNat_eq
  rw [BitVec.toNat_and, BitVec.toNat_ofNat, BitVec.toNat_ofNat, BitVec.toNat_ofNat, Nat.mod_eq_of_lt ha, Nat.mod_eq_of_lt hb, Nat.mod_eq_of_lt (Nat.and_lt_two_pow _ hb)]
theorem wb_or {a b : Nat} (ha : a < 2 ^ 64) (hb : b < 2 ^ 64) : lN a ||| lN b = lN (a ||| b) := by
  apply wb_inj
  rw [Int64.toBitVec_or, wb_tb, wb_tb, wb_tb]
  apply BitVec.eq_of_toNat_eq
  rw [BitVec.toNat_or, BitVec.toNat_ofNat, BitVec.toNat_ofNat, BitVec.toNat_ofNat, Nat.mod_eq_of_lt ha, Nat.mod_eq_of_lt hb, Nat.mod_eq_of_lt (Nat.or_lt_two_pow ha hb)]
theorem wb_mask {n k : Nat} (hn : n < 2 ^ 64) (hk : k < 64) : lN n &&& lN (2 ^ k - 1) = lN (n % 2 ^ k) := by
  rw [wb_and hn (by have := wb_lt2 hk; omega), Nat.and_two_pow_sub_one_eq_mod]
theorem wb_a1 {n : Nat} (hn : n < 2 ^ 64) : lN n &&& 1 = lN (n % 2) := wb_mask (k := 1) hn (by decide)
theorem wb_bit {n k : Nat} (hn : n < 2 ^ 64) (hk : k < 64) : ((lN n).toUInt64 >>> ((nI k).toInt64.toUInt64 &&& Int64.toUInt64 63)).toInt64 &&& 1 = lN (n / 2 ^ k % 2) := by
  rw [wb_shr hn hk, wb_a1 (Nat.lt_of_le_of_lt (Nat.div_le_self _ _) hn)]
theorem wb_xor {q k : Nat} (hk : k < 63) (h : 2 ^ k ≤ q) (h2 : q < 2 ^ (k + 1)) : lN q ^^^ lN (2 ^ k) = lN (q - 2 ^ k) := by
  obtain ⟨r, rfl⟩ : ∃ r, q = 2 ^ k + r := ⟨q - 2 ^ k, by omega⟩
  have hr : r < 2 ^ k := by rw [Nat.pow_succ] at h2; omega
  have hx : (2 ^ k + r) ^^^ 2 ^ k = r := by
    apply Nat.eq_of_testBit_eq
    intro i
    rw [Nat.testBit_xor, Nat.testBit_two_pow]
    rcases Nat.lt_trichotomy i k with h | h | h
    · rw [Nat.testBit_two_pow_add_gt h]
      simp [show ¬ k = i by omega]
    · subst h
      rw [Nat.testBit_two_pow_add_eq]
      simp
    · have a1 : 2 ^ (k + 1) ≤ 2 ^ i := Nat.pow_le_pow_right (by decide) h
      rw [Nat.testBit_lt_two_pow (show 2 ^ k + r < 2 ^ i by omega), Nat.testBit_lt_two_pow (show r < 2 ^ i by omega)]
      simp [show ¬ k = i by omega]
  have b1 := wb_lt2 (show k + 1 < 64 by omega)
  have b2 := wb_lt2 (show k < 64 by omega)
  apply wb_inj
  rw [Int64.toBitVec_xor, wb_tb, wb_tb, wb_tb]
  apply BitVec.eq_of_toNat_eq
  rw [BitVec.toNat_xor, BitVec.toNat_ofNat, BitVec.toNat_ofNat, BitVec.toNat_ofNat, Nat.mod_eq_of_lt (by omega : 2 ^ k + r < 2 ^ 64), Nat.mod_eq_of_lt b2, hx, Nat.add_sub_cancel_left, Nat.mod_eq_of_lt (by omega)]

/-! bits of floats and doubles, told as whole numbers -/
/-- the bits without the sign -/
def mgN (k : Int32) (b : Int64) : Nat := if k = 2 then b.toUInt64.toNat % 2 ^ 31 else b.toUInt64.toNat % 2 ^ 63
def infN (k : Int32) : Nat := if k = 2 then 2139095040 else 9218868437227405312
def fbN (k : Int32) : Nat := if k = 2 then 23 else 52
def topN (k : Int32) : Nat := if k = 2 then 2 ^ 31 else 2 ^ 63
def wholeN (k : Int32) (m : Nat) : Nat := if m < 2 ^ fbN k then m else 2 ^ fbN k + m % 2 ^ fbN k
def fieldN (k : Int32) (m : Nat) : Nat := if m < 2 ^ fbN k then 1 else m / 2 ^ fbN k
def FM (k : Int32) : FP.Core.Fmt := if k = 2 then FP.Core.b32 else FP.Core.b64
theorem uN_lN {n : Nat} (h : n < 2 ^ 64) : (lN n).toUInt64.toNat = n := wb_tn h
theorem mg_lt (k : Int32) (b : Int64) : mgN k b < topN k := by
  unfold mgN topN; split
  · exact Nat.mod_lt _ (by decide)
  · exact Nat.mod_lt _ (by decide)
theorem top_le (k : Int32) : topN k ≤ 2 ^ 63 := by unfold topN; split <;> decide
theorem inf_lt (k : Int32) : infN k < topN k := by unfold infN topN; split <;> decide
theorem mg_lt63 (k : Int32) (b : Int64) : mgN k b < 2 ^ 63 := Nat.lt_of_lt_of_le (mg_lt k b) (top_le k)
theorem sizeOf_eq (k : Int32) (b : Int64) : fX2_sizeOf k b = lN (mgN k b) := by
  obtain ⟨n, hn, rfl⟩ := wb_of b
  unfold fX2_sizeOf fX2_sizeMask mgN
  rw [uN_lN hn]
  split
  · rw [show (2147483647 : Int64) = lN (2 ^ 31 - 1) by decide]; exact wb_mask hn (by decide)
  · rw [show (9223372036854775807 : Int64) = lN (2 ^ 63 - 1) by decide]; exact wb_mask hn (by decide)
theorem endless_eq (k : Int32) : fX2_endless k = lN (infN k) := by unfold fX2_endless infN; split <;> decide
theorem lgc_gt {a b : Nat} (ha : a < 2 ^ 63) (hb : b < 2 ^ 63) : 0 < lg_cmp (lN a) (lN b) ↔ b < a := by
  unfold lg_cmp
  by_cases h : b < a
  · rw [if_pos (show lN b < lN a from (pk_lLT hb ha).mpr h)]; exact iff_of_true (by decide) h
  · rw [if_neg (fun h1 => h ((pk_lLT hb ha).mp h1))]
    refine iff_of_false ?_ h
    split <;> decide
theorem lgc_eq {a b : Nat} (ha : a < 2 ^ 63) (hb : b < 2 ^ 63) : lg_cmp (lN a) (lN b) = 0 ↔ a = b := by
  unfold lg_cmp
  by_cases h : b < a
  · rw [if_pos (show lN b < lN a from (pk_lLT hb ha).mpr h)]; exact iff_of_false (by decide) (by omega)
  · rw [if_neg (fun h1 => h ((pk_lLT hb ha).mp h1))]
    by_cases e : a = b
    · rw [if_pos ((pk_lEQ ha hb).mpr e)]; exact iff_of_true rfl e
    · rw [if_neg (fun h1 => e ((pk_lEQ ha hb).mp h1))]; exact iff_of_false (by decide) e
theorem lgc_ge {a b : Nat} (ha : a < 2 ^ 63) (hb : b < 2 ^ 63) : 0 ≤ lg_cmp (lN a) (lN b) ↔ b ≤ a := by
  unfold lg_cmp
  by_cases h : b < a
  · rw [if_pos (show lN b < lN a from (pk_lLT hb ha).mpr h)]; exact iff_of_true (by decide) (by omega)
  · rw [if_neg (fun h1 => h ((pk_lLT hb ha).mp h1))]
    by_cases e : a = b
    · rw [if_pos ((pk_lEQ ha hb).mpr e)]; exact iff_of_true (by decide) (by omega)
    · rw [if_neg (fun h1 => e ((pk_lEQ ha hb).mp h1))]; exact iff_of_false (by decide) (by omega)
theorem isNumber_eq (k : Int32) (b : Int64) : fX2_isNumber k b = decide (mgN k b ≤ infN k) := by
  unfold fX2_isNumber
  rw [sizeOf_eq, endless_eq]
  have i63 : infN k < 2 ^ 63 := Nat.lt_of_lt_of_le (inf_lt k) (top_le k)
  by_cases h : infN k < mgN k b
  · rw [if_pos ((lgc_gt (mg_lt63 k b) i63).mpr h)]; exact (decide_eq_false (by omega)).symm
  · rw [if_neg (fun h1 => h ((lgc_gt (mg_lt63 k b) i63).mp h1))]; exact (decide_eq_true (by omega)).symm
theorem isEndless_eq (k : Int32) (b : Int64) : fX2_isEndless k b = decide (mgN k b = infN k) := by
  unfold fX2_isEndless
  rw [sizeOf_eq, endless_eq]
  have i63 : infN k < 2 ^ 63 := Nat.lt_of_lt_of_le (inf_lt k) (top_le k)
  by_cases h : mgN k b = infN k
  · rw [if_pos ((lgc_eq (mg_lt63 k b) i63).mpr h)]; exact (decide_eq_true h).symm
  · rw [if_neg (fun h1 => h ((lgc_eq (mg_lt63 k b) i63).mp h1))]; exact (decide_eq_false h).symm
theorem isZero_eq (k : Int32) (b : Int64) : fX2_isZero k b = decide (mgN k b = 0) := by
  unfold fX2_isZero
  rw [sizeOf_eq, show (0 : Int64) = lN 0 from rfl]
  by_cases h : mgN k b = 0
  · rw [if_pos ((lgc_eq (b := 0) (mg_lt63 k b) (by decide)).mpr h)]; exact (decide_eq_true h).symm
  · rw [if_neg (fun h1 => h ((lgc_eq (b := 0) (mg_lt63 k b) (by decide)).mp h1))]; exact (decide_eq_false h).symm
theorem fb_eq (k : Int32) : fX2_fractionBits k = nI (fbN k) := by unfold fX2_fractionBits fbN; split <;> rfl
theorem fb_lt (k : Int32) : fbN k < 64 := by unfold fbN; split <;> decide
theorem fb_le (k : Int32) : fbN k ≤ 52 := by unfold fbN; split <;> decide
theorem unit_eq (k : Int32) : (1 : Int64) <<< ((fX2_fractionBits k : Int32).toInt64 &&& 63) = lN (2 ^ fbN k) := by
  rw [fb_eq, show (1 : Int64) = lN 1 from rfl, wb_shl 1 (fb_lt k), Nat.one_mul]
theorem pw_lt (k : Int32) : 2 ^ fbN k < 2 ^ 63 := Nat.pow_lt_pow_right (by decide) (by have := fb_le k; omega)
theorem wholeOf_eq (k : Int32) {m : Nat} (hm : m < 2 ^ 63) : fX2_wholeOf k (lN m) = lN (wholeN k m) := by
  unfold fX2_wholeOf wholeN
  rw [unit_eq]
  by_cases h : m < 2 ^ fbN k
  · rw [if_neg (fun h1 => absurd ((lgc_ge hm (pw_lt k)).mp h1) (by omega)), if_pos h]
  · rw [if_pos ((lgc_ge hm (pw_lt k)).mpr (by omega)), if_neg h]
    have p0 := Nat.two_pow_pos (fbN k)
    have p1 := pw_lt k
    rw [show lN (2 ^ fbN k) - 1 = lN (2 ^ fbN k - 1) from lN_sub (b := 1) p0, wb_mask (by omega) (fb_lt k)]
    have hr : m % 2 ^ fbN k < 2 ^ fbN k := Nat.mod_lt _ p0
    rw [wb_or (by omega) (by omega), Nat.or_comm]
    congr 1
    have := Nat.two_pow_add_eq_or_of_lt hr 1
    rw [Nat.mul_one] at this
    exact this.symm
theorem fieldOf_eq (k : Int32) {m : Nat} (hm : m < topN k) : fX2_fieldOf k (lN m) = nI (fieldN k m) := by
  have h63 : m < 2 ^ 63 := Nat.lt_of_lt_of_le hm (top_le k)
  have hq : m / 2 ^ fbN k < 2048 := by
    rw [Nat.div_lt_iff_lt_mul (Nat.two_pow_pos _)]
    unfold topN at hm; unfold fbN
    split at hm <;> simp_all <;> omega
  unfold fX2_fieldOf fieldN
  rw [fb_eq, wb_shr (by omega) (fb_lt k), lN_i]
  by_cases h : m < 2 ^ fbN k
  · rw [if_pos h, Nat.div_eq_of_lt h]; rfl
  · rw [if_neg h]
    have h1 : 1 ≤ m / 2 ^ fbN k := (Nat.le_div_iff_mul_le (Nat.two_pow_pos _)).mpr (by omega)
    by_cases h2 : m / 2 ^ fbN k = 1
    · rw [h2]; rfl
    · rw [if_pos (show (1 : Int32) < nI (m / 2 ^ fbN k) from nI_lt (a := 1) (by omega) (by omega))]
theorem units_eq (k : Int32) (m : Nat) : FP.Core.unitsOf (FM k) m = wholeN k m * 2 ^ (fieldN k m - 1) := by
  have ht : (FM k).tails = 2 ^ fbN k := by unfold FM fbN; split <;> decide
  unfold FP.Core.unitsOf wholeN fieldN
  rw [ht]
  split
  · simp
  · rfl
theorem whole_lt (k : Int32) (m : Nat) : wholeN k m < 2 ^ (fbN k + 1) := by
  have p0 := Nat.two_pow_pos (fbN k)
  have := Nat.mod_lt m p0
  unfold wholeN
  rw [Nat.pow_succ]
  split <;> omega
theorem field_ge (k : Int32) (m : Nat) : 1 ≤ fieldN k m := by
  unfold fieldN; split
  · exact Nat.le_refl 1
  · exact (Nat.le_div_iff_mul_le (Nat.two_pow_pos _)).mpr (by omega)
