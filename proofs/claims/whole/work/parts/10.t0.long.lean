/-! longs as numbers; rounding down -/
def jN (n : Nat) : Int64 := Int64.ofNat n
theorem jN_toInt {n : Nat} (h : n < 9223372036854775808) : (jN n).toInt = n := by
  show (Int64.ofNat n).toInt = _
  rw [← Int64.ofInt_eq_ofNat, Int64.toInt_ofInt_of_le (by omega) (by omega)]
theorem sN_j {n : Nat} (h : n < 2147483648) : (sN n).toInt64 = jN n := by
  apply Int64.toInt.inj
  rw [Int32.toInt_toInt64, sN_toInt h, jN_toInt (by omega)]
theorem jN_s {n : Nat} (h : n < 2147483648) : (jN n).toInt32 = sN n := by
  apply Int32.toInt.inj
  rw [Int64.toInt_toInt32, sN_toInt h, jN_toInt (by omega)]
  exact Int.bmod_eq_of_le (by omega) (by omega)
theorem jN_add (a b : Nat) : jN a + jN b = jN (a + b) := (Int64.ofNat_add a b).symm
theorem jN_mul (a b : Nat) : jN a * jN b = jN (a * b) := (Int64.ofNat_mul a b).symm
theorem jN_div {a b : Nat} (ha : a < 9223372036854775808) (hb : 0 < b) (hb2 : b < 9223372036854775808) : jN a / jN b = jN (a / b) := by
  apply Int64.toInt.inj
  have hd : a / b ≤ a := Nat.div_le_self a b
  rw [Int64.toInt_div, jN_toInt ha, jN_toInt hb2, jN_toInt (by omega)]
  generalize hq : a / b = q at hd ⊢
  show (((a / b : Nat) : Int)).bmod _ = _
  rw [hq]
  exact Int.bmod_eq_of_le (by omega) (by omega)
theorem jN_lt {a b : Nat} (ha : a < 9223372036854775808) (hb : b < 9223372036854775808) : (jN a < jN b) = (a < b) := by
  rw [Int64.lt_iff_toInt_lt, jN_toInt ha, jN_toInt hb]; exact propext Int.ofNat_lt
theorem jN_eq {a b : Nat} (ha : a < 9223372036854775808) (hb : b < 9223372036854775808) : (jN a = jN b) = (a = b) := by
  rw [← Int64.toInt_inj, jN_toInt ha, jN_toInt hb]; exact propext Int.ofNat_inj
theorem jN_cmp {a b : Nat} (ha : a < 9223372036854775808) (hb : b < 9223372036854775808) : lg_cmp (jN a) (jN b) = if b < a then 1 else if a = b then 0 else -1 := by
  unfold lg_cmp
  simp only [GT.gt, jN_lt hb ha, jN_eq ha hb]
theorem jN_0 : (0 : Int64) = jN 0 := rfl
theorem jN_1000 : (1000 : Int64) = jN 1000 := rfl
theorem jN_less {a b : Nat} (ha : a < 9223372036854775808) (hb : b < 9223372036854775808) : f_Mo_lessLong (jN a) (jN b) = jN (min a b) := by
  unfold f_Mo_lessLong
  rw [jN_cmp ha hb]
  by_cases h : b < a
  · rw [if_pos h, if_pos (by decide), Nat.min_eq_right (by omega)]
  · rw [if_neg h]
    by_cases h2 : a = b
    · rw [if_pos h2, if_pos (by decide), h2, Nat.min_self]
    · rw [if_neg h2, if_neg (by decide), Nat.min_eq_left (by omega)]
theorem sN_less {a b : Nat} (ha : a < 2147483648) (hb : b < 2147483648) : f_Mo_less (sN a) (sN b) = sN (min a b) := by
  unfold f_Mo_less
  simp only [sN_le hb ha]
  by_cases h : b ≤ a
  · rw [if_pos h, Nat.min_eq_right h]
  · rw [if_neg h, Nat.min_eq_left (by omega)]
theorem xor2_pos (a : Int32) : (0 ≤ a ^^^ 2) = (0 ≤ a) := by
  rw [Int32.le_iff_toInt_le, Int32.le_iff_toInt_le]
  have h : (a ^^^ 2).toBitVec.msb = a.toBitVec.msb := by
    show (a.toBitVec ^^^ (2 : Int32).toBitVec).msb = _
    rw [BitVec.msb_xor]
    have : (2 : Int32).toBitVec.msb = false := by decide
    rw [this, Bool.xor_false]
  rw [BitVec.msb_eq_toInt, BitVec.msb_eq_toInt] at h
  change decide ((a ^^^ 2).toInt < 0) = decide (a.toInt < 0) at h
  have h' : ((a ^^^ 2).toInt < 0) = (a.toInt < 0) := by
    exact propext ⟨fun z => of_decide_eq_true (by rw [← h]; exact decide_eq_true z), fun z => of_decide_eq_true (by rw [h]; exact decide_eq_true z)⟩
  have z0 : (0 : Int32).toInt = 0 := rfl
  rw [z0]
  refine propext ⟨fun z => ?_, fun z => ?_⟩
  · rcases Int.lt_or_le a.toInt 0 with h1 | h1
    · rw [← h'] at h1; omega
    · exact h1
  · rcases Int.lt_or_le (a ^^^ 2).toInt 0 with h1 | h1
    · rw [h'] at h1; omega
    · exact h1
/-- both halve downward -/
theorem down2 (a : Int32) : f_Mo_down a 2 = f_Im_downward a 2 := by
  unfold f_Mo_down f_Im_downward f_Ma_floorDiv
  simp only [xor2_pos]
  rw [if_neg (show ¬ (2 : Int32) ≤ 0 by decide)]
  obtain ⟨z, h1, h2, rfl⟩ := sI_ex a
  have w2 : (2 : Int32) = sI 2 := rfl
  have w0 : (0 : Int32) = sI 0 := rfl
  have t1 : z.tdiv 2 * 2 ≤ z ∨ z ≤ z.tdiv 2 * 2 := by omega
  have t2 := Int.tmod_add_mul_tdiv z 2
  rw [w2, sI_div h1 h2 (by omega) (by omega), sI_mul, sI_sub, w0]
  have tb : (0 ≤ z → 0 ≤ z.tmod 2 ∧ z.tmod 2 < 2) ∧ (z ≤ 0 → -2 < z.tmod 2 ∧ z.tmod 2 ≤ 0) := by
    constructor
    · intro h; exact ⟨Int.tmod_nonneg 2 h, Int.tmod_lt_of_pos z (by omega)⟩
    · intro h
      have := Int.tmod_nonneg 2 (show 0 ≤ -z by omega)
      have := Int.tmod_lt_of_pos (-z) (show (0:Int) < 2 by omega)
      rw [Int.neg_tmod] at *
      omega
  have hq : z - z.tdiv 2 * 2 = z.tmod 2 := by omega
  simp only [hq, sI_le (a := 0) (b := z.tmod 2) (by omega) (by omega) (by omega) (by omega), sI_le (a := 0) (b := z) (by omega) (by omega) (by omega) (by omega), sI_eq (a := z.tdiv 2 * 2) (b := z) (by omega) (by omega) (by omega) (by omega)]
  by_cases h : 0 ≤ z
  · rw [if_pos (by omega), if_pos h]
  · rw [if_neg h]
    by_cases e : z.tdiv 2 * 2 = z
    · rw [if_pos (by omega), if_pos e]
    · rw [if_neg (by omega), if_neg e]
