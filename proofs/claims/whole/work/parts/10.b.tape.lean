/-! the tape -/
def byC (v : Int64) (i : Nat) : Int32 := (((v.toUInt64 >>> ((sN (8 * i)).toInt64.toUInt64 &&& Int64.toUInt64 63)).toInt64).toInt32) &&& 255
def byM (v : Int64) (i : Nat) : Int32 := ((v >>> ((sN (8 * i)).toInt64 &&& 63)) &&& 255).toInt32
theorem by_bv (v : BitVec 64) (k : Nat) (hk : k ≤ 56) : (v >>> k).signExtend 32 &&& 255#32 = ((v.sshiftRight k) &&& 255#64).signExtend 32 := by
  rw [BitVec.signExtend_eq_setWidth_of_le _ (by omega), BitVec.signExtend_eq_setWidth_of_le _ (by omega)]
  apply BitVec.eq_of_getLsbD_eq
  intro j hj
  rw [BitVec.getLsbD_and, BitVec.getLsbD_setWidth, BitVec.getLsbD_setWidth, BitVec.getLsbD_and, BitVec.getLsbD_ushiftRight, BitVec.getLsbD_sshiftRight, BitVec.getLsbD_ofNat, BitVec.getLsbD_ofNat]
  have ht : Nat.testBit 255 j = decide (j < 8) := Nat.testBit_two_pow_sub_one 8 j
  rw [ht]
  by_cases h8 : j < 8
  · rw [if_pos (by omega)]
    have h9 : j < 64 := by omega
    simp [h8, hj, h9]
  · simp [h8]
theorem by_eq (v : Int64) (i : Nat) (hi : i < 8) : byC v i = byM v i := by
  have h : i = 0 ∨ i = 1 ∨ i = 2 ∨ i = 3 ∨ i = 4 ∨ i = 5 ∨ i = 6 ∨ i = 7 := by omega
  apply Int32.toBitVec.inj
  rcases h with rfl | rfl | rfl | rfl | rfl | rfl | rfl | rfl
  · exact by_bv v.toBitVec 0 (by omega)
  · exact by_bv v.toBitVec 8 (by omega)
  · exact by_bv v.toBitVec 16 (by omega)
  · exact by_bv v.toBitVec 24 (by omega)
  · exact by_bv v.toBitVec 32 (by omega)
  · exact by_bv v.toBitVec 40 (by omega)
  · exact by_bv v.toBitVec 48 (by omega)
  · exact by_bv v.toBitVec 56 (by omega)
theorem by_lt (v : Int64) (i : Nat) : ∃ c : Nat, c < 256 ∧ byC v i = sN c := by
  refine ⟨(byC v i).toBitVec.toNat, ?_, ?_⟩
  · unfold byC
    rw [Int32.toBitVec_and, BitVec.toNat_and]
    exact Nat.lt_of_le_of_lt Nat.and_le_right (by decide)
  · apply Int32.toBitVec.inj
    show _ = BitVec.ofNat 32 _
    rw [BitVec.ofNat_toNat, BitVec.setWidth_eq]
def tpF (f : Nat → Int32) (s i k : Nat) (by_ : Nat → Int32) : Nat → Int32 := fun j => if s + i ≤ j ∧ j < s + k then by_ (j - s) else f j
theorem tpF_step (f : Nat → Int32) (s i k : Nat) (b : Nat → Int32) (h : i < k) : tpF (upd f (s + i) (b i)) s (i + 1) k b = tpF f s i k b := by
  funext j
  unfold tpF upd
  by_cases h1 : j = s + i
  · rw [if_neg (by omega), if_pos h1, if_pos (by omega)]; congr 1; omega
  · rw [if_neg h1]
    by_cases h2 : s + i ≤ j ∧ j < s + k
    · rw [if_pos (by omega), if_pos h2]
    · rw [if_neg (by omega), if_neg h2]
theorem tpF_end (f : Nat → Int32) (s k : Nat) (b : Nat → Int32) : tpF f s k k b = f := by
  funext j; unfold tpF; rw [if_neg (by omega)]
theorem va_up_up {α : Type} (f : Nat → α) (k : Nat) (a b : α) : va_up (va_up f k a) k b = va_up f k b := by
  funext j; unfold va_up; by_cases h : j = k <;> simp [h]
theorem va_up_id {α : Type} (f : Nat → α) (k : Nat) : va_up f k (f k) = f := by
  funext j; unfold va_up; by_cases h : j = k <;> simp [h]
theorem g_append (v : Int64) (s k : Nat) (hk : k ≤ 8) (hs : s + k ≤ 200) : ∀ (m i : Nat), i + m = k → ∀ (lv X : Nat → Int32) (F : Nat → Nat → Int32), lv 3 = sN k → lv 4 = sN i → X 0 = sN s → Go (fun n => L_Ta_append n 28 lv v X F) (fun r => r = (1, upd X 0 (sN (s + k)), va_up F 0 (tpF (F 0) s i k (byC v))))
  | 0, i, hm, lv, X, F, h3, h4, hX => by
    refine Go_S ?_
    simp (disch := omega) only [L_Ta_append, h3, h4, hX, upd_app, vup_app, ↓reduceIte, Nat.reduceEqDiff, sN_add, sN_mul, sN_sub, sN_lt, sN_le, sN_eq, sN_nat, sN_div, sN_mod, sN_1', wN_0, wN_1, wN_2, wN_3, wN_4, wN_5, wN_6, wN_7, wN_8, wN_9, wN_10, wN_11, wN_12, wN_13, wN_14, wN_15, wN_16, wN_17, wN_18, wN_19, wN_20, wN_28, wN_31, wN_32, wN_33, wN_36, wN_40, wN_42, wN_43, wN_44, wN_45, wN_46, wN_47, wN_48, wN_57, wN_61, wN_63, wN_64, wN_66, wN_76, wN_82, wN_84, wN_88, wN_90, wN_100, wN_120, wN_128, wN_200, wN_255, wN_256, wN_512, wN_640, wN_641, wN_1000, wN_1024, wN_10000, wN_100000]
    refine Go_pos (by omega) (Go_ret ?_)
    rw [show i = k by omega, tpF_end, va_up_id]
  | m + 1, i, hm, lv, X, F, h3, h4, hX => by
    refine Go_S ?_
    simp (disch := omega) only [L_Ta_append, h3, h4, hX, upd_app, vup_app, ↓reduceIte, Nat.reduceEqDiff, sN_add, sN_mul, sN_sub, sN_lt, sN_le, sN_eq, sN_nat, sN_div, sN_mod, sN_1', wN_0, wN_1, wN_2, wN_3, wN_4, wN_5, wN_6, wN_7, wN_8, wN_9, wN_10, wN_11, wN_12, wN_13, wN_14, wN_15, wN_16, wN_17, wN_18, wN_19, wN_20, wN_28, wN_31, wN_32, wN_33, wN_36, wN_40, wN_42, wN_43, wN_44, wN_45, wN_46, wN_47, wN_48, wN_57, wN_61, wN_63, wN_64, wN_66, wN_76, wN_82, wN_84, wN_88, wN_90, wN_100, wN_120, wN_128, wN_200, wN_255, wN_256, wN_512, wN_640, wN_641, wN_1000, wN_1024, wN_10000, wN_100000]
    refine Go_neg (by omega) (Go_pos (by omega) ?_)
    refine Go_mono (g_append v s k hk hs m (i + 1) (by omega) _ X _ (by simp only [upd_app, vup_app, ↓reduceIte, Nat.reduceEqDiff]) (by simp only [upd_app, vup_app, ↓reduceIte, Nat.reduceEqDiff]) hX) (fun r hr => ?_)
    rw [hr, va_up_up, va_up_self]
    rw [← tpF_step (F 0) s i k (byC v) (by omega)]
    rfl
theorem g_Mo_type (v : Int64) (s k : Nat) (hk : k ≤ 8) (hs : s + k ≤ 200) : ∀ (m i : Nat), i + m = k → ∀ (lv Y : Nat → Int32) (G : Nat → Nat → Int32), lv 3 = sN k → lv 4 = sN i → Y 1 = sN (s + i) → Go (fun n => L_Mo_type n 33 lv v Y G) (fun r => r = (1, upd Y 1 (sN (s + k)), va_up G 0 (tpF (G 0) s i k (byM v))))
  | 0, i, hm, lv, Y, G, h3, h4, hY => by
    refine Go_S ?_
    simp (disch := omega) only [L_Mo_type, h3, h4, hY, upd_app, vup_app, ↓reduceIte, Nat.reduceEqDiff, sN_add, sN_mul, sN_sub, sN_lt, sN_le, sN_eq, sN_nat, sN_div, sN_mod, sN_1', wN_0, wN_1, wN_2, wN_3, wN_4, wN_5, wN_6, wN_7, wN_8, wN_9, wN_10, wN_11, wN_12, wN_13, wN_14, wN_15, wN_16, wN_17, wN_18, wN_19, wN_20, wN_28, wN_31, wN_32, wN_33, wN_36, wN_40, wN_42, wN_43, wN_44, wN_45, wN_46, wN_47, wN_48, wN_57, wN_61, wN_63, wN_64, wN_66, wN_76, wN_82, wN_84, wN_88, wN_90, wN_100, wN_120, wN_128, wN_200, wN_255, wN_256, wN_512, wN_640, wN_641, wN_1000, wN_1024, wN_10000, wN_100000]
    refine Go_pos (by omega) (Go_ret ?_)
    rw [show i = k by omega, tpF_end, va_up_id]
    rw [show i = k by omega] at hY
    congr 2
    funext j
    rw [upd_app]
    by_cases h : j = 1
    · rw [if_pos h, h, hY]
    · rw [if_neg h]
  | m + 1, i, hm, lv, Y, G, h3, h4, hY => by
    refine Go_S ?_
    simp (disch := omega) only [L_Mo_type, h3, h4, hY, upd_app, vup_app, ↓reduceIte, Nat.reduceEqDiff, sN_add, sN_mul, sN_sub, sN_lt, sN_le, sN_eq, sN_nat, sN_div, sN_mod, sN_1', wN_0, wN_1, wN_2, wN_3, wN_4, wN_5, wN_6, wN_7, wN_8, wN_9, wN_10, wN_11, wN_12, wN_13, wN_14, wN_15, wN_16, wN_17, wN_18, wN_19, wN_20, wN_28, wN_31, wN_32, wN_33, wN_36, wN_40, wN_42, wN_43, wN_44, wN_45, wN_46, wN_47, wN_48, wN_57, wN_61, wN_63, wN_64, wN_66, wN_76, wN_82, wN_84, wN_88, wN_90, wN_100, wN_120, wN_128, wN_200, wN_255, wN_256, wN_512, wN_640, wN_641, wN_1000, wN_1024, wN_10000, wN_100000]
    refine Go_neg (by omega) (Go_pos (by omega) ?_)
    refine Go_mono (g_Mo_type v s k hk hs m (i + 1) (by omega) _ _ _ (by simp only [upd_app, vup_app, ↓reduceIte, Nat.reduceEqDiff]) (by simp only [upd_app, vup_app, ↓reduceIte, Nat.reduceEqDiff]) (by simp only [upd_app, vup_app, ↓reduceIte, Nat.reduceEqDiff]; rw [Nat.add_assoc])) (fun r hr => ?_)
    rw [hr, va_up_up, va_up_self, ← tpF_step (G 0) s i k (byM v) (by omega)]
    congr 2
    funext j
    simp only [upd_app]
    by_cases h : j = 1 <;> simp [h]
