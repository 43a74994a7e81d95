/-! where the class has the pages (object 0) -/
theorem e_leafOf_0 {N p : Nat} {lf : Nat → Nat} (hN : N ≤ 16) (h1 : 1 ≤ p) (h2 : p ≤ 2 * N) (X : Nat → Int32) (F : Nat → Nat → Int32) (hF : ∀ k, k < N → F 15 k = sN (lf k)) (n : Nat) : f_Sc_leafOf_0 n X F (sN p) = some (sN (pgL lf p), X, F) := by
  unfold f_Sc_leafOf_0
  have e : (sN p - 1) / 2 = sN ((p - 1) / 2) := by rw [wN_1, wN_2, sN_sub (by omega), sN_div (by omega) (by omega) (by omega)]
  rw [e]
  rw [if_neg (by rw [wN_0, sN_lt (by omega) (by omega)]; omega), if_neg (by rw [wN_16, sN_le (by omega) (by omega)]; omega), if_pos (by rw [wN_0, sN_lt (by omega) (by omega), sN_nat (by omega)]; omega), sN_nat (by omega), hF _ (by omega)]
  rfl
theorem e_sideOf_0 {N p : Nat} {lf : Nat → Nat} (hN : N ≤ 16) (h1 : 1 ≤ p) (h2 : p ≤ 2 * N) (X : Nat → Int32) (F : Nat → Nat → Int32) (hF : ∀ k, k < N → F 15 k = sN (lf k)) (n : Nat) : f_Sc_sideOf_0 n X F (sN p) = some (sN (pgSd lf p), X, F) := by
  unfold f_Sc_sideOf_0
  have e : sN p - sN p / 2 * 2 = sN (p % 2) := by rw [wN_2, sN_div (by omega) (by omega) (by omega), sN_mul, sN_mod]
  rw [e_leafOf_0 hN h1 h2 X F hF, Option.bind_some, e, wN_1, sN_and1]
  unfold pgSd
  by_cases hp : p % 2 = 1
  · rw [if_neg (by rw [sN_eq (by omega) (by omega)]; omega), if_pos hp]
  · rw [if_pos (by rw [sN_eq (by omega) (by omega)]; omega), if_neg hp, sN_sub (by omega)]
theorem e_spotOf_0 {c r wy p : Nat} {lf : Nat → Nat} (hc : 1 ≤ c) (hc8 : c ≤ 8) (hr8 : r ≤ 8) (hN : c * r ≤ 16) (ok : lfOK c r lf) (hwy : wy = 0 ∨ wy = 1) (h1 : 1 ≤ p) (h2 : p ≤ 2 * (c * r)) (X : Nat → Int32) (F : Nat → Nat → Int32) (hX0 : X 21 = sN c) (hX1 : X 22 = sN r) (hF : ∀ k, k < c * r → F 15 k = sN (lf k)) (n : Nat) : f_Sc_spotOf_0 n X F (sN p) (sN wy) = some (sN (16 * pgSd lf p + pgPl c r wy lf p), X, F) := by
  obtain ⟨a1, a2, a3, a4⟩ := pg_lt (wy := wy) hc ok h1 h2
  have hd : pgL lf p / 4 / c < r := Nat.div_lt_of_lt_mul a4
  have hm : pgL lf p / 4 % c < c := Nat.mod_lt _ (by omega)
  have hmul : c * (pgL lf p / 4 / c) ≤ pgL lf p / 4 := Nat.mul_div_le _ c
  unfold f_Sc_spotOf_0
  rw [e_leafOf_0 hN h1 h2 X F hF, Option.bind_some, e_sideOf_0 hN h1 h2 X F hF, Option.bind_some]
  have e4 : sN (pgL lf p) / 4 = sN (pgL lf p / 4) := by rw [wN_4, sN_div (by omega) (by omega) (by omega)]
  have n0 : ¬ X 21 = 0 := by rw [hX0, wN_0, sN_eq (by omega) (by omega)]; omega
  unfold pgPl
  by_cases hs : pgSd lf p = 0
  · rw [if_pos (by rw [hs]; rfl), if_pos hs]
    show some (sN (pgL lf p) / 4, X, F) = _
    rw [e4, hs]; congr 3; omega
  · have hs1 : pgSd lf p = 1 := by omega
    rw [if_neg (by rw [hs1]; exact (by decide : ¬ sN 1 = 0)), if_neg hs]
    show (if 1 ≤ X 21 then _ else _) = _
    rw [if_pos (by rw [hX0, wN_1, sN_le (by omega) (by omega)]; omega), if_pos n0, if_pos n0]
    show (if ¬ sN wy = 0 then some ((16 : Int32) + (sN (pgL lf p) / 4 - sN (pgL lf p) / 4 / X 21 * X 21 + X 21 * (X 22 - 1 - sN (pgL lf p) / 4 / X 21)), X, F) else some ((16 : Int32) + (X 21 - 1 - (sN (pgL lf p) / 4 - sN (pgL lf p) / 4 / X 21 * X 21) + X 21 * (sN (pgL lf p) / 4 / X 21)), X, F)) = _
    have hr1 : 1 ≤ r := Nat.lt_of_le_of_lt (Nat.zero_le _) hd
    have hq : pgL lf p / 4 / c ≤ r - 1 := Nat.le_sub_one_of_lt hd
    have hm1 : pgL lf p / 4 % c ≤ c - 1 := Nat.le_sub_one_of_lt hm
    rw [e4, hX0, hX1, sN_div (by omega) (by omega) (by omega), sN_mul, sN_mod, wN_1, sN_sub hr1, sN_sub hq, sN_sub hc, sN_sub hm1, sN_mul, sN_mul, sN_add, sN_add, wN_16, sN_add, sN_add, hs1]
    rcases hwy with rfl | rfl
    · rw [if_neg (fun z => z rfl), if_neg (by omega)]
    · rw [if_pos (by decide), if_pos rfl]
theorem e_turnedOf_0 {N wy p : Nat} {lf : Nat → Nat} (hN : N ≤ 16) (hlf : ∀ k, k < N → lf k < 64) (hwy : wy = 0 ∨ wy = 1) (h1 : 1 ≤ p) (h2 : p ≤ 2 * N) (X : Nat → Int32) (F : Nat → Nat → Int32) (hF : ∀ k, k < N → F 15 k = sN (lf k)) (n : Nat) : f_Sc_turnedOf_0 n X F (sN p) (sN wy) = some (sN (pgDn wy lf p), X, F) := by
  unfold f_Sc_turnedOf_0
  rw [e_leafOf_0 hN h1 h2 X F hF, Option.bind_some, e_sideOf_0 hN h1 h2 X F hF, Option.bind_some]
  have hL : pgL lf p < 64 := hlf _ (by omega)
  rw [and2_all ⟨pgL lf p, hL⟩]
  have hs : pgSd lf p = 0 ∨ pgSd lf p = 1 := by unfold pgSd; split <;> omega
  have hh : pgL lf p / 2 % 2 = 0 ∨ pgL lf p / 2 % 2 = 1 := by omega
  unfold pgDn
  rcases hs with hs | hs <;> rcases hh with hh | hh <;> rcases hwy with rfl | rfl <;> rw [hs] <;> simp only [hh] <;> rfl
theorem e_toldRight_0 {c r wy p : Nat} {lf : Nat → Nat} {A : Told} (hc : 1 ≤ c) (hc8 : c ≤ 8) (hr8 : r ≤ 8) (hN : c * r ≤ 16) (ok : lfOK c r lf) (hwy : wy = 0 ∨ wy = 1) (h1 : 1 ≤ p) (h2 : p ≤ 2 * (c * r)) (X : Nat → Int32) (F : Nat → Nat → Int32) (hX0 : X 21 = sN c) (hX1 : X 22 = sN r) (hF : ∀ k, k < c * r → F 15 k = sN (lf k)) (hA : toldC (c * r) (2 * (c * r)) A (F 13) (F 14)) (n : Nat) : f_Sc_isToldRight_0 n X F (sN p) (sN wy) = some (if okB c r wy lf A p = true then 1 else 0, X, F) := by
  obtain ⟨a1, a2, a3, a4⟩ := pg_lt (wy := wy) hc ok h1 h2
  have hk : pgSd lf p * (c * r) ≤ 1 * (c * r) := Nat.mul_le_mul_right _ a1
  have ht := hA (pgSd lf p * (c * r) + pgPl c r wy lf p) (by omega)
  have htx : tix (c * r) (pgSd lf p * (c * r) + pgPl c r wy lf p) = 16 * pgSd lf p + pgPl c r wy lf p := by
    unfold tix
    rcases (show pgSd lf p = 0 ∨ pgSd lf p = 1 by omega) with h | h
    · rw [h, if_pos (by omega)]; omega
    · rw [h, if_neg (by omega)]; omega
  rw [htx] at ht
  unfold f_Sc_isToldRight_0
  rw [e_spotOf_0 hc hc8 hr8 hN ok hwy h1 h2 X F hX0 hX1 hF, Option.bind_some]
  have c0 : ¬ (sN (16 * pgSd lf p + pgPl c r wy lf p) < 0 ∨ 32 ≤ (sN (16 * pgSd lf p + pgPl c r wy lf p)).toNatClampNeg) := by rw [wN_0, sN_lt (by omega) (by omega), sN_nat (by omega)]; omega
  show (if sN (16 * pgSd lf p + pgPl c r wy lf p) < 0 then _ else if 32 ≤ sN (16 * pgSd lf p + pgPl c r wy lf p) then _ else if ¬ (sN (16 * pgSd lf p + pgPl c r wy lf p) < 0 ∨ 32 ≤ (sN (16 * pgSd lf p + pgPl c r wy lf p)).toNatClampNeg) then (if ¬ F 13 (sN (16 * pgSd lf p + pgPl c r wy lf p)).toNatClampNeg = sN p then some (0, X, F) else if ¬ (sN (16 * pgSd lf p + pgPl c r wy lf p) < 0 ∨ 32 ≤ (sN (16 * pgSd lf p + pgPl c r wy lf p)).toNatClampNeg) then (f_Sc_turnedOf_0 n X F (sN p) (sN wy)).bind (fun q2 => if ¬ F 14 (sN (16 * pgSd lf p + pgPl c r wy lf p)).toNatClampNeg = q2.1 then some (0, q2.2.1, q2.2.2) else some (1, q2.2.1, q2.2.2)) else none) else none) = _
  rw [if_neg (by rw [wN_0, sN_lt (by omega) (by omega)]; omega), if_neg (by rw [wN_32, sN_le (by omega) (by omega)]; omega), if_pos c0, if_pos c0, sN_nat (by omega), ht.1, ht.2, e_turnedOf_0 hN (fun k hk => (ok.1 k hk).1) hwy h1 h2 X F hF, Option.bind_some]
  unfold okB
  by_cases e1 : sN (A (pgSd lf p * (c * r) + pgPl c r wy lf p)).1 = sN p
  · rw [if_neg (fun z => z e1)]
    by_cases e2 : sN (A (pgSd lf p * (c * r) + pgPl c r wy lf p)).2 = sN (pgDn wy lf p)
    · rw [if_neg (fun z => z e2), if_pos (by simp [e1, e2])]
    · rw [if_pos e2, if_neg (by simp [e2])]
  · rw [if_pos e1, if_neg (by simp [e1])]
theorem g_firstBroken_0 {c r wy : Nat} {lf : Nat → Nat} {A : Told} (hc : 1 ≤ c) (hc8 : c ≤ 8) (hr8 : r ≤ 8) (hN : c * r ≤ 16) (ok : lfOK c r lf) (hwy : wy = 0 ∨ wy = 1) (X : Nat → Int32) (F : Nat → Nat → Int32) (hX0 : X 21 = sN c) (hX1 : X 22 = sN r) (hF : ∀ k, k < c * r → F 15 k = sN (lf k)) (hA : toldC (c * r) (2 * (c * r)) A (F 13) (F 14)) : ∀ (m p : Nat) (lv : Nat → Int32), p + m = 2 * (c * r) + 1 → 1 ≤ p → lv 1 = sN wy → lv 2 = sN (2 * (c * r)) → lv 3 = sN p → Go (fun n => L_Sc_firstBroken_0 n 16 lv X F) (fun q => q = (sN (fbS (okB c r wy lf A) m p), X, F))
  | 0, p, lv, hm, hp, l1, l2, l3 => by
    refine Go_S ?_
    simp only [L_Sc_firstBroken_0, ↓reduceIte]
    exact Go_pos (by rw [l2, l3, sN_lt (by omega) (by omega)]; omega) (Go_ret rfl)
  | m + 1, p, lv, hm, hp, l1, l2, l3 => by
    refine Go_S ?_
    simp only [L_Sc_firstBroken_0, ↓reduceIte]
    refine Go_neg (by rw [l2, l3, sN_lt (by omega) (by omega)]; omega) ?_
    rw [l1, l3]
    simp only [e_toldRight_0 hc hc8 hr8 hN ok hwy hp (by omega) X F hX0 hX1 hF hA, Option.bind_some]
    unfold fbS
    by_cases h : okB c r wy lf A p = true
    · simp only [h, ↓reduceIte]
      refine Go_pos (by decide) ?_
      exact g_firstBroken_0 hc hc8 hr8 hN ok hwy X F hX0 hX1 hF hA m (p + 1) _ (by omega) (by omega) rfl l2 (sN_add p 1)
    · simp only [h, ↓reduceIte]
      exact Go_neg (fun z => z rfl) (Go_ret rfl)
/-- what the class's scheme says of broken pages -/
theorem e_firstBroken_0 {s : Sch} {wy : Nat} (hc : 1 ≤ s.1) (hc8 : s.1 ≤ 8) (hr8 : s.2.1 ≤ 8) (hN : s.1 * s.2.1 ≤ 16) (ok : lfOK s.1 s.2.1 s.2.2.2.1) (hwy : wy = 0 ∨ wy = 1) (X : Nat → Int32) (F : Nat → Nat → Int32) (hs : schC s (X 21) (X 22) (X 23) (X 24) (F 12) (F 13) (F 14) (F 15)) : Go (fun n => f_Sc_firstBroken_0 n X F (sN wy)) (fun q => q = (sN (brS s wy), X, F)) := by
  obtain ⟨h0, h1, h2, h3, h4, h5⟩ := hs
  unfold f_Sc_firstBroken_0 brS
  cases ht : s.2.2.2.2 with
  | none =>
    rw [ht] at h5
    exact Go_neg (fun z => z h5) (Go_ret rfl)
  | some A =>
    rw [ht] at h5
    refine Go_pos (by rw [h5.1]; decide) ?_
    unfold f_Sc_pageCount_0 f_Sc_cells_0
    simp only [Option.bind_some, h0, h1, sN_mul, wN_2]
    exact g_firstBroken_0 hc hc8 hr8 hN ok hwy X F h0 h1 h4 h5.2 (2 * (s.1 * s.2.1)) 1 _ (by omega) (by omega) rfl rfl rfl
/-! where the class has the pages (object 1) -/
theorem e_leafOf_1 {N p : Nat} {lf : Nat → Nat} (hN : N ≤ 16) (h1 : 1 ≤ p) (h2 : p ≤ 2 * N) (X : Nat → Int32) (F : Nat → Nat → Int32) (hF : ∀ k, k < N → F 19 k = sN (lf k)) (n : Nat) : f_Sc_leafOf_1 n X F (sN p) = some (sN (pgL lf p), X, F) := by
  unfold f_Sc_leafOf_1
  have e : (sN p - 1) / 2 = sN ((p - 1) / 2) := by rw [wN_1, wN_2, sN_sub (by omega), sN_div (by omega) (by omega) (by omega)]
  rw [e]
  rw [if_neg (by rw [wN_0, sN_lt (by omega) (by omega)]; omega), if_neg (by rw [wN_16, sN_le (by omega) (by omega)]; omega), if_pos (by rw [wN_0, sN_lt (by omega) (by omega), sN_nat (by omega)]; omega), sN_nat (by omega), hF _ (by omega)]
  rfl
theorem e_sideOf_1 {N p : Nat} {lf : Nat → Nat} (hN : N ≤ 16) (h1 : 1 ≤ p) (h2 : p ≤ 2 * N) (X : Nat → Int32) (F : Nat → Nat → Int32) (hF : ∀ k, k < N → F 19 k = sN (lf k)) (n : Nat) : f_Sc_sideOf_1 n X F (sN p) = some (sN (pgSd lf p), X, F) := by
  unfold f_Sc_sideOf_1
  have e : sN p - sN p / 2 * 2 = sN (p % 2) := by rw [wN_2, sN_div (by omega) (by omega) (by omega), sN_mul, sN_mod]
  rw [e_leafOf_1 hN h1 h2 X F hF, Option.bind_some, e, wN_1, sN_and1]
  unfold pgSd
  by_cases hp : p % 2 = 1
  · rw [if_neg (by rw [sN_eq (by omega) (by omega)]; omega), if_pos hp]
  · rw [if_pos (by rw [sN_eq (by omega) (by omega)]; omega), if_neg hp, sN_sub (by omega)]
theorem e_spotOf_1 {c r wy p : Nat} {lf : Nat → Nat} (hc : 1 ≤ c) (hc8 : c ≤ 8) (hr8 : r ≤ 8) (hN : c * r ≤ 16) (ok : lfOK c r lf) (hwy : wy = 0 ∨ wy = 1) (h1 : 1 ≤ p) (h2 : p ≤ 2 * (c * r)) (X : Nat → Int32) (F : Nat → Nat → Int32) (hX0 : X 25 = sN c) (hX1 : X 26 = sN r) (hF : ∀ k, k < c * r → F 19 k = sN (lf k)) (n : Nat) : f_Sc_spotOf_1 n X F (sN p) (sN wy) = some (sN (16 * pgSd lf p + pgPl c r wy lf p), X, F) := by
  obtain ⟨a1, a2, a3, a4⟩ := pg_lt (wy := wy) hc ok h1 h2
  have hd : pgL lf p / 4 / c < r := Nat.div_lt_of_lt_mul a4
  have hm : pgL lf p / 4 % c < c := Nat.mod_lt _ (by omega)
  have hmul : c * (pgL lf p / 4 / c) ≤ pgL lf p / 4 := Nat.mul_div_le _ c
  unfold f_Sc_spotOf_1
  rw [e_leafOf_1 hN h1 h2 X F hF, Option.bind_some, e_sideOf_1 hN h1 h2 X F hF, Option.bind_some]
  have e4 : sN (pgL lf p) / 4 = sN (pgL lf p / 4) := by rw [wN_4, sN_div (by omega) (by omega) (by omega)]
  have n0 : ¬ X 25 = 0 := by rw [hX0, wN_0, sN_eq (by omega) (by omega)]; omega
  unfold pgPl
  by_cases hs : pgSd lf p = 0
  · rw [if_pos (by rw [hs]; rfl), if_pos hs]
    show some (sN (pgL lf p) / 4, X, F) = _
    rw [e4, hs]; congr 3; omega
  · have hs1 : pgSd lf p = 1 := by omega
    rw [if_neg (by rw [hs1]; exact (by decide : ¬ sN 1 = 0)), if_neg hs]
    show (if 1 ≤ X 25 then _ else _) = _
    rw [if_pos (by rw [hX0, wN_1, sN_le (by omega) (by omega)]; omega), if_pos n0, if_pos n0]
    show (if ¬ sN wy = 0 then some ((16 : Int32) + (sN (pgL lf p) / 4 - sN (pgL lf p) / 4 / X 25 * X 25 + X 25 * (X 26 - 1 - sN (pgL lf p) / 4 / X 25)), X, F) else some ((16 : Int32) + (X 25 - 1 - (sN (pgL lf p) / 4 - sN (pgL lf p) / 4 / X 25 * X 25) + X 25 * (sN (pgL lf p) / 4 / X 25)), X, F)) = _
    have hr1 : 1 ≤ r := Nat.lt_of_le_of_lt (Nat.zero_le _) hd
    have hq : pgL lf p / 4 / c ≤ r - 1 := Nat.le_sub_one_of_lt hd
    have hm1 : pgL lf p / 4 % c ≤ c - 1 := Nat.le_sub_one_of_lt hm
    rw [e4, hX0, hX1, sN_div (by omega) (by omega) (by omega), sN_mul, sN_mod, wN_1, sN_sub hr1, sN_sub hq, sN_sub hc, sN_sub hm1, sN_mul, sN_mul, sN_add, sN_add, wN_16, sN_add, sN_add, hs1]
    rcases hwy with rfl | rfl
    · rw [if_neg (fun z => z rfl), if_neg (by omega)]
    · rw [if_pos (by decide), if_pos rfl]
theorem e_turnedOf_1 {N wy p : Nat} {lf : Nat → Nat} (hN : N ≤ 16) (hlf : ∀ k, k < N → lf k < 64) (hwy : wy = 0 ∨ wy = 1) (h1 : 1 ≤ p) (h2 : p ≤ 2 * N) (X : Nat → Int32) (F : Nat → Nat → Int32) (hF : ∀ k, k < N → F 19 k = sN (lf k)) (n : Nat) : f_Sc_turnedOf_1 n X F (sN p) (sN wy) = some (sN (pgDn wy lf p), X, F) := by
  unfold f_Sc_turnedOf_1
  rw [e_leafOf_1 hN h1 h2 X F hF, Option.bind_some, e_sideOf_1 hN h1 h2 X F hF, Option.bind_some]
  have hL : pgL lf p < 64 := hlf _ (by omega)
  rw [and2_all ⟨pgL lf p, hL⟩]
  have hs : pgSd lf p = 0 ∨ pgSd lf p = 1 := by unfold pgSd; split <;> omega
  have hh : pgL lf p / 2 % 2 = 0 ∨ pgL lf p / 2 % 2 = 1 := by omega
  unfold pgDn
  rcases hs with hs | hs <;> rcases hh with hh | hh <;> rcases hwy with rfl | rfl <;> rw [hs] <;> simp only [hh] <;> rfl
theorem e_toldRight_1 {c r wy p : Nat} {lf : Nat → Nat} {A : Told} (hc : 1 ≤ c) (hc8 : c ≤ 8) (hr8 : r ≤ 8) (hN : c * r ≤ 16) (ok : lfOK c r lf) (hwy : wy = 0 ∨ wy = 1) (h1 : 1 ≤ p) (h2 : p ≤ 2 * (c * r)) (X : Nat → Int32) (F : Nat → Nat → Int32) (hX0 : X 25 = sN c) (hX1 : X 26 = sN r) (hF : ∀ k, k < c * r → F 19 k = sN (lf k)) (hA : toldC (c * r) (2 * (c * r)) A (F 17) (F 18)) (n : Nat) : f_Sc_isToldRight_1 n X F (sN p) (sN wy) = some (if okB c r wy lf A p = true then 1 else 0, X, F) := by
  obtain ⟨a1, a2, a3, a4⟩ := pg_lt (wy := wy) hc ok h1 h2
  have hk : pgSd lf p * (c * r) ≤ 1 * (c * r) := Nat.mul_le_mul_right _ a1
  have ht := hA (pgSd lf p * (c * r) + pgPl c r wy lf p) (by omega)
  have htx : tix (c * r) (pgSd lf p * (c * r) + pgPl c r wy lf p) = 16 * pgSd lf p + pgPl c r wy lf p := by
    unfold tix
    rcases (show pgSd lf p = 0 ∨ pgSd lf p = 1 by omega) with h | h
    · rw [h, if_pos (by omega)]; omega
    · rw [h, if_neg (by omega)]; omega
  rw [htx] at ht
  unfold f_Sc_isToldRight_1
  rw [e_spotOf_1 hc hc8 hr8 hN ok hwy h1 h2 X F hX0 hX1 hF, Option.bind_some]
  have c0 : ¬ (sN (16 * pgSd lf p + pgPl c r wy lf p) < 0 ∨ 32 ≤ (sN (16 * pgSd lf p + pgPl c r wy lf p)).toNatClampNeg) := by rw [wN_0, sN_lt (by omega) (by omega), sN_nat (by omega)]; omega
  show (if sN (16 * pgSd lf p + pgPl c r wy lf p) < 0 then _ else if 32 ≤ sN (16 * pgSd lf p + pgPl c r wy lf p) then _ else if ¬ (sN (16 * pgSd lf p + pgPl c r wy lf p) < 0 ∨ 32 ≤ (sN (16 * pgSd lf p + pgPl c r wy lf p)).toNatClampNeg) then (if ¬ F 17 (sN (16 * pgSd lf p + pgPl c r wy lf p)).toNatClampNeg = sN p then some (0, X, F) else if ¬ (sN (16 * pgSd lf p + pgPl c r wy lf p) < 0 ∨ 32 ≤ (sN (16 * pgSd lf p + pgPl c r wy lf p)).toNatClampNeg) then (f_Sc_turnedOf_1 n X F (sN p) (sN wy)).bind (fun q2 => if ¬ F 18 (sN (16 * pgSd lf p + pgPl c r wy lf p)).toNatClampNeg = q2.1 then some (0, q2.2.1, q2.2.2) else some (1, q2.2.1, q2.2.2)) else none) else none) = _
  rw [if_neg (by rw [wN_0, sN_lt (by omega) (by omega)]; omega), if_neg (by rw [wN_32, sN_le (by omega) (by omega)]; omega), if_pos c0, if_pos c0, sN_nat (by omega), ht.1, ht.2, e_turnedOf_1 hN (fun k hk => (ok.1 k hk).1) hwy h1 h2 X F hF, Option.bind_some]
  unfold okB
  by_cases e1 : sN (A (pgSd lf p * (c * r) + pgPl c r wy lf p)).1 = sN p
  · rw [if_neg (fun z => z e1)]
    by_cases e2 : sN (A (pgSd lf p * (c * r) + pgPl c r wy lf p)).2 = sN (pgDn wy lf p)
    · rw [if_neg (fun z => z e2), if_pos (by simp [e1, e2])]
    · rw [if_pos e2, if_neg (by simp [e2])]
  · rw [if_pos e1, if_neg (by simp [e1])]
theorem g_firstBroken_1 {c r wy : Nat} {lf : Nat → Nat} {A : Told} (hc : 1 ≤ c) (hc8 : c ≤ 8) (hr8 : r ≤ 8) (hN : c * r ≤ 16) (ok : lfOK c r lf) (hwy : wy = 0 ∨ wy = 1) (X : Nat → Int32) (F : Nat → Nat → Int32) (hX0 : X 25 = sN c) (hX1 : X 26 = sN r) (hF : ∀ k, k < c * r → F 19 k = sN (lf k)) (hA : toldC (c * r) (2 * (c * r)) A (F 17) (F 18)) : ∀ (m p : Nat) (lv : Nat → Int32), p + m = 2 * (c * r) + 1 → 1 ≤ p → lv 1 = sN wy → lv 2 = sN (2 * (c * r)) → lv 3 = sN p → Go (fun n => L_Sc_firstBroken_1 n 16 lv X F) (fun q => q = (sN (fbS (okB c r wy lf A) m p), X, F))
  | 0, p, lv, hm, hp, l1, l2, l3 => by
    refine Go_S ?_
    simp only [L_Sc_firstBroken_1, ↓reduceIte]
    exact Go_pos (by rw [l2, l3, sN_lt (by omega) (by omega)]; omega) (Go_ret rfl)
  | m + 1, p, lv, hm, hp, l1, l2, l3 => by
    refine Go_S ?_
    simp only [L_Sc_firstBroken_1, ↓reduceIte]
    refine Go_neg (by rw [l2, l3, sN_lt (by omega) (by omega)]; omega) ?_
    rw [l1, l3]
    simp only [e_toldRight_1 hc hc8 hr8 hN ok hwy hp (by omega) X F hX0 hX1 hF hA, Option.bind_some]
    unfold fbS
    by_cases h : okB c r wy lf A p = true
    · simp only [h, ↓reduceIte]
      refine Go_pos (by decide) ?_
      exact g_firstBroken_1 hc hc8 hr8 hN ok hwy X F hX0 hX1 hF hA m (p + 1) _ (by omega) (by omega) rfl l2 (sN_add p 1)
    · simp only [h, ↓reduceIte]
      exact Go_neg (fun z => z rfl) (Go_ret rfl)
/-- what the class's scheme says of broken pages -/
theorem e_firstBroken_1 {s : Sch} {wy : Nat} (hc : 1 ≤ s.1) (hc8 : s.1 ≤ 8) (hr8 : s.2.1 ≤ 8) (hN : s.1 * s.2.1 ≤ 16) (ok : lfOK s.1 s.2.1 s.2.2.2.1) (hwy : wy = 0 ∨ wy = 1) (X : Nat → Int32) (F : Nat → Nat → Int32) (hs : schC s (X 25) (X 26) (X 27) (X 28) (F 16) (F 17) (F 18) (F 19)) : Go (fun n => f_Sc_firstBroken_1 n X F (sN wy)) (fun q => q = (sN (brS s wy), X, F)) := by
  obtain ⟨h0, h1, h2, h3, h4, h5⟩ := hs
  unfold f_Sc_firstBroken_1 brS
  cases ht : s.2.2.2.2 with
  | none =>
    rw [ht] at h5
    exact Go_neg (fun z => z h5) (Go_ret rfl)
  | some A =>
    rw [ht] at h5
    refine Go_pos (by rw [h5.1]; decide) ?_
    unfold f_Sc_pageCount_1 f_Sc_cells_1
    simp only [Option.bind_some, h0, h1, sN_mul, wN_2]
    exact g_firstBroken_1 hc hc8 hr8 hN ok hwy X F h0 h1 h4 h5.2 (2 * (s.1 * s.2.1)) 1 _ (by omega) (by omega) rfl rfl rfl
