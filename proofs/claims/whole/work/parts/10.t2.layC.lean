/-! the class lays (object 0) -/
theorem g_lay_0 {c r wy : Nat} {lf : Nat → Nat} (hc : 1 ≤ c) (hc8 : c ≤ 8) (hr8 : r ≤ 8) (hN : c * r ≤ 16) (ok : lfOK c r lf) (hwy : wy = 0 ∨ wy = 1) (X : Nat → Int32) (x11 : X 11 = sN (c * r)) (hX0 : X 21 = sN c) (hX1 : X 22 = sN r) : ∀ (m p : Nat) (lv : Nat → Int32) (F : Nat → Nat → Int32), p + m = 2 * (c * r) + 1 → 1 ≤ p → lv 4 = sN wy → lv 5 = sN p → (∀ k, k < c * r → F 15 k = sN (lf k)) → spC c r wy lf (p - 1) F → Go (fun n => L_Bo_lay_0 n 67 lv X F) (fun q => q.2.1 = X ∧ fr [4, 5] F q.2.2 ∧ spC c r wy lf (2 * (c * r)) q.2.2)
  | 0, p, lv, F, hm, hp, l4, l5, hF, hS => by
    refine Go_S ?_
    simp only [L_Bo_lay_0, ↓reduceIte]
    refine Go_pos (by unfold f_Bo_bookletPages; rw [x11, l5, wN_2, sN_mul, sN_lt (by omega) (by omega)]; omega) (Go_ret ⟨rfl, fr_rfl, ?_⟩)
    rw [show 2 * (c * r) = p - 1 by omega]; exact hS
  | m + 1, p, lv, F, hm, hp, l4, l5, hF, hS => by
    obtain ⟨a1, a2, a3, a4⟩ := pg_lt (wy := wy) hc ok hp (show p ≤ 2 * (c * r) by omega)
    refine Go_S ?_
    simp only [L_Bo_lay_0, ↓reduceIte]
    refine Go_neg (by unfold f_Bo_bookletPages; rw [x11, l5, wN_2, sN_mul, sN_lt (by omega) (by omega)]; omega) ?_
    rw [l4, l5]
    simp only [e_spotOf_0 hc hc8 hr8 hN ok hwy hp (show p ≤ 2 * (c * r) by omega) X F hX0 hX1 hF, Option.bind_some]
    have c0 : ¬ (sN (16 * pgSd lf p + pgPl c r wy lf p) < 0 ∨ 32 ≤ (sN (16 * pgSd lf p + pgPl c r wy lf p)).toNatClampNeg) := by rw [wN_0, sN_lt (by omega) (by omega), sN_nat (by omega)]; omega
    refine Go_neg (fun z => c0 (Or.inl z)) (Go_neg (by rw [wN_32, sN_le (by omega) (by omega)]; omega) (Go_pos c0 ?_))
    simp only [e_turnedOf_0 hN (fun k hk => (ok.1 k hk).1) hwy hp (show p ≤ 2 * (c * r) by omega) X (va_up F 4 (upd (F 4) (sN (16 * pgSd lf p + pgPl c r wy lf p)).toNatClampNeg (sN p))) hF, Option.bind_some]
    refine Go_pos c0 ?_
    rw [sN_nat (by omega)]
    refine Go_mono (g_lay_0 hc hc8 hr8 hN ok hwy X x11 hX0 hX1 m (p + 1) _ _ (by omega) (by omega) rfl (sN_add p 1) hF (fun j h1 h2 => ?_)) (fun q hq => ⟨hq.1, fr_trans (fr_vup (fr_vup fr_rfl (by decide)) (by decide)) hq.2.1, hq.2.2⟩)
    show upd (F 4) _ _ _ = _ ∧ upd (F 5) _ _ _ = _
    rw [upd_app, upd_app]
    by_cases hj : j = p
    · subst hj
      rw [if_pos rfl, if_pos rfl]
      exact ⟨rfl, rfl⟩
    · have hne : ¬ 16 * pgSd lf j + pgPl c r wy lf j = 16 * pgSd lf p + pgPl c r wy lf p := by
        intro e
        obtain ⟨b1, b2, b3, b4⟩ := pg_lt (wy := wy) hc ok h1 (show j ≤ 2 * (c * r) by omega)
        exact hj (pg_inj (wy := wy) hc ok h1 (show j ≤ 2 * (c * r) by omega) hp (show p ≤ 2 * (c * r) by omega) (by omega) (by omega))
      rw [if_neg hne, if_neg hne]
      exact hS j h1 (by omega)
theorem e_lay_0 {s : Sch} {n : Nat} {st : Nat → Nat} (hc : 1 ≤ s.1) (hr : 1 ≤ s.2.1) (hc8 : s.1 ≤ 8) (hr8 : s.2.1 ≤ 8) (hN : s.1 * s.2.1 ≤ 16) (ok : lfOK s.1 s.2.1 s.2.2.2.1) (hst : stOK st) (hn : 1 ≤ n) (hn2 : n ≤ 40 * (s.1 * s.2.1)) (X : Nat → Int32) (F : Nat → Nat → Int32) (hs : schC s (X 21) (X 22) (X 23) (X 24) (F 12) (F 13) (F 14) (F 15)) (f2 : stF st (F 2)) : Go (fun k => f_Bo_lay_0 k X F (sN n)) (fun q => fr [10, 11, 12, 13, 14] X q.2.1 ∧ fr [3, 4, 5] F q.2.2 ∧ bkC s.1 (s.1 * s.2.1) (shC n (s.1 * s.2.1)) n (scl st) st q.2.1 q.2.2 ∧ spC s.1 s.2.1 (st 1) s.2.2.2.1 (2 * (s.1 * s.2.1)) q.2.2) := by
  obtain ⟨h0, h1, h2, h3, h4, h5⟩ := hs
  have hwy : st 1 = 0 ∨ st 1 = 1 := by have := hst.2.1; omega
  have hN1 : 1 ≤ s.1 * s.2.1 := Nat.mul_le_mul hc hr
  have f3 : stF st (va_cpy (F 2) (F 3) (0 : Int32).toNatClampNeg (0 : Int32).toNatClampNeg (10 : Int32).toNatClampNeg) := by
    intro k hk
    show (if 0 ≤ k ∧ k < 0 + 10 then F 2 (0 + (k - 0)) else F 3 k) = _
    rw [if_pos (by omega), show 0 + (k - 0) = k by omega]
    exact f2 k hk
  have f35 := f3 5 (by omega)
  have f36 := f3 6 (by omega)
  have hst' := hst
  obtain ⟨-, -, -, -, -, q5, q6, -⟩ := hst'
  unfold f_Bo_lay_0 f_Sc_cells_0
  simp only [Option.bind_some]
  have ebp : f_Bo_bookletPages (upd (upd (upd X 10 (X 21)) 11 (upd X 10 (X 21) 21 * upd X 10 (X 21) 22)) 13 (sN n)) = sN (2 * (s.1 * s.2.1)) := by
    show 2 * (X 21 * X 22) = _
    rw [h0, h1, sN_mul, wN_2, sN_mul]
  rw [ebp]
  refine Go_pos (Or.inr (by rw [wN_0, sN_eq (by omega) (by omega)]; omega)) (Go_pos (Or.inr (Or.inr (Or.inr ?_))) (Go_pos (Or.inr (Or.inr (Or.inr ?_))) ?_))
  · show ¬ va_cpy (F 2) (F 3) (0 : Int32).toNatClampNeg (0 : Int32).toNatClampNeg (10 : Int32).toNatClampNeg 5 = 0
    rw [f35, wN_0, sN_eq (by omega) (by omega)]; omega
  · show ¬ va_cpy (F 2) (F 3) (0 : Int32).toNatClampNeg (0 : Int32).toNatClampNeg (10 : Int32).toNatClampNeg 6 = 0
    rw [f36, wN_0, sN_eq (by omega) (by omega)]; omega
  · refine Go_mono (g_lay_0 hc hc8 hr8 hN ok hwy _ ?_ (by exact h0) (by exact h1) (2 * (s.1 * s.2.1)) 1 _ _ (by omega) (by omega) (by exact f3 1 (by omega)) (by rfl) (by exact h4) (fun p h1 h2 => by omega)) (fun q hq => ?_)
    · show X 21 * X 22 = _
      rw [h0, h1, sN_mul]
    · obtain ⟨e1, e2, e3⟩ := hq
      refine ⟨by rw [e1]; exact fr_upd (fr_upd (fr_upd (fr_upd (fr_upd fr_rfl (by decide)) (by decide)) (by decide)) (by decide)) (by decide), fr_trans (fr_vup fr_rfl (by decide)) (fr_mono e2 (by decide)), ?_, e3⟩
      rw [e1]
      refine ⟨h0, ?_, ?_, rfl, ?_, ?_⟩
      · show X 21 * X 22 = _
        rw [h0, h1, sN_mul]
      · show f_Im_upward (sN n) (sN (2 * (s.1 * s.2.1))) = _
        rw [sN_upward _ _ (by omega) (by omega) (by omega)]; rfl
      · exact c_scale hst (F := va_up F 3 (va_cpy (F 2) (F 3) (0 : Int32).toNatClampNeg (0 : Int32).toNatClampNeg (10 : Int32).toNatClampNeg)) f3
      · rw [e2 3 (by decide)]; exact f3
/-! the class lays (object 1) -/
theorem g_lay_1 {c r wy : Nat} {lf : Nat → Nat} (hc : 1 ≤ c) (hc8 : c ≤ 8) (hr8 : r ≤ 8) (hN : c * r ≤ 16) (ok : lfOK c r lf) (hwy : wy = 0 ∨ wy = 1) (X : Nat → Int32) (x11 : X 11 = sN (c * r)) (hX0 : X 25 = sN c) (hX1 : X 26 = sN r) : ∀ (m p : Nat) (lv : Nat → Int32) (F : Nat → Nat → Int32), p + m = 2 * (c * r) + 1 → 1 ≤ p → lv 4 = sN wy → lv 5 = sN p → (∀ k, k < c * r → F 19 k = sN (lf k)) → spC c r wy lf (p - 1) F → Go (fun n => L_Bo_lay_1 n 67 lv X F) (fun q => q.2.1 = X ∧ fr [4, 5] F q.2.2 ∧ spC c r wy lf (2 * (c * r)) q.2.2)
  | 0, p, lv, F, hm, hp, l4, l5, hF, hS => by
    refine Go_S ?_
    simp only [L_Bo_lay_1, ↓reduceIte]
    refine Go_pos (by unfold f_Bo_bookletPages; rw [x11, l5, wN_2, sN_mul, sN_lt (by omega) (by omega)]; omega) (Go_ret ⟨rfl, fr_rfl, ?_⟩)
    rw [show 2 * (c * r) = p - 1 by omega]; exact hS
  | m + 1, p, lv, F, hm, hp, l4, l5, hF, hS => by
    obtain ⟨a1, a2, a3, a4⟩ := pg_lt (wy := wy) hc ok hp (show p ≤ 2 * (c * r) by omega)
    refine Go_S ?_
    simp only [L_Bo_lay_1, ↓reduceIte]
    refine Go_neg (by unfold f_Bo_bookletPages; rw [x11, l5, wN_2, sN_mul, sN_lt (by omega) (by omega)]; omega) ?_
    rw [l4, l5]
    simp only [e_spotOf_1 hc hc8 hr8 hN ok hwy hp (show p ≤ 2 * (c * r) by omega) X F hX0 hX1 hF, Option.bind_some]
    have c0 : ¬ (sN (16 * pgSd lf p + pgPl c r wy lf p) < 0 ∨ 32 ≤ (sN (16 * pgSd lf p + pgPl c r wy lf p)).toNatClampNeg) := by rw [wN_0, sN_lt (by omega) (by omega), sN_nat (by omega)]; omega
    refine Go_neg (fun z => c0 (Or.inl z)) (Go_neg (by rw [wN_32, sN_le (by omega) (by omega)]; omega) (Go_pos c0 ?_))
    simp only [e_turnedOf_1 hN (fun k hk => (ok.1 k hk).1) hwy hp (show p ≤ 2 * (c * r) by omega) X (va_up F 4 (upd (F 4) (sN (16 * pgSd lf p + pgPl c r wy lf p)).toNatClampNeg (sN p))) hF, Option.bind_some]
    refine Go_pos c0 ?_
    rw [sN_nat (by omega)]
    refine Go_mono (g_lay_1 hc hc8 hr8 hN ok hwy X x11 hX0 hX1 m (p + 1) _ _ (by omega) (by omega) rfl (sN_add p 1) hF (fun j h1 h2 => ?_)) (fun q hq => ⟨hq.1, fr_trans (fr_vup (fr_vup fr_rfl (by decide)) (by decide)) hq.2.1, hq.2.2⟩)
    show upd (F 4) _ _ _ = _ ∧ upd (F 5) _ _ _ = _
    rw [upd_app, upd_app]
    by_cases hj : j = p
    · subst hj
      rw [if_pos rfl, if_pos rfl]
      exact ⟨rfl, rfl⟩
    · have hne : ¬ 16 * pgSd lf j + pgPl c r wy lf j = 16 * pgSd lf p + pgPl c r wy lf p := by
        intro e
        obtain ⟨b1, b2, b3, b4⟩ := pg_lt (wy := wy) hc ok h1 (show j ≤ 2 * (c * r) by omega)
        exact hj (pg_inj (wy := wy) hc ok h1 (show j ≤ 2 * (c * r) by omega) hp (show p ≤ 2 * (c * r) by omega) (by omega) (by omega))
      rw [if_neg hne, if_neg hne]
      exact hS j h1 (by omega)
theorem e_lay_1 {s : Sch} {n : Nat} {st : Nat → Nat} (hc : 1 ≤ s.1) (hr : 1 ≤ s.2.1) (hc8 : s.1 ≤ 8) (hr8 : s.2.1 ≤ 8) (hN : s.1 * s.2.1 ≤ 16) (ok : lfOK s.1 s.2.1 s.2.2.2.1) (hst : stOK st) (hn : 1 ≤ n) (hn2 : n ≤ 40 * (s.1 * s.2.1)) (X : Nat → Int32) (F : Nat → Nat → Int32) (hs : schC s (X 25) (X 26) (X 27) (X 28) (F 16) (F 17) (F 18) (F 19)) (f2 : stF st (F 2)) : Go (fun k => f_Bo_lay_1 k X F (sN n)) (fun q => fr [10, 11, 12, 13, 14] X q.2.1 ∧ fr [3, 4, 5] F q.2.2 ∧ bkC s.1 (s.1 * s.2.1) (shC n (s.1 * s.2.1)) n (scl st) st q.2.1 q.2.2 ∧ spC s.1 s.2.1 (st 1) s.2.2.2.1 (2 * (s.1 * s.2.1)) q.2.2) := by
  obtain ⟨h0, h1, h2, h3, h4, h5⟩ := hs
  have hwy : st 1 = 0 ∨ st 1 = 1 := by have := hst.2.1; omega
  have hN1 : 1 ≤ s.1 * s.2.1 := Nat.mul_le_mul hc hr
  have f3 : stF st (va_cpy (F 2) (F 3) (0 : Int32).toNatClampNeg (0 : Int32).toNatClampNeg (10 : Int32).toNatClampNeg) := by
    intro k hk
    show (if 0 ≤ k ∧ k < 0 + 10 then F 2 (0 + (k - 0)) else F 3 k) = _
    rw [if_pos (by omega), show 0 + (k - 0) = k by omega]
    exact f2 k hk
  have f35 := f3 5 (by omega)
  have f36 := f3 6 (by omega)
  have hst' := hst
  obtain ⟨-, -, -, -, -, q5, q6, -⟩ := hst'
  unfold f_Bo_lay_1 f_Sc_cells_1
  simp only [Option.bind_some]
  have ebp : f_Bo_bookletPages (upd (upd (upd X 10 (X 25)) 11 (upd X 10 (X 25) 25 * upd X 10 (X 25) 26)) 13 (sN n)) = sN (2 * (s.1 * s.2.1)) := by
    show 2 * (X 25 * X 26) = _
    rw [h0, h1, sN_mul, wN_2, sN_mul]
  rw [ebp]
  refine Go_pos (Or.inr (by rw [wN_0, sN_eq (by omega) (by omega)]; omega)) (Go_pos (Or.inr (Or.inr (Or.inr ?_))) (Go_pos (Or.inr (Or.inr (Or.inr ?_))) ?_))
  · show ¬ va_cpy (F 2) (F 3) (0 : Int32).toNatClampNeg (0 : Int32).toNatClampNeg (10 : Int32).toNatClampNeg 5 = 0
    rw [f35, wN_0, sN_eq (by omega) (by omega)]; omega
  · show ¬ va_cpy (F 2) (F 3) (0 : Int32).toNatClampNeg (0 : Int32).toNatClampNeg (10 : Int32).toNatClampNeg 6 = 0
    rw [f36, wN_0, sN_eq (by omega) (by omega)]; omega
  · refine Go_mono (g_lay_1 hc hc8 hr8 hN ok hwy _ ?_ (by exact h0) (by exact h1) (2 * (s.1 * s.2.1)) 1 _ _ (by omega) (by omega) (by exact f3 1 (by omega)) (by rfl) (by exact h4) (fun p h1 h2 => by omega)) (fun q hq => ?_)
    · show X 25 * X 26 = _
      rw [h0, h1, sN_mul]
    · obtain ⟨e1, e2, e3⟩ := hq
      refine ⟨by rw [e1]; exact fr_upd (fr_upd (fr_upd (fr_upd (fr_upd fr_rfl (by decide)) (by decide)) (by decide)) (by decide)) (by decide), fr_trans (fr_vup fr_rfl (by decide)) (fr_mono e2 (by decide)), ?_, e3⟩
      rw [e1]
      refine ⟨h0, ?_, ?_, rfl, ?_, ?_⟩
      · show X 25 * X 26 = _
        rw [h0, h1, sN_mul]
      · show f_Im_upward (sN n) (sN (2 * (s.1 * s.2.1))) = _
        rw [sN_upward _ _ (by omega) (by omega) (by omega)]; rfl
      · exact c_scale hst (F := va_up F 3 (va_cpy (F 2) (F 3) (0 : Int32).toNatClampNeg (0 : Int32).toNatClampNeg (10 : Int32).toNatClampNeg)) f3
      · rw [e2 3 (by decide)]; exact f3
