/-! broken pages, the model -/
theorem g_Mo_broken {c r wy : Nat} {lf : Nat → Nat} {A : Told} (hc : 1 ≤ c) (hN : c * r ≤ 16) (ok : lfOK c r lf) (Y : Nat → Int32) (G : Nat → Nat → Int32) (hP : pgM c r wy (c * r) lf G) (hA : toldM (2 * (c * r)) A (G 1) (G 2)) : ∀ (m p : Nat) (lv : Nat → Int32), p + m = 2 * (c * r) + 1 → 1 ≤ p → lv 1 = sN (c * r) → lv 2 = sN p → Go (fun n => L_Mo_brokenPage n 32 lv Y G) (fun q => q = (sN (fbS (okB c r wy lf A) m p), Y, G))
  | 0, p, lv, hm, hp, l1, l2 => by
    refine Go_S ?_
    simp only [L_Mo_brokenPage, ↓reduceIte]
    exact Go_pos (by rw [l1, l2, wN_2, sN_mul, sN_lt (by omega) (by omega)]; omega) (Go_ret rfl)
  | m + 1, p, lv, hm, hp, l1, l2 => by
    obtain ⟨a1, a2, a3, a4⟩ := pg_lt (wy := wy) hc ok hp (show p ≤ 2 * (c * r) by omega)
    obtain ⟨b1, b2, b3⟩ := hP p hp (by omega)
    have hk : pgSd lf p * (c * r) ≤ 1 * (c * r) := Nat.mul_le_mul_right _ a1
    have ht := hA (pgSd lf p * (c * r) + pgPl c r wy lf p) (by omega)
    have ep : (lv 2).toNatClampNeg = p := by rw [l2, sN_nat (by omega)]
    refine Go_S ?_
    simp only [L_Mo_brokenPage, ↓reduceIte]
    rw [ep, b1, b2, b3]
    have ek : lv 1 * sN (pgSd lf p) + sN (pgPl c r wy lf p) = sN (pgSd lf p * (c * r) + pgPl c r wy lf p) := by rw [l1, sN_mul, sN_add, Nat.mul_comm]
    rw [ek, sN_nat (by omega), ht.1, ht.2.1]
    have c1 : ¬ (lv 2 < 0 ∨ 33 ≤ p) := by rw [l2, wN_0, sN_lt (by omega) (by omega)]; omega
    have c2 : ¬ (sN (pgSd lf p * (c * r) + pgPl c r wy lf p) < 0 ∨ 32 ≤ pgSd lf p * (c * r) + pgPl c r wy lf p) := by rw [wN_0, sN_lt (by omega) (by omega)]; omega
    refine Go_neg (by rw [l1, l2, wN_2, sN_mul, sN_lt (by omega) (by omega)]; omega) (Go_pos c1 (Go_pos c1 (Go_pos c2 ?_)))
    rw [l2]
    by_cases e1 : sN (A (pgSd lf p * (c * r) + pgPl c r wy lf p)).1 = sN p
    · refine Go_neg (fun z => z e1) (Go_pos c2 (Go_pos (by rw [l2] at c1; exact c1) ?_))
      by_cases e2 : sN (A (pgSd lf p * (c * r) + pgPl c r wy lf p)).2 = sN (pgDn wy lf p)
      · refine Go_pos e2 ?_
        have h : okB c r wy lf A p = true := by unfold okB; simp [e1, e2]
        unfold fbS
        simp only [h, ↓reduceIte]
        exact g_Mo_broken hc hN ok Y G hP hA m (p + 1) _ (by omega) (by omega) l1 (sN_add p 1)
      · have h : okB c r wy lf A p = false := by unfold okB; simp [e2]
        unfold fbS
        simp only [h, Bool.false_eq_true, ↓reduceIte]
        exact Go_neg e2 (Go_ret rfl)
    · have h : okB c r wy lf A p = false := by unfold okB; simp [e1]
      unfold fbS
      simp only [h, Bool.false_eq_true, ↓reduceIte]
      exact Go_pos e1 (Go_ret rfl)
theorem e_Mo_brokenPage {s : Sch} {wy : Nat} (hc : 1 ≤ s.1) (hr : 1 ≤ s.2.1) (hc8 : s.1 ≤ 8) (hr8 : s.2.1 ≤ 8) (hN : s.1 * s.2.1 ≤ 16) (h6 : s.2.2.1.length ≤ 6) (hL : ∀ x ∈ s.2.2.1, isLt x) (hb : bkl s.1 s.2.1 s.2.2.1 = some s.2.2.2.1) (hwy : wy = 0 ∨ wy = 1) (Y : Nat → Int32) (G : Nat → Nat → Int32) (hs : schM s (Y 5) (Y 6) (Y 7) (Y 8) (Y 9) (G 1) (G 2) (G 3)) (g14 : G 14 1 = sN wy) : Go (fun n => f_Mo_brokenPage n Y G) (fun q => q.1 = sN (brS s wy) ∧ fr [14, 15] Y q.2.1 ∧ fr [7, 8, 9, 10, 11, 12, 13] G q.2.2) := by
  obtain ⟨h5, h6', h7, h8, h9, h10⟩ := hs
  have ok := bkl_ok hc hr hc8 hr8 hN hL hb
  unfold f_Mo_brokenPage brS
  refine Go_neg (by rw [h5]; decide) ?_
  cases ht : s.2.2.2.2 with
  | none =>
    rw [ht] at h10
    exact Go_neg (fun z => z h10) (Go_ret ⟨rfl, fr_rfl, fr_rfl⟩)
  | some A =>
    rw [ht] at h10
    refine Go_pos (by rw [h10.1]; decide) (Go_bind (e_foldAll s.1 s.2.1 wy s.2.2.1 s.2.2.2.1 hc hr hc8 hr8 hN h6 hL hb ok hwy Y G h6' h7 h8 h9 g14) (fun q hq => ?_))
    obtain ⟨q1, q2, q3⟩ := hq
    have hA : toldM (2 * (s.1 * s.2.1)) A (q.2.2 1) (q.2.2 2) := by rw [q2 1 (by decide), q2 2 (by decide)]; exact h10.2
    refine Go_mono (g_Mo_broken hc hN ok q.2.1 q.2.2 q3 hA (2 * (s.1 * s.2.1)) 1 _ (by omega) (by omega) ?_ rfl) (fun z hz => ?_)
    · show q.2.1 6 * q.2.1 7 = _
      rw [q1 6 (by decide), q1 7 (by decide), h6', h7, sN_mul]
    · rw [hz]; exact ⟨rfl, q1, q2⟩
