/-! the class reads a whole tape (object 0) -/
theorem e_readInto_0 (t : Nat → Nat) (X : Nat → Int32) (F : Nat → Nat → Int32) (hT : tapeOK t (X 0) (F 0)) : Go (fun n => f_Re_readInto_0 n X F) (fun q => fr [1, 2, 3, 4, 5, 6, 7, 8, 9, 21, 22, 23, 24] X q.2.1 ∧ fr [1, 12, 13, 14, 15] F q.2.2 ∧ match paS t with
    | .inl w => q.1 = -1 - sN w
    | .inr s => q.1 = sN (s.1 * s.2.1) ∧ schC s (q.2.1 21) (q.2.1 22) (q.2.1 23) (q.2.1 24) (q.2.2 12) (q.2.2 13) (q.2.2 14) (q.2.2 15)) := by
  unfold f_Re_readInto_0 paS
  refine Go_bind (e_readSize_0 t (upd X 1 0) F rfl hT) (fun q hq => ?_)
  obtain ⟨a1, a2, a3⟩ := hq
  have f1 : fr [1, 2, 3, 4, 5, 6, 7, 8, 9, 21, 22, 23, 24] X q.2.1 := fr_trans (fr_upd fr_rfl (by decide)) (fr_mono a2 (by decide))
  cases hz : szS t with
  | inl w =>
    rw [hz] at a3
    exact Go_pos a3.1 (Go_ret ⟨f1, by rw [a1]; exact fr_rfl, congrArg (fun z => (-1 : Int32) - z) a3.2⟩)
  | inr z =>
    rw [hz] at a3
    obtain ⟨a3, a4, a5, a6, a7, a8⟩ := a3
    obtain ⟨z1, z2, z3, z4, z5, z6⟩ := szS_r hz
    have hN1 : 1 ≤ z.1 * z.2.1 := Nat.mul_le_mul z1 z3
    refine Go_neg (by rw [a3]; decide) ?_
    simp only [sb_inr]
    have hT1 : tapeOK t (q.2.1 0) (q.2.2 0) := by rw [a1, f1 0 (by decide)]; exact hT
    unfold f_Re_readFolds_0
    refine Go_bind (g_readFolds_0 t z.1 z.2.1 z.2.2 z1 z3 z2 z4 z5 (by omega) 6 z.2.2 [] _ q.2.1 q.2.2 rfl (by omega) (by omega) (fun x hx => absurd hx List.not_mem_nil) a4 rfl a4 a5 a6 a7 (fun j x hj => by cases hj) hT1) (fun q2 hq2 => ?_)
    obtain ⟨b1, b2, b3⟩ := hq2
    have f2 : fr [1, 2, 3, 4, 5, 6, 7, 8, 9, 21, 22, 23, 24] X q2.2.1 := fr_trans f1 (fr_mono b1 (by decide))
    have e2 : fr [1, 12, 13, 14, 15] F q2.2.2 := by rw [← a1]; exact fr_mono b2 (by decide)
    cases hf : foS t z.1 z.2.1 z.2.2 6 z.2.2 [] with
    | inl w =>
      rw [hf] at b3
      exact Go_pos b3.1 (Go_ret ⟨f2, e2, congrArg (fun z => (-1 : Int32) - z) b3.2⟩)
    | inr f =>
      rw [hf] at b3
      obtain ⟨b3, b4, b5, b6, b7⟩ := b3
      obtain ⟨g1, g2, g3, g4⟩ := foS_r hf (fun x hx => absurd hx List.not_mem_nil)
      refine Go_neg (by rw [b3]; decide) ?_
      simp only [sb_inr]
      have hT2 : tapeOK t (q2.2.1 0) (q2.2.2 0) := by rw [f2 0 (by decide), e2 0 (by decide)]; exact hT
      refine Go_bind (e_readPages_0 t z.1 z.2.1 (z.1 * z.2.1) rfl hN1 z5 f.2.2 q2.2.1 q2.2.2 (by omega) b4 ((b1 21 (by decide)).trans a5) ((b1 22 (by decide)).trans a6) hT2) (fun q3 hq3 => ?_)
      obtain ⟨c1, c2, c3⟩ := hq3
      have f3 : fr [1, 2, 3, 4, 5, 6, 7, 8, 9, 21, 22, 23, 24] X q3.2.1 := fr_trans f2 (fr_mono c1 (by decide))
      have e3 : fr [1, 12, 13, 14, 15] F q3.2.2 := fr_trans e2 (fr_mono c2 (by decide))
      have hT3 : tapeOK t (q3.2.1 0) (q3.2.2 0) := by rw [f3 0 (by decide), e3 0 (by decide)]; exact hT
      have s0 : q3.2.1 21 = sN z.1 := (c1 21 (by decide)).trans ((b1 21 (by decide)).trans a5)
      have s1 : q3.2.1 22 = sN z.2.1 := (c1 22 (by decide)).trans ((b1 22 (by decide)).trans a6)
      have s2 : q3.2.1 23 = sN f.1.length := (c1 23 (by decide)).trans b5
      have s3 : ∀ j x, f.1[j]? = some x → q3.2.2 12 j = sN x := fun j x hj => by rw [c2 12 (by decide)]; exact b6 j x hj
      have s4 : ∀ k, k < z.1 * z.2.1 → q3.2.2 15 k = sN (f.2.1 k) := fun k hk => by rw [c2 15 (by decide)]; exact b7 k hk
      by_cases h61 : t f.2.2 = 61
      · rw [if_pos h61] at c3 ⊢
        cases hp : pgS t (z.1 * z.2.1) (2 * (z.1 * z.2.1)) 0 (f.2.2 + 1) A0 with
        | inl w =>
          rw [hp] at c3
          exact Go_pos c3.1 (Go_ret ⟨f3, e3, congrArg (fun z => (-1 : Int32) - z) c3.2⟩)
        | inr g =>
          rw [hp] at c3
          obtain ⟨c3, c4, c5, c6, c7⟩ := c3
          refine Go_neg (by rw [c3]; decide) (Go_bind (e_expect t g.1 1000 (by omega) (by omega) q3.2.1 q3.2.2 c4 hT3) (fun q4 hq4 => ?_))
          obtain ⟨d1, d2, d3⟩ := hq4
          have f4 : fr [1, 2, 3, 4, 5, 6, 7, 8, 9, 21, 22, 23, 24] X q4.2.1 := fr_trans f3 (fr_mono d2 (by decide))
          simp only [sb_inr]
          by_cases he : t g.1 = 1000
          · rw [if_pos he] at d3 ⊢
            refine Go_neg (by rw [d3.1]; decide) (Go_bind (Go_ret rfl) (fun q5 hq5 => ?_))
            rw [← hq5]
            refine Go_ret ⟨f4, by rw [d1]; exact e3, ?_, ?_⟩
            · show q4.2.1 21 * q4.2.1 22 = _
              rw [d2 21 (by decide), d2 22 (by decide), s0, s1, sN_mul]
            · show schC _ (q4.2.1 21) (q4.2.1 22) (q4.2.1 23) (q4.2.1 24) (q4.2.2 12) (q4.2.2 13) (q4.2.2 14) (q4.2.2 15)
              rw [d1, d2 21 (by decide), d2 22 (by decide), d2 23 (by decide), d2 24 (by decide)]
              exact ⟨s0, s1, s2, s3, s4, c6, c7⟩
          · rw [if_neg he] at d3 ⊢
            exact Go_pos d3.1 (Go_ret ⟨f4, by rw [d1]; exact e3, congrArg (fun z => (-1 : Int32) - z) d3.2⟩)
      · rw [if_neg h61] at c3 ⊢
        refine Go_neg (by rw [c3.1]; decide) (Go_bind (e_expect t f.2.2 1000 (by omega) (by omega) q3.2.1 q3.2.2 c3.2.1 hT3) (fun q4 hq4 => ?_))
        obtain ⟨d1, d2, d3⟩ := hq4
        have f4 : fr [1, 2, 3, 4, 5, 6, 7, 8, 9, 21, 22, 23, 24] X q4.2.1 := fr_trans f3 (fr_mono d2 (by decide))
        by_cases he : t f.2.2 = 1000
        · rw [if_pos he] at d3 ⊢
          refine Go_neg (by rw [d3.1]; decide) (Go_bind (Go_ret rfl) (fun q5 hq5 => ?_))
          rw [← hq5]
          refine Go_ret ⟨f4, by rw [d1]; exact e3, ?_, ?_⟩
          · show q4.2.1 21 * q4.2.1 22 = _
            rw [d2 21 (by decide), d2 22 (by decide), s0, s1, sN_mul]
          · show schC _ (q4.2.1 21) (q4.2.1 22) (q4.2.1 23) (q4.2.1 24) (q4.2.2 12) (q4.2.2 13) (q4.2.2 14) (q4.2.2 15)
            rw [d1, d2 21 (by decide), d2 22 (by decide), d2 23 (by decide), d2 24 (by decide)]
            exact ⟨s0, s1, s2, s3, s4, c3.2.2.trans ((b1 24 (by decide)).trans a8)⟩
        · rw [if_neg he] at d3 ⊢
          exact Go_pos d3.1 (Go_ret ⟨f4, by rw [d1]; exact e3, congrArg (fun z => (-1 : Int32) - z) d3.2⟩)
/-! the class reads a whole tape (object 1) -/
theorem e_readInto_1 (t : Nat → Nat) (X : Nat → Int32) (F : Nat → Nat → Int32) (hT : tapeOK t (X 0) (F 0)) : Go (fun n => f_Re_readInto_1 n X F) (fun q => fr [1, 2, 3, 4, 5, 6, 7, 8, 9, 25, 26, 27, 28] X q.2.1 ∧ fr [1, 16, 17, 18, 19] F q.2.2 ∧ match paS t with
    | .inl w => q.1 = -1 - sN w
    | .inr s => q.1 = sN (s.1 * s.2.1) ∧ schC s (q.2.1 25) (q.2.1 26) (q.2.1 27) (q.2.1 28) (q.2.2 16) (q.2.2 17) (q.2.2 18) (q.2.2 19)) := by
  unfold f_Re_readInto_1 paS
  refine Go_bind (e_readSize_1 t (upd X 1 0) F rfl hT) (fun q hq => ?_)
  obtain ⟨a1, a2, a3⟩ := hq
  have f1 : fr [1, 2, 3, 4, 5, 6, 7, 8, 9, 25, 26, 27, 28] X q.2.1 := fr_trans (fr_upd fr_rfl (by decide)) (fr_mono a2 (by decide))
  cases hz : szS t with
  | inl w =>
    rw [hz] at a3
    exact Go_pos a3.1 (Go_ret ⟨f1, by rw [a1]; exact fr_rfl, congrArg (fun z => (-1 : Int32) - z) a3.2⟩)
  | inr z =>
    rw [hz] at a3
    obtain ⟨a3, a4, a5, a6, a7, a8⟩ := a3
    obtain ⟨z1, z2, z3, z4, z5, z6⟩ := szS_r hz
    have hN1 : 1 ≤ z.1 * z.2.1 := Nat.mul_le_mul z1 z3
    refine Go_neg (by rw [a3]; decide) ?_
    simp only [sb_inr]
    have hT1 : tapeOK t (q.2.1 0) (q.2.2 0) := by rw [a1, f1 0 (by decide)]; exact hT
    unfold f_Re_readFolds_1
    refine Go_bind (g_readFolds_1 t z.1 z.2.1 z.2.2 z1 z3 z2 z4 z5 (by omega) 6 z.2.2 [] _ q.2.1 q.2.2 rfl (by omega) (by omega) (fun x hx => absurd hx List.not_mem_nil) a4 rfl a4 a5 a6 a7 (fun j x hj => by cases hj) hT1) (fun q2 hq2 => ?_)
    obtain ⟨b1, b2, b3⟩ := hq2
    have f2 : fr [1, 2, 3, 4, 5, 6, 7, 8, 9, 25, 26, 27, 28] X q2.2.1 := fr_trans f1 (fr_mono b1 (by decide))
    have e2 : fr [1, 16, 17, 18, 19] F q2.2.2 := by rw [← a1]; exact fr_mono b2 (by decide)
    cases hf : foS t z.1 z.2.1 z.2.2 6 z.2.2 [] with
    | inl w =>
      rw [hf] at b3
      exact Go_pos b3.1 (Go_ret ⟨f2, e2, congrArg (fun z => (-1 : Int32) - z) b3.2⟩)
    | inr f =>
      rw [hf] at b3
      obtain ⟨b3, b4, b5, b6, b7⟩ := b3
      obtain ⟨g1, g2, g3, g4⟩ := foS_r hf (fun x hx => absurd hx List.not_mem_nil)
      refine Go_neg (by rw [b3]; decide) ?_
      simp only [sb_inr]
      have hT2 : tapeOK t (q2.2.1 0) (q2.2.2 0) := by rw [f2 0 (by decide), e2 0 (by decide)]; exact hT
      refine Go_bind (e_readPages_1 t z.1 z.2.1 (z.1 * z.2.1) rfl hN1 z5 f.2.2 q2.2.1 q2.2.2 (by omega) b4 ((b1 25 (by decide)).trans a5) ((b1 26 (by decide)).trans a6) hT2) (fun q3 hq3 => ?_)
      obtain ⟨c1, c2, c3⟩ := hq3
      have f3 : fr [1, 2, 3, 4, 5, 6, 7, 8, 9, 25, 26, 27, 28] X q3.2.1 := fr_trans f2 (fr_mono c1 (by decide))
      have e3 : fr [1, 16, 17, 18, 19] F q3.2.2 := fr_trans e2 (fr_mono c2 (by decide))
      have hT3 : tapeOK t (q3.2.1 0) (q3.2.2 0) := by rw [f3 0 (by decide), e3 0 (by decide)]; exact hT
      have s0 : q3.2.1 25 = sN z.1 := (c1 25 (by decide)).trans ((b1 25 (by decide)).trans a5)
      have s1 : q3.2.1 26 = sN z.2.1 := (c1 26 (by decide)).trans ((b1 26 (by decide)).trans a6)
      have s2 : q3.2.1 27 = sN f.1.length := (c1 27 (by decide)).trans b5
      have s3 : ∀ j x, f.1[j]? = some x → q3.2.2 16 j = sN x := fun j x hj => by rw [c2 16 (by decide)]; exact b6 j x hj
      have s4 : ∀ k, k < z.1 * z.2.1 → q3.2.2 19 k = sN (f.2.1 k) := fun k hk => by rw [c2 19 (by decide)]; exact b7 k hk
      by_cases h61 : t f.2.2 = 61
      · rw [if_pos h61] at c3 ⊢
        cases hp : pgS t (z.1 * z.2.1) (2 * (z.1 * z.2.1)) 0 (f.2.2 + 1) A0 with
        | inl w =>
          rw [hp] at c3
          exact Go_pos c3.1 (Go_ret ⟨f3, e3, congrArg (fun z => (-1 : Int32) - z) c3.2⟩)
        | inr g =>
          rw [hp] at c3
          obtain ⟨c3, c4, c5, c6, c7⟩ := c3
          refine Go_neg (by rw [c3]; decide) (Go_bind (e_expect t g.1 1000 (by omega) (by omega) q3.2.1 q3.2.2 c4 hT3) (fun q4 hq4 => ?_))
          obtain ⟨d1, d2, d3⟩ := hq4
          have f4 : fr [1, 2, 3, 4, 5, 6, 7, 8, 9, 25, 26, 27, 28] X q4.2.1 := fr_trans f3 (fr_mono d2 (by decide))
          simp only [sb_inr]
          by_cases he : t g.1 = 1000
          · rw [if_pos he] at d3 ⊢
            refine Go_neg (by rw [d3.1]; decide) (Go_bind (Go_ret rfl) (fun q5 hq5 => ?_))
            rw [← hq5]
            refine Go_ret ⟨f4, by rw [d1]; exact e3, ?_, ?_⟩
            · show q4.2.1 25 * q4.2.1 26 = _
              rw [d2 25 (by decide), d2 26 (by decide), s0, s1, sN_mul]
            · show schC _ (q4.2.1 25) (q4.2.1 26) (q4.2.1 27) (q4.2.1 28) (q4.2.2 16) (q4.2.2 17) (q4.2.2 18) (q4.2.2 19)
              rw [d1, d2 25 (by decide), d2 26 (by decide), d2 27 (by decide), d2 28 (by decide)]
              exact ⟨s0, s1, s2, s3, s4, c6, c7⟩
          · rw [if_neg he] at d3 ⊢
            exact Go_pos d3.1 (Go_ret ⟨f4, by rw [d1]; exact e3, congrArg (fun z => (-1 : Int32) - z) d3.2⟩)
      · rw [if_neg h61] at c3 ⊢
        refine Go_neg (by rw [c3.1]; decide) (Go_bind (e_expect t f.2.2 1000 (by omega) (by omega) q3.2.1 q3.2.2 c3.2.1 hT3) (fun q4 hq4 => ?_))
        obtain ⟨d1, d2, d3⟩ := hq4
        have f4 : fr [1, 2, 3, 4, 5, 6, 7, 8, 9, 25, 26, 27, 28] X q4.2.1 := fr_trans f3 (fr_mono d2 (by decide))
        by_cases he : t f.2.2 = 1000
        · rw [if_pos he] at d3 ⊢
          refine Go_neg (by rw [d3.1]; decide) (Go_bind (Go_ret rfl) (fun q5 hq5 => ?_))
          rw [← hq5]
          refine Go_ret ⟨f4, by rw [d1]; exact e3, ?_, ?_⟩
          · show q4.2.1 25 * q4.2.1 26 = _
            rw [d2 25 (by decide), d2 26 (by decide), s0, s1, sN_mul]
          · show schC _ (q4.2.1 25) (q4.2.1 26) (q4.2.1 27) (q4.2.1 28) (q4.2.2 16) (q4.2.2 17) (q4.2.2 18) (q4.2.2 19)
            rw [d1, d2 25 (by decide), d2 26 (by decide), d2 27 (by decide), d2 28 (by decide)]
            exact ⟨s0, s1, s2, s3, s4, c3.2.2.trans ((b1 28 (by decide)).trans a8)⟩
        · rw [if_neg he] at d3 ⊢
          exact Go_pos d3.1 (Go_ret ⟨f4, by rw [d1]; exact e3, congrArg (fun z => (-1 : Int32) - z) d3.2⟩)
