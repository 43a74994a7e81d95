/-! the class reads a scheme (object 0) -/
theorem e_readSize_0 (t : Nat → Nat) (X : Nat → Int32) (F : Nat → Nat → Int32) (h1 : X 1 = sN 0) (hT : tapeOK t (X 0) (F 0)) : Go (fun n => f_Re_readSize_0 n X F) (fun r => r.2.2 = F ∧ fr [1, 2, 3, 21, 22, 23, 24] X r.2.1 ∧ match szS t with
    | .inl w => r.1 = 0 ∧ r.2.1 2 = sN w
    | .inr q => r.1 = 1 ∧ r.2.1 1 = sN q.2.2 ∧ r.2.1 21 = sN q.1 ∧ r.2.1 22 = sN q.2.1 ∧ r.2.1 23 = sN 0 ∧ r.2.1 24 = 0) := by
  unfold f_Re_readSize_0 szS
  refine Go_bind (e_readNumber t 8 0 (by omega) (by omega) X F h1 hT) (fun q hq => ?_)
  obtain ⟨a1, a2, a3⟩ := hq
  cases hz : nuS t 8 0 with
  | inl w =>
    rw [hz] at a3
    exact Go_neg (fun z => z a3.1) (Go_ret ⟨a1, fr_mono a2 (by decide), rfl, a3.2⟩)
  | inr c =>
    rw [hz] at a3
    obtain ⟨a3, a4, a5⟩ := a3
    have rc := nuS_r hz
    refine Go_pos (by rw [a3]; decide) (Go_pos (Or.inr (by rw [a4, wN_0, sN_eq (by omega) (by omega)]; omega)) ?_)
    have hT1 : tapeOK t (q.2.1 0) (q.2.2 0) := by rw [a1, a2 0 (by decide)]; exact hT
    refine Go_bind (e_expect t c.2 120 (by omega) (by omega) q.2.1 q.2.2 a5 hT1) (fun q2 hq2 => ?_)
    obtain ⟨b1, b2, b3⟩ := hq2
    simp only [sb_inr]
    unfold sepS
    by_cases hx : t c.2 = 120
    · rw [if_pos hx] at b3 ⊢
      refine Go_neg (by rw [b3.1]; decide) ?_
      have hT2 : tapeOK t (q2.2.1 0) (q2.2.2 0) := by rw [b1, b2 0 (by decide)]; exact hT1
      have hm : f_Ma_min 8 (f_Im_downward 16 (q.2.1 3)) = sN (min 8 (16 / c.1)) := by
        rw [a4, wN_16, sN_downward _ _ (by omega) (by omega) (by omega), wN_8, sN_min _ _ (by omega) (Nat.lt_of_le_of_lt (Nat.div_le_self _ _) (by omega))]
      simp only [hm]
      refine Go_bind (e_readNumber t (min 8 (16 / c.1)) (c.2 + 1) (by omega) (by omega) q2.2.1 q2.2.2 b3.2 hT2) (fun q3 hq3 => ?_)
      obtain ⟨d1, d2, d3⟩ := hq3
      simp only [sb_inr]
      have hF : q3.2.2 = F := by rw [d1, b1, a1]
      have hfr : fr [1, 2, 3] X q3.2.1 := fr_trans (fr_trans a2 b2) d2
      cases hy : nuS t (min 8 (16 / c.1)) (c.2 + 1) with
      | inl w =>
        rw [hy] at d3
        exact Go_neg (fun z => z d3.1) (Go_ret ⟨hF, fr_mono hfr (by decide), rfl, d3.2⟩)
      | inr r =>
        rw [hy] at d3
        refine Go_pos (by rw [d3.1]; decide) (Go_bind (Go_ret rfl) (fun q4 hq4 => ?_))
        rw [← hq4]
        exact Go_ret ⟨hF, fr_upd (fr_upd (fr_upd (fr_upd (fr_mono hfr (by decide)) (by decide)) (by decide)) (by decide)) (by decide), rfl, d3.2.2, a4, d3.2.1, rfl, rfl⟩
    · rw [if_neg hx] at b3 ⊢
      exact Go_pos b3.1 (Go_ret ⟨by rw [b1, a1], fr_mono (fr_trans a2 b2) (by decide), rfl, b3.2⟩)
theorem g_readFolds_0 (t : Nat → Nat) (c r p0 : Nat) (hc : 1 ≤ c) (hr : 1 ≤ r) (hc8 : c ≤ 8) (hr8 : r ≤ 8) (hcr : c * r ≤ 16) (hp0 : p0 < 100) : ∀ (m p : Nat) (pre : List Nat) (lv X : Nat → Int32) (F : Nat → Nat → Int32), pre.length + m = 6 → p ≤ 106 → p + m ≤ 106 → (∀ x ∈ pre, isLt x) → lv 2 = sN p0 → lv 3 = sN pre.length → X 1 = sN p → X 21 = sN c → X 22 = sN r → X 23 = sN pre.length → (∀ j x, pre[j]? = some x → F 12 j = sN x) → tapeOK t (X 0) (F 0) → Go (fun n => L_Re_readFolds_0 n 7 lv X F) (fun q => fr [1, 2, 3, 4, 5, 6, 7, 8, 9, 23] X q.2.1 ∧ fr [1, 12, 15] F q.2.2 ∧ match foS t c r p0 m p pre with
    | .inl w => q.1 = 0 ∧ q.2.1 2 = sN w
    | .inr f => q.1 = 1 ∧ q.2.1 1 = sN f.2.2 ∧ q.2.1 23 = sN f.1.length ∧ (∀ j x, f.1[j]? = some x → q.2.2 12 j = sN x) ∧ ∀ k, k < c * r → q.2.2 15 k = sN (f.2.1 k)) := by
  intro m
  have fin : ∀ (p : Nat) (pre : List Nat) (lv X : Nat → Int32) (F : Nat → Nat → Int32), pre.length ≤ 6 → (∀ x ∈ pre, isLt x) → lv 2 = sN p0 → X 1 = sN p → X 21 = sN c → X 22 = sN r → X 23 = sN pre.length → (∀ j x, pre[j]? = some x → F 12 j = sN x) → Go (fun n => (f_Fo_makeBooklet_0 n X F).bind (fun q1 => if ¬ q1.1 = 0 then (some ((1 : Int32), q1.2.1, q1.2.2)) else ((f_Re_failAt n q1.2.1 q1.2.2 (lv 2)).bind (fun q2 => if q2.1 = 0 then (some (0, q2.2.1, q2.2.2)) else (some (1, q2.2.1, q2.2.2)))))) (fun q => fr [1, 2, 3, 4, 5, 6, 7, 8, 9, 23] X q.2.1 ∧ fr [1, 12, 15] F q.2.2 ∧ match foF c r p0 p pre with
    | .inl w => q.1 = 0 ∧ q.2.1 2 = sN w
    | .inr f => q.1 = 1 ∧ q.2.1 1 = sN f.2.2 ∧ q.2.1 23 = sN f.1.length ∧ (∀ j x, f.1[j]? = some x → q.2.2 12 j = sN x) ∧ ∀ k, k < c * r → q.2.2 15 k = sN (f.2.1 k)) := by
    intro p pre lv X F h6 hL l2 h1 hx0 hx1 hx2 hF
    refine Go_bind (e_mkb_0 c r pre hc hr hc8 hr8 hcr X F h6 hL hx0 hx1 hx2 hF) (fun q hq => ?_)
    obtain ⟨a1, a2, a3⟩ := hq
    unfold foF
    cases hb : bkl c r pre with
    | none =>
      rw [hb] at a3
      refine Go_neg (fun z => z a3) (Go_bind (Go_ret rfl) (fun q2 hq2 => ?_))
      rw [← hq2]
      exact Go_pos rfl (Go_ret ⟨fr_upd (fr_mono a1 (by decide)) (by decide), fr_mono a2 (by decide), rfl, l2⟩)
    | some lf =>
      rw [hb] at a3
      refine Go_pos (by rw [a3.1]; decide) (Go_ret ⟨fr_mono a1 (by decide), fr_mono a2 (by decide), rfl, (a1 1 (by decide)).trans h1, (a1 23 (by decide)).trans hx2, fun j x hj => ?_, a3.2⟩)
      rw [a2 12 (by decide)]
      exact hF j x hj
  induction m with
  | zero =>
    intro p pre lv X F hm hp hp2 hL l2 l3 h1 hx0 hx1 hx2 hF hT
    have hi := tk_in hT h1 (by omega)
    have hn := tk_next hT h1 (by omega)
    have hr := tk_r hT p
    refine Go_S ?_
    simp (disch := omega) only [L_Re_readFolds_0, ↓reduceIte]
    refine Go_pos (by rw [l3, wN_6, sN_le (by omega) (by omega)]; omega) (Go_pos hi ?_)
    unfold foS
    refine Go_ite (fun hd => ?_) (fun hd => ?_)
    · rw [hn, wN_0, cw_fold hr] at hd
      rw [if_neg hd]
      exact fin p pre lv X F (by omega) hL l2 h1 hx0 hx1 hx2 hF
    · rw [hn, wN_0, cw_fold hr] at hd
      rw [if_pos (Classical.not_not.mp hd)]
      refine Go_bind (Go_ret rfl) (fun q2 hq2 => ?_)
      rw [← hq2]
      exact Go_pos (Or.inl rfl) (Go_ret ⟨fr_upd fr_rfl (by decide), fr_rfl, rfl, h1⟩)
  | succ m ih =>
    intro p pre lv X F hm hp hp2 hL l2 l3 h1 hx0 hx1 hx2 hF hT
    have hi := tk_in hT h1 (by omega)
    have hn := tk_next hT h1 (by omega)
    have hr := tk_r hT p
    refine Go_S ?_
    simp (disch := omega) only [L_Re_readFolds_0, ↓reduceIte]
    refine Go_neg (by rw [l3, wN_6, sN_le (by omega) (by omega)]; omega) (Go_pos hi ?_)
    unfold foS
    refine Go_ite (fun hd => ?_) (fun hd => ?_)
    · have hd' := hd
      rw [hn, wN_0, cw_fold hr] at hd
      rw [if_neg hd]
      exact Go_pos hi (Go_pos hd' (fin p pre lv X F (by omega) hL l2 h1 hx0 hx1 hx2 hF))
    · rw [hn, wN_0, cw_fold hr] at hd
      have hd2 := Classical.not_not.mp hd
      rw [if_pos hd2]
      refine Go_pos hi ?_
      unfold f_Sc_addFold_0
      refine Go_bind (Q := fun q => q = (0, upd X 23 (sN (pre.length + 1)), va_up F 12 (upd (F 12) pre.length (sN (t p))))) ?_ (fun q hq => ?_)
      · have e2 : f_Re_next X F = sN (t p) := by rw [hn]; unfold cw; rw [if_neg (by omega)]
        simp (disch := omega) only [hx2, e2, sN_add, sN_mul, sN_sub, sN_lt, sN_le, sN_eq, sN_nat, sN_div, sN_mod, sN_1', wN_0, wN_1, wN_2, wN_3, wN_4, wN_5, wN_6, wN_7, wN_8, wN_9, wN_10, wN_11, wN_12, wN_13, wN_14, wN_15, wN_16, wN_17, wN_18, wN_19, wN_20, wN_28, wN_31, wN_32, wN_33, wN_36, wN_40, wN_42, wN_43, wN_44, wN_45, wN_46, wN_47, wN_48, wN_57, wN_61, wN_63, wN_64, wN_66, wN_76, wN_82, wN_84, wN_88, wN_90, wN_100, wN_120, wN_128, wN_200, wN_255, wN_256, wN_512, wN_640, wN_641, wN_1000, wN_1024, wN_10000, wN_100000]
        exact Go_neg (by omega) (Go_pos (by omega) (Go_ret rfl))
      · subst hq
        refine Go_mono (ih (p + 1) (pre ++ [t p]) _ _ _ (by rw [List.length_append, List.length_singleton]; omega) (by omega) (by omega) (fun x hx => ?_) l2 ?_ ?_ hx0 hx1 ?_ (fun j x hj => ?_) hT) (fun q hq => ⟨fr_trans (fr_upd (fr_upd fr_rfl (by decide)) (by decide)) hq.1, fr_trans (fr_vup fr_rfl (by decide)) hq.2.1, hq.2.2⟩)
        · rcases List.mem_append.mp hx with hx | hx
          · exact hL x hx
          · rw [List.mem_singleton.mp hx]; exact hd2
        · show lv 3 + Int32.ofInt 1 = _
          rw [l3, sN_1', sN_add, List.length_append, List.length_singleton]
        · show X 1 + 1 = _
          rw [h1]; exact sN_add p 1
        · rw [List.length_append, List.length_singleton]; rfl
        · show upd (F 12) pre.length (sN (t p)) j = sN x
          rw [upd_app]
          by_cases hjl : j = pre.length
          · subst hjl
            rw [List.getElem?_append_right (Nat.le_refl _), Nat.sub_self] at hj
            rw [if_pos rfl]
            exact congrArg sN (Option.some.inj hj)
          · rw [if_neg hjl]
            by_cases hj2 : j < pre.length
            · rw [List.getElem?_append_left hj2] at hj
              exact hF j x hj
            · rw [List.getElem?_eq_none (by rw [List.length_append, List.length_singleton]; omega)] at hj
              cases hj
/-! the class reads a scheme (object 1) -/
theorem e_readSize_1 (t : Nat → Nat) (X : Nat → Int32) (F : Nat → Nat → Int32) (h1 : X 1 = sN 0) (hT : tapeOK t (X 0) (F 0)) : Go (fun n => f_Re_readSize_1 n X F) (fun r => r.2.2 = F ∧ fr [1, 2, 3, 25, 26, 27, 28] X r.2.1 ∧ match szS t with
    | .inl w => r.1 = 0 ∧ r.2.1 2 = sN w
    | .inr q => r.1 = 1 ∧ r.2.1 1 = sN q.2.2 ∧ r.2.1 25 = sN q.1 ∧ r.2.1 26 = sN q.2.1 ∧ r.2.1 27 = sN 0 ∧ r.2.1 28 = 0) := by
  unfold f_Re_readSize_1 szS
  refine Go_bind (e_readNumber t 8 0 (by omega) (by omega) X F h1 hT) (fun q hq => ?_)
  obtain ⟨a1, a2, a3⟩ := hq
  cases hz : nuS t 8 0 with
  | inl w =>
    rw [hz] at a3
    exact Go_neg (fun z => z a3.1) (Go_ret ⟨a1, fr_mono a2 (by decide), rfl, a3.2⟩)
  | inr c =>
    rw [hz] at a3
    obtain ⟨a3, a4, a5⟩ := a3
    have rc := nuS_r hz
    refine Go_pos (by rw [a3]; decide) (Go_pos (Or.inr (by rw [a4, wN_0, sN_eq (by omega) (by omega)]; omega)) ?_)
    have hT1 : tapeOK t (q.2.1 0) (q.2.2 0) := by rw [a1, a2 0 (by decide)]; exact hT
    refine Go_bind (e_expect t c.2 120 (by omega) (by omega) q.2.1 q.2.2 a5 hT1) (fun q2 hq2 => ?_)
    obtain ⟨b1, b2, b3⟩ := hq2
    simp only [sb_inr]
    unfold sepS
    by_cases hx : t c.2 = 120
    · rw [if_pos hx] at b3 ⊢
      refine Go_neg (by rw [b3.1]; decide) ?_
      have hT2 : tapeOK t (q2.2.1 0) (q2.2.2 0) := by rw [b1, b2 0 (by decide)]; exact hT1
      have hm : f_Ma_min 8 (f_Im_downward 16 (q.2.1 3)) = sN (min 8 (16 / c.1)) := by
        rw [a4, wN_16, sN_downward _ _ (by omega) (by omega) (by omega), wN_8, sN_min _ _ (by omega) (Nat.lt_of_le_of_lt (Nat.div_le_self _ _) (by omega))]
      simp only [hm]
      refine Go_bind (e_readNumber t (min 8 (16 / c.1)) (c.2 + 1) (by omega) (by omega) q2.2.1 q2.2.2 b3.2 hT2) (fun q3 hq3 => ?_)
      obtain ⟨d1, d2, d3⟩ := hq3
      simp only [sb_inr]
      have hF : q3.2.2 = F := by rw [d1, b1, a1]
      have hfr : fr [1, 2, 3] X q3.2.1 := fr_trans (fr_trans a2 b2) d2
      cases hy : nuS t (min 8 (16 / c.1)) (c.2 + 1) with
      | inl w =>
        rw [hy] at d3
        exact Go_neg (fun z => z d3.1) (Go_ret ⟨hF, fr_mono hfr (by decide), rfl, d3.2⟩)
      | inr r =>
        rw [hy] at d3
        refine Go_pos (by rw [d3.1]; decide) (Go_bind (Go_ret rfl) (fun q4 hq4 => ?_))
        rw [← hq4]
        exact Go_ret ⟨hF, fr_upd (fr_upd (fr_upd (fr_upd (fr_mono hfr (by decide)) (by decide)) (by decide)) (by decide)) (by decide), rfl, d3.2.2, a4, d3.2.1, rfl, rfl⟩
    · rw [if_neg hx] at b3 ⊢
      exact Go_pos b3.1 (Go_ret ⟨by rw [b1, a1], fr_mono (fr_trans a2 b2) (by decide), rfl, b3.2⟩)
theorem g_readFolds_1 (t : Nat → Nat) (c r p0 : Nat) (hc : 1 ≤ c) (hr : 1 ≤ r) (hc8 : c ≤ 8) (hr8 : r ≤ 8) (hcr : c * r ≤ 16) (hp0 : p0 < 100) : ∀ (m p : Nat) (pre : List Nat) (lv X : Nat → Int32) (F : Nat → Nat → Int32), pre.length + m = 6 → p ≤ 106 → p + m ≤ 106 → (∀ x ∈ pre, isLt x) → lv 2 = sN p0 → lv 3 = sN pre.length → X 1 = sN p → X 25 = sN c → X 26 = sN r → X 27 = sN pre.length → (∀ j x, pre[j]? = some x → F 16 j = sN x) → tapeOK t (X 0) (F 0) → Go (fun n => L_Re_readFolds_1 n 7 lv X F) (fun q => fr [1, 2, 3, 4, 5, 6, 7, 8, 9, 27] X q.2.1 ∧ fr [1, 16, 19] F q.2.2 ∧ match foS t c r p0 m p pre with
    | .inl w => q.1 = 0 ∧ q.2.1 2 = sN w
    | .inr f => q.1 = 1 ∧ q.2.1 1 = sN f.2.2 ∧ q.2.1 27 = sN f.1.length ∧ (∀ j x, f.1[j]? = some x → q.2.2 16 j = sN x) ∧ ∀ k, k < c * r → q.2.2 19 k = sN (f.2.1 k)) := by
  intro m
  have fin : ∀ (p : Nat) (pre : List Nat) (lv X : Nat → Int32) (F : Nat → Nat → Int32), pre.length ≤ 6 → (∀ x ∈ pre, isLt x) → lv 2 = sN p0 → X 1 = sN p → X 25 = sN c → X 26 = sN r → X 27 = sN pre.length → (∀ j x, pre[j]? = some x → F 16 j = sN x) → Go (fun n => (f_Fo_makeBooklet_1 n X F).bind (fun q1 => if ¬ q1.1 = 0 then (some ((1 : Int32), q1.2.1, q1.2.2)) else ((f_Re_failAt n q1.2.1 q1.2.2 (lv 2)).bind (fun q2 => if q2.1 = 0 then (some (0, q2.2.1, q2.2.2)) else (some (1, q2.2.1, q2.2.2)))))) (fun q => fr [1, 2, 3, 4, 5, 6, 7, 8, 9, 27] X q.2.1 ∧ fr [1, 16, 19] F q.2.2 ∧ match foF c r p0 p pre with
    | .inl w => q.1 = 0 ∧ q.2.1 2 = sN w
    | .inr f => q.1 = 1 ∧ q.2.1 1 = sN f.2.2 ∧ q.2.1 27 = sN f.1.length ∧ (∀ j x, f.1[j]? = some x → q.2.2 16 j = sN x) ∧ ∀ k, k < c * r → q.2.2 19 k = sN (f.2.1 k)) := by
    intro p pre lv X F h6 hL l2 h1 hx0 hx1 hx2 hF
    refine Go_bind (e_mkb_1 c r pre hc hr hc8 hr8 hcr X F h6 hL hx0 hx1 hx2 hF) (fun q hq => ?_)
    obtain ⟨a1, a2, a3⟩ := hq
    unfold foF
    cases hb : bkl c r pre with
    | none =>
      rw [hb] at a3
      refine Go_neg (fun z => z a3) (Go_bind (Go_ret rfl) (fun q2 hq2 => ?_))
      rw [← hq2]
      exact Go_pos rfl (Go_ret ⟨fr_upd (fr_mono a1 (by decide)) (by decide), fr_mono a2 (by decide), rfl, l2⟩)
    | some lf =>
      rw [hb] at a3
      refine Go_pos (by rw [a3.1]; decide) (Go_ret ⟨fr_mono a1 (by decide), fr_mono a2 (by decide), rfl, (a1 1 (by decide)).trans h1, (a1 27 (by decide)).trans hx2, fun j x hj => ?_, a3.2⟩)
      rw [a2 16 (by decide)]
      exact hF j x hj
  induction m with
  | zero =>
    intro p pre lv X F hm hp hp2 hL l2 l3 h1 hx0 hx1 hx2 hF hT
    have hi := tk_in hT h1 (by omega)
    have hn := tk_next hT h1 (by omega)
    have hr := tk_r hT p
    refine Go_S ?_
    simp (disch := omega) only [L_Re_readFolds_1, ↓reduceIte]
    refine Go_pos (by rw [l3, wN_6, sN_le (by omega) (by omega)]; omega) (Go_pos hi ?_)
    unfold foS
    refine Go_ite (fun hd => ?_) (fun hd => ?_)
    · rw [hn, wN_0, cw_fold hr] at hd
      rw [if_neg hd]
      exact fin p pre lv X F (by omega) hL l2 h1 hx0 hx1 hx2 hF
    · rw [hn, wN_0, cw_fold hr] at hd
      rw [if_pos (Classical.not_not.mp hd)]
      refine Go_bind (Go_ret rfl) (fun q2 hq2 => ?_)
      rw [← hq2]
      exact Go_pos (Or.inl rfl) (Go_ret ⟨fr_upd fr_rfl (by decide), fr_rfl, rfl, h1⟩)
  | succ m ih =>
    intro p pre lv X F hm hp hp2 hL l2 l3 h1 hx0 hx1 hx2 hF hT
    have hi := tk_in hT h1 (by omega)
    have hn := tk_next hT h1 (by omega)
    have hr := tk_r hT p
    refine Go_S ?_
    simp (disch := omega) only [L_Re_readFolds_1, ↓reduceIte]
    refine Go_neg (by rw [l3, wN_6, sN_le (by omega) (by omega)]; omega) (Go_pos hi ?_)
    unfold foS
    refine Go_ite (fun hd => ?_) (fun hd => ?_)
    · have hd' := hd
      rw [hn, wN_0, cw_fold hr] at hd
      rw [if_neg hd]
      exact Go_pos hi (Go_pos hd' (fin p pre lv X F (by omega) hL l2 h1 hx0 hx1 hx2 hF))
    · rw [hn, wN_0, cw_fold hr] at hd
      have hd2 := Classical.not_not.mp hd
      rw [if_pos hd2]
      refine Go_pos hi ?_
      unfold f_Sc_addFold_1
      refine Go_bind (Q := fun q => q = (0, upd X 27 (sN (pre.length + 1)), va_up F 16 (upd (F 16) pre.length (sN (t p))))) ?_ (fun q hq => ?_)
      · have e2 : f_Re_next X F = sN (t p) := by rw [hn]; unfold cw; rw [if_neg (by omega)]
        simp (disch := omega) only [hx2, e2, sN_add, sN_mul, sN_sub, sN_lt, sN_le, sN_eq, sN_nat, sN_div, sN_mod, sN_1', wN_0, wN_1, wN_2, wN_3, wN_4, wN_5, wN_6, wN_7, wN_8, wN_9, wN_10, wN_11, wN_12, wN_13, wN_14, wN_15, wN_16, wN_17, wN_18, wN_19, wN_20, wN_28, wN_31, wN_32, wN_33, wN_36, wN_40, wN_42, wN_43, wN_44, wN_45, wN_46, wN_47, wN_48, wN_57, wN_61, wN_63, wN_64, wN_66, wN_76, wN_82, wN_84, wN_88, wN_90, wN_100, wN_120, wN_128, wN_200, wN_255, wN_256, wN_512, wN_640, wN_641, wN_1000, wN_1024, wN_10000, wN_100000]
        exact Go_neg (by omega) (Go_pos (by omega) (Go_ret rfl))
      · subst hq
        refine Go_mono (ih (p + 1) (pre ++ [t p]) _ _ _ (by rw [List.length_append, List.length_singleton]; omega) (by omega) (by omega) (fun x hx => ?_) l2 ?_ ?_ hx0 hx1 ?_ (fun j x hj => ?_) hT) (fun q hq => ⟨fr_trans (fr_upd (fr_upd fr_rfl (by decide)) (by decide)) hq.1, fr_trans (fr_vup fr_rfl (by decide)) hq.2.1, hq.2.2⟩)
        · rcases List.mem_append.mp hx with hx | hx
          · exact hL x hx
          · rw [List.mem_singleton.mp hx]; exact hd2
        · show lv 3 + Int32.ofInt 1 = _
          rw [l3, sN_1', sN_add, List.length_append, List.length_singleton]
        · show X 1 + 1 = _
          rw [h1]; exact sN_add p 1
        · rw [List.length_append, List.length_singleton]; rfl
        · show upd (F 16) pre.length (sN (t p)) j = sN x
          rw [upd_app]
          by_cases hjl : j = pre.length
          · subst hjl
            rw [List.getElem?_append_right (Nat.le_refl _), Nat.sub_self] at hj
            rw [if_pos rfl]
            exact congrArg sN (Option.some.inj hj)
          · rw [if_neg hjl]
            by_cases hj2 : j < pre.length
            · rw [List.getElem?_append_left hj2] at hj
              exact hF j x hj
            · rw [List.getElem?_eq_none (by rw [List.length_append, List.length_singleton]; omega)] at hj
              cases hj
