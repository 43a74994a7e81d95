/-! the booklet of a scheme (object 0) -/
theorem e_setLeaf_0 (k : Nat) (v : Int32) (hk : k < 16) (X : Nat → Int32) (F : Nat → Nat → Int32) (n : Nat) : f_Sc_setLeaf_0 n X F (sN k) v = some (0, X, va_up F 15 (upd (F 15) k v)) := by
  unfold f_Sc_setLeaf_0
  simp (disch := omega) only [sN_add, sN_mul, sN_sub, sN_lt, sN_le, sN_eq, sN_nat, sN_div, sN_mod, sN_1', wN_0, wN_1, wN_2, wN_3, wN_4, wN_5, wN_6, wN_7, wN_8, wN_9, wN_10, wN_11, wN_12, wN_13, wN_14, wN_15, wN_16, wN_17, wN_18, wN_19, wN_20, wN_28, wN_31, wN_32, wN_33, wN_36, wN_40, wN_42, wN_43, wN_44, wN_45, wN_46, wN_47, wN_48, wN_57, wN_61, wN_63, wN_64, wN_66, wN_76, wN_82, wN_84, wN_88, wN_90, wN_100, wN_120, wN_128, wN_200, wN_255, wN_256, wN_512, wN_640, wN_641, wN_1000, wN_1024, wN_10000, wN_100000]
  rw [if_neg (by omega), if_neg (by omega), if_pos (by omega)]
theorem g_cut_0 (N : Nat) (hN : N ≤ 16) : ∀ (m k : Nat), k + m = N → ∀ (lv X : Nat → Int32) (F : Nat → Nat → Int32), lv 1 = sN N → lv 2 = sN k → (∀ j, j < k → F 15 j = sN (4 * j)) → Go (fun n => L_Fo_cutLeaves_0 n 7 lv X F) (fun r => r.2.1 = X ∧ fr [15] F r.2.2 ∧ ∀ j, j < N → r.2.2 15 j = sN (4 * j))
  | 0, k, hm, lv, X, F, l1, l2, hF => by
    refine Go_S ?_
    simp (disch := omega) only [L_Fo_cutLeaves_0, l1, l2, upd_app, vup_app, ↓reduceIte, Nat.reduceEqDiff, sN_add, sN_mul, sN_sub, sN_lt, sN_le, sN_eq, sN_nat, sN_div, sN_mod, sN_1', wN_0, wN_1, wN_2, wN_3, wN_4, wN_5, wN_6, wN_7, wN_8, wN_9, wN_10, wN_11, wN_12, wN_13, wN_14, wN_15, wN_16, wN_17, wN_18, wN_19, wN_20, wN_28, wN_31, wN_32, wN_33, wN_36, wN_40, wN_42, wN_43, wN_44, wN_45, wN_46, wN_47, wN_48, wN_57, wN_61, wN_63, wN_64, wN_66, wN_76, wN_82, wN_84, wN_88, wN_90, wN_100, wN_120, wN_128, wN_200, wN_255, wN_256, wN_512, wN_640, wN_641, wN_1000, wN_1024, wN_10000, wN_100000]
    refine Go_pos (by omega) (Go_ret ⟨rfl, fr_rfl, fun j hj => hF j (by omega)⟩)
  | m + 1, k, hm, lv, X, F, l1, l2, hF => by
    refine Go_S ?_
    simp (disch := omega) only [L_Fo_cutLeaves_0, l1, l2, e_setLeaf_0, Option.bind_some, upd_app, vup_app, ↓reduceIte, Nat.reduceEqDiff, sN_add, sN_mul, sN_sub, sN_lt, sN_le, sN_eq, sN_nat, sN_div, sN_mod, sN_1', wN_0, wN_1, wN_2, wN_3, wN_4, wN_5, wN_6, wN_7, wN_8, wN_9, wN_10, wN_11, wN_12, wN_13, wN_14, wN_15, wN_16, wN_17, wN_18, wN_19, wN_20, wN_28, wN_31, wN_32, wN_33, wN_36, wN_40, wN_42, wN_43, wN_44, wN_45, wN_46, wN_47, wN_48, wN_57, wN_61, wN_63, wN_64, wN_66, wN_76, wN_82, wN_84, wN_88, wN_90, wN_100, wN_120, wN_128, wN_200, wN_255, wN_256, wN_512, wN_640, wN_641, wN_1000, wN_1024, wN_10000, wN_100000]
    refine Go_neg (by omega) ?_
    refine Go_mono (g_cut_0 N hN m (k + 1) (by omega) _ X _ rfl rfl (fun j hj => ?_)) (fun r hr => ⟨hr.1, fr_trans (fr_vup fr_rfl (by decide)) hr.2.1, hr.2.2⟩)
    rw [va_up_self, upd_app]
    by_cases h : j = k
    · rw [if_pos h, h]
    · rw [if_neg h]; exact hF j (by omega)
theorem g_layOut_0 : ∀ (m k : Nat), k + m = 16 → ∀ (lv X : Nat → Int32) (F : Nat → Nat → Int32), lv 2 = sN k → (∀ j, j < k → F 1 (16 * j) = sN (4 * j)) → Go (fun n => L_Fo_layOut_0 n 41 lv X F) (fun r => r.2.1 = X ∧ fr [1] F r.2.2 ∧ ∀ j, j < 16 → r.2.2 1 (16 * j) = sN (4 * j))
  | 0, k, hm, lv, X, F, l2, hF => by
    refine Go_S ?_
    simp (disch := omega) only [L_Fo_layOut_0, l2, upd_app, vup_app, ↓reduceIte, Nat.reduceEqDiff, sN_add, sN_mul, sN_sub, sN_lt, sN_le, sN_eq, sN_nat, sN_div, sN_mod, sN_1', wN_0, wN_1, wN_2, wN_3, wN_4, wN_5, wN_6, wN_7, wN_8, wN_9, wN_10, wN_11, wN_12, wN_13, wN_14, wN_15, wN_16, wN_17, wN_18, wN_19, wN_20, wN_28, wN_31, wN_32, wN_33, wN_36, wN_40, wN_42, wN_43, wN_44, wN_45, wN_46, wN_47, wN_48, wN_57, wN_61, wN_63, wN_64, wN_66, wN_76, wN_82, wN_84, wN_88, wN_90, wN_100, wN_120, wN_128, wN_200, wN_255, wN_256, wN_512, wN_640, wN_641, wN_1000, wN_1024, wN_10000, wN_100000]
    refine Go_pos (by omega) (Go_ret ⟨rfl, fr_rfl, fun j hj => hF j (by omega)⟩)
  | m + 1, k, hm, lv, X, F, l2, hF => by
    refine Go_S ?_
    simp (disch := omega) only [L_Fo_layOut_0, l2, upd_app, vup_app, ↓reduceIte, Nat.reduceEqDiff, sN_add, sN_mul, sN_sub, sN_lt, sN_le, sN_eq, sN_nat, sN_div, sN_mod, sN_1', wN_0, wN_1, wN_2, wN_3, wN_4, wN_5, wN_6, wN_7, wN_8, wN_9, wN_10, wN_11, wN_12, wN_13, wN_14, wN_15, wN_16, wN_17, wN_18, wN_19, wN_20, wN_28, wN_31, wN_32, wN_33, wN_36, wN_40, wN_42, wN_43, wN_44, wN_45, wN_46, wN_47, wN_48, wN_57, wN_61, wN_63, wN_64, wN_66, wN_76, wN_82, wN_84, wN_88, wN_90, wN_100, wN_120, wN_128, wN_200, wN_255, wN_256, wN_512, wN_640, wN_641, wN_1000, wN_1024, wN_10000, wN_100000]
    refine Go_neg (by omega) (Go_pos (by omega) ?_)
    refine Go_mono (g_layOut_0 m (k + 1) (by omega) _ X _ rfl (fun j hj => ?_)) (fun r hr => ⟨hr.1, fr_trans (fr_vup fr_rfl (by decide)) hr.2.1, hr.2.2⟩)
    rw [va_up_self, upd_app]
    by_cases h : j = k
    · rw [if_pos (by omega), h]
    · rw [if_neg (by omega)]; exact hF j (by omega)
theorem g_take_0 (q H : Nat) (hq : q < 16) (hH : H ≤ 16) (f0 : Nat → Int32) : ∀ (m k : Nat), k + m = H → ∀ (lv X : Nat → Int32) (F : Nat → Nat → Int32), lv 2 = sN q → lv 3 = sN k → X 9 = sN H → F 1 = f0 → (∀ j, j < k → F 15 j = f0 (16 * q + (H - 1 - j))) → Go (fun n => L_Fo_takePile_0 n 37 lv X F) (fun r => r.2.1 = X ∧ fr [15] F r.2.2 ∧ ∀ j, j < H → r.2.2 15 j = f0 (16 * q + (H - 1 - j)))
  | 0, k, hm, lv, X, F, l2, l3, hX, h1, hF => by
    refine Go_S ?_
    simp (disch := omega) only [L_Fo_takePile_0, l2, l3, hX, upd_app, vup_app, ↓reduceIte, Nat.reduceEqDiff, sN_add, sN_mul, sN_sub, sN_lt, sN_le, sN_eq, sN_nat, sN_div, sN_mod, sN_1', wN_0, wN_1, wN_2, wN_3, wN_4, wN_5, wN_6, wN_7, wN_8, wN_9, wN_10, wN_11, wN_12, wN_13, wN_14, wN_15, wN_16, wN_17, wN_18, wN_19, wN_20, wN_28, wN_31, wN_32, wN_33, wN_36, wN_40, wN_42, wN_43, wN_44, wN_45, wN_46, wN_47, wN_48, wN_57, wN_61, wN_63, wN_64, wN_66, wN_76, wN_82, wN_84, wN_88, wN_90, wN_100, wN_120, wN_128, wN_200, wN_255, wN_256, wN_512, wN_640, wN_641, wN_1000, wN_1024, wN_10000, wN_100000]
    refine Go_pos (by omega) (Go_ret ⟨rfl, fr_rfl, fun j hj => hF j (by omega)⟩)
  | m + 1, k, hm, lv, X, F, l2, l3, hX, h1, hF => by
    refine Go_S ?_
    simp (disch := omega) only [L_Fo_takePile_0, l2, l3, hX, e_setLeaf_0, Option.bind_some, upd_app, vup_app, ↓reduceIte, Nat.reduceEqDiff, sN_add, sN_mul, sN_sub, sN_lt, sN_le, sN_eq, sN_nat, sN_div, sN_mod, sN_1', wN_0, wN_1, wN_2, wN_3, wN_4, wN_5, wN_6, wN_7, wN_8, wN_9, wN_10, wN_11, wN_12, wN_13, wN_14, wN_15, wN_16, wN_17, wN_18, wN_19, wN_20, wN_28, wN_31, wN_32, wN_33, wN_36, wN_40, wN_42, wN_43, wN_44, wN_45, wN_46, wN_47, wN_48, wN_57, wN_61, wN_63, wN_64, wN_66, wN_76, wN_82, wN_84, wN_88, wN_90, wN_100, wN_120, wN_128, wN_200, wN_255, wN_256, wN_512, wN_640, wN_641, wN_1000, wN_1024, wN_10000, wN_100000]
    refine Go_neg (by omega) (Go_pos (by omega) ?_)
    refine Go_mono (g_take_0 q H hq hH f0 m (k + 1) (by omega) _ X _ rfl rfl hX h1 (fun j hj => ?_)) (fun r hr => ⟨hr.1, fr_trans (fr_vup fr_rfl (by decide)) hr.2.1, hr.2.2⟩)
    rw [va_up_self, upd_app]
    by_cases h : j = k
    · rw [if_pos h, h, h1]; congr 1; omega
    · rw [if_neg h]; exact hF j (by omega)
theorem e_take_0 {c l tp H : Nat} {pl : Pile} {X : Nat → Int32} {F : Nat → Nat → Int32} (hp : pilC c l tp 1 1 H pl X (F 1)) : Go (fun n => f_Fo_takePile_0 n X F) (fun r => r.2.1 = X ∧ fr [15] F r.2.2 ∧ ∀ j, j < H → r.2.2 15 j = sN (pl 0 0 (H - 1 - j))) := by
  obtain ⟨h4, h5, h6, h7, h8, h9, b1, b2, b3, b4, b5, b6, b7, b8, hP⟩ := hp
  have hq : l + c * tp < 16 := in16 (t := tp + 1) (by omega) (by omega) b4
  unfold f_Fo_takePile_0
  simp (disch := omega) only [h4, h5, h6, h9, upd_app, vup_app, ↓reduceIte, Nat.reduceEqDiff, sN_add, sN_mul, sN_sub, sN_lt, sN_le, sN_eq, sN_nat, sN_div, sN_mod, sN_1', wN_0, wN_1, wN_2, wN_3, wN_4, wN_5, wN_6, wN_7, wN_8, wN_9, wN_10, wN_11, wN_12, wN_13, wN_14, wN_15, wN_16, wN_17, wN_18, wN_19, wN_20, wN_28, wN_31, wN_32, wN_33, wN_36, wN_40, wN_42, wN_43, wN_44, wN_45, wN_46, wN_47, wN_48, wN_57, wN_61, wN_63, wN_64, wN_66, wN_76, wN_82, wN_84, wN_88, wN_90, wN_100, wN_120, wN_128, wN_200, wN_255, wN_256, wN_512, wN_640, wN_641, wN_1000, wN_1024, wN_10000, wN_100000]
  refine Go_neg (by omega) (Go_neg (by omega) (Go_pos (by omega) ?_))
  refine Go_mono (g_take_0 (l + c * tp) H hq (by omega) (F 1) H 0 (by omega) _ X F rfl rfl h9 rfl (fun j hj => by omega)) (fun r hr => ⟨hr.1, hr.2.1, fun j hj => ?_⟩)
  rw [hr.2.2 j hj]
  exact hP 0 0 (H - 1 - j) (by omega) (by omega) (by omega)
theorem g_mkb_0 (N : Nat) : ∀ (ls : List Nat) (i w h H : Nat) (pl : Pile) (c l tp : Nat) (lv X : Nat → Int32) (F : Nat → Nat → Int32), i + ls.length ≤ 6 → (∀ x ∈ ls, isLt x) → w * h * H = N → lv 2 = sN i → X 23 = sN (i + ls.length) → (∀ j x, ls[j]? = some x → F 12 (i + j) = sN x) → pilC c l tp w h H pl X (F 1) → Go (fun n => L_Fo_makeBooklet_0 n 20 lv X F) (fun r => fr [4, 5, 6, 7, 8, 9] X r.2.1 ∧ fr [1, 15] F r.2.2 ∧ match foldA ls w h H pl with
    | none => r.1 = 0
    | some p => r.1 = 1 ∧ ∀ k, k < N → r.2.2 15 k = sN (p 0 0 (N - 1 - k)))
  | [], i, w, h, H, pl, c, l, tp, lv, X, F, hi, hL, hN, l2, hX, hF, hp => by
    obtain ⟨h4, h5, h6, h7, h8, h9, b1, b2, b3, b4, b5, b6, b7, b8, hP⟩ := id hp
    simp only [List.length_nil, Nat.add_zero] at hX hi
    refine Go_S ?_
    simp (disch := omega) only [L_Fo_makeBooklet_0, l2, hX, h7, h8, upd_app, vup_app, ↓reduceIte, Nat.reduceEqDiff, sN_add, sN_mul, sN_sub, sN_lt, sN_le, sN_eq, sN_nat, sN_div, sN_mod, sN_1', wN_0, wN_1, wN_2, wN_3, wN_4, wN_5, wN_6, wN_7, wN_8, wN_9, wN_10, wN_11, wN_12, wN_13, wN_14, wN_15, wN_16, wN_17, wN_18, wN_19, wN_20, wN_28, wN_31, wN_32, wN_33, wN_36, wN_40, wN_42, wN_43, wN_44, wN_45, wN_46, wN_47, wN_48, wN_57, wN_61, wN_63, wN_64, wN_66, wN_76, wN_82, wN_84, wN_88, wN_90, wN_100, wN_120, wN_128, wN_200, wN_255, wN_256, wN_512, wN_640, wN_641, wN_1000, wN_1024, wN_10000, wN_100000]
    refine Go_pos (by omega) ?_
    unfold foldA
    refine Go_ite (fun hw => Go_ret ⟨fr_rfl, fr_rfl, ?_⟩) (fun hw => Go_ite (fun hh => ?_) (fun hh => Go_ret ⟨fr_rfl, fr_rfl, ?_⟩))
    · rw [if_neg (fun z => hw z.1)]
    · have hw' := Classical.not_not.mp hw
      subst hw'
      subst hh
      refine Go_bind (e_take_0 hp) (fun q hq => Go_ret ⟨by rw [hq.1]; exact fr_rfl, fr_mono hq.2.1 (by decide), ?_⟩)
      rw [if_pos ⟨rfl, rfl⟩]
      refine ⟨rfl, fun k hk => ?_⟩
      have e : N = H := by omega
      rw [e]
      exact hq.2.2 k (by omega)
    · rw [if_neg (fun z => hh z.2)]
  | x :: ls, i, w, h, H, pl, c, l, tp, lv, X, F, hi, hL, hN, l2, hX, hF, hp => by
    obtain ⟨h4, h5, h6, h7, h8, h9, b1, b2, b3, b4, b5, b6, b7, b8, hP⟩ := id hp
    simp only [List.length_cons] at hX hi
    have hx : F 12 i = sN x := hF 0 x rfl
    have hlx : isLt x := hL x List.mem_cons_self
    refine Go_S ?_
    simp (disch := omega) only [L_Fo_makeBooklet_0, l2, hX, hx, upd_app, vup_app, ↓reduceIte, Nat.reduceEqDiff, sN_add, sN_mul, sN_sub, sN_lt, sN_le, sN_eq, sN_nat, sN_div, sN_mod, sN_1', wN_0, wN_1, wN_2, wN_3, wN_4, wN_5, wN_6, wN_7, wN_8, wN_9, wN_10, wN_11, wN_12, wN_13, wN_14, wN_15, wN_16, wN_17, wN_18, wN_19, wN_20, wN_28, wN_31, wN_32, wN_33, wN_36, wN_40, wN_42, wN_43, wN_44, wN_45, wN_46, wN_47, wN_48, wN_57, wN_61, wN_63, wN_64, wN_66, wN_76, wN_82, wN_84, wN_88, wN_90, wN_100, wN_120, wN_128, wN_200, wN_255, wN_256, wN_512, wN_640, wN_641, wN_1000, wN_1024, wN_10000, wN_100000]
    refine Go_neg (by omega) (Go_neg (by omega) (Go_pos (by omega) ?_))
    refine Go_bind (e_foldOnce hp hlx) (fun q hq => ?_)
    obtain ⟨q1, q2, q3⟩ := hq
    unfold foldA
    by_cases hf : fold1 x w h = true
    · rw [if_pos hf] at q3 ⊢
      obtain ⟨q4, l', tp', q5⟩ := q3
      refine Go_pos (by rw [q4]; decide) ?_
      have hN' : fW x w * fH x h * (2 * H) = N := by
        unfold fold1 at hf
        have hev := beq_iff_eq.mp hf
        unfold fW fH
        split
        · rename_i ha
          rw [if_pos ha] at hev
          have h4 : w = w / 2 * 2 := by omega
          rw [← hN]
          calc w / 2 * h * (2 * H) = w / 2 * 2 * h * H := by rw [Nat.mul_assoc (w / 2) 2 h, Nat.mul_comm 2 h, ← Nat.mul_assoc (w / 2) h 2, Nat.mul_assoc _ 2 H]
            _ = w * h * H := by rw [← h4]
        · rename_i ha
          rw [if_neg ha] at hev
          have h4 : h = h / 2 * 2 := by omega
          rw [← hN]
          calc w * (h / 2) * (2 * H) = w * (h / 2 * 2) * H := by rw [← Nat.mul_assoc w (h / 2) 2, Nat.mul_assoc _ 2 H]
            _ = w * h * H := by rw [← h4]
      refine Go_mono (g_mkb_0 N ls (i + 1) _ _ _ _ c l' tp' _ q.2.1 q.2.2 (by omega) (fun y hy => hL y (List.mem_cons_of_mem _ hy)) hN' rfl ?_ ?_ q5) (fun r hr => ⟨fr_trans q2 hr.1, fr_trans (fr_mono q1 (by decide)) hr.2.1, hr.2.2⟩)
      · rw [q2 23 (by decide), hX]; congr 1; omega
      · intro j y hj
        rw [q1 12 (by decide), show i + 1 + j = i + (j + 1) by omega]
        exact hF (j + 1) y hj
    · rw [if_neg hf] at q3 ⊢
      refine Go_neg (fun z => z q3) (Go_ret ⟨q2, fr_mono q1 (by decide), rfl⟩)
theorem e_mkb_0 (c r : Nat) (ls : List Nat) (hc : 1 ≤ c) (hr : 1 ≤ r) (hc8 : c ≤ 8) (hr8 : r ≤ 8) (hcr : c * r ≤ 16) (X : Nat → Int32) (F : Nat → Nat → Int32) (h6 : ls.length ≤ 6) (hL : ∀ x ∈ ls, isLt x) (hXc : X 21 = sN c) (hXr : X 22 = sN r) (hXn : X 23 = sN ls.length) (hF : ∀ j x, ls[j]? = some x → F 12 j = sN x) : Go (fun n => f_Fo_makeBooklet_0 n X F) (fun q => fr [4, 5, 6, 7, 8, 9] X q.2.1 ∧ fr [1, 15] F q.2.2 ∧ match bkl c r ls with
    | none => q.1 = 0
    | some lf => q.1 = 1 ∧ ∀ k, k < c * r → q.2.2 15 k = sN (lf k)) := by
  unfold f_Fo_makeBooklet_0 f_Sc_isCut_0
  cases ls with
  | nil =>
    refine Go_bind (Q := fun q => q = (1, X, F)) (Go_neg (fun z => z hXn) (Go_ret rfl)) (fun q hq => ?_)
    subst hq
    refine Go_neg (show ¬ (1 : Int32) = 0 by decide) ?_
    unfold f_Fo_cutLeaves_0 f_Sc_cells_0
    refine Go_bind (Go_bind (Go_ret rfl) (fun q hq => ?_)) (fun q (hq : q.2.1 = X ∧ fr [15] F q.2.2 ∧ ∀ j, j < c * r → q.2.2 15 j = sN (4 * j)) => Go_ret ⟨by rw [hq.1]; exact fr_rfl, fr_mono hq.2.1 (by decide), rfl, hq.2.2⟩)
    rw [← hq]
    exact g_cut_0 (c * r) hcr (c * r) 0 (by omega) _ X F (by show X 21 * X 22 = _; rw [hXc, hXr, sN_mul]) rfl (fun j hj => by omega)
  | cons l ls =>
    refine Go_bind (Q := fun q => q = (0, X, F)) (Go_pos (by rw [hXn, wN_0, sN_eq (by omega) (by omega)]; simp) (Go_ret rfl)) (fun q hq => ?_)
    subst hq
    refine Go_pos rfl ?_
    unfold f_Fo_layOut_0
    refine Go_bind (g_layOut_0 16 0 rfl _ _ F rfl (fun j hj => by omega)) (fun q hq => ?_)
    obtain ⟨q1, q2, q3⟩ := hq
    have hp : pilC c 0 0 c r 1 (pl0 c) q.2.1 (q.2.2 1) := by
      rw [q1]
      refine ⟨hXc, rfl, rfl, hXc, hXr, rfl, by omega, by omega, by omega, by rw [Nat.zero_add]; exact hcr, hc, hr, by omega, by omega, fun x y k hx hy hk => ?_⟩
      have : x + c * y < 16 := in16 (t := r) hx hy hcr
      rw [show k = 0 by omega, show 16 * (0 + x + c * (0 + y)) + 0 = 16 * (x + c * y) by rw [Nat.zero_add, Nat.zero_add, Nat.add_zero]]
      exact q3 _ this
    refine Go_mono (g_mkb_0 (c * r) (l :: ls) 0 c r 1 (pl0 c) c 0 0 _ q.2.1 q.2.2 (by omega) hL (by omega) rfl ?_ ?_ hp) (fun z hz => ⟨?_, fr_trans (fr_mono q2 (by decide)) hz.2.1, ?_⟩)
    · rw [q1, Nat.zero_add]; exact hXn
    · intro j x hj
      rw [q2 12 (by decide), Nat.zero_add]; exact hF j x hj
    · refine fr_trans ?_ hz.1
      rw [q1]
      exact fr_upd (fr_upd (fr_upd (fr_upd (fr_upd (fr_upd fr_rfl (by decide)) (by decide)) (by decide)) (by decide)) (by decide)) (by decide)
    · have h3 := hz.2.2
      unfold bkl
      show match Option.map (fun pl k => pl 0 0 (c * r - 1 - k)) (foldA (l :: ls) c r 1 (pl0 c)) with
        | none => z.1 = 0
        | some lf => z.1 = 1 ∧ ∀ k, k < c * r → z.2.2 15 k = sN (lf k)
      cases hA : foldA (l :: ls) c r 1 (pl0 c) with
      | none => rw [hA] at h3; exact h3
      | some p => rw [hA] at h3; exact h3
/-! the booklet of a scheme (object 1) -/
theorem e_setLeaf_1 (k : Nat) (v : Int32) (hk : k < 16) (X : Nat → Int32) (F : Nat → Nat → Int32) (n : Nat) : f_Sc_setLeaf_1 n X F (sN k) v = some (0, X, va_up F 19 (upd (F 19) k v)) := by
  unfold f_Sc_setLeaf_1
  simp (disch := omega) only [sN_add, sN_mul, sN_sub, sN_lt, sN_le, sN_eq, sN_nat, sN_div, sN_mod, sN_1', wN_0, wN_1, wN_2, wN_3, wN_4, wN_5, wN_6, wN_7, wN_8, wN_9, wN_10, wN_11, wN_12, wN_13, wN_14, wN_15, wN_16, wN_17, wN_18, wN_19, wN_20, wN_28, wN_31, wN_32, wN_33, wN_36, wN_40, wN_42, wN_43, wN_44, wN_45, wN_46, wN_47, wN_48, wN_57, wN_61, wN_63, wN_64, wN_66, wN_76, wN_82, wN_84, wN_88, wN_90, wN_100, wN_120, wN_128, wN_200, wN_255, wN_256, wN_512, wN_640, wN_641, wN_1000, wN_1024, wN_10000, wN_100000]
  rw [if_neg (by omega), if_neg (by omega), if_pos (by omega)]
theorem g_cut_1 (N : Nat) (hN : N ≤ 16) : ∀ (m k : Nat), k + m = N → ∀ (lv X : Nat → Int32) (F : Nat → Nat → Int32), lv 1 = sN N → lv 2 = sN k → (∀ j, j < k → F 19 j = sN (4 * j)) → Go (fun n => L_Fo_cutLeaves_1 n 7 lv X F) (fun r => r.2.1 = X ∧ fr [19] F r.2.2 ∧ ∀ j, j < N → r.2.2 19 j = sN (4 * j))
  | 0, k, hm, lv, X, F, l1, l2, hF => by
    refine Go_S ?_
    simp (disch := omega) only [L_Fo_cutLeaves_1, l1, l2, upd_app, vup_app, ↓reduceIte, Nat.reduceEqDiff, sN_add, sN_mul, sN_sub, sN_lt, sN_le, sN_eq, sN_nat, sN_div, sN_mod, sN_1', wN_0, wN_1, wN_2, wN_3, wN_4, wN_5, wN_6, wN_7, wN_8, wN_9, wN_10, wN_11, wN_12, wN_13, wN_14, wN_15, wN_16, wN_17, wN_18, wN_19, wN_20, wN_28, wN_31, wN_32, wN_33, wN_36, wN_40, wN_42, wN_43, wN_44, wN_45, wN_46, wN_47, wN_48, wN_57, wN_61, wN_63, wN_64, wN_66, wN_76, wN_82, wN_84, wN_88, wN_90, wN_100, wN_120, wN_128, wN_200, wN_255, wN_256, wN_512, wN_640, wN_641, wN_1000, wN_1024, wN_10000, wN_100000]
    refine Go_pos (by omega) (Go_ret ⟨rfl, fr_rfl, fun j hj => hF j (by omega)⟩)
  | m + 1, k, hm, lv, X, F, l1, l2, hF => by
    refine Go_S ?_
    simp (disch := omega) only [L_Fo_cutLeaves_1, l1, l2, e_setLeaf_1, Option.bind_some, upd_app, vup_app, ↓reduceIte, Nat.reduceEqDiff, sN_add, sN_mul, sN_sub, sN_lt, sN_le, sN_eq, sN_nat, sN_div, sN_mod, sN_1', wN_0, wN_1, wN_2, wN_3, wN_4, wN_5, wN_6, wN_7, wN_8, wN_9, wN_10, wN_11, wN_12, wN_13, wN_14, wN_15, wN_16, wN_17, wN_18, wN_19, wN_20, wN_28, wN_31, wN_32, wN_33, wN_36, wN_40, wN_42, wN_43, wN_44, wN_45, wN_46, wN_47, wN_48, wN_57, wN_61, wN_63, wN_64, wN_66, wN_76, wN_82, wN_84, wN_88, wN_90, wN_100, wN_120, wN_128, wN_200, wN_255, wN_256, wN_512, wN_640, wN_641, wN_1000, wN_1024, wN_10000, wN_100000]
    refine Go_neg (by omega) ?_
    refine Go_mono (g_cut_1 N hN m (k + 1) (by omega) _ X _ rfl rfl (fun j hj => ?_)) (fun r hr => ⟨hr.1, fr_trans (fr_vup fr_rfl (by decide)) hr.2.1, hr.2.2⟩)
    rw [va_up_self, upd_app]
    by_cases h : j = k
    · rw [if_pos h, h]
    · rw [if_neg h]; exact hF j (by omega)
theorem g_layOut_1 : ∀ (m k : Nat), k + m = 16 → ∀ (lv X : Nat → Int32) (F : Nat → Nat → Int32), lv 2 = sN k → (∀ j, j < k → F 1 (16 * j) = sN (4 * j)) → Go (fun n => L_Fo_layOut_1 n 41 lv X F) (fun r => r.2.1 = X ∧ fr [1] F r.2.2 ∧ ∀ j, j < 16 → r.2.2 1 (16 * j) = sN (4 * j))
  | 0, k, hm, lv, X, F, l2, hF => by
    refine Go_S ?_
    simp (disch := omega) only [L_Fo_layOut_1, l2, upd_app, vup_app, ↓reduceIte, Nat.reduceEqDiff, sN_add, sN_mul, sN_sub, sN_lt, sN_le, sN_eq, sN_nat, sN_div, sN_mod, sN_1', wN_0, wN_1, wN_2, wN_3, wN_4, wN_5, wN_6, wN_7, wN_8, wN_9, wN_10, wN_11, wN_12, wN_13, wN_14, wN_15, wN_16, wN_17, wN_18, wN_19, wN_20, wN_28, wN_31, wN_32, wN_33, wN_36, wN_40, wN_42, wN_43, wN_44, wN_45, wN_46, wN_47, wN_48, wN_57, wN_61, wN_63, wN_64, wN_66, wN_76, wN_82, wN_84, wN_88, wN_90, wN_100, wN_120, wN_128, wN_200, wN_255, wN_256, wN_512, wN_640, wN_641, wN_1000, wN_1024, wN_10000, wN_100000]
    refine Go_pos (by omega) (Go_ret ⟨rfl, fr_rfl, fun j hj => hF j (by omega)⟩)
  | m + 1, k, hm, lv, X, F, l2, hF => by
    refine Go_S ?_
    simp (disch := omega) only [L_Fo_layOut_1, l2, upd_app, vup_app, ↓reduceIte, Nat.reduceEqDiff, sN_add, sN_mul, sN_sub, sN_lt, sN_le, sN_eq, sN_nat, sN_div, sN_mod, sN_1', wN_0, wN_1, wN_2, wN_3, wN_4, wN_5, wN_6, wN_7, wN_8, wN_9, wN_10, wN_11, wN_12, wN_13, wN_14, wN_15, wN_16, wN_17, wN_18, wN_19, wN_20, wN_28, wN_31, wN_32, wN_33, wN_36, wN_40, wN_42, wN_43, wN_44, wN_45, wN_46, wN_47, wN_48, wN_57, wN_61, wN_63, wN_64, wN_66, wN_76, wN_82, wN_84, wN_88, wN_90, wN_100, wN_120, wN_128, wN_200, wN_255, wN_256, wN_512, wN_640, wN_641, wN_1000, wN_1024, wN_10000, wN_100000]
    refine Go_neg (by omega) (Go_pos (by omega) ?_)
    refine Go_mono (g_layOut_1 m (k + 1) (by omega) _ X _ rfl (fun j hj => ?_)) (fun r hr => ⟨hr.1, fr_trans (fr_vup fr_rfl (by decide)) hr.2.1, hr.2.2⟩)
    rw [va_up_self, upd_app]
    by_cases h : j = k
    · rw [if_pos (by omega), h]
    · rw [if_neg (by omega)]; exact hF j (by omega)
theorem g_take_1 (q H : Nat) (hq : q < 16) (hH : H ≤ 16) (f0 : Nat → Int32) : ∀ (m k : Nat), k + m = H → ∀ (lv X : Nat → Int32) (F : Nat → Nat → Int32), lv 2 = sN q → lv 3 = sN k → X 9 = sN H → F 1 = f0 → (∀ j, j < k → F 19 j = f0 (16 * q + (H - 1 - j))) → Go (fun n => L_Fo_takePile_1 n 37 lv X F) (fun r => r.2.1 = X ∧ fr [19] F r.2.2 ∧ ∀ j, j < H → r.2.2 19 j = f0 (16 * q + (H - 1 - j)))
  | 0, k, hm, lv, X, F, l2, l3, hX, h1, hF => by
    refine Go_S ?_
    simp (disch := omega) only [L_Fo_takePile_1, l2, l3, hX, upd_app, vup_app, ↓reduceIte, Nat.reduceEqDiff, sN_add, sN_mul, sN_sub, sN_lt, sN_le, sN_eq, sN_nat, sN_div, sN_mod, sN_1', wN_0, wN_1, wN_2, wN_3, wN_4, wN_5, wN_6, wN_7, wN_8, wN_9, wN_10, wN_11, wN_12, wN_13, wN_14, wN_15, wN_16, wN_17, wN_18, wN_19, wN_20, wN_28, wN_31, wN_32, wN_33, wN_36, wN_40, wN_42, wN_43, wN_44, wN_45, wN_46, wN_47, wN_48, wN_57, wN_61, wN_63, wN_64, wN_66, wN_76, wN_82, wN_84, wN_88, wN_90, wN_100, wN_120, wN_128, wN_200, wN_255, wN_256, wN_512, wN_640, wN_641, wN_1000, wN_1024, wN_10000, wN_100000]
    refine Go_pos (by omega) (Go_ret ⟨rfl, fr_rfl, fun j hj => hF j (by omega)⟩)
  | m + 1, k, hm, lv, X, F, l2, l3, hX, h1, hF => by
    refine Go_S ?_
    simp (disch := omega) only [L_Fo_takePile_1, l2, l3, hX, e_setLeaf_1, Option.bind_some, upd_app, vup_app, ↓reduceIte, Nat.reduceEqDiff, sN_add, sN_mul, sN_sub, sN_lt, sN_le, sN_eq, sN_nat, sN_div, sN_mod, sN_1', wN_0, wN_1, wN_2, wN_3, wN_4, wN_5, wN_6, wN_7, wN_8, wN_9, wN_10, wN_11, wN_12, wN_13, wN_14, wN_15, wN_16, wN_17, wN_18, wN_19, wN_20, wN_28, wN_31, wN_32, wN_33, wN_36, wN_40, wN_42, wN_43, wN_44, wN_45, wN_46, wN_47, wN_48, wN_57, wN_61, wN_63, wN_64, wN_66, wN_76, wN_82, wN_84, wN_88, wN_90, wN_100, wN_120, wN_128, wN_200, wN_255, wN_256, wN_512, wN_640, wN_641, wN_1000, wN_1024, wN_10000, wN_100000]
    refine Go_neg (by omega) (Go_pos (by omega) ?_)
    refine Go_mono (g_take_1 q H hq hH f0 m (k + 1) (by omega) _ X _ rfl rfl hX h1 (fun j hj => ?_)) (fun r hr => ⟨hr.1, fr_trans (fr_vup fr_rfl (by decide)) hr.2.1, hr.2.2⟩)
    rw [va_up_self, upd_app]
    by_cases h : j = k
    · rw [if_pos h, h, h1]; congr 1; omega
    · rw [if_neg h]; exact hF j (by omega)
theorem e_take_1 {c l tp H : Nat} {pl : Pile} {X : Nat → Int32} {F : Nat → Nat → Int32} (hp : pilC c l tp 1 1 H pl X (F 1)) : Go (fun n => f_Fo_takePile_1 n X F) (fun r => r.2.1 = X ∧ fr [19] F r.2.2 ∧ ∀ j, j < H → r.2.2 19 j = sN (pl 0 0 (H - 1 - j))) := by
  obtain ⟨h4, h5, h6, h7, h8, h9, b1, b2, b3, b4, b5, b6, b7, b8, hP⟩ := hp
  have hq : l + c * tp < 16 := in16 (t := tp + 1) (by omega) (by omega) b4
  unfold f_Fo_takePile_1
  simp (disch := omega) only [h4, h5, h6, h9, upd_app, vup_app, ↓reduceIte, Nat.reduceEqDiff, sN_add, sN_mul, sN_sub, sN_lt, sN_le, sN_eq, sN_nat, sN_div, sN_mod, sN_1', wN_0, wN_1, wN_2, wN_3, wN_4, wN_5, wN_6, wN_7, wN_8, wN_9, wN_10, wN_11, wN_12, wN_13, wN_14, wN_15, wN_16, wN_17, wN_18, wN_19, wN_20, wN_28, wN_31, wN_32, wN_33, wN_36, wN_40, wN_42, wN_43, wN_44, wN_45, wN_46, wN_47, wN_48, wN_57, wN_61, wN_63, wN_64, wN_66, wN_76, wN_82, wN_84, wN_88, wN_90, wN_100, wN_120, wN_128, wN_200, wN_255, wN_256, wN_512, wN_640, wN_641, wN_1000, wN_1024, wN_10000, wN_100000]
  refine Go_neg (by omega) (Go_neg (by omega) (Go_pos (by omega) ?_))
  refine Go_mono (g_take_1 (l + c * tp) H hq (by omega) (F 1) H 0 (by omega) _ X F rfl rfl h9 rfl (fun j hj => by omega)) (fun r hr => ⟨hr.1, hr.2.1, fun j hj => ?_⟩)
  rw [hr.2.2 j hj]
  exact hP 0 0 (H - 1 - j) (by omega) (by omega) (by omega)
theorem g_mkb_1 (N : Nat) : ∀ (ls : List Nat) (i w h H : Nat) (pl : Pile) (c l tp : Nat) (lv X : Nat → Int32) (F : Nat → Nat → Int32), i + ls.length ≤ 6 → (∀ x ∈ ls, isLt x) → w * h * H = N → lv 2 = sN i → X 27 = sN (i + ls.length) → (∀ j x, ls[j]? = some x → F 16 (i + j) = sN x) → pilC c l tp w h H pl X (F 1) → Go (fun n => L_Fo_makeBooklet_1 n 20 lv X F) (fun r => fr [4, 5, 6, 7, 8, 9] X r.2.1 ∧ fr [1, 19] F r.2.2 ∧ match foldA ls w h H pl with
    | none => r.1 = 0
    | some p => r.1 = 1 ∧ ∀ k, k < N → r.2.2 19 k = sN (p 0 0 (N - 1 - k)))
  | [], i, w, h, H, pl, c, l, tp, lv, X, F, hi, hL, hN, l2, hX, hF, hp => by
    obtain ⟨h4, h5, h6, h7, h8, h9, b1, b2, b3, b4, b5, b6, b7, b8, hP⟩ := id hp
    simp only [List.length_nil, Nat.add_zero] at hX hi
    refine Go_S ?_
    simp (disch := omega) only [L_Fo_makeBooklet_1, l2, hX, h7, h8, upd_app, vup_app, ↓reduceIte, Nat.reduceEqDiff, sN_add, sN_mul, sN_sub, sN_lt, sN_le, sN_eq, sN_nat, sN_div, sN_mod, sN_1', wN_0, wN_1, wN_2, wN_3, wN_4, wN_5, wN_6, wN_7, wN_8, wN_9, wN_10, wN_11, wN_12, wN_13, wN_14, wN_15, wN_16, wN_17, wN_18, wN_19, wN_20, wN_28, wN_31, wN_32, wN_33, wN_36, wN_40, wN_42, wN_43, wN_44, wN_45, wN_46, wN_47, wN_48, wN_57, wN_61, wN_63, wN_64, wN_66, wN_76, wN_82, wN_84, wN_88, wN_90, wN_100, wN_120, wN_128, wN_200, wN_255, wN_256, wN_512, wN_640, wN_641, wN_1000, wN_1024, wN_10000, wN_100000]
    refine Go_pos (by omega) ?_
    unfold foldA
    refine Go_ite (fun hw => Go_ret ⟨fr_rfl, fr_rfl, ?_⟩) (fun hw => Go_ite (fun hh => ?_) (fun hh => Go_ret ⟨fr_rfl, fr_rfl, ?_⟩))
    · rw [if_neg (fun z => hw z.1)]
    · have hw' := Classical.not_not.mp hw
      subst hw'
      subst hh
      refine Go_bind (e_take_1 hp) (fun q hq => Go_ret ⟨by rw [hq.1]; exact fr_rfl, fr_mono hq.2.1 (by decide), ?_⟩)
      rw [if_pos ⟨rfl, rfl⟩]
      refine ⟨rfl, fun k hk => ?_⟩
      have e : N = H := by omega
      rw [e]
      exact hq.2.2 k (by omega)
    · rw [if_neg (fun z => hh z.2)]
  | x :: ls, i, w, h, H, pl, c, l, tp, lv, X, F, hi, hL, hN, l2, hX, hF, hp => by
    obtain ⟨h4, h5, h6, h7, h8, h9, b1, b2, b3, b4, b5, b6, b7, b8, hP⟩ := id hp
    simp only [List.length_cons] at hX hi
    have hx : F 16 i = sN x := hF 0 x rfl
    have hlx : isLt x := hL x List.mem_cons_self
    refine Go_S ?_
    simp (disch := omega) only [L_Fo_makeBooklet_1, l2, hX, hx, upd_app, vup_app, ↓reduceIte, Nat.reduceEqDiff, sN_add, sN_mul, sN_sub, sN_lt, sN_le, sN_eq, sN_nat, sN_div, sN_mod, sN_1', wN_0, wN_1, wN_2, wN_3, wN_4, wN_5, wN_6, wN_7, wN_8, wN_9, wN_10, wN_11, wN_12, wN_13, wN_14, wN_15, wN_16, wN_17, wN_18, wN_19, wN_20, wN_28, wN_31, wN_32, wN_33, wN_36, wN_40, wN_42, wN_43, wN_44, wN_45, wN_46, wN_47, wN_48, wN_57, wN_61, wN_63, wN_64, wN_66, wN_76, wN_82, wN_84, wN_88, wN_90, wN_100, wN_120, wN_128, wN_200, wN_255, wN_256, wN_512, wN_640, wN_641, wN_1000, wN_1024, wN_10000, wN_100000]
    refine Go_neg (by omega) (Go_neg (by omega) (Go_pos (by omega) ?_))
    refine Go_bind (e_foldOnce hp hlx) (fun q hq => ?_)
    obtain ⟨q1, q2, q3⟩ := hq
    unfold foldA
    by_cases hf : fold1 x w h = true
    · rw [if_pos hf] at q3 ⊢
      obtain ⟨q4, l', tp', q5⟩ := q3
      refine Go_pos (by rw [q4]; decide) ?_
      have hN' : fW x w * fH x h * (2 * H) = N := by
        unfold fold1 at hf
        have hev := beq_iff_eq.mp hf
        unfold fW fH
        split
        · rename_i ha
          rw [if_pos ha] at hev
          have h4 : w = w / 2 * 2 := by omega
          rw [← hN]
          calc w / 2 * h * (2 * H) = w / 2 * 2 * h * H := by rw [Nat.mul_assoc (w / 2) 2 h, Nat.mul_comm 2 h, ← Nat.mul_assoc (w / 2) h 2, Nat.mul_assoc _ 2 H]
            _ = w * h * H := by rw [← h4]
        · rename_i ha
          rw [if_neg ha] at hev
          have h4 : h = h / 2 * 2 := by omega
          rw [← hN]
          calc w * (h / 2) * (2 * H) = w * (h / 2 * 2) * H := by rw [← Nat.mul_assoc w (h / 2) 2, Nat.mul_assoc _ 2 H]
            _ = w * h * H := by rw [← h4]
      refine Go_mono (g_mkb_1 N ls (i + 1) _ _ _ _ c l' tp' _ q.2.1 q.2.2 (by omega) (fun y hy => hL y (List.mem_cons_of_mem _ hy)) hN' rfl ?_ ?_ q5) (fun r hr => ⟨fr_trans q2 hr.1, fr_trans (fr_mono q1 (by decide)) hr.2.1, hr.2.2⟩)
      · rw [q2 27 (by decide), hX]; congr 1; omega
      · intro j y hj
        rw [q1 16 (by decide), show i + 1 + j = i + (j + 1) by omega]
        exact hF (j + 1) y hj
    · rw [if_neg hf] at q3 ⊢
      refine Go_neg (fun z => z q3) (Go_ret ⟨q2, fr_mono q1 (by decide), rfl⟩)
theorem e_mkb_1 (c r : Nat) (ls : List Nat) (hc : 1 ≤ c) (hr : 1 ≤ r) (hc8 : c ≤ 8) (hr8 : r ≤ 8) (hcr : c * r ≤ 16) (X : Nat → Int32) (F : Nat → Nat → Int32) (h6 : ls.length ≤ 6) (hL : ∀ x ∈ ls, isLt x) (hXc : X 25 = sN c) (hXr : X 26 = sN r) (hXn : X 27 = sN ls.length) (hF : ∀ j x, ls[j]? = some x → F 16 j = sN x) : Go (fun n => f_Fo_makeBooklet_1 n X F) (fun q => fr [4, 5, 6, 7, 8, 9] X q.2.1 ∧ fr [1, 19] F q.2.2 ∧ match bkl c r ls with
    | none => q.1 = 0
    | some lf => q.1 = 1 ∧ ∀ k, k < c * r → q.2.2 19 k = sN (lf k)) := by
  unfold f_Fo_makeBooklet_1 f_Sc_isCut_1
  cases ls with
  | nil =>
    refine Go_bind (Q := fun q => q = (1, X, F)) (Go_neg (fun z => z hXn) (Go_ret rfl)) (fun q hq => ?_)
    subst hq
    refine Go_neg (show ¬ (1 : Int32) = 0 by decide) ?_
    unfold f_Fo_cutLeaves_1 f_Sc_cells_1
    refine Go_bind (Go_bind (Go_ret rfl) (fun q hq => ?_)) (fun q (hq : q.2.1 = X ∧ fr [19] F q.2.2 ∧ ∀ j, j < c * r → q.2.2 19 j = sN (4 * j)) => Go_ret ⟨by rw [hq.1]; exact fr_rfl, fr_mono hq.2.1 (by decide), rfl, hq.2.2⟩)
    rw [← hq]
    exact g_cut_1 (c * r) hcr (c * r) 0 (by omega) _ X F (by show X 25 * X 26 = _; rw [hXc, hXr, sN_mul]) rfl (fun j hj => by omega)
  | cons l ls =>
    refine Go_bind (Q := fun q => q = (0, X, F)) (Go_pos (by rw [hXn, wN_0, sN_eq (by omega) (by omega)]; simp) (Go_ret rfl)) (fun q hq => ?_)
    subst hq
    refine Go_pos rfl ?_
    unfold f_Fo_layOut_1
    refine Go_bind (g_layOut_1 16 0 rfl _ _ F rfl (fun j hj => by omega)) (fun q hq => ?_)
    obtain ⟨q1, q2, q3⟩ := hq
    have hp : pilC c 0 0 c r 1 (pl0 c) q.2.1 (q.2.2 1) := by
      rw [q1]
      refine ⟨hXc, rfl, rfl, hXc, hXr, rfl, by omega, by omega, by omega, by rw [Nat.zero_add]; exact hcr, hc, hr, by omega, by omega, fun x y k hx hy hk => ?_⟩
      have : x + c * y < 16 := in16 (t := r) hx hy hcr
      rw [show k = 0 by omega, show 16 * (0 + x + c * (0 + y)) + 0 = 16 * (x + c * y) by rw [Nat.zero_add, Nat.zero_add, Nat.add_zero]]
      exact q3 _ this
    refine Go_mono (g_mkb_1 (c * r) (l :: ls) 0 c r 1 (pl0 c) c 0 0 _ q.2.1 q.2.2 (by omega) hL (by omega) rfl ?_ ?_ hp) (fun z hz => ⟨?_, fr_trans (fr_mono q2 (by decide)) hz.2.1, ?_⟩)
    · rw [q1, Nat.zero_add]; exact hXn
    · intro j x hj
      rw [q2 16 (by decide), Nat.zero_add]; exact hF j x hj
    · refine fr_trans ?_ hz.1
      rw [q1]
      exact fr_upd (fr_upd (fr_upd (fr_upd (fr_upd (fr_upd fr_rfl (by decide)) (by decide)) (by decide)) (by decide)) (by decide)) (by decide)
    · have h3 := hz.2.2
      unfold bkl
      show match Option.map (fun pl k => pl 0 0 (c * r - 1 - k)) (foldA (l :: ls) c r 1 (pl0 c)) with
        | none => z.1 = 0
        | some lf => z.1 = 1 ∧ ∀ k, k < c * r → z.2.2 19 k = sN (lf k)
      cases hA : foldA (l :: ls) c r 1 (pl0 c) with
      | none => rw [hA] at h3; exact h3
      | some p => rw [hA] at h3; exact h3
