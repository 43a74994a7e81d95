/-! reading numbers -/
def fr {α : Type} (S : List Nat) (X X' : Nat → α) : Prop := ∀ k, k ∉ S → X' k = X k
theorem fr_rfl {α : Type} {S : List Nat} {X : Nat → α} : fr S X X := fun _ _ => rfl
theorem fr_trans {α : Type} {S : List Nat} {X Y Z : Nat → α} (h : fr S X Y) (k : fr S Y Z) : fr S X Z := fun j hj => (k j hj).trans (h j hj)
theorem fr_mono {α : Type} {S T : List Nat} {X Y : Nat → α} (h : fr S X Y) (hs : ∀ k ∈ S, k ∈ T) : fr T X Y := fun j hj => h j (fun z => hj (hs j z))
theorem fr_upd {S : List Nat} {X Y : Nat → Int32} {k : Nat} {v : Int32} (h : fr S X Y) (hk : k ∈ S) : fr S X (upd Y k v) := fun j hj => by
  rw [upd_app, if_neg (fun z => hj (by rw [z]; exact hk))]; exact h j hj
theorem fr_vup {α : Type} {S : List Nat} {X Y : Nat → α} {k : Nat} {v : α} (h : fr S X Y) (hk : k ∈ S) : fr S X (va_up Y k v) := fun j hj => by
  rw [vup_app, if_neg (fun z => hj (by rw [z]; exact hk))]; exact h j hj
theorem sN_nm {a b : Nat} (h : a < 2147483648) (hb : 0 < b) (hb2 : b < 2147483648) : (sN a = -sN b) = False := by
  rw [sN_sI, sN_sI, sI_neg, sI_eq (by omega) (by omega) (by omega) (by omega)]
  exact propext ⟨fun z => by omega, False.elim⟩
theorem sN_mn {a b : Nat} (h : a < 2147483648) (hb : 0 < b) (hb2 : b < 2147483648) : (-sN b = sN a) = False := by
  rw [sN_sI, sN_sI, sI_neg, sI_eq (by omega) (by omega) (by omega) (by omega)]
  exact propext ⟨fun z => by omega, False.elim⟩
/-- a letter, 1000 behind the end -/
def cw (c : Nat) : Int32 := if c = 1000 then -1 else sN c
def tapeOK (t : Nat → Nat) (x0 : Int32) (f0 : Nat → Int32) : Prop := ∃ s : Nat, s ≤ 200 ∧ x0 = sN s ∧ (∀ p, p < s → t p < 256 ∧ f0 p = sN (t p)) ∧ ∀ p, s ≤ p → t p = 1000
theorem tk_r {t : Nat → Nat} {x0 : Int32} {f0 : Nat → Int32} (h : tapeOK t x0 f0) (p : Nat) : t p < 256 ∨ t p = 1000 := by
  obtain ⟨s, -, -, h1, h2⟩ := h
  by_cases hp : p < s
  · exact Or.inl (h1 p hp).1
  · exact Or.inr (h2 p (by omega))
theorem cw_eq {c k : Nat} (h : c < 256 ∨ c = 1000) (hk : k < 256) : (cw c = sN k) = (c = k) := by
  unfold cw
  rcases h with h | h
  · rw [if_neg (by omega), sN_eq (by omega) (by omega)]
  · rw [if_pos h]
    exact propext ⟨fun z => absurd z (by have := sN_mn (a := k) (b := 1) (by omega) (by omega) (by omega); intro z; rw [← this]; exact z), fun z => by omega⟩
theorem cw_lt {c k : Nat} (h : c < 256 ∨ c = 1000) (hk : k < 256) : (cw c < sN k) = (c < k ∨ c = 1000) := by
  unfold cw
  rcases h with h | h
  · rw [if_neg (by omega), sN_lt (by omega) (by omega)]; exact propext ⟨Or.inl, fun z => by omega⟩
  · rw [if_pos h, show (-1 : Int32) = sI (-1) from rfl, sN_sI, sI_lt (by omega) (by omega) (by omega) (by omega)]
    exact propext ⟨fun _ => Or.inr h, fun _ => by omega⟩
theorem cw_gt {c k : Nat} (h : c < 256 ∨ c = 1000) (hk : k < 256) : (sN k < cw c) = (k < c ∧ c ≠ 1000) := by
  unfold cw
  rcases h with h | h
  · rw [if_neg (by omega), sN_lt (by omega) (by omega)]; exact propext ⟨fun z => by omega, fun z => by omega⟩
  · rw [if_pos h, show (-1 : Int32) = sI (-1) from rfl, sN_sI, sI_lt (by omega) (by omega) (by omega) (by omega)]
    exact propext ⟨fun _ => by omega, fun _ => by omega⟩
theorem cw_m1 {c : Nat} (h : c < 256 ∨ c = 1000) : (cw c = -sN 1) = (c = 1000) := by
  unfold cw
  rcases h with h | h
  · rw [if_neg (by omega), sN_nm (by omega) (by omega) (by omega)]; exact propext ⟨False.elim, fun z => by omega⟩
  · rw [if_pos h]; exact propext ⟨fun _ => h, fun _ => rfl⟩
theorem cw_dig {c : Nat} (h : c < 256 ∨ c = 1000) : (f_Re_isDigit (cw c) = sN 0) = ¬ (48 ≤ c ∧ c ≤ 57) := by
  unfold f_Re_isDigit
  simp (disch := omega) only [wN_48, wN_57, cw_lt h, cw_gt h]
  by_cases h1 : c < 48 ∨ c = 1000
  · rw [if_pos h1]; exact propext ⟨fun _ => by omega, fun _ => rfl⟩
  · rw [if_neg h1]
    by_cases h2 : 57 < c ∧ c ≠ 1000
    · rw [if_pos h2]; exact propext ⟨fun _ => by omega, fun _ => rfl⟩
    · rw [if_neg h2]; exact propext ⟨fun z => absurd z (by decide), fun z => absurd (by omega) z⟩
theorem cw_fold {c : Nat} (h : c < 256 ∨ c = 1000) : (f_Re_isFold (cw c) = sN 0) = ¬ (c = 82 ∨ c = 76 ∨ c = 84 ∨ c = 66) := by
  unfold f_Re_isFold
  simp (disch := omega) only [wN_82, wN_76, wN_84, wN_66, cw_eq h]
  by_cases h1 : c = 82
  · rw [if_pos h1]; exact propext ⟨fun z => absurd z (by decide), fun z => absurd (Or.inl h1) z⟩
  · rw [if_neg h1]
    by_cases h2 : c = 76
    · rw [if_pos h2]; exact propext ⟨fun z => absurd z (by decide), fun z => absurd (by omega) z⟩
    · rw [if_neg h2]
      by_cases h3 : c = 84
      · rw [if_pos h3]; exact propext ⟨fun z => absurd z (by decide), fun z => absurd (by omega) z⟩
      · rw [if_neg h3]
        by_cases h4 : c = 66
        · rw [if_neg (fun z => z h4)]; exact propext ⟨fun z => absurd z (by decide), fun z => absurd (by omega) z⟩
        · rw [if_pos h4]; exact propext ⟨fun _ => by omega, fun _ => rfl⟩
theorem tk_next {t : Nat → Nat} {X : Nat → Int32} {F : Nat → Nat → Int32} {p : Nat} (h : tapeOK t (X 0) (F 0)) (hp : X 1 = sN p) (hr : p < 10000) : f_Re_next X F = cw (t p) := by
  obtain ⟨s, h0, h1, h2, h3⟩ := h
  unfold f_Re_next f_Ta_byteAt
  simp (disch := omega) only [hp, h1, wN_0, sN_lt, sN_le, sN_nat, Nat.not_lt_zero, ↓reduceIte]
  by_cases hs : s ≤ p
  · rw [if_pos hs, h3 p hs]; rfl
  · have := h2 p (by omega)
    rw [if_neg hs, this.2]; unfold cw; rw [if_neg (by omega)]
theorem tk_byteAt {t : Nat → Nat} {Y : Nat → Int32} {G : Nat → Nat → Int32} {p : Nat} (h : tapeOK t (Y 2) (G 0)) (hp : Y 3 = sN p) (hr : p < 10000) : f_Mo_byteAt Y G = cw (t p) := by
  obtain ⟨s, h0, h1, h2, h3⟩ := h
  unfold f_Mo_byteAt
  simp (disch := omega) only [hp, h1, sN_le, sN_nat]
  by_cases hs : s ≤ p
  · rw [if_pos hs, h3 p hs]; rfl
  · have := h2 p (by omega)
    rw [if_neg hs, this.2]; unfold cw; rw [if_neg (by omega)]
/-- a number: where it is wrong, or its value and the place behind it -/
def nuL (t : Nat → Nat) (most p0 : Nat) : Nat → Nat → Nat → Nat ⊕ (Nat × Nat)
  | 0, p, v => if 48 ≤ t p ∧ t p ≤ 57 then .inl p else if p = p0 then .inl p else if 1 ≤ v ∧ v ≤ most then .inr (v, p) else .inl p0
  | m + 1, p, v => if 48 ≤ t p ∧ t p ≤ 57 then nuL t most p0 m (p + 1) (10 * v + (t p - 48)) else if p = p0 then .inl p else if 1 ≤ v ∧ v ≤ most then .inr (v, p) else .inl p0
def nuS (t : Nat → Nat) (most p0 : Nat) : Nat ⊕ (Nat × Nat) := nuL t most p0 3 p0 0
/-- how a reader of the class ends -/
def rdC (X : Nat → Int32) (F : Nat → Nat → Int32) (z : Nat ⊕ (Nat × Nat)) (r : Int32 × (Nat → Int32) × (Nat → Nat → Int32)) : Prop :=
  r.2.2 = F ∧ fr [1, 2, 3] X r.2.1 ∧ match z with
  | .inl w => r.1 = 0 ∧ r.2.1 2 = sN w
  | .inr q => r.1 = 1 ∧ r.2.1 3 = sN q.1 ∧ r.2.1 1 = sN q.2
theorem tk_in {t : Nat → Nat} {X : Nat → Int32} {F : Nat → Nat → Int32} {p : Nat} (h : tapeOK t (X 0) (F 0)) (hp : X 1 = sN p) (hr : p < 10000) : ¬ (¬ (((X 1)) < 0)) ∨ (¬ (¬ ((((X 0))) ≤ ((X 1)))) ∨ ¬ (((X 1)) < 0 ∨ 200 ≤ ((X 1)).toNatClampNeg)) := by
  obtain ⟨s, h0, h1, h2, h3⟩ := h
  simp (disch := omega) only [hp, h1, sN_add, sN_mul, sN_sub, sN_lt, sN_le, sN_eq, sN_nat, sN_div, sN_mod, sN_1', wN_0, wN_1, wN_2, wN_3, wN_4, wN_5, wN_6, wN_7, wN_8, wN_9, wN_10, wN_11, wN_12, wN_13, wN_14, wN_15, wN_16, wN_17, wN_18, wN_19, wN_20, wN_28, wN_31, wN_32, wN_33, wN_36, wN_40, wN_42, wN_43, wN_44, wN_45, wN_46, wN_47, wN_48, wN_57, wN_61, wN_63, wN_64, wN_66, wN_76, wN_82, wN_84, wN_88, wN_90, wN_100, wN_120, wN_128, wN_200, wN_255, wN_256, wN_512, wN_640, wN_641, wN_1000, wN_1024, wN_10000, wN_100000]
  omega
theorem tk_inM {t : Nat → Nat} {Y : Nat → Int32} {G : Nat → Nat → Int32} {p : Nat} (h : tapeOK t (Y 2) (G 0)) (hp : Y 3 = sN p) (hr : p < 10000) : ¬ (¬ (Y 2 ≤ Y 3)) ∨ ¬ (Y 3 < 0 ∨ 200 ≤ (Y 3).toNatClampNeg) := by
  obtain ⟨s, h0, h1, h2, h3⟩ := h
  simp (disch := omega) only [hp, h1, sN_add, sN_mul, sN_sub, sN_lt, sN_le, sN_eq, sN_nat, sN_div, sN_mod, sN_1', wN_0, wN_1, wN_2, wN_3, wN_4, wN_5, wN_6, wN_7, wN_8, wN_9, wN_10, wN_11, wN_12, wN_13, wN_14, wN_15, wN_16, wN_17, wN_18, wN_19, wN_20, wN_28, wN_31, wN_32, wN_33, wN_36, wN_40, wN_42, wN_43, wN_44, wN_45, wN_46, wN_47, wN_48, wN_57, wN_61, wN_63, wN_64, wN_66, wN_76, wN_82, wN_84, wN_88, wN_90, wN_100, wN_120, wN_128, wN_200, wN_255, wN_256, wN_512, wN_640, wN_641, wN_1000, wN_1024, wN_10000, wN_100000]
  omega
theorem g_readNumber (t : Nat → Nat) (most p0 : Nat) (hp0 : p0 < 1000) (hmo : most < 1000000) : ∀ (m p v : Nat), (m = 3 ∧ v < 1) ∨ (m = 2 ∧ v < 10) ∨ (m = 1 ∧ v < 100) ∨ (m = 0 ∧ v < 1000) → p + m = p0 + 3 → ∀ (lv X : Nat → Int32) (F : Nat → Nat → Int32), lv 1 = sN most → lv 2 = sN p0 → lv 3 = sN (3 - m) → X 1 = sN p → X 3 = sN v → tapeOK t (X 0) (F 0) → Go (fun n => L_Re_readNumber n 12 lv X F) (rdC X F (nuL t most p0 m p v)) := by
  intro m
  induction m with
  | zero =>
    intro p v hv hp lv X F h1 h2 h3 hX1 hX3 hT
    have hn := tk_next hT hX1 (by omega)
    have hi := tk_in hT hX1 (by omega)
    have hr := tk_r hT p
    refine Go_S ?_
    simp (disch := omega) only [L_Re_readNumber, h1, h2, h3, hn, hX3, cw_dig hr, ↓reduceIte, sN_add, sN_mul, sN_sub, sN_lt, sN_le, sN_eq, sN_nat, sN_div, sN_mod, sN_1', wN_0, wN_1, wN_2, wN_3, wN_4, wN_5, wN_6, wN_7, wN_8, wN_9, wN_10, wN_11, wN_12, wN_13, wN_14, wN_15, wN_16, wN_17, wN_18, wN_19, wN_20, wN_28, wN_31, wN_32, wN_33, wN_36, wN_40, wN_42, wN_43, wN_44, wN_45, wN_46, wN_47, wN_48, wN_57, wN_61, wN_63, wN_64, wN_66, wN_76, wN_82, wN_84, wN_88, wN_90, wN_100, wN_120, wN_128, wN_200, wN_255, wN_256, wN_512, wN_640, wN_641, wN_1000, wN_1024, wN_10000, wN_100000]
    refine Go_pos (by omega) (Go_neg (by rw [hX1, sN_eq (by omega) (by omega)]; omega) (Go_pos (by simpa only [sN_add, sN_mul, sN_sub, sN_lt, sN_le, sN_eq, sN_nat, sN_div, sN_mod, sN_1', wN_0, wN_1, wN_2, wN_3, wN_4, wN_5, wN_6, wN_7, wN_8, wN_9, wN_10, wN_11, wN_12, wN_13, wN_14, wN_15, wN_16, wN_17, wN_18, wN_19, wN_20, wN_28, wN_31, wN_32, wN_33, wN_36, wN_40, wN_42, wN_43, wN_44, wN_45, wN_46, wN_47, wN_48, wN_57, wN_61, wN_63, wN_64, wN_66, wN_76, wN_82, wN_84, wN_88, wN_90, wN_100, wN_120, wN_128, wN_200, wN_255, wN_256, wN_512, wN_640, wN_641, wN_1000, wN_1024, wN_10000, wN_100000] using hi) ?_))
    unfold nuL
    refine Go_ite (fun hd => ?_) (fun hd => ?_)
    · rw [if_neg hd, if_neg (by omega)]
      refine Go_ite (fun hl => ?_) (fun hl => Go_ite (fun hl2 => ?_) (fun hl2 => ?_))
      · rw [if_neg (by omega)]
        exact Go_bind (Go_ret rfl) (fun q hq => by rw [← hq]; exact Go_pos rfl (Go_ret ⟨rfl, fr_upd fr_rfl (by decide), rfl, rfl⟩))
      · rw [if_pos (by omega)]
        exact Go_ret ⟨rfl, fr_rfl, rfl, hX3, hX1⟩
      · rw [if_neg (by omega)]
        exact Go_bind (Go_ret rfl) (fun q hq => by rw [← hq]; exact Go_pos rfl (Go_ret ⟨rfl, fr_upd fr_rfl (by decide), rfl, rfl⟩))
    · rw [if_pos (Classical.not_not.mp hd)]
      exact Go_bind (Go_ret rfl) (fun q hq => by rw [← hq]; exact Go_pos (Or.inl rfl) (Go_ret ⟨rfl, fr_upd fr_rfl (by decide), rfl, hX1⟩))
  | succ m ih =>
    intro p v hv hp lv X F h1 h2 h3 hX1 hX3 hT
    have hn := tk_next hT hX1 (by omega)
    have hi := tk_in hT hX1 (by omega)
    have hr := tk_r hT p
    refine Go_S ?_
    simp (disch := omega) only [L_Re_readNumber, h1, h2, h3, hn, hX3, cw_dig hr, ↓reduceIte, sN_add, sN_mul, sN_sub, sN_lt, sN_le, sN_eq, sN_nat, sN_div, sN_mod, sN_1', wN_0, wN_1, wN_2, wN_3, wN_4, wN_5, wN_6, wN_7, wN_8, wN_9, wN_10, wN_11, wN_12, wN_13, wN_14, wN_15, wN_16, wN_17, wN_18, wN_19, wN_20, wN_28, wN_31, wN_32, wN_33, wN_36, wN_40, wN_42, wN_43, wN_44, wN_45, wN_46, wN_47, wN_48, wN_57, wN_61, wN_63, wN_64, wN_66, wN_76, wN_82, wN_84, wN_88, wN_90, wN_100, wN_120, wN_128, wN_200, wN_255, wN_256, wN_512, wN_640, wN_641, wN_1000, wN_1024, wN_10000, wN_100000]
    refine Go_neg (by omega) (Go_pos (by simpa only [sN_add, sN_mul, sN_sub, sN_lt, sN_le, sN_eq, sN_nat, sN_div, sN_mod, sN_1', wN_0, wN_1, wN_2, wN_3, wN_4, wN_5, wN_6, wN_7, wN_8, wN_9, wN_10, wN_11, wN_12, wN_13, wN_14, wN_15, wN_16, wN_17, wN_18, wN_19, wN_20, wN_28, wN_31, wN_32, wN_33, wN_36, wN_40, wN_42, wN_43, wN_44, wN_45, wN_46, wN_47, wN_48, wN_57, wN_61, wN_63, wN_64, wN_66, wN_76, wN_82, wN_84, wN_88, wN_90, wN_100, wN_120, wN_128, wN_200, wN_255, wN_256, wN_512, wN_640, wN_641, wN_1000, wN_1024, wN_10000, wN_100000] using hi) ?_)
    unfold nuL
    refine Go_ite (fun hd => ?_) (fun hd => Go_pos (by simpa only [sN_add, sN_mul, sN_sub, sN_lt, sN_le, sN_eq, sN_nat, sN_div, sN_mod, sN_1', wN_0, wN_1, wN_2, wN_3, wN_4, wN_5, wN_6, wN_7, wN_8, wN_9, wN_10, wN_11, wN_12, wN_13, wN_14, wN_15, wN_16, wN_17, wN_18, wN_19, wN_20, wN_28, wN_31, wN_32, wN_33, wN_36, wN_40, wN_42, wN_43, wN_44, wN_45, wN_46, wN_47, wN_48, wN_57, wN_61, wN_63, wN_64, wN_66, wN_76, wN_82, wN_84, wN_88, wN_90, wN_100, wN_120, wN_128, wN_200, wN_255, wN_256, wN_512, wN_640, wN_641, wN_1000, wN_1024, wN_10000, wN_100000] using hi) ?_)
    · rw [if_neg hd]
      refine Go_ite (fun he => ?_) (fun he => ?_)
      · rw [hX1, sN_eq (by omega) (by omega)] at he
        rw [if_pos he]
        exact Go_bind (Go_ret rfl) (fun q hq => by rw [← hq]; exact Go_pos (Or.inl rfl) (Go_ret ⟨rfl, fr_upd fr_rfl (by decide), rfl, hX1⟩))
      · rw [hX1, sN_eq (by omega) (by omega)] at he
        rw [if_neg he]
        refine Go_pos (by simpa only [sN_add, sN_mul, sN_sub, sN_lt, sN_le, sN_eq, sN_nat, sN_div, sN_mod, sN_1', wN_0, wN_1, wN_2, wN_3, wN_4, wN_5, wN_6, wN_7, wN_8, wN_9, wN_10, wN_11, wN_12, wN_13, wN_14, wN_15, wN_16, wN_17, wN_18, wN_19, wN_20, wN_28, wN_31, wN_32, wN_33, wN_36, wN_40, wN_42, wN_43, wN_44, wN_45, wN_46, wN_47, wN_48, wN_57, wN_61, wN_63, wN_64, wN_66, wN_76, wN_82, wN_84, wN_88, wN_90, wN_100, wN_120, wN_128, wN_200, wN_255, wN_256, wN_512, wN_640, wN_641, wN_1000, wN_1024, wN_10000, wN_100000] using hi) (Go_pos hd ?_)
        refine Go_ite (fun hl => ?_) (fun hl => Go_ite (fun hl2 => ?_) (fun hl2 => ?_))
        · rw [if_neg (by omega)]
          exact Go_bind (Go_ret rfl) (fun q hq => by rw [← hq]; exact Go_pos rfl (Go_ret ⟨rfl, fr_upd fr_rfl (by decide), rfl, rfl⟩))
        · rw [if_pos (by omega)]
          exact Go_ret ⟨rfl, fr_rfl, rfl, hX3, hX1⟩
        · rw [if_neg (by omega)]
          exact Go_bind (Go_ret rfl) (fun q hq => by rw [← hq]; exact Go_pos rfl (Go_ret ⟨rfl, fr_upd fr_rfl (by decide), rfl, rfl⟩))
    · rw [if_pos (Classical.not_not.mp hd)]
      have hd' := Classical.not_not.mp hd
      refine Go_mono (ih (p + 1) (10 * v + (t p - 48)) (by omega) (by omega) _ _ F rfl rfl ?_ ?_ ?_ hT) (fun r hr2 => ?_)
      · show sN _ = sN _; congr 1; omega
      · show X 1 + 1 = _; rw [hX1]; exact sN_add p 1
      · show sN (10 * v) + cw (t p) - sN 48 = _
        unfold cw
        rw [if_neg (by omega), sN_add, sN_sub (by omega)]; congr 1; omega
      · obtain ⟨a, b, c⟩ := hr2
        exact ⟨a, fr_trans (fr_upd (fr_upd fr_rfl (by decide)) (by decide)) b, c⟩
theorem e_readNumber (t : Nat → Nat) (most p0 : Nat) (hp0 : p0 < 1000) (hmo : most < 1000000) (X : Nat → Int32) (F : Nat → Nat → Int32) (h1 : X 1 = sN p0) (hT : tapeOK t (X 0) (F 0)) : Go (fun n => f_Re_readNumber n X F (sN most)) (rdC X F (nuS t most p0)) := by
  unfold f_Re_readNumber
  refine Go_mono (g_readNumber t most p0 hp0 hmo 3 p0 0 (by omega) rfl _ (upd X 3 0) F rfl h1 rfl h1 rfl hT) (fun r hr => ?_)
  obtain ⟨a, b, c⟩ := hr
  exact ⟨a, fr_trans (fr_upd fr_rfl (by decide)) b, c⟩
