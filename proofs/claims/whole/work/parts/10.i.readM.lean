/-! the model reads a scheme -/
def rgt : List Nat → Nat → Nat → Bool
  | [], w, h => decide (w = 1) && decide (h = 1)
  | l :: ls, w, h => fold1 l w h && rgt ls (fW l w) (fH l h)
theorem rgt_foldA : ∀ (ls : List Nat) (w h H : Nat) (pl : Pile), (foldA ls w h H pl).isSome = rgt ls w h
  | [], w, h, H, pl => by
    unfold foldA rgt
    by_cases h1 : w = 1 ∧ h = 1
    · rw [if_pos h1]; simp [h1]
    · rw [if_neg h1]; by_cases h2 : w = 1 <;> by_cases h3 : h = 1 <;> simp_all
  | l :: ls, w, h, H, pl => by
    unfold foldA rgt
    by_cases h1 : fold1 l w h = true
    · rw [if_pos h1, h1, rgt_foldA]; rfl
    · rw [if_neg h1]; simp at h1; rw [h1]; rfl
theorem bkl_rgt (c r : Nat) (ls : List Nat) : (bkl c r ls).isSome = (decide (ls.length = 0) || rgt ls c r) := by
  cases ls with
  | nil => rfl
  | cons l t =>
    unfold bkl
    rw [Option.isSome_map, rgt_foldA]
    simp
theorem g_areRight (ls0 : List Nat) (c r N : Nat) (hN : N = ls0.length) (hN6 : N ≤ 6) (Y : Nat → Int32) (G : Nat → Nat → Int32) (hG : ∀ j x, ls0[j]? = some x → G 4 j = sN x) : ∀ (ls : List Nat) (k w h : Nat) (rb : Bool) (lv : Nat → Int32), k + ls.length = N → (∀ j, ls[j]? = ls0[k + j]?) → (∀ x ∈ ls, isLt x) → w ≤ 16 → h ≤ 16 → lv 3 = sN N → lv 4 = sN w → lv 5 = sN h → lv 6 = (if rb then sN 1 else sN 0) → lv 7 = sN k → Go (fun n => L_Mo_areRight n 12 lv Y G) (fun q => q.2 = (Y, G) ∧ q.1 = if rb = true ∧ (N = 0 ∨ rgt ls w h = true) then 1 else 0)
  | [], k, w, h, rb, lv, hk, hj, hL, hw, hh, l3, l4, l5, l6, l7 => by
    simp only [List.length_nil, Nat.add_zero] at hk
    refine Go_S ?_
    simp (disch := omega) only [L_Mo_areRight, l3, l4, l5, l6, l7, ↓reduceIte, sN_le, wN_0, wN_1, sN_eq]
    refine Go_pos (by omega) ?_
    unfold rgt
    cases rb with
    | false => exact Go_pos rfl (Go_ret ⟨rfl, by rw [if_neg (by simp)]⟩)
    | true =>
      refine Go_neg (by decide) (Go_ite (fun h0 => Go_ret ⟨rfl, by rw [if_pos ⟨rfl, Or.inl h0⟩]⟩) (fun h0 => Go_ite (fun h1 => Go_ret ⟨rfl, ?_⟩) (fun h1 => Go_ite (fun h2 => Go_ret ⟨rfl, ?_⟩) (fun h2 => Go_ret ⟨rfl, ?_⟩))))
      · rw [if_neg (by simp [h0, h1])]
      · rw [if_neg (by simp [h0, h2])]
      · rw [if_pos (by simp [Classical.not_not.mp h1, Classical.not_not.mp h2])]
  | x :: ls, k, w, h, rb, lv, hk, hj, hL, hw, hh, l3, l4, l5, l6, l7 => by
    have hx : G 4 k = sN x := hG k x (by have := hj 0; rw [Nat.add_zero] at this; rw [← this]; rfl)
    have hlx : isLt x := hL x List.mem_cons_self
    simp only [List.length_cons] at hk
    have hW : fW x w ≤ 16 := by unfold fW; split <;> omega
    have hH : fH x h ≤ 16 := by unfold fH; split <;> omega
    -- the round's end
    have e104 : ∀ (lv' : Nat → Int32), lv' 3 = sN N → lv' 4 = sN (fW x w) → lv' 5 = sN (fH x h) → lv' 6 = (if (rb && fold1 x w h) then sN 1 else sN 0) → lv' 7 = sN k → Go (fun n => L_Mo_areRight n 104 lv' Y G) (fun q => q.2 = (Y, G) ∧ q.1 = if rb = true ∧ (N = 0 ∨ rgt (x :: ls) w h = true) then 1 else 0) := by
      intro lv' m3 m4 m5 m6 m7
      refine Go_S ?_
      simp only [L_Mo_areRight, ↓reduceIte, Nat.reduceEqDiff]
      refine Go_mono (g_areRight ls0 c r N hN hN6 Y G hG ls (k + 1) (fW x w) (fH x h) (rb && fold1 x w h) _ (by omega) (fun j => by have := hj (j + 1); rw [show k + 1 + j = k + (j + 1) by omega, ← this]; rfl) (fun y hy => hL y (List.mem_cons_of_mem _ hy)) hW hH m3 m4 m5 m6 ?_) (fun q hq => ⟨hq.1, ?_⟩)
      · show lv' 7 + Int32.ofInt 1 = _
        rw [m7, sN_1', sN_add]
      · rw [hq.2]
        show _ = if rb = true ∧ (N = 0 ∨ (fold1 x w h && rgt ls (fW x w) (fH x h)) = true) then 1 else 0
        have hN0 : ¬ N = 0 := by omega
        cases rb <;> cases fold1 x w h <;> simp [hN0]
    have e88 : ∀ (lv' : Nat → Int32), lv' 3 = sN N → lv' 4 = sN (fW x w) → lv' 5 = sN h → lv' 6 = (if (rb && fold1 x w h) then sN 1 else sN 0) → lv' 7 = sN k → lv' 8 = (if fAc x then sN 1 else sN 0) → Go (fun n => L_Mo_areRight n 88 lv' Y G) (fun q => q.2 = (Y, G) ∧ q.1 = if rb = true ∧ (N = 0 ∨ rgt (x :: ls) w h = true) then 1 else 0) := by
      intro lv' m3 m4 m5 m6 m7 m8
      refine Go_S ?_
      simp only [L_Mo_areRight, ↓reduceIte, Nat.reduceEqDiff]
      cases ha : fAc x with
      | false =>
        rw [ha] at m8
        refine Go_pos m8 (e104 _ m3 m4 ?_ m6 m7)
        show lv' 5 / 2 = _
        rw [m5, wN_2, sN_div (by omega) (by omega) (by omega)]
        unfold fH; rw [ha]; rfl
      | true =>
        rw [ha] at m8
        refine Go_neg (by rw [m8]; decide) (e104 _ m3 m4 ?_ m6 m7)
        show lv' 5 = _
        rw [m5]
        unfold fH; rw [ha]; rfl
    have e72 : ∀ (lv' : Nat → Int32), lv' 3 = sN N → lv' 4 = sN w → lv' 5 = sN h → lv' 6 = (if (rb && fold1 x w h) then sN 1 else sN 0) → lv' 7 = sN k → lv' 8 = (if fAc x then sN 1 else sN 0) → Go (fun n => L_Mo_areRight n 72 lv' Y G) (fun q => q.2 = (Y, G) ∧ q.1 = if rb = true ∧ (N = 0 ∨ rgt (x :: ls) w h = true) then 1 else 0) := by
      intro lv' m3 m4 m5 m6 m7 m8
      refine Go_S ?_
      simp only [L_Mo_areRight, ↓reduceIte, Nat.reduceEqDiff]
      cases ha : fAc x with
      | false =>
        have m8' := m8
        rw [ha] at m8'
        refine Go_pos m8' (e88 _ m3 ?_ m5 m6 m7 m8)
        show lv' 4 = _
        rw [m4]
        unfold fW; rw [ha]; rfl
      | true =>
        have m8' := m8
        rw [ha] at m8'
        refine Go_neg (by rw [m8']; decide) (e88 _ m3 ?_ m5 m6 m7 m8)
        show lv' 4 / 2 = _
        rw [m4, wN_2, sN_div (by omega) (by omega) (by omega)]
        unfold fW; rw [ha]; rfl
    have hev : ∀ z : Nat, z ≤ 16 → ((sN z - sN z / 2 * 2 = 0) ↔ z % 2 = 0) := fun z hz => by
      rw [wN_2, sN_div (by omega) (by omega) (by omega), sN_mul, sN_mod, wN_0, sN_eq (by omega) (by omega)]
    have e43 : ∀ (lv' : Nat → Int32), lv' 3 = sN N → lv' 4 = sN w → lv' 5 = sN h → lv' 6 = (if rb then sN 1 else sN 0) → lv' 7 = sN k → lv' 8 = (if fAc x then sN 1 else sN 0) → Go (fun n => L_Mo_areRight n 43 lv' Y G) (fun q => q.2 = (Y, G) ∧ q.1 = if rb = true ∧ (N = 0 ∨ rgt (x :: ls) w h = true) then 1 else 0) := by
      intro lv' m3 m4 m5 m6 m7 m8
      refine Go_S ?_
      simp only [L_Mo_areRight, ↓reduceIte, Nat.reduceEqDiff]
      rcases Bool.eq_false_or_eq_true rb with hrb | hrb
      rotate_left
      · rw [hrb] at m6
        exact Go_pos m6 (e72 _ m3 m4 m5 (by rw [hrb]; rfl) m7 m8)
      · rw [hrb] at m6
        refine Go_neg (by rw [m6]; decide) ?_
        cases ha : fAc x with
        | false =>
          have m8' := m8
          rw [ha] at m8'
          refine Go_pos m8' (Go_ite (fun hd => ?_) (fun hd => ?_))
          · rw [m5, hev h hh] at hd
            refine e72 _ m3 m4 m5 ?_ m7 m8
            have : fold1 x w h = false := by unfold fold1; rw [ha]; exact beq_eq_false_iff_ne.mpr hd
            rw [this, hrb]; rfl
          · rw [m5, hev h hh] at hd
            refine e72 _ m3 m4 m5 ?_ m7 m8
            have : fold1 x w h = true := by unfold fold1; rw [ha]; exact beq_iff_eq.mpr (Classical.not_not.mp hd)
            rw [this, hrb]; rfl
        | true =>
          have m8' := m8
          rw [ha] at m8'
          refine Go_neg (by rw [m8']; decide) (Go_ite (fun hd => ?_) (fun hd => ?_))
          · rw [m4, hev w hw] at hd
            refine e72 _ m3 m4 m5 ?_ m7 m8
            have : fold1 x w h = false := by unfold fold1; rw [ha]; exact beq_eq_false_iff_ne.mpr hd
            rw [this, hrb]; rfl
          · rw [m4, hev w hw] at hd
            refine e72 _ m3 m4 m5 ?_ m7 m8
            have : fold1 x w h = true := by unfold fold1; rw [ha]; exact beq_iff_eq.mpr (Classical.not_not.mp hd)
            rw [this, hrb]; rfl
    refine Go_S ?_
    simp only [L_Mo_areRight, ↓reduceIte]
    have hb : ¬ (lv 7 < 0 ∨ 6 ≤ (lv 7).toNatClampNeg) := by rw [l7, wN_0, sN_lt (by omega) (by omega), sN_nat (by omega)]; omega
    have hg : G 4 (lv 7).toNatClampNeg = sN x := by rw [l7, sN_nat (by omega)]; exact hx
    refine Go_neg (by rw [l3, l7, sN_le (by omega) (by omega)]; omega) (Go_pos hb ?_)
    rw [hg]
    rcases hlx with rfl | rfl | rfl | rfl
    · exact Go_pos rfl (e43 _ l3 l4 l5 l6 l7 rfl)
    · exact Go_neg (by decide) (Go_pos hb (Go_neg (by decide) (e43 _ l3 l4 l5 l6 l7 rfl)))
    · exact Go_neg (by decide) (Go_pos hb (Go_pos (by decide) (e43 _ l3 l4 l5 l6 l7 rfl)))
    · exact Go_neg (by decide) (Go_pos hb (Go_pos (by decide) (e43 _ l3 l4 l5 l6 l7 rfl)))
theorem e_areRight (ls : List Nat) (c r : Nat) (h6 : ls.length ≤ 6) (hL : ∀ x ∈ ls, isLt x) (hc : c ≤ 16) (hr : r ≤ 16) (Y : Nat → Int32) (G : Nat → Nat → Int32) (hG : ∀ j x, ls[j]? = some x → G 4 j = sN x) : Go (fun n => f_Mo_areRight n Y G (sN c) (sN r) (sN ls.length)) (fun q => q.2 = (Y, G) ∧ q.1 = if (bkl c r ls).isSome = true then 1 else 0) := by
  unfold f_Mo_areRight
  refine Go_mono (g_areRight ls c r ls.length rfl h6 Y G hG ls 0 c r true _ (by omega) (fun j => by rw [Nat.zero_add]) hL hc hr rfl rfl rfl rfl rfl) (fun q hq => ⟨hq.1, ?_⟩)
  rw [hq.2, bkl_rgt]
  simp
theorem cw_foldM {c : Nat} (h : c < 256 ∨ c = 1000) : (f_Mo_isFold (cw c) = sN 0) = ¬ (c = 82 ∨ c = 76 ∨ c = 84 ∨ c = 66) := by
  have e : f_Mo_isFold (cw c) = f_Re_isFold (cw c) := rfl
  rw [e]; exact cw_fold h
theorem nm1 {w : Nat} (h : w < 2147483648) : ¬ sN w = -1 := by
  intro z; have := sN_nm (a := w) (b := 1) h (by omega) (by omega); rw [← this]; exact z
theorem g_Mo_readFolds (t : Nat → Nat) (c r p0 : Nat) (hc8 : c ≤ 8) (hr8 : r ≤ 8) (hp0 : p0 < 100) : ∀ (m p : Nat) (pre : List Nat) (lv Y : Nat → Int32) (G : Nat → Nat → Int32), pre.length + m = 6 → p ≤ 106 → p + m ≤ 106 → (∀ x ∈ pre, isLt x) → lv 1 = sN p0 → Y 3 = sN p → Y 4 = -1 → Y 10 = sN c → Y 11 = sN r → Y 12 = sN pre.length → (∀ j x, pre[j]? = some x → G 4 j = sN x) → tapeOK t (Y 2) (G 0) → Go (fun n => L_Mo_readFolds n 10 lv Y G) (fun q => fr [3, 4, 12] Y q.2.1 ∧ fr [4] G q.2.2 ∧ match foS t c r p0 m p pre with
    | .inl w => w < 1000 ∧ q.2.1 4 = sN w
    | .inr f => q.2.1 4 = -1 ∧ q.2.1 3 = sN f.2.2 ∧ q.2.1 12 = sN f.1.length ∧ ∀ j x, f.1[j]? = some x → q.2.2 4 j = sN x) := by
  intro m
  have fin : ∀ (p : Nat) (pre : List Nat) (lv Y : Nat → Int32) (G : Nat → Nat → Int32), pre.length ≤ 6 → (∀ x ∈ pre, isLt x) → lv 1 = sN p0 → Y 3 = sN p → Y 4 = -1 → Y 10 = sN c → Y 11 = sN r → Y 12 = sN pre.length → (∀ j x, pre[j]? = some x → G 4 j = sN x) → Go (fun n => (f_Mo_areRight n Y G (Y 10) (Y 11) (Y 12)).bind (fun q3 => if ¬ q3.1 = 0 then (some ((0 : Int32), q3.2.1, q3.2.2)) else ((f_Mo_fail n q3.2.1 q3.2.2 (lv 1)).bind (fun q4 => some (0, q4.2.1, q4.2.2))))) (fun q => fr [3, 4, 12] Y q.2.1 ∧ fr [4] G q.2.2 ∧ match foF c r p0 p pre with
    | .inl w => w < 1000 ∧ q.2.1 4 = sN w
    | .inr f => q.2.1 4 = -1 ∧ q.2.1 3 = sN f.2.2 ∧ q.2.1 12 = sN f.1.length ∧ ∀ j x, f.1[j]? = some x → q.2.2 4 j = sN x) := by
    intro p pre lv Y G h6 hL l1 y3 y4 y10 y11 y12 hG
    rw [y10, y11, y12]
    refine Go_bind (e_areRight pre c r h6 hL (by omega) (by omega) Y G hG) (fun q hq => ?_)
    obtain ⟨a1, a2⟩ := hq
    rw [a1, a2]
    unfold foF
    cases hb : bkl c r pre with
    | none =>
      refine Go_neg (fun z => z rfl) ?_
      simp only [mo_fail Y G _ y4, Option.bind_some]
      exact Go_ret ⟨fr_upd fr_rfl (by decide), fr_rfl, by omega, l1⟩
    | some lf =>
      exact Go_pos (show ¬ (1 : Int32) = 0 by decide) (Go_ret ⟨fr_rfl, fr_rfl, y4, y3, y12, hG⟩)
  induction m with
  | zero =>
    intro p pre lv Y G hm hp hp2 hL l1 y3 y4 y10 y11 y12 hG hT
    have hi := tk_inM hT y3 (by omega)
    have hn := tk_byteAt hT y3 (by omega)
    have hr := tk_r hT p
    refine Go_S ?_
    simp only [L_Mo_readFolds, ↓reduceIte]
    refine Go_neg (fun z => z y4) (Go_pos hi ?_)
    unfold foS
    refine Go_ite (fun hd => ?_) (fun hd => ?_)
    · rw [hn, wN_0, cw_foldM hr] at hd
      rw [if_neg hd]
      exact Go_neg (fun z => z y4) (fin p pre lv Y G (by omega) hL l1 y3 y4 y10 y11 y12 hG)
    · rw [hn, wN_0, cw_foldM hr] at hd
      rw [if_pos (Classical.not_not.mp hd)]
      refine Go_neg (by rw [y12, wN_6, sN_eq (by omega) (by omega)]; omega) ?_
      simp only [mo_fail Y G _ y4, Option.bind_some]
      refine Go_S ?_
      simp only [L_Mo_readFolds, ↓reduceIte]
      have e4 : ¬ upd Y 4 (Y 3) 4 = -1 := by show ¬ Y 3 = -1; rw [y3]; exact nm1 (by omega)
      exact Go_pos e4 (Go_pos e4 (Go_ret ⟨fr_upd fr_rfl (by decide), fr_rfl, by omega, y3⟩))
  | succ m ih =>
    intro p pre lv Y G hm hp hp2 hL l1 y3 y4 y10 y11 y12 hG hT
    have hi := tk_inM hT y3 (by omega)
    have hn := tk_byteAt hT y3 (by omega)
    have hr := tk_r hT p
    refine Go_S ?_
    simp only [L_Mo_readFolds, ↓reduceIte]
    refine Go_neg (fun z => z y4) (Go_pos hi ?_)
    unfold foS
    refine Go_ite (fun hd => ?_) (fun hd => ?_)
    · rw [hn, wN_0, cw_foldM hr] at hd
      rw [if_neg hd]
      exact Go_neg (fun z => z y4) (fin p pre lv Y G (by omega) hL l1 y3 y4 y10 y11 y12 hG)
    · rw [hn, wN_0, cw_foldM hr] at hd
      have hd2 := Classical.not_not.mp hd
      rw [if_pos hd2]
      refine Go_pos (by rw [y12, wN_6, sN_eq (by omega) (by omega)]; omega) (Go_pos hi (Go_pos (by rw [y12, wN_0, sN_lt (by omega) (by omega), sN_nat (by omega)]; omega) ?_))
      have e2 : f_Mo_byteAt Y G = sN (t p) := by rw [hn]; unfold cw; rw [if_neg (by omega)]
      rw [e2, y12, sN_nat (by omega)]
      refine Go_mono (ih (p + 1) (pre ++ [t p]) _ _ _ (by rw [List.length_append, List.length_singleton]; omega) (by omega) (by omega) (fun x hx => ?_) l1 ?_ y4 y10 y11 ?_ (fun j x hj => ?_) hT) (fun q hq => ⟨fr_trans (fr_upd (fr_upd fr_rfl (by decide)) (by decide)) hq.1, fr_trans (fr_vup fr_rfl (by decide)) hq.2.1, hq.2.2⟩)
      · rcases List.mem_append.mp hx with hx | hx
        · exact hL x hx
        · rw [List.mem_singleton.mp hx]; exact hd2
      · show Y 3 + 1 = _
        rw [y3]; exact sN_add p 1
      · rw [List.length_append, List.length_singleton]; exact sN_add pre.length 1
      · show upd (G 4) pre.length (sN (t p)) j = sN x
        rw [upd_app]
        by_cases hjl : j = pre.length
        · subst hjl
          rw [List.getElem?_append_right (Nat.le_refl _), Nat.sub_self] at hj
          rw [if_pos rfl]
          exact congrArg sN (Option.some.inj hj)
        · rw [if_neg hjl]
          by_cases hj2 : j < pre.length
          · rw [List.getElem?_append_left hj2] at hj
            exact hG j x hj
          · rw [List.getElem?_eq_none (by rw [List.length_append, List.length_singleton]; omega)] at hj
            cases hj
