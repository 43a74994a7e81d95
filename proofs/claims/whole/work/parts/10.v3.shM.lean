/-! sharing: the model's loops -/
theorem m_upward {a z : Nat} (ha : a < 1000000) (hz : 1 ≤ z) (hz2 : z ≤ 100000) : f_Mo_upward (sN a) (sN z) = sN (upw a z) := by
  unfold f_Mo_upward upw
  rw [sN_add, wN_1, sN_sub (by omega), sN_div (by omega) (by omega) (by omega)]
theorem g_slotsM {J p z : Nat} {cp w : Nat → Nat} (hJ : J ≤ 8) (hp : p < 1000) (hw : ∀ j, w j ≤ j) (hz : 1 ≤ z) (hz2 : z ≤ 100000) (hcp : ∀ j, j < J → cp j ≤ 100000) (Y : Nat → Int32) (G : Nat → Nat → Int32) (y21 : Y 21 = sN J) (h22 : ∀ j, j < J → G 22 j = sN (cp j)) (h23 : ∀ j, j < J → G 23 j = sN (w j)) : ∀ (m j acc : Nat) (lv : Nat → Int32), j + m = J → lv 1 = sN p → lv 2 = sN z → lv 3 = sN acc → lv 4 = sN j → Go (fun n => L_Mo_slotsFor n 5 lv Y G) (fun q => q = (sN (acc + slR cp (fun j => decide (w j = p)) z m j), Y, G))
  | 0, j, acc, lv, hm, l1, l2, l3, l4 => by
    refine Go_S ?_
    simp only [L_Mo_slotsFor, ↓reduceIte]
    exact Go_pos (by rw [y21, l4, sN_le (by omega) (by omega)]; omega) (Go_ret (by rw [l3]; rfl))
  | m + 1, j, acc, lv, hm, l1, l2, l3, l4 => by
    have hc := hcp j (by omega)
    have hwj := hw j
    refine Go_S ?_
    simp only [L_Mo_slotsFor, ↓reduceIte]
    have e4 : (lv 4).toNatClampNeg = j := by rw [l4, sN_nat (by omega)]
    have nx : lv 4 + Int32.ofInt 1 = sN (j + 1) := by rw [l4]; exact sN_add j 1
    have c4 : ¬ (lv 4 < 0 ∨ 8 ≤ j) := by rw [l4, wN_0, sN_lt (by omega) (by omega)]; omega
    rw [e4, h22 j (by omega), h23 j (by omega), l1, l2, m_upward (by omega) hz hz2]
    refine Go_neg (by rw [y21, l4, sN_le (by omega) (by omega)]; omega) (Go_pos c4 ?_)
    unfold slR
    by_cases hb : w j = p
    · rw [if_pos (decide_eq_true hb)]
      refine Go_neg (fun z => z (by rw [hb])) (Go_pos c4 (Go_pos (by rw [wN_0, sN_eq (by omega) (by omega)]; omega) ?_))
      rw [← Nat.add_assoc]
      exact g_slotsM hJ hp hw hz hz2 hcp Y G y21 h22 h23 m (j + 1) (acc + upw (cp j) z) _ (by omega) rfl rfl (by show lv 3 + _ = _; rw [l3, sN_add]) nx
    · rw [if_neg (fun z => hb (of_decide_eq_true z))]
      refine Go_pos (by rw [sN_eq (by omega) (by omega)]; exact hb) ?_
      rw [← Nat.add_assoc, Nat.add_zero]
      exact g_slotsM hJ hp hw hz hz2 hcp Y G y21 h22 h23 m (j + 1) acc _ (by omega) rfl rfl (by show lv 3 + 0 = _; rw [l3, wN_0, sN_add]; rfl) nx
theorem g_jobsOn {J p : Nat} {w : Nat → Nat} (hJ : J ≤ 8) (hp : p < 1000) (hw : ∀ j, w j ≤ j) (Y : Nat → Int32) (G : Nat → Nat → Int32) (y21 : Y 21 = sN J) (h23 : ∀ j, j < J → G 23 j = sN (w j)) : ∀ (m j acc : Nat) (lv : Nat → Int32), j + m = J → lv 1 = sN p → lv 2 = sN acc → lv 3 = sN j → Go (fun n => L_Mo_jobsOn n 4 lv Y G) (fun q => q = (sN (acc + cnR (fun j => decide (w j = p)) m j), Y, G))
  | 0, j, acc, lv, hm, l1, l2, l3 => by
    refine Go_S ?_
    simp only [L_Mo_jobsOn, ↓reduceIte]
    exact Go_pos (by rw [y21, l3, sN_le (by omega) (by omega)]; omega) (Go_ret (by rw [l2]; rfl))
  | m + 1, j, acc, lv, hm, l1, l2, l3 => by
    have hwj := hw j
    refine Go_S ?_
    simp only [L_Mo_jobsOn, ↓reduceIte]
    have e3 : (lv 3).toNatClampNeg = j := by rw [l3, sN_nat (by omega)]
    have nx : lv 3 + Int32.ofInt 1 = sN (j + 1) := by rw [l3]; exact sN_add j 1
    have c3 : ¬ (lv 3 < 0 ∨ 8 ≤ j) := by rw [l3, wN_0, sN_lt (by omega) (by omega)]; omega
    rw [e3, h23 j (by omega), l1]
    refine Go_neg (by rw [y21, l3, sN_le (by omega) (by omega)]; omega) (Go_pos c3 ?_)
    unfold cnR
    by_cases hb : w j = p
    · rw [if_pos (decide_eq_true hb)]
      refine Go_neg (fun z => z (by rw [hb])) ?_
      rw [← Nat.add_assoc]
      exact g_jobsOn hJ hp hw Y G y21 h23 m (j + 1) (acc + 1) _ (by omega) rfl (by show lv 2 + 1 = _; rw [l2]; exact sN_add acc 1) nx
    · rw [if_neg (fun z => hb (of_decide_eq_true z))]
      refine Go_pos (by rw [sN_eq (by omega) (by omega)]; exact hb) ?_
      rw [← Nat.add_assoc, Nat.add_zero]
      exact g_jobsOn hJ hp hw Y G y21 h23 m (j + 1) acc _ (by omega) rfl (by show lv 2 + 0 = _; rw [l2, wN_0, sN_add]; rfl) nx
theorem g_sheetsM {J p S : Nat} {cp w : Nat → Nat} (hJ : J ≤ 8) (hp : p < 1000) (hS : S ≤ 16) (hw : ∀ j, w j ≤ j) (hcp : ∀ j, j < J → cp j ≤ 100000) (Y : Nat → Int32) (G : Nat → Nat → Int32) (y21 : Y 21 = sN J) (h22 : ∀ j, j < J → G 22 j = sN (cp j)) (h23 : ∀ j, j < J → G 23 j = sN (w j)) : ∀ (m lo hi : Nat) (lv : Nat → Int32), hi - lo < 2 ^ m → 1 ≤ lo → lo ≤ hi → hi ≤ 100000 → lv 1 = sN p → lv 2 = sN S → lv 3 = sN lo → lv 4 = sN hi → Go (fun n => L_Mo_sheetsOf n 17 lv Y G) (fun q => q = (sN (bsS (fun z => slR cp (fun j => decide (w j = p)) z J 0) S m lo hi), Y, G))
  | 0, lo, hi, lv, hm, h1, h2, h3, l1, l2, l3, l4 => by
    refine Go_S ?_
    simp only [L_Mo_sheetsOf, ↓reduceIte]
    exact Go_pos (by rw [l3, l4, sN_le (by omega) (by omega)]; omega) (Go_ret (by rw [l3]; rfl))
  | m + 1, lo, hi, lv, hm, h1, h2, h3, l1, l2, l3, l4 => by
    rw [Nat.pow_succ] at hm
    have em : (lv 3 + lv 4) / 2 = sN ((lo + hi) / 2) := by rw [l3, l4, sN_add, wN_2, sN_div (by omega) (by omega) (by omega)]
    refine Go_S ?_
    simp only [L_Mo_sheetsOf, ↓reduceIte]
    unfold bsS
    by_cases hh : hi ≤ lo
    · rw [if_pos hh]
      exact Go_pos (by rw [l3, l4, sN_le (by omega) (by omega)]; exact hh) (Go_ret (by rw [l3]))
    · rw [if_neg hh]
      refine Go_neg (by rw [l3, l4, sN_le (by omega) (by omega)]; exact hh) ?_
      rw [em, l1]
      have hsl := slR_le (cp := cp) (on := fun j => decide (w j = p)) (z := (lo + hi) / 2) (by omega) J 0 (fun k hk => hcp k (by omega))
      refine Go_bind (g_slotsM hJ hp hw (show 1 ≤ (lo + hi) / 2 by omega) (by omega) hcp Y G y21 h22 h23 J 0 0 _ (by omega) rfl rfl rfl rfl) (fun q hq => ?_)
      rw [hq, Nat.zero_add]
      by_cases hs : S < slR cp (fun j => decide (w j = p)) ((lo + hi) / 2) J 0
      · rw [if_pos hs]
        refine Go_pos (by rw [l2, sN_lt (by omega) (by omega)]; exact hs) ?_
        exact g_sheetsM hJ hp hS hw hcp Y G y21 h22 h23 m ((lo + hi) / 2 + 1) hi _ (by omega) (by omega) (by omega) h3 rfl l2 (sN_add _ 1) l4
      · rw [if_neg hs]
        refine Go_neg (by rw [l2, sN_lt (by omega) (by omega)]; exact hs) ?_
        exact g_sheetsM hJ hp hS hw hcp Y G y21 h22 h23 m lo ((lo + hi) / 2) _ (by omega) h1 (by omega) (by omega) rfl l2 l3 rfl
theorem e_sheetsOf {J p S : Nat} {cp w : Nat → Nat} (hJ : J ≤ 8) (hp : p < 1000) (hS : S ≤ 16) (hw : ∀ j, w j ≤ j) (hcp : ∀ j, j < J → cp j ≤ 100000) (Y : Nat → Int32) (G : Nat → Nat → Int32) (y21 : Y 21 = sN J) (h22 : ∀ j, j < J → G 22 j = sN (cp j)) (h23 : ∀ j, j < J → G 23 j = sN (w j)) : Go (fun n => f_Mo_sheetsOf n Y G (sN p) (sN S)) (fun q => q = (zz cp w J S p, Y, G)) := by
  have hcn := cnR_le (on := fun j => decide (w j = p)) J 0
  unfold f_Mo_sheetsOf f_Mo_jobsOn
  refine Go_bind (g_jobsOn hJ hp hw Y G y21 h23 J 0 0 _ (by omega) rfl rfl rfl) (fun q hq => ?_)
  rw [hq, Nat.zero_add]
  by_cases hz : zx w J S p
  · rw [zz_x hz]
    exact Go_neg (by rw [sN_le (by omega) (by omega)]; exact Nat.not_le.mpr hz) (Go_ret rfl)
  · rw [zz_n hz]
    refine Go_pos (by rw [sN_le (by omega) (by omega)]; exact Nat.not_lt.mp hz) ?_
    exact g_sheetsM hJ hp hS hw hcp Y G y21 h22 h23 32 1 100000 _ (by decide) (by omega) (by omega) (by omega) rfl rfl rfl rfl
theorem g_plates {J : Nat} {w : Nat → Nat} (hJ : J ≤ 8) (hw : ∀ j, w j ≤ j) (Y : Nat → Int32) (G : Nat → Nat → Int32) (y21 : Y 21 = sN J) (h23 : ∀ j, j < J → G 23 j = sN (w j)) : ∀ (m i : Nat) (lv : Nat → Int32), i + m = J → lv 1 = sN (gb w i) → lv 2 = sN i → Go (fun n => L_Mo_platesOf n 4 lv Y G) (fun q => q = (sN (gb w J + 1), Y, G))
  | 0, i, lv, hm, l1, l2 => by
    refine Go_S ?_
    simp only [L_Mo_platesOf, ↓reduceIte]
    refine Go_pos (by rw [y21, l2, sN_le (by omega) (by omega)]; omega) (Go_ret ?_)
    rw [l1, show i = J by omega, wN_1, sN_add]
  | m + 1, i, lv, hm, l1, l2 => by
    have hwi := hw i
    have hg := gb_le hw i
    refine Go_S ?_
    simp only [L_Mo_platesOf, ↓reduceIte]
    have e2 : (lv 2).toNatClampNeg = i := by rw [l2, sN_nat (by omega)]
    have nx : lv 2 + Int32.ofInt 1 = sN (i + 1) := by rw [l2]; exact sN_add i 1
    have c2 : ¬ (lv 2 < 0 ∨ 8 ≤ i) := by rw [l2, wN_0, sN_lt (by omega) (by omega)]; omega
    rw [e2, h23 i (by omega), l1]
    refine Go_neg (by rw [y21, l2, sN_le (by omega) (by omega)]; omega) (Go_pos c2 (Go_ite (fun k => ?_) (fun k => Go_pos c2 ?_)))
    · rw [sN_le (by omega) (by omega)] at k
      refine g_plates hJ hw Y G y21 h23 m (i + 1) _ (by omega) ?_ nx
      show sN (gb w i) = sN (max (gb w i) (w i))
      rw [Nat.max_eq_left k]
    · rw [sN_le (by omega) (by omega)] at k
      refine g_plates hJ hw Y G y21 h23 m (i + 1) _ (by omega) ?_ nx
      show sN (w i) = sN (max (gb w i) (w i))
      rw [Nat.max_eq_right (by omega)]
def cvJ (C : Nat) (o : Option Nat) (acc : Nat) : Int64 := match o with
  | none => -1
  | some t => jN (acc + t)
theorem g_costM {J S P : Nat} {cp w : Nat → Nat} (hJ : J ≤ 8) (hS : S ≤ 16) (hP : P ≤ 8) (hw : ∀ j, w j ≤ j) (hcp : ∀ j, j < J → cp j ≤ 100000) (Y : Nat → Int32) (G : Nat → Nat → Int32) (y21 : Y 21 = sN J) (h22 : ∀ j, j < J → G 22 j = sN (cp j)) (h23 : ∀ j, j < J → G 23 j = sN (w j)) : ∀ (m p acc : Nat) (lv : Nat → Int32), p + m = P → lv 1 = sN S → lv 3 = sN P → lv 6 = sN p → Go (fun n => L_Mo_costOf n 15 lv (jN acc) Y G) (fun q => q = (cvJ 0 (csR cp w J S m p) acc, Y, G))
  | 0, p, acc, lv, hm, l1, l3, l6 => by
    refine Go_S ?_
    simp only [L_Mo_costOf, ↓reduceIte]
    exact Go_pos (by rw [l3, l6, sN_le (by omega) (by omega)]; omega) (Go_ret rfl)
  | m + 1, p, acc, lv, hm, l1, l3, l6 => by
    refine Go_S ?_
    simp only [L_Mo_costOf, ↓reduceIte]
    refine Go_neg (by rw [l3, l6, sN_le (by omega) (by omega)]; omega) ?_
    rw [l1, l6]
    refine Go_bind (e_sheetsOf hJ (show p < 1000 by omega) hS hw hcp Y G y21 h22 h23) (fun q hq => ?_)
    rw [hq]
    unfold csR
    by_cases hz : zx w J S p
    · rw [if_pos hz, zz_x hz]
      exact Go_neg (fun z => z rfl) (Go_ret rfl)
    · rw [if_neg hz, zz_n hz]
      have zr := zN_r (cp := cp) (w := w) (J := J) (S := S) (p := p)
      refine Go_pos (nm1 (by omega)) ?_
      rw [sN_j (by omega), jN_add]
      refine Go_mono (g_costM hJ hS hP hw hcp Y G y21 h22 h23 m (p + 1) (acc + zN cp w J S p) _ (by omega) rfl l3 (sN_add p 1)) (fun x hx => ?_)
      rw [hx]
      cases csR cp w J S m (p + 1) with
      | none => rfl
      | some t =>
        show (jN (acc + zN cp w J S p + t), Y, G) = (jN (acc + (zN cp w J S p + t)), Y, G)
        rw [Nat.add_assoc]
theorem e_costM {J S C : Nat} {cp w : Nat → Nat} (hJ1 : 1 ≤ J) (hJ : J ≤ 8) (hS : S ≤ 16) (hC : C ≤ 100000) (hw : ∀ j, w j ≤ j) (hcp : ∀ j, j < J → cp j ≤ 100000) (Y : Nat → Int32) (G : Nat → Nat → Int32) (y21 : Y 21 = sN J) (h22 : ∀ j, j < J → G 22 j = sN (cp j)) (h23 : ∀ j, j < J → G 23 j = sN (w j)) : Go (fun n => f_Mo_costOf n Y G (sN S) (sN C)) (fun q => q = (cvJ 0 (csR cp w J S (gb w J + 1) 0) (C * (gb w J + 1)), Y, G)) := by
  have hg := gb_le hw J
  unfold f_Mo_costOf f_Mo_platesOf
  refine Go_bind (g_plates hJ hw Y G y21 h23 J 0 _ (by omega) rfl rfl) (fun q hq => ?_)
  rw [hq]
  show Go (fun n => L_Mo_costOf n 15 _ ((sN C).toInt64 * (sN (gb w J + 1)).toInt64) Y G) _
  rw [sN_j (by omega), sN_j (by omega), jN_mul]
  exact g_costM hJ hS (show gb w J + 1 ≤ 8 by omega) hw hcp Y G y21 h22 h23 (gb w J + 1) 0 _ _ (by omega) rfl rfl rfl
theorem g_take63 {J S P : Nat} {cp w : Nat → Nat} (hJ : J ≤ 8) (hS : S ≤ 16) (hP : P ≤ 8) (hw : ∀ j, w j ≤ j) (hcp : ∀ j, j < J → cp j ≤ 100000) (Y : Nat → Int32) (y21 : Y 21 = sN J) (y25 : Y 25 = sN P) : ∀ (m p : Nat) (lv : Nat → Int32) (G : Nat → Nat → Int32), p + m = P → lv 1 = sN S → lv 2 = sN p → (∀ j, j < J → G 22 j = sN (cp j)) → (∀ j, j < J → G 23 j = sN (w j)) → (∀ k, k < p → G 25 k = zz cp w J S k) → Go (fun n => L_Mo_take n 63 lv Y G) (fun q => q.2.1 = Y ∧ fr [25] G q.2.2 ∧ ∀ k, k < P → q.2.2 25 k = zz cp w J S k)
  | 0, p, lv, G, hm, l1, l2, h22, h23, h25 => by
    refine Go_S ?_
    simp only [L_Mo_take, ↓reduceIte, Nat.reduceEqDiff]
    exact Go_pos (by rw [y25, l2, sN_le (by omega) (by omega)]; omega) (Go_ret ⟨rfl, fr_rfl, fun k hk => h25 k (by omega)⟩)
  | m + 1, p, lv, G, hm, l1, l2, h22, h23, h25 => by
    refine Go_S ?_
    simp only [L_Mo_take, ↓reduceIte, Nat.reduceEqDiff]
    have e2 : (lv 2).toNatClampNeg = p := by rw [l2, sN_nat (by omega)]
    have c2 : ¬ (lv 2 < 0 ∨ 8 ≤ p) := by rw [l2, wN_0, sN_lt (by omega) (by omega)]; omega
    rw [e2]
    refine Go_neg (by rw [y25, l2, sN_le (by omega) (by omega)]; omega) ?_
    rw [l1, l2]
    rw [l2] at c2
    refine Go_bind (e_sheetsOf hJ (show p < 1000 by omega) hS hw hcp Y G y21 h22 h23) (fun q hq => ?_)
    rw [hq]
    refine Go_pos c2 ?_
    refine Go_mono (g_take63 hJ hS hP hw hcp Y y21 y25 m (p + 1) _ (va_up G 25 (upd (G 25) p (zz cp w J S p))) (by omega) rfl (sN_add p 1) h22 h23 (fun k hk => ?_)) (fun x hx => ⟨hx.1, fr_trans (fr_vup fr_rfl (by decide)) hx.2.1, hx.2.2⟩)
    show upd (G 25) p _ k = _
    rw [upd_app]
    by_cases e : k = p
    · rw [if_pos e, e]
    · rw [if_neg e]; exact h25 k (by omega)
theorem g_take23 {J S P : Nat} {cp w : Nat → Nat} (hJ : J ≤ 8) (hS : S ≤ 16) (hP : P ≤ 8) (hw : ∀ j, w j ≤ j) (hcp : ∀ j, j < J → cp j ≤ 100000) (Y : Nat → Int32) (y21 : Y 21 = sN J) (y25 : Y 25 = sN P) : ∀ (m i : Nat) (lv : Nat → Int32) (G : Nat → Nat → Int32), i + m = J → lv 1 = sN S → lv 2 = sN i → (∀ j, j < J → G 22 j = sN (cp j)) → (∀ j, j < J → G 23 j = sN (w j)) → (∀ k, k < i → G 24 k = sN (w k) ∧ G 26 k = sN (cp k)) → Go (fun n => L_Mo_take n 23 lv Y G) (fun q => q.2.1 = Y ∧ fr [24, 25, 26] G q.2.2 ∧ (∀ k, k < J → q.2.2 24 k = sN (w k) ∧ q.2.2 26 k = sN (cp k)) ∧ ∀ k, k < P → q.2.2 25 k = zz cp w J S k)
  | 0, i, lv, G, hm, l1, l2, h22, h23, h24 => by
    refine Go_S ?_
    simp only [L_Mo_take, ↓reduceIte]
    refine Go_pos (by rw [y21, l2, sN_le (by omega) (by omega)]; omega) ?_
    refine Go_mono (g_take63 hJ hS hP hw hcp Y y21 y25 P 0 _ G (by omega) l1 rfl h22 h23 (fun k hk => by omega)) (fun x hx => ?_)
    obtain ⟨x1, x2, x3⟩ := hx
    exact ⟨x1, fr_mono x2 (by decide), fun k hk => by rw [x2 24 (by decide), x2 26 (by decide)]; exact h24 k (by omega), x3⟩
  | m + 1, i, lv, G, hm, l1, l2, h22, h23, h24 => by
    refine Go_S ?_
    simp only [L_Mo_take, ↓reduceIte]
    have e2 : (lv 2).toNatClampNeg = i := by rw [l2, sN_nat (by omega)]
    have c2 : ¬ (lv 2 < 0 ∨ 8 ≤ i) := by rw [l2, wN_0, sN_lt (by omega) (by omega)]; omega
    rw [e2, h22 i (by omega), h23 i (by omega)]
    refine Go_neg (by rw [y21, l2, sN_le (by omega) (by omega)]; omega) (Go_pos c2 (Go_pos c2 (Go_pos c2 (Go_pos c2 ?_))))
    refine Go_mono (g_take23 hJ hS hP hw hcp Y y21 y25 m (i + 1) _ (va_up (va_up G 24 (upd (G 24) i (sN (w i)))) 26 (upd (G 26) i (sN (cp i)))) (by omega) l1 (by show lv 2 + Int32.ofInt 1 = _; rw [l2]; exact sN_add i 1) h22 h23 (fun k hk => ?_)) (fun x hx => ⟨hx.1, fr_trans (fr_vup (fr_vup fr_rfl (by decide)) (by decide)) hx.2.1, hx.2.2⟩)
    show upd (G 24) i _ k = _ ∧ upd (G 26) i _ k = _
    rw [upd_app, upd_app]
    by_cases e : k = i
    · rw [if_pos e, if_pos e, e]; exact ⟨rfl, rfl⟩
    · rw [if_neg e, if_neg e]; exact h24 k (by omega)
theorem e_takeM {J S : Nat} {cp w : Nat → Nat} (hJ1 : 1 ≤ J) (hJ : J ≤ 8) (hS : S ≤ 16) (hw : ∀ j, w j ≤ j) (hcp : ∀ j, j < J → cp j ≤ 100000) (Y : Nat → Int32) (G : Nat → Nat → Int32) (y21 : Y 21 = sN J) (h22 : ∀ j, j < J → G 22 j = sN (cp j)) (h23 : ∀ j, j < J → G 23 j = sN (w j)) : Go (fun n => f_Mo_take n Y G (sN S)) (fun q => q.2.1 = upd (upd (upd Y 22 1) 24 (sN J)) 25 (sN (gb w J + 1)) ∧ fr [24, 25, 26] G q.2.2 ∧ (∀ k, k < J → q.2.2 24 k = sN (w k) ∧ q.2.2 26 k = sN (cp k)) ∧ ∀ k, k < gb w J + 1 → q.2.2 25 k = zz cp w J S k) := by
  have hg := gb_le hw J
  unfold f_Mo_take f_Mo_platesOf
  rw [y21]
  refine Go_bind (g_plates hJ hw (upd (upd Y 22 1) 24 (sN J)) G y21 h23 J 0 _ (by omega) rfl rfl) (fun q hq => ?_)
  rw [hq]
  exact g_take23 hJ hS (show gb w J + 1 ≤ 8 by omega) hw hcp (upd (upd (upd Y 22 1) 24 (sN J)) 25 (sN (gb w J + 1))) y21 rfl J 0 _ G (by omega) rfl rfl h22 h23 (fun k hk => by omega)
