/-! sharing: the class's cost, taking, going on -/
def zN (cp w : Nat → Nat) (J S p : Nat) : Nat := lsS cp (fun j => decide (w j = p)) J S
abbrev zx (w : Nat → Nat) (J S p : Nat) : Prop := S < cnR (fun j => decide (w j = p)) J 0
theorem zz_x {cp w : Nat → Nat} {J S p : Nat} (h : zx w J S p) : zz cp w J S p = -1 := by unfold zz; exact if_pos h
theorem zz_n {cp w : Nat → Nat} {J S p : Nat} (h : ¬ zx w J S p) : zz cp w J S p = sN (zN cp w J S p) := by unfold zz; exact if_neg h
theorem zN_r {cp w : Nat → Nat} {J S p : Nat} : 1 ≤ zN cp w J S p ∧ zN cp w J S p ≤ 100000 := lsS_r
def csR (cp w : Nat → Nat) (J S : Nat) : Nat → Nat → Option Nat
  | 0, _ => some 0
  | m + 1, p => if zx w J S p then none else match csR cp w J S m (p + 1) with
    | none => none
    | some t => some (zN cp w J S p + t)
theorem csR_le {cp w : Nat → Nat} {J S : Nat} : ∀ (m p t : Nat), csR cp w J S m p = some t → t ≤ 100000 * m
  | 0, p, t, h => by cases h; omega
  | m + 1, p, t, h => by
    unfold csR at h
    split at h
    · cases h
    · split at h
      · cases h
      · rename_i t' e
        cases h
        have := csR_le m (p + 1) t' e
        have := (zN_r (cp := cp) (w := w) (J := J) (S := S) (p := p)).2
        omega
theorem csR_n {cp w : Nat → Nat} {J S : Nat} : ∀ (m p t : Nat), csR cp w J S m p = some t → ∀ k, p ≤ k → k < p + m → ¬ zx w J S k
  | 0, p, t, h, k, a, b => by omega
  | m + 1, p, t, h, k, a, b => by
    unfold csR at h
    split at h
    · cases h
    · rename_i hz
      split at h
      · cases h
      · rename_i t' e
        rcases Nat.eq_or_lt_of_le a with k1 | k1
        · rw [← k1]; exact hz
        · exact csR_n m (p + 1) t' e k (by omega) (by omega)
def cvI (C : Nat) (o : Option Nat) (acc m : Nat) : Int32 := match o with
  | none => -1
  | some t => sN (acc + t + C * m)
theorem g_cost {J S C P : Nat} {cp w : Nat → Nat} (hJ : J ≤ 8) (hS : S ≤ 16) (hC : C ≤ 100000) (hP : P ≤ 8) (hcp : ∀ j, j < J → cp j ≤ 100000) (X : Nat → Int32) (x15 : X 15 = sN J) (x16 : X 16 = sN S) : ∀ (m p acc : Nat) (lv : Nat → Int32) (F : Nat → Nat → Int32), p + m = P → lv 1 = sN C → lv 2 = sN P → lv 3 = sN acc → lv 4 = sN p → (∀ j, j < J → F 6 j = sN (cp j)) → (∀ p, p < 8 → F 9 p = sN (bset w p J)) → mem7 cp J S (F 7) → Go (fun n => L_Sh_costOfWay n 14 lv X F) (fun q => q.1 = cvI C (csR cp w J S m p) acc m ∧ q.2.1 = X ∧ fr [7] F q.2.2 ∧ mem7 cp J S (q.2.2 7))
  | 0, p, acc, lv, F, hm, l1, l2, l3, l4, h6, h9, h7 => by
    refine Go_S ?_
    simp only [L_Sh_costOfWay, ↓reduceIte]
    exact Go_pos (by rw [l2, l4, sN_le (by omega) (by omega)]; omega) (Go_ret ⟨l3, rfl, fr_rfl, h7⟩)
  | m + 1, p, acc, lv, F, hm, l1, l2, l3, l4, h6, h9, h7 => by
    refine Go_S ?_
    simp only [L_Sh_costOfWay, ↓reduceIte]
    have e4 : (lv 4).toNatClampNeg = p := by rw [l4, sN_nat (by omega)]
    rw [e4, h9 p (by omega)]
    refine Go_neg (by rw [l2, l4, sN_le (by omega) (by omega)]; omega) (Go_neg (by rw [l4, wN_8, sN_le (by omega) (by omega)]; omega) (Go_pos (by rw [l4, wN_0, sN_lt (by omega) (by omega)]; omega) ?_))
    refine Go_bind (e_sheetsFor hJ (bset_lt J hJ) hS hcp X F x15 x16 h6 h7) (fun q hq => ?_)
    obtain ⟨q1, q2, q3, q4⟩ := hq
    rw [ned_zz hJ] at q1
    unfold csR
    by_cases hz : zx w J S p
    · rw [if_pos hz]
      rw [zz_x hz] at q1
      exact Go_neg (fun z => z q1) (Go_ret ⟨rfl, q2, q3, q4⟩)
    · rw [if_neg hz]
      rw [zz_n hz] at q1
      have zr := zN_r (cp := cp) (w := w) (J := J) (S := S) (p := p)
      refine Go_pos (by rw [q1]; exact nm1 (by omega)) ?_
      rw [q2, q1]
      refine Go_mono (g_cost hJ hS hC hP hcp X x15 x16 m (p + 1) (acc + (zN cp w J S p + C)) _ q.2.2 (by omega) l1 l2 (by show lv 3 + (_ + lv 1) = _; rw [l1, l3, sN_add, sN_add]) (by show lv 4 + Int32.ofInt 1 = _; rw [l4]; exact sN_add p 1) (by rw [q3 6 (by decide)]; exact h6) (by rw [q3 9 (by decide)]; exact h9) q4) (fun x hx => ⟨?_, hx.2.1, fr_trans q3 hx.2.2.1, hx.2.2.2⟩)
      rw [hx.1]
      cases csR cp w J S m (p + 1) with
      | none => rfl
      | some t =>
        show sN (acc + (zN cp w J S p + C) + t + C * m) = sN (acc + (zN cp w J S p + t) + C * (m + 1))
        congr 1
        rw [Nat.mul_succ]
        omega
theorem e_costC {J S C : Nat} {cp w : Nat → Nat} (hJ1 : 1 ≤ J) (hJ : J ≤ 8) (hS : S ≤ 16) (hC : C ≤ 100000) (hcp : ∀ j, j < J → cp j ≤ 100000) (hw : ∀ j, w j ≤ j) (X : Nat → Int32) (F : Nat → Nat → Int32) (x15 : X 15 = sN J) (x16 : X 16 = sN S) (h6 : ∀ j, j < J → F 6 j = sN (cp j)) (h8 : ∀ j, j < J → F 8 j = sN (w j)) (h7 : mem7 cp J S (F 7)) : Go (fun n => f_Sh_costOfWay n X F (sN C)) (fun q => q.1 = cvI C (csR cp w J S (gb w J + 1) 0) 0 (gb w J + 1) ∧ q.2.1 = X ∧ fr [7, 9] F q.2.2 ∧ mem7 cp J S (q.2.2 7) ∧ ∀ p, p < 8 → q.2.2 9 p = sN (bset w p J)) := by
  have hg := gb_le hw J
  unfold f_Sh_costOfWay f_Sh_fillPlates
  refine Go_bind (Q := fun q => q.2.1 = X ∧ fr [9] F q.2.2 ∧ ∀ p, p < 8 → q.2.2 9 p = sN (bset w p J)) (Go_bind (e_fill_15 X F) (fun q hq => ?_)) (fun q hq => ?_)
  · obtain ⟨q1, q2, q3⟩ := hq
    rw [q1]
    exact Go_mono (g_fillPlates hJ hw X x15 J 0 _ q.2.2 (by omega) rfl (by rw [q2 8 (by decide)]; exact h8) (fun p hp => q3 p hp)) (fun x hx => ⟨hx.1, fr_trans q2 hx.2.1, hx.2.2⟩)
  · obtain ⟨q1, q2, q3⟩ := hq
    rw [q1]
    refine Go_bind (e_plateCount hJ hw X q.2.2 x15 (by rw [q2 8 (by decide)]; exact h8)) (fun q' hq' => ?_)
    rw [hq']
    refine Go_mono (g_cost (C := C) (P := gb w J + 1) (w := w) hJ hS hC (by omega) hcp X x15 x16 (gb w J + 1) 0 0 _ q.2.2 (by omega) rfl rfl rfl rfl (by rw [q2 6 (by decide)]; exact h6) q3 (by rw [q2 7 (by decide)]; exact h7)) (fun x hx => ?_)
    obtain ⟨x1, x2, x3, x4⟩ := hx
    exact ⟨x1, x2, fr_trans (fr_mono q2 (by decide)) (fr_mono x3 (by decide)), x4, by rw [x3 9 (by decide)]; exact q3⟩
theorem g_takeC {J S : Nat} {cp w : Nat → Nat} (hJ : J ≤ 8) (hS : S ≤ 16) (hcp : ∀ j, j < J → cp j ≤ 100000) (hw : ∀ j, w j ≤ j) (X : Nat → Int32) (x15 : X 15 = sN J) (x16 : X 16 = sN S) : ∀ (m i : Nat) (lv : Nat → Int32) (F : Nat → Nat → Int32), i + m = J → lv 1 = sN i → (∀ j, j < J → F 6 j = sN (cp j)) → (∀ j, j < J → F 8 j = sN (w j)) → (∀ p, p < 8 → F 9 p = sN (bset w p J)) → mem7 cp J S (F 7) → (∀ j, j < i → F 10 j = sN (w j) ∧ F 11 j = zz cp w J S (w j)) → Go (fun n => L_Sh_takeWay n 10 lv X F) (fun q => q.2.1 = X ∧ fr [7, 10, 11] F q.2.2 ∧ mem7 cp J S (q.2.2 7) ∧ ∀ j, j < J → q.2.2 10 j = sN (w j) ∧ q.2.2 11 j = zz cp w J S (w j))
  | 0, i, lv, F, hm, l1, h6, h8, h9, h7, hT => by
    refine Go_S ?_
    simp only [L_Sh_takeWay, ↓reduceIte]
    exact Go_pos (by rw [x15, l1, sN_le (by omega) (by omega)]; omega) (Go_ret ⟨rfl, fr_rfl, h7, fun j hj => hT j (by omega)⟩)
  | m + 1, i, lv, F, hm, l1, h6, h8, h9, h7, hT => by
    have hwi := hw i
    refine Go_S ?_
    simp only [L_Sh_takeWay, ↓reduceIte]
    have e1 : (lv 1).toNatClampNeg = i := by rw [l1, sN_nat (by omega)]
    have ci : ¬ (lv 1 < 0 ∨ 8 ≤ i) := by rw [l1, wN_0, sN_lt (by omega) (by omega)]; omega
    have cw : ¬ (sN (w i) < 0 ∨ 8 ≤ w i) := by rw [wN_0, sN_lt (by omega) (by omega)]; omega
    rw [e1, h8 i (by omega), sN_nat (show w i < 2147483648 by omega), h9 (w i) (by omega)]
    refine Go_neg (by rw [x15, l1, sN_le (by omega) (by omega)]; omega) (Go_neg (by rw [l1, wN_8, sN_le (by omega) (by omega)]; omega) (Go_pos ci (Go_pos ci (Go_neg (fun z => cw (Or.inl z)) (Go_neg (by rw [wN_8, sN_le (by omega) (by omega)]; omega) (Go_pos cw ?_))))))
    refine Go_bind (e_sheetsFor hJ (bset_lt J hJ) hS hcp X (va_up F 10 (upd (F 10) i (sN (w i)))) x15 x16 h6 h7) (fun q hq => ?_)
    obtain ⟨q1, q2, q3, q4⟩ := hq
    rw [ned_zz hJ] at q1
    refine Go_pos ci ?_
    rw [q2, q1]
    have f0 : fr [7, 10, 11] F q.2.2 := fr_trans (fr_vup fr_rfl (by decide)) (fr_mono q3 (by decide))
    refine Go_mono (g_takeC hJ hS hcp hw X x15 x16 m (i + 1) _ (va_up q.2.2 11 (upd (q.2.2 11) i (zz cp w J S (w i)))) (by omega) (by show lv 1 + Int32.ofInt 1 = _; rw [l1]; exact sN_add i 1) (by show ∀ j, j < J → q.2.2 6 j = _; rw [f0 6 (by decide)]; exact h6) (by show ∀ j, j < J → q.2.2 8 j = _; rw [f0 8 (by decide)]; exact h8) (by show ∀ p, p < 8 → q.2.2 9 p = _; rw [f0 9 (by decide)]; exact h9) q4 (fun j hj => ?_)) (fun x hx => ⟨hx.1, fr_trans (fr_vup f0 (by decide)) hx.2.1, hx.2.2⟩)
    show q.2.2 10 j = _ ∧ upd (q.2.2 11) i _ j = _
    rw [q3 10 (by decide), q3 11 (by decide), upd_app]
    show upd (F 10) i (sN (w i)) j = _ ∧ (if j = i then _ else F 11 j) = _
    rw [upd_app]
    by_cases e : j = i
    · rw [if_pos e, if_pos e, e]; exact ⟨rfl, rfl⟩
    · rw [if_neg e, if_neg e]; exact hT j (by omega)
theorem e_takeC {J S : Nat} {cp w : Nat → Nat} (hJ : J ≤ 8) (hS : S ≤ 16) (hcp : ∀ j, j < J → cp j ≤ 100000) (hw : ∀ j, w j ≤ j) (X : Nat → Int32) (F : Nat → Nat → Int32) (x15 : X 15 = sN J) (x16 : X 16 = sN S) (h6 : ∀ j, j < J → F 6 j = sN (cp j)) (h8 : ∀ j, j < J → F 8 j = sN (w j)) (h9 : ∀ p, p < 8 → F 9 p = sN (bset w p J)) (h7 : mem7 cp J S (F 7)) : Go (fun n => f_Sh_takeWay n X F) (fun q => q.2.1 = upd X 20 (sN (gb w J + 1)) ∧ fr [7, 10, 11] F q.2.2 ∧ mem7 cp J S (q.2.2 7) ∧ ∀ j, j < J → q.2.2 10 j = sN (w j) ∧ q.2.2 11 j = zz cp w J S (w j)) := by
  unfold f_Sh_takeWay
  refine Go_bind (e_plateCount hJ hw X F x15 h8) (fun q hq => ?_)
  rw [hq]
  exact g_takeC hJ hS hcp hw (upd X 20 (sN (gb w J + 1))) x15 x16 J 0 _ F (by omega) rfl h6 h8 h9 h7 (fun j hj => by omega)
theorem g_nextC {J : Nat} (hJ : J ≤ 8) (X : Nat → Int32) : ∀ (i : Nat) (w : Nat → Nat) (lv : Nat → Int32) (F : Nat → Nat → Int32), i < J → (∀ j, w j ≤ j) → lv 1 = sN i → (∀ j, j < J → F 8 j = sN (w j)) → Go (fun n => L_Sh_goToNextWay n 12 lv X F) (fun q => q.2.1 = X ∧ fr [8] F q.2.2 ∧ match nwS i w with
    | none => q.1 = 0
    | some w2 => q.1 = 1 ∧ ∀ j, j < J → q.2.2 8 j = sN (w2 j))
  | 0, w, lv, F, hi, hw, l1, h8 => by
    refine Go_S ?_
    simp only [L_Sh_goToNextWay, ↓reduceIte]
    exact Go_pos (by rw [l1]; decide) (Go_ret ⟨rfl, fr_rfl, rfl⟩)
  | i + 1, w, lv, F, hi, hw, l1, h8 => by
    have hg := gb_le hw (i + 1)
    have hwi := hw (i + 1)
    refine Go_S ?_
    simp only [L_Sh_goToNextWay, ↓reduceIte]
    have e1 : (lv 1).toNatClampNeg = i + 1 := by rw [l1, sN_nat (by omega)]
    have ci : ¬ (lv 1 < 0 ∨ 8 ≤ i + 1) := by rw [l1, wN_0, sN_lt (by omega) (by omega)]; omega
    rw [e1, h8 (i + 1) hi]
    refine Go_neg (by rw [l1, wN_0, sN_le (by omega) (by omega)]; omega) (Go_pos ci ?_)
    rw [l1]
    refine Go_bind (e_greatest (by omega) hw X F (fun j hj => h8 j (by omega))) (fun q hq => ?_)
    rw [hq]
    rw [l1] at ci
    unfold nwS
    by_cases hz : gb w (i + 1) < w (i + 1)
    · rw [if_pos hz]
      refine Go_pos (by rw [sN_lt (by omega) (by omega)]; exact hz) (Go_pos ci ?_)
      refine Go_mono (g_nextC hJ X i (fun j => if j = i + 1 then 0 else w j) _ _ (by omega) (fun j => ?_) ?_ (fun j hj => ?_)) (fun x hx => ⟨hx.1, fr_trans (fr_vup fr_rfl (by decide)) hx.2.1, hx.2.2⟩)
      · show (if j = i + 1 then 0 else w j) ≤ j
        split
        · omega
        · exact hw j
      · show sN (i + 1) + sI (-1) = sN i
        rw [sN_sI, sI_add, sN_sI]; exact congrArg sI (by omega)
      · show upd (F 8) (i + 1) 0 j = sN (if j = i + 1 then 0 else w j)
        rw [upd_app]
        by_cases e : j = i + 1
        · rw [if_pos e, if_pos e]; rfl
        · rw [if_neg e, if_neg e]; exact h8 j hj
    · rw [if_neg hz]
      refine Go_neg (by rw [sN_lt (by omega) (by omega)]; exact hz) (Go_pos ci (Go_pos ci (Go_ret ⟨rfl, fr_vup fr_rfl (by decide), rfl, fun j hj => ?_⟩)))
      show upd (F 8) (i + 1) (F 8 (i + 1) + 1) j = sN (if j = i + 1 then w j + 1 else w j)
      rw [upd_app]
      by_cases e : j = i + 1
      · rw [if_pos e, if_pos e, h8 (i + 1) hi, wN_1, sN_add, e]
      · rw [if_neg e, if_neg e]; exact h8 j hj
