/-! sharing: the class's loops -/
theorem g_fill_15 (X : Nat → Int32) : ∀ (m i : Nat) (lv : Nat → Int32) (F : Nat → Nat → Int32), i + m = 8 → lv 1 = 0 → lv 2 = sN i → lv 3 = sN 8 → (∀ j, j < i → F 9 j = 0) → Go (fun n => L_Ar_fill_15 n 5 lv X F) (fun q => q.2.1 = X ∧ fr [9] F q.2.2 ∧ ∀ j, j < 8 → q.2.2 9 j = 0)
  | 0, i, lv, F, hm, l1, l2, l3, h => by
    refine Go_S ?_
    simp only [L_Ar_fill_15, ↓reduceIte]
    exact Go_pos (by rw [l2, l3, sN_le (by omega) (by omega)]; omega) (Go_ret ⟨rfl, fr_rfl, fun j hj => h j (by omega)⟩)
  | m + 1, i, lv, F, hm, l1, l2, l3, h => by
    refine Go_S ?_
    simp only [L_Ar_fill_15, ↓reduceIte]
    have e2 : (lv 2).toNatClampNeg = i := by rw [l2, sN_nat (by omega)]
    rw [e2]
    refine Go_neg (by rw [l2, l3, sN_le (by omega) (by omega)]; omega) (Go_pos (by rw [l2, wN_0, sN_lt (by omega) (by omega)]; omega) ?_)
    refine Go_mono (g_fill_15 X m (i + 1) _ _ (by omega) l1 (by show lv 2 + Int32.ofInt 1 = _; rw [l2]; exact sN_add i 1) l3 (fun j hj => ?_)) (fun q hq => ⟨hq.1, fr_trans (fr_vup fr_rfl (by decide)) hq.2.1, hq.2.2⟩)
    show upd (F 9) i (lv 1) j = 0
    rw [upd_app]
    split
    · exact l1
    · exact h j (by omega)
theorem e_fill_15 (X : Nat → Int32) (F : Nat → Nat → Int32) : Go (fun n => f_Ar_fill_15 n X F 0) (fun q => q.2.1 = X ∧ fr [9] F q.2.2 ∧ ∀ j, j < 8 → q.2.2 9 j = 0) := g_fill_15 X 8 0 _ F rfl rfl rfl rfl (fun j hj => by omega)
theorem g_fill_13 (X : Nat → Int32) : ∀ (m i : Nat) (lv : Nat → Int32) (F : Nat → Nat → Int32), i + m = 256 → lv 1 = 0 → lv 2 = sN i → lv 3 = sN 256 → (∀ j, j < i → F 7 j = 0) → Go (fun n => L_Ar_fill_13 n 5 lv X F) (fun q => q.2.1 = X ∧ fr [7] F q.2.2 ∧ ∀ j, j < 256 → q.2.2 7 j = 0)
  | 0, i, lv, F, hm, l1, l2, l3, h => by
    refine Go_S ?_
    simp only [L_Ar_fill_13, ↓reduceIte]
    exact Go_pos (by rw [l2, l3, sN_le (by omega) (by omega)]; omega) (Go_ret ⟨rfl, fr_rfl, fun j hj => h j (by omega)⟩)
  | m + 1, i, lv, F, hm, l1, l2, l3, h => by
    refine Go_S ?_
    simp only [L_Ar_fill_13, ↓reduceIte]
    have e2 : (lv 2).toNatClampNeg = i := by rw [l2, sN_nat (by omega)]
    rw [e2]
    refine Go_neg (by rw [l2, l3, sN_le (by omega) (by omega)]; omega) (Go_pos (by rw [l2, wN_0, sN_lt (by omega) (by omega)]; omega) ?_)
    refine Go_mono (g_fill_13 X m (i + 1) _ _ (by omega) l1 (by show lv 2 + Int32.ofInt 1 = _; rw [l2]; exact sN_add i 1) l3 (fun j hj => ?_)) (fun q hq => ⟨hq.1, fr_trans (fr_vup fr_rfl (by decide)) hq.2.1, hq.2.2⟩)
    show upd (F 7) i (lv 1) j = 0
    rw [upd_app]
    split
    · exact l1
    · exact h j (by omega)
theorem e_fill_13 (X : Nat → Int32) (F : Nat → Nat → Int32) : Go (fun n => f_Ar_fill_13 n X F 0) (fun q => q.2.1 = X ∧ fr [7] F q.2.2 ∧ ∀ j, j < 256 → q.2.2 7 j = 0) := g_fill_13 X 256 0 _ F rfl rfl rfl rfl (fun j hj => by omega)
theorem g_fill_14 (X : Nat → Int32) : ∀ (m i : Nat) (lv : Nat → Int32) (F : Nat → Nat → Int32), i + m = 8 → lv 1 = 0 → lv 2 = sN i → lv 3 = sN 8 → (∀ j, j < i → F 8 j = 0) → Go (fun n => L_Ar_fill_14 n 5 lv X F) (fun q => q.2.1 = X ∧ fr [8] F q.2.2 ∧ ∀ j, j < 8 → q.2.2 8 j = 0)
  | 0, i, lv, F, hm, l1, l2, l3, h => by
    refine Go_S ?_
    simp only [L_Ar_fill_14, ↓reduceIte]
    exact Go_pos (by rw [l2, l3, sN_le (by omega) (by omega)]; omega) (Go_ret ⟨rfl, fr_rfl, fun j hj => h j (by omega)⟩)
  | m + 1, i, lv, F, hm, l1, l2, l3, h => by
    refine Go_S ?_
    simp only [L_Ar_fill_14, ↓reduceIte]
    have e2 : (lv 2).toNatClampNeg = i := by rw [l2, sN_nat (by omega)]
    rw [e2]
    refine Go_neg (by rw [l2, l3, sN_le (by omega) (by omega)]; omega) (Go_pos (by rw [l2, wN_0, sN_lt (by omega) (by omega)]; omega) ?_)
    refine Go_mono (g_fill_14 X m (i + 1) _ _ (by omega) l1 (by show lv 2 + Int32.ofInt 1 = _; rw [l2]; exact sN_add i 1) l3 (fun j hj => ?_)) (fun q hq => ⟨hq.1, fr_trans (fr_vup fr_rfl (by decide)) hq.2.1, hq.2.2⟩)
    show upd (F 8) i (lv 1) j = 0
    rw [upd_app]
    split
    · exact l1
    · exact h j (by omega)
theorem e_fill_14 (X : Nat → Int32) (F : Nat → Nat → Int32) : Go (fun n => f_Ar_fill_14 n X F 0) (fun q => q.2.1 = X ∧ fr [8] F q.2.2 ∧ ∀ j, j < 8 → q.2.2 8 j = 0) := g_fill_14 X 8 0 _ F rfl rfl rfl rfl (fun j hj => by omega)
theorem g_fillPlates {J : Nat} {w : Nat → Nat} (hJ : J ≤ 8) (hw : ∀ j, w j ≤ j) (X : Nat → Int32) (x15 : X 15 = sN J) : ∀ (m i : Nat) (lv : Nat → Int32) (F : Nat → Nat → Int32), i + m = J → lv 1 = sN i → (∀ j, j < J → F 8 j = sN (w j)) → (∀ p, p < 8 → F 9 p = sN (bset w p i)) → Go (fun n => L_Sh_fillPlates n 10 lv X F) (fun q => q.2.1 = X ∧ fr [9] F q.2.2 ∧ ∀ p, p < 8 → q.2.2 9 p = sN (bset w p J))
  | 0, i, lv, F, hm, l1, h8, h9 => by
    refine Go_S ?_
    simp only [L_Sh_fillPlates, ↓reduceIte]
    refine Go_pos (by rw [l1, x15, sN_le (by omega) (by omega)]; omega) (Go_ret ⟨rfl, fr_rfl, fun p hp => ?_⟩)
    rw [show J = i by omega]; exact h9 p hp
  | m + 1, i, lv, F, hm, l1, h8, h9 => by
    have hwi := hw i
    refine Go_S ?_
    simp only [L_Sh_fillPlates, ↓reduceIte]
    have e1 : (lv 1).toNatClampNeg = i := by rw [l1, sN_nat (by omega)]
    rw [e1, h8 i (by omega), sN_nat (show w i < 2147483648 by omega), h9 (w i) (by omega)]
    have cw : ¬ (sN (w i) < 0 ∨ 8 ≤ w i) := by rw [wN_0, sN_lt (by omega) (by omega)]; omega
    refine Go_neg (by rw [l1, x15, sN_le (by omega) (by omega)]; omega) (Go_neg (by rw [l1, wN_8, sN_le (by omega) (by omega)]; omega) (Go_pos (by rw [l1, wN_0, sN_lt (by omega) (by omega)]; omega) (Go_neg (fun z => cw (Or.inl z)) (Go_neg (by rw [wN_8, sN_le (by omega) (by omega)]; omega) (Go_pos cw (Go_pos cw ?_))))))
    rw [l1, bit_or ⟨bset w (w i) i, bset_lt i (by omega)⟩ ⟨i, by omega⟩]
    refine Go_mono (g_fillPlates hJ hw X x15 m (i + 1) _ _ (by omega) (sN_add i 1) h8 (fun p hp => ?_)) (fun q hq => ⟨hq.1, fr_trans (fr_vup fr_rfl (by decide)) hq.2.1, hq.2.2⟩)
    show upd (F 9) (w i) _ p = _
    rw [upd_app]
    by_cases e : p = w i
    · subst e
      rw [if_pos rfl]
      show _ = sN (if w i = w i then bset w (w i) i ||| 2 ^ i else bset w (w i) i)
      rw [if_pos rfl]
    · rw [if_neg e]
      show _ = sN (if w i = p then bset w p i ||| 2 ^ i else bset w p i)
      rw [if_neg (fun z => e z.symm)]
      exact h9 p hp
theorem g_greatest {k : Nat} {w : Nat → Nat} (hk : k ≤ 8) (hw : ∀ j, w j ≤ j) (X : Nat → Int32) (F : Nat → Nat → Int32) (h8 : ∀ j, j < k → F 8 j = sN (w j)) : ∀ (m i : Nat) (lv : Nat → Int32), i + m = k → lv 1 = sN k → lv 2 = sN (gb w i) → lv 3 = sN i → Go (fun n => L_Sh_greatestBefore n 4 lv X F) (fun q => q = (sN (gb w k), X, F))
  | 0, i, lv, hm, l1, l2, l3 => by
    refine Go_S ?_
    simp only [L_Sh_greatestBefore, ↓reduceIte]
    refine Go_pos (by rw [l1, l3, sN_le (by omega) (by omega)]; omega) (Go_ret ?_)
    rw [l2, show i = k by omega]
  | m + 1, i, lv, hm, l1, l2, l3 => by
    have hwi := hw i
    have hg := gb_le hw i
    refine Go_S ?_
    simp only [L_Sh_greatestBefore, ↓reduceIte]
    have e3 : (lv 3).toNatClampNeg = i := by rw [l3, sN_nat (by omega)]
    rw [e3, h8 i (by omega), l2, sN_max _ _ (by omega) (by omega)]
    refine Go_neg (by rw [l1, l3, sN_le (by omega) (by omega)]; omega) (Go_neg (by rw [l3, wN_8, sN_le (by omega) (by omega)]; omega) (Go_pos (by rw [l3, wN_0, sN_lt (by omega) (by omega)]; omega) ?_))
    exact g_greatest hk hw X F h8 m (i + 1) _ (by omega) l1 rfl (by show lv 3 + Int32.ofInt 1 = _; rw [l3]; exact sN_add i 1)
theorem e_greatest {k : Nat} {w : Nat → Nat} (hk : k ≤ 8) (hw : ∀ j, w j ≤ j) (X : Nat → Int32) (F : Nat → Nat → Int32) (h8 : ∀ j, j < k → F 8 j = sN (w j)) : Go (fun n => f_Sh_greatestBefore n X F (sN k)) (fun q => q = (sN (gb w k), X, F)) := g_greatest hk hw X F h8 k 0 _ (by omega) rfl rfl rfl
theorem e_plateCount {J : Nat} {w : Nat → Nat} (hJ : J ≤ 8) (hw : ∀ j, w j ≤ j) (X : Nat → Int32) (F : Nat → Nat → Int32) (x15 : X 15 = sN J) (h8 : ∀ j, j < J → F 8 j = sN (w j)) : Go (fun n => f_Sh_plateCount n X F) (fun q => q = (sN (gb w J + 1), X, F)) := by
  unfold f_Sh_plateCount
  rw [x15]
  refine Go_bind (e_greatest hJ hw X F h8) (fun q hq => ?_)
  rw [hq]
  exact Go_ret (by rw [wN_1, sN_add])
theorem g_slots {J v z : Nat} {cp : Nat → Nat} (hJ : J ≤ 8) (hv : v < 256) (hz : 1 ≤ z) (hz2 : z ≤ 100000) (hcp : ∀ j, j < J → cp j ≤ 100000) (X : Nat → Int32) (F : Nat → Nat → Int32) (x15 : X 15 = sN J) (h6 : ∀ j, j < J → F 6 j = sN (cp j)) : ∀ (m j acc : Nat) (lv : Nat → Int32), j + m = J → acc ≤ 100000 * j → lv 1 = sN v → lv 2 = sN z → lv 3 = sN acc → lv 4 = sN j → Go (fun n => L_Sh_slotsFor n 5 lv X F) (fun q => q = (sN (acc + slR cp (fun j => Nat.testBit v j) z m j), X, F))
  | 0, j, acc, lv, hm, ha, l1, l2, l3, l4 => by
    refine Go_S ?_
    simp only [L_Sh_slotsFor, ↓reduceIte]
    exact Go_pos (by rw [x15, l4, sN_le (by omega) (by omega)]; omega) (Go_ret (by rw [l3]; rfl))
  | m + 1, j, acc, lv, hm, ha, l1, l2, l3, l4 => by
    have hc := hcp j (by omega)
    have hu := upw_le (a := cp j) hz
    refine Go_S ?_
    simp only [L_Sh_slotsFor, ↓reduceIte]
    have e4 : (lv 4).toNatClampNeg = j := by rw [l4, sN_nat (by omega)]
    have eb : ((lv 1 >>> (lv 4 &&& 31)) &&& 1 = 1) = (Nat.testBit v j = true) := by rw [l1, l4]; exact bit_at ⟨v, hv⟩ ⟨j, by omega⟩
    have nx : lv 4 + Int32.ofInt 1 = sN (j + 1) := by rw [l4]; exact sN_add j 1
    simp only [eb]
    rw [e4, h6 j (by omega), l2, sN_upward _ _ (by omega) (by omega) (by omega)]
    refine Go_neg (by rw [x15, l4, sN_le (by omega) (by omega)]; omega) (Go_neg (by rw [l4, wN_8, sN_le (by omega) (by omega)]; omega) ?_)
    unfold slR
    by_cases hb : Nat.testBit v j = true
    · simp only [hb, if_true]
      refine Go_neg (fun z => z trivial) (Go_pos (by rw [l4, wN_0, sN_lt (by omega) (by omega)]; omega) (Go_pos (Or.inr (by rw [wN_0, sN_eq (by omega) (by omega)]; omega)) ?_))
      rw [← Nat.add_assoc]
      exact g_slots hJ hv hz hz2 hcp X F x15 h6 m (j + 1) (acc + upw (cp j) z) _ (by omega) (by omega) l1 rfl (by show lv 3 + _ = _; rw [l3, sN_add]; rfl) nx
    · simp only [hb]
      refine Go_pos (fun z => absurd z (by decide)) ?_
      rw [if_neg (show ¬ false = true by decide)]
      rw [← Nat.add_assoc, Nat.add_zero]
      exact g_slots hJ hv hz hz2 hcp X F x15 h6 m (j + 1) acc _ (by omega) (by omega) l1 rfl l3 nx
theorem g_least {J v S : Nat} {cp : Nat → Nat} (hJ : J ≤ 8) (hv : v < 256) (hS : S ≤ 16) (hcp : ∀ j, j < J → cp j ≤ 100000) (X : Nat → Int32) (F : Nat → Nat → Int32) (x15 : X 15 = sN J) (x16 : X 16 = sN S) (h6 : ∀ j, j < J → F 6 j = sN (cp j)) : ∀ (m i lo hi : Nat) (lv : Nat → Int32), i + m = 32 → 1 ≤ lo → lo ≤ hi → hi ≤ 100000 → lv 1 = sN v → lv 2 = sN lo → lv 3 = sN hi → lv 4 = sN i → Go (fun n => L_Sh_leastSheets n 8 lv X F) (fun q => q = (sN (bsS (fun z => slR cp (fun j => Nat.testBit v j) z J 0) S m lo hi), X, F))
  | 0, i, lo, hi, lv, hm, h1, h2, h3, l1, l2, l3, l4 => by
    refine Go_S ?_
    simp only [L_Sh_leastSheets, ↓reduceIte]
    exact Go_pos (by rw [l4, wN_32, sN_le (by omega) (by omega)]; omega) (Go_ret (by rw [l2]; rfl))
  | m + 1, i, lo, hi, lv, hm, h1, h2, h3, l1, l2, l3, l4 => by
    have nx : lv 4 + Int32.ofInt 1 = sN (i + 1) := by rw [l4]; exact sN_add i 1
    have em : (lv 2 + lv 3) / 2 = sN ((lo + hi) / 2) := by rw [l2, l3, sN_add, wN_2, sN_div (by omega) (by omega) (by omega)]
    refine Go_S ?_
    simp only [L_Sh_leastSheets, ↓reduceIte]
    refine Go_neg (by rw [l4, wN_32, sN_le (by omega) (by omega)]; omega) ?_
    unfold bsS
    by_cases hh : hi ≤ lo
    · rw [if_pos hh]
      exact Go_pos (by rw [l2, l3, sN_le (by omega) (by omega)]; exact hh) (Go_ret (by rw [l2]))
    · rw [if_neg hh]
      refine Go_neg (by rw [l2, l3, sN_le (by omega) (by omega)]; exact hh) ?_
      rw [em, l1]
      have hsl := slR_le (cp := cp) (on := fun j => Nat.testBit v j) (z := (lo + hi) / 2) (by omega) J 0 (fun k hk => hcp k (by omega))
      refine Go_bind (g_slots hJ hv (show 1 ≤ (lo + hi) / 2 by omega) (by omega) hcp X F x15 h6 J 0 0 _ (by omega) (by omega) rfl rfl rfl rfl) (fun q hq => ?_)
      rw [hq, Nat.zero_add]
      by_cases hs : S < slR cp (fun j => Nat.testBit v j) ((lo + hi) / 2) J 0
      · rw [if_pos hs]
        refine Go_pos (by show X 16 < _; rw [x16, sN_lt (by omega) (by omega)]; exact hs) ?_
        exact g_least hJ hv hS hcp X F x15 x16 h6 m (i + 1) ((lo + hi) / 2 + 1) hi _ (by omega) (by omega) (by omega) h3 rfl (sN_add _ 1) l3 nx
      · rw [if_neg hs]
        refine Go_neg (by show ¬ X 16 < _; rw [x16, sN_lt (by omega) (by omega)]; exact hs) ?_
        exact g_least hJ hv hS hcp X F x15 x16 h6 m (i + 1) lo ((lo + hi) / 2) _ (by omega) h1 (by omega) (by omega) rfl l2 rfl nx
def mem7 (cp : Nat → Nat) (J S : Nat) (f : Nat → Int32) : Prop := ∀ u, u < 256 → f u = 0 ∨ f u = ned cp J S u
theorem e_sheetsFor {J v S : Nat} {cp : Nat → Nat} (hJ : J ≤ 8) (hv : v < 256) (hS : S ≤ 16) (hcp : ∀ j, j < J → cp j ≤ 100000) (X : Nat → Int32) (F : Nat → Nat → Int32) (x15 : X 15 = sN J) (x16 : X 16 = sN S) (h6 : ∀ j, j < J → F 6 j = sN (cp j)) (h7 : mem7 cp J S (F 7)) : Go (fun n => f_Sh_sheetsFor n X F (sN v)) (fun q => q.1 = ned cp J S v ∧ q.2.1 = X ∧ fr [7] F q.2.2 ∧ mem7 cp J S (q.2.2 7)) := by
  have cv : ¬ (sN v < 0 ∨ 256 ≤ v) := by rw [wN_0, sN_lt (by omega) (by omega)]; omega
  have hcn := cnR_le (on := fun j => Nat.testBit v j) 8 0
  unfold f_Sh_sheetsFor
  have ebc : f_In_bitCount (sN v) = sN (cnR (fun j => Nat.testBit v j) 8 0) := bit_cnt ⟨v, hv⟩
  rw [sN_nat (by omega), ebc, x16]
  refine Go_neg (fun z => cv (Or.inl z)) (Go_pos (by rw [wN_256, sN_lt (by omega) (by omega)]; exact hv) (Go_pos cv ?_))
  have put : mem7 cp J S (upd (F 7) v (ned cp J S v)) := by
    intro u hu
    rw [upd_app]
    by_cases e : u = v
    · rw [if_pos e, e]; exact Or.inr rfl
    · rw [if_neg e]; exact h7 u hu
  refine Go_ite (fun k => ?_) (fun k => Go_ite (fun k2 => ?_) (fun k2 => ?_))
  · exact Go_pos cv (Go_ret ⟨(h7 v hv).resolve_left k, rfl, fr_rfl, h7⟩)
  · rw [sN_le (by omega) (by omega)] at k2
    have en : ned cp J S v = sN (lsS cp (fun j => Nat.testBit v j) J S) := by unfold ned; rw [if_neg (by omega)]
    refine Go_bind (g_least hJ hv hS hcp X F x15 x16 h6 32 0 1 100000 _ (by omega) (by omega) (by omega) (by omega) rfl rfl rfl rfl) (fun q hq => ?_)
    rw [hq]
    refine Go_pos cv (Go_pos cv (Go_ret ⟨?_, rfl, fr_vup fr_rfl (by decide), ?_⟩))
    · show upd (F 7) v _ v = _
      rw [upd_app, if_pos rfl, en]; rfl
    · show mem7 cp J S (upd (F 7) v (sN (lsS cp (fun j => Nat.testBit v j) J S)))
      rw [← en]; exact put
  · rw [sN_le (by omega) (by omega)] at k2
    have en : ned cp J S v = -1 := by unfold ned; rw [if_pos (by omega)]
    refine Go_pos cv (Go_pos cv (Go_ret ⟨?_, rfl, fr_vup fr_rfl (by decide), ?_⟩))
    · show upd (F 7) v _ v = _
      rw [upd_app, if_pos rfl, en]
    · show mem7 cp J S (upd (F 7) v (-1))
      rw [← en]; exact put
