/-! the model lays a page -/
theorem m_place {c r sh s p n : Nat} {st : Nat → Nat} {Y : Nat → Int32} {G : Nat → Nat → Int32} (hb : bkB c (c * r) sh n st) (y6 : Y 6 = sN c) (y7 : Y 7 = sN r) (y16 : Y 16 = sN sh) (g14 : stF st (G 14)) (hs : s < sh) (h1 : 1 ≤ p) (h2 : p ≤ 2 * (c * r)) : f_Mo_bookPlace Y G (sN p) (sN s) = sN (plc (st 0) (c * r) sh s p) := by
  obtain ⟨bc, bN, bs, bB, bn, -, bst⟩ := hb
  have b0 := bst.1
  have f0 : G 14 (0 : Int32).toNatClampNeg = sN (st 0) := g14 0 (by omega)
  have ea : 2 * Y 6 * Y 7 = sN (2 * (c * r)) := by rw [y6, y7, wN_2, sN_mul, sN_mul, Nat.mul_assoc]
  generalize c * r = N at *
  have e1 : N * (s + 1) ≤ N * sh := Nat.mul_le_mul_left N hs
  have e2 : sh * (2 * N) = 2 * (N * sh) := by rw [Nat.mul_left_comm, Nat.mul_comm sh N]
  have e3 : N * (s + 1) = N * s + N := Nat.mul_succ N s
  have e5 : 2 * N / 2 = N := by omega
  have eh : sN (2 * N) / 2 = sN N := by rw [wN_2, sN_div (by omega) (by omega) (by omega), e5]
  have ep : sN p - sN p / 2 * 2 = sN (p % 2) := by rw [wN_2, sN_div (by omega) (by omega) (by omega), sN_mul, sN_mod]
  unfold f_Mo_bookPlace plc
  rw [f0, ea, eh, ep, y16, wN_1, wN_2, wN_0]
  simp only [sN_eq (show st 0 < 2147483648 by omega) (show 1 < 2147483648 by omega), sN_eq (show st 0 < 2147483648 by omega) (show 0 < 2147483648 by omega), sN_lt (show N < 2147483648 by omega) (show p < 2147483648 by omega), sN_eq (show p % 2 < 2147483648 by omega) (show 0 < 2147483648 by omega)]
  by_cases k1 : st 0 = 1
  · rw [if_pos (by omega), if_neg (by omega), if_pos k1]
    by_cases k2 : N < p
    · rw [if_pos k2, if_pos k2, sN_mul, sN_add, sN_mul, sN_sub (by omega), sN_add, sN_sub (by omega)]
    · rw [if_neg k2, if_neg k2, sN_mul, sN_add]
  · rw [if_neg k1]
    by_cases k2 : st 0 = 2
    · rw [if_pos (by omega), if_pos (by omega), if_pos k2]
      by_cases k3 : p % 2 = 0
      · rw [if_neg (by omega), sN_sub (by omega), sN_div (by omega) (by omega) (by omega), sN_mul, sN_add, sN_mul, sN_add, k3]; rfl
      · rw [if_pos k3, sN_sub (by omega), sN_div (by omega) (by omega) (by omega), sN_mul, sN_add, sN_mul, sN_add, show p % 2 = 1 by omega]; rfl
    · rw [if_neg (by omega), if_neg k2, sN_mul, sN_add]
theorem m_creep {c r sh s p n : Nat} {st : Nat → Nat} {Y : Nat → Int32} {G : Nat → Nat → Int32} (hb : bkB c (c * r) sh n st) (y6 : Y 6 = sN c) (y7 : Y 7 = sN r) (y16 : Y 16 = sN sh) (g14 : stF st (G 14)) (hs : s < sh) (h1 : 1 ≤ p) (h2 : p ≤ 2 * (c * r)) : f_Mo_creepOf Y G (sN p) (sN (plc (st 0) (c * r) sh s p)) = sN (crp (st 0) (c * r) sh (st 7) (st 8) (plc (st 0) (c * r) sh s p)) := by
  obtain ⟨bc, bN, bs, bB, bn, -, bst⟩ := hb
  have b0 := bst.1
  have b7 := bst.2.2.2.2.2.2.2.1
  have b8 := bst.2.2.2.2.2.2.2.2.1
  have f0 : G 14 (0 : Int32).toNatClampNeg = sN (st 0) := g14 0 (by omega)
  have f7 : G 14 (7 : Int32).toNatClampNeg = sN (st 7) := g14 7 (by omega)
  have f8 : G 14 (8 : Int32).toNatClampNeg = sN (st 8) := g14 8 (by omega)
  have ea : Y 6 * Y 7 = sN (c * r) := by rw [y6, y7, sN_mul]
  have hr := plc_r (bd := st 0) hs h1 h2
  have hd := dep_le (bd := st 0) bB hr.2
  have hm : dep (st 0) (c * r) sh (plc (st 0) (c * r) sh s p) * st 7 ≤ 320 * 10000 := Nat.mul_le_mul hd b7
  -- what is behind: the depth
  have fin : ∀ d : Int32, d = sN (dep (st 0) (c * r) sh (plc (st 0) (c * r) sh s p)) → f_Mo_less (d * sN (st 7) / 1000) (sN (st 8)) = sN (crp (st 0) (c * r) sh (st 7) (st 8) (plc (st 0) (c * r) sh s p)) := by
    intro d hd'
    unfold crp
    rw [hd', sN_mul, wN_1000, sN_div (by omega) (by omega) (by omega), sN_less (by omega) (by omega)]
  unfold f_Mo_creepOf
  rw [f0, ea, f7, f8, y16]
  have n0 : (sN (st 0) = 0) = (st 0 = 0) := by rw [wN_0, sN_eq (by omega) (by omega)]
  have n2 : (sN (st 0) = 2) = (st 0 = 2) := by rw [wN_2, sN_eq (by omega) (by omega)]
  simp only [n0, n2]
  by_cases k0 : st 0 = 0
  · rw [if_neg (fun z => z k0), if_neg (fun z => z k0), if_pos (by omega)]
    refine fin _ ?_
    unfold dep plc
    rw [if_neg (by omega), if_neg (by omega), if_neg (by omega), if_neg (by omega)]
    have e4 : (2 * (c * r) * s + p - 1) / 2 % (c * r) = (p - 1) / 2 := by
      generalize c * r = N at *
      have e5 : (2 * N * s + p - 1) / 2 = N * s + (p - 1) / 2 := by
        have : 2 * N * s = 2 * (N * s) := Nat.mul_assoc 2 N s
        omega
      rw [e5, Nat.mul_add_mod, Nat.mod_eq_of_lt (by omega)]
    rw [e4, wN_1, wN_2, sN_sub (by omega), sN_div (by omega) (by omega) (by omega), sN_sub (by omega), sN_sub (by omega), sN_less (by omega) (by omega)]
  · rw [if_pos k0, if_pos k0]
    by_cases k2 : st 0 = 2
    · rw [if_neg (fun z => z k2)]
      refine fin _ ?_
      unfold dep
      rw [if_neg (by omega), if_pos k2]; rfl
    · rw [if_pos k2]
      refine fin _ ?_
      unfold dep
      rw [if_pos (by omega)]
      generalize plc (st 0) (c * r) sh s p = g at *
      generalize c * r = N at *
      have e6 : sh * N = N * sh := Nat.mul_comm sh N
      rw [sN_mul, wN_1, wN_2, sN_sub (by omega), sN_div (by omega) (by omega) (by omega), sN_sub (by omega), sN_sub (by omega), sN_less (by omega) (by omega)]
def lyW0 (a g T : Nat) (G : Nat → Nat → Int32) : Nat → Nat → Int32 := va_up (va_up G 20 (upd (G 20) (g - 1) (sN T))) 15 (upd (G 15) a (sN T))
def lyW1 (a : Nat) (G : Nat → Nat → Int32) : Nat → Nat → Int32 := va_up (va_up (va_up (va_up G 16 (upd (G 16) a 0)) 17 (upd (G 17) a 0)) 18 (upd (G 18) a 0)) 19 (upd (G 19) a 0)
def lyW2 (T : Nat) (v : Int32) (G : Nat → Nat → Int32) : Nat → Nat → Int32 := va_up G 21 (upd (G 21) T v)
def lyW3 (a : Nat) (v : Int32) (G : Nat → Nat → Int32) : Nat → Nat → Int32 := va_up G 16 (upd (G 16) a v)
def lyW4 (a : Nat) (v : Int32) (G : Nat → Nat → Int32) : Nat → Nat → Int32 := va_up G 17 (upd (G 17) a v)
def lyW5 (a : Nat) (v w : Int32) (G : Nat → Nat → Int32) : Nat → Nat → Int32 := va_up (va_up G 18 (upd (G 18) a v)) 19 (upd (G 19) a w)
/-- the scale as the model finds it -/
theorem m_scale {st : Nat → Nat} (hst : stOK st) : (f_Mo_lessLong ((1000 : Int64) * (sN (st 3)).toInt64 / (sN (st 5)).toInt64) ((1000 : Int64) * (sN (st 4)).toInt64 / (sN (st 6)).toInt64)).toInt32 = sN (min (1000 * st 3 / st 5) (1000 * st 4 / st 6)) := by
  obtain ⟨-, -, -, h3, h4, h5, h6, -⟩ := hst
  have d1 : 1000 * st 3 / st 5 ≤ 1000 * st 3 := Nat.div_le_self _ _
  have d2 : 1000 * st 4 / st 6 ≤ 1000 * st 4 := Nat.div_le_self _ _
  rw [jN_1000, sN_j (by omega), sN_j (by omega), sN_j (by omega), sN_j (by omega), jN_mul, jN_mul, jN_div (by omega) (by omega) (by omega), jN_div (by omega) (by omega) (by omega), jN_less (by omega) (by omega), jN_s (by omega)]
theorem m_mine {b sc : Nat} (hb : b ≤ 100000) (hs : sc ≤ 1000) : ((sN b).toInt64 * (sN sc).toInt64 / 1000).toInt32 = sN (b * sc / 1000) := by
  have : b * sc ≤ 100000 * 1000 := Nat.mul_le_mul hb hs
  rw [jN_1000, sN_j (by omega), sN_j (by omega), jN_mul, jN_div (by omega) (by omega) (by omega), jN_s (by omega)]
theorem k_409 {c sc a p pl h : Nat} {st : Nat → Nat} (hc : 1 ≤ c) (hc8 : c ≤ 8) (ha : a < 640) (hp : p < 33) (hpl : pl < 16) (lv Y : Nat → Int32) (G : Nat → Nat → Int32) (y6 : Y 6 = sN c) (g4 : G 14 4 = sN (st 4)) (g12 : G 12 p = sN pl) (l1 : lv 1 = sN p) (l8 : lv 8 = sN a) (l13 : lv 13 = sN sc) (l15 : lv 15 = sN (st 6 * sc / 1000)) : Go (fun n => L_Mo_lay n 409 lv Y G) (fun q => q.2 = (Y, lyW5 a (edY (st 4) (st 6) sc c pl) (sN sc) G)) := by
  have e1 : (lv 1).toNatClampNeg = p := by rw [l1, sN_nat (by omega)]
  have e8 : (lv 8).toNatClampNeg = a := by rw [l8, sN_nat (by omega)]
  have c1 : ¬ (lv 1 < 0 ∨ 33 ≤ p) := by rw [l1, wN_0, sN_lt (by omega) (by omega)]; omega
  have c8 : ¬ (lv 8 < 0 ∨ 640 ≤ a) := by rw [l8, wN_0, sN_lt (by omega) (by omega)]; omega
  have n0 : ¬ Y 6 = 0 := by rw [y6, wN_0, sN_eq (by omega) (by omega)]; omega
  have g4' : G 14 (4 : Int32).toNatClampNeg = sN (st 4) := g4
  refine Go_S ?_
  simp only [L_Mo_lay, ↓reduceIte, Nat.reduceEqDiff]
  rw [e1, e8]
  refine Go_pos c1 (Go_pos n0 (Go_pos c8 (Go_pos c8 (Go_ret ?_))))
  rw [g12, g4', y6, l13, l15, down2, sN_div (by omega) (by omega) (by omega)]
  rfl
theorem k_356 {c sc a p pl cr g dn : Nat} {st : Nat → Nat} (hc : 1 ≤ c) (hc8 : c ≤ 8) (ha : a < 640) (hp : p < 33) (hpl : pl < 16) (lv Y : Nat → Int32) (G : Nat → Nat → Int32) (y6 : Y 6 = sN c) (g3 : G 14 3 = sN (st 3)) (g4 : G 14 4 = sN (st 4)) (g12 : G 12 p = sN pl) (l1 : lv 1 = sN p) (l8 : lv 8 = sN a) (l9 : lv 9 = sN cr) (l13 : lv 13 = sN sc) (l14 : lv 14 = sN (st 5 * sc / 1000)) (l15 : lv 15 = sN (st 6 * sc / 1000)) (l17 : lv 17 = if (g % 2 = 1) = (dn = 0) then 1 else 0) : Go (fun n => L_Mo_lay n 356 lv Y G) (fun q => q.2 = (Y, lyW5 a (edY (st 4) (st 6) sc c pl) (sN sc) (lyW4 a (edX (st 3) (st 5) sc c pl cr g dn) G))) := by
  have e1 : (lv 1).toNatClampNeg = p := by rw [l1, sN_nat (by omega)]
  have e8 : (lv 8).toNatClampNeg = a := by rw [l8, sN_nat (by omega)]
  have c1 : ¬ (lv 1 < 0 ∨ 33 ≤ p) := by rw [l1, wN_0, sN_lt (by omega) (by omega)]; omega
  have c8 : ¬ (lv 8 < 0 ∨ 640 ≤ a) := by rw [l8, wN_0, sN_lt (by omega) (by omega)]; omega
  have n0 : ¬ Y 6 = 0 := by rw [y6, wN_0, sN_eq (by omega) (by omega)]; omega
  have g3' : G 14 (3 : Int32).toNatClampNeg = sN (st 3) := g3
  refine Go_S ?_
  simp only [L_Mo_lay, ↓reduceIte, Nat.reduceEqDiff]
  rw [e1, e8]
  refine Go_pos c1 (Go_pos n0 ?_)
  rw [g12, g3', down2, l14, l9]
  have e6 : sN pl - sN pl / Y 6 * Y 6 = sN (pl % c) := by rw [y6, sN_div (by omega) (by omega) (by omega), sN_mul, sN_mod]
  rw [e6]
  by_cases h : (g % 2 = 1) = (dn = 0)
  · rw [if_pos h] at l17
    have ed : edX (st 3) (st 5) sc c pl cr g dn = sN (st 3) * sN (pl % c) + f_Im_downward (sN (st 3) - sN (st 5 * sc / 1000)) 2 + -sN cr := by unfold edX; rw [if_pos h]
    rw [ed]
    exact Go_neg (by rw [l17]; decide) (Go_pos c8 (k_409 (st := st) (h := 0) hc hc8 ha hp hpl _ Y _ y6 g4 g12 l1 l8 l13 l15))
  · rw [if_neg h] at l17
    have ed : edX (st 3) (st 5) sc c pl cr g dn = sN (st 3) * sN (pl % c) + f_Im_downward (sN (st 3) - sN (st 5 * sc / 1000)) 2 + sN cr := by unfold edX; rw [if_neg h]
    rw [ed]
    exact Go_pos l17 (Go_pos c8 (k_409 (st := st) (h := 0) hc hc8 ha hp hpl _ Y _ y6 g4 g12 l1 l8 l13 l15))
theorem k_278 {c sc a p pl cr g dn : Nat} {st : Nat → Nat} (hst : stOK st) (hsc : sc ≤ 1000) (hg : g < 1000) (hdn : dn ≤ 1) (hc : 1 ≤ c) (hc8 : c ≤ 8) (ha : a < 640) (hp : p < 33) (hpl : pl < 16) (lv Y : Nat → Int32) (G : Nat → Nat → Int32) (y6 : Y 6 = sN c) (g3 : G 14 3 = sN (st 3)) (g4 : G 14 4 = sN (st 4)) (g12 : G 12 p = sN pl) (g13 : G 13 p = sN dn) (l1 : lv 1 = sN p) (l6 : lv 6 = sN g) (l8 : lv 8 = sN a) (l9 : lv 9 = sN cr) (l10 : lv 10 = sN (st 5)) (l11 : lv 11 = sN (st 6)) (l13 : lv 13 = sN sc) : Go (fun n => L_Mo_lay n 278 lv Y G) (fun q => q.2 = (Y, lyW5 a (edY (st 4) (st 6) sc c pl) (sN sc) (lyW4 a (edX (st 3) (st 5) sc c pl cr g dn) (lyW3 a (sN dn) G)))) := by
  have e1 : (lv 1).toNatClampNeg = p := by rw [l1, sN_nat (by omega)]
  have c1 : ¬ (lv 1 < 0 ∨ 33 ≤ p) := by rw [l1, wN_0, sN_lt (by omega) (by omega)]; omega
  have hst' := hst
  obtain ⟨-, -, -, h3, h4, h5, h6, -⟩ := hst'
  have eg2 : sN g - sN g / 2 * 2 = sN (g % 2) := by rw [wN_2, sN_div (by omega) (by omega) (by omega), sN_mul, sN_mod]
  have k339 : ∀ lv' : Nat → Int32, lv' 1 = sN p → lv' 8 = sN a → lv' 9 = sN cr → lv' 13 = sN sc → lv' 14 = sN (st 5 * sc / 1000) → lv' 15 = sN (st 6 * sc / 1000) → lv' 16 = sN dn → (lv' 17 = if (g % 2 = 1) = (dn = 0) then 1 else 0) → Go (fun n => L_Mo_lay n 339 lv' Y G) (fun q => q.2 = (Y, lyW5 a (edY (st 4) (st 6) sc c pl) (sN sc) (lyW4 a (edX (st 3) (st 5) sc c pl cr g dn) (lyW3 a (sN dn) G)))) := by
    intro lv' m1 m8 m9 m13 m14 m15 m16 m17
    have e8 : (lv' 8).toNatClampNeg = a := by rw [m8, sN_nat (by omega)]
    have c8 : ¬ (lv' 8 < 0 ∨ 640 ≤ a) := by rw [m8, wN_0, sN_lt (by omega) (by omega)]; omega
    refine Go_S ?_
    simp only [L_Mo_lay, ↓reduceIte, Nat.reduceEqDiff]
    rw [e8]
    rcases (show dn = 0 ∨ dn = 1 by omega) with rfl | rfl
    · exact Go_pos m16 (Go_pos c8 (k_356 (st := st) hc hc8 ha hp hpl _ Y _ y6 g3 g4 g12 m1 m8 m9 m13 m14 m15 m17))
    · exact Go_neg (by rw [m16]; decide) (Go_pos c8 (k_356 (st := st) hc hc8 ha hp hpl _ Y _ y6 g3 g4 g12 m1 m8 m9 m13 m14 m15 m17))
  have i5 : ((lv 10).toInt64 * (lv 13).toInt64 / 1000).toInt32 = sN (st 5 * sc / 1000) := by rw [l10, l13]; exact m_mine h5.2 hsc
  have i6 : ((lv 11).toInt64 * (lv 13).toInt64 / 1000).toInt32 = sN (st 6 * sc / 1000) := by rw [l11, l13]; exact m_mine h6.2 hsc
  refine Go_S ?_
  simp only [L_Mo_lay, ↓reduceIte, Nat.reduceEqDiff]
  rw [e1, l6, eg2, g13, i5, i6]
  refine Go_pos c1 (Go_ite (fun hz => ?_) (fun hz => ?_))
  · rw [wN_1, sN_eq (by omega) (by omega)] at hz
    refine Go_ite (fun hy => ?_) (fun hy => ?_)
    · rw [wN_0, sN_eq (by omega) (by omega)] at hy
      refine k339 _ l1 l8 l9 l13 rfl rfl rfl ?_
      rw [if_neg (by simp [hz, hy.symm])]; rfl
    · rw [wN_0, sN_eq (by omega) (by omega)] at hy
      refine k339 _ l1 l8 l9 l13 rfl rfl rfl ?_
      rw [if_pos (by simp only [hz, false_iff, eq_iff_iff]; omega)]; rfl
  · rw [wN_1, sN_eq (by omega) (by omega)] at hz
    refine Go_ite (fun hy => ?_) (fun hy => ?_)
    · rw [wN_1, sN_eq (by omega) (by omega)] at hy
      refine k339 _ l1 l8 l9 l13 rfl rfl rfl ?_
      rw [if_neg (by simp only [eq_iff_iff]; omega)]; rfl
    · rw [wN_1, sN_eq (by omega) (by omega)] at hy
      refine k339 _ l1 l8 l9 l13 rfl rfl rfl ?_
      rw [if_pos (by simp only [eq_iff_iff]; omega)]; rfl
