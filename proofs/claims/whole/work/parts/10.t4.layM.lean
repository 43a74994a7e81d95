/-! the model lays a page, to the end -/
def lyOut (T a g cr dn c pl : Nat) (st : Nat → Nat) (G : Nat → Nat → Int32) : Nat → Nat → Int32 := if T = 0 then lyW1 a (lyW0 a g T G) else lyW5 a (edY (st 4) (st 6) (scl st) c pl) (sN (scl st)) (lyW4 a (edX (st 3) (st 5) (scl st) c pl cr g dn) (lyW3 a (sN dn) (lyW2 T (sN cr) (lyW1 a (lyW0 a g T G)))))
theorem e_Mo_lay {c r sh s p n wy bl : Nat} {st : Nat → Nat} {lf : Nat → Nat} (hb : bkB c (c * r) sh n st) (ok : lfOK c r lf) (hbl : bl = sh * (2 * (c * r)) - n) (Y : Nat → Int32) (G : Nat → Nat → Int32) (y6 : Y 6 = sN c) (y7 : Y 7 = sN r) (y16 : Y 16 = sN sh) (g14 : stF st (G 14)) (hP : pgM c r wy (c * r) lf G) (hs : s < sh) (h1 : 1 ≤ p) (h2 : p ≤ 2 * (c * r)) : Go (fun k => f_Mo_lay k Y G (sN p) (sN s) (sN bl) (sN n)) (fun q => q.2 = (Y, lyOut (tld (st 2) n bl (plc (st 0) (c * r) sh s p)) (32 * s + (c * r * pgSd lf p + pgPl c r wy lf p)) (plc (st 0) (c * r) sh s p) (crp (st 0) (c * r) sh (st 7) (st 8) (plc (st 0) (c * r) sh s p)) (pgDn wy lf p) c (pgPl c r wy lf p) st G)) := by
  have ep := m_place hb y6 y7 y16 g14 hs h1 h2
  have ec := fun (G' : Nat → Nat → Int32) (g14' : stF st (G' 14)) => m_creep hb y6 y7 y16 g14' hs h1 h2
  obtain ⟨bc, bN, bs, bB, bn, bn2, bst⟩ := hb
  obtain ⟨a1, a2, a3, a4⟩ := pg_lt (wy := wy) bc.1 ok h1 h2
  have hgr := plc_r (bd := st 0) hs h1 h2
  have hsc := scl_le bst
  obtain ⟨b11, b12, b13⟩ := hP p h1 h2
  have hdn : pgDn wy lf p ≤ 1 := by unfold pgDn; split <;> omega
  have hk : c * r * pgSd lf p ≤ c * r * 1 := Nat.mul_le_mul_left _ a1
  have e2 : sh * (2 * (c * r)) = 2 * (c * r * sh) := by rw [Nat.mul_left_comm, Nat.mul_comm sh (c * r)]
  have g3 := g14 3 (by omega)
  have g4 := g14 4 (by omega)
  have g5 := g14 5 (by omega)
  have g6 := g14 6 (by omega)
  have g9 := g14 9 (by omega)
  have hst' := bst
  obtain ⟨-, -, i2, i3, i4, i5, i6, -, -, i9⟩ := hst'
  generalize hcr : crp (st 0) (c * r) sh (st 7) (st 8) (plc (st 0) (c * r) sh s p) = cr at ec ⊢
  generalize hg : plc (st 0) (c * r) sh s p = g at *
  generalize hN : c * r = N at *
  generalize hdn' : pgDn wy lf p = dn at *
  generalize hpl : pgPl c r wy lf p = pl at *
  generalize hsd : N * pgSd lf p = ns at *
  have hA : 32 * s + (ns + pl) < 640 := by omega
  generalize ha : 32 * s + (ns + pl) = a at *
  have hT : tld (st 2) n bl g ≤ n ∧ tld (st 2) n bl g ≤ 640 := by unfold tld; split <;> split <;> omega
  -- 264: the scale
  have k264 : ∀ (lv : Nat → Int32) (G' : Nat → Nat → Int32) (sc0 : Nat), fr [15, 16, 17, 18, 19, 20, 21] G G' → sc0 ≤ 1000 → max 1 sc0 = scl st → lv 1 = sN p → lv 6 = sN g → lv 8 = sN a → lv 9 = sN cr → lv 10 = sN (st 5) → lv 11 = sN (st 6) → lv 13 = sN sc0 → Go (fun n => L_Mo_lay n 264 lv Y G') (fun q => q.2 = (Y, lyW5 a (edY (st 4) (st 6) (scl st) c pl) (sN (scl st)) (lyW4 a (edX (st 3) (st 5) (scl st) c pl cr g dn) (lyW3 a (sN dn) G')))) := by
    intro lv G' sc0 hf hs0 hmx l1 l6 l8 l9 l10 l11 l13
    have q3 : G' 14 3 = sN (st 3) := by rw [hf 14 (by decide)]; exact g3
    have q4 : G' 14 4 = sN (st 4) := by rw [hf 14 (by decide)]; exact g4
    have q12 : G' 12 p = sN pl := by rw [hf 12 (by decide)]; exact b12
    have q13 : G' 13 p = sN dn := by rw [hf 13 (by decide)]; exact b13
    refine Go_S ?_
    simp only [L_Mo_lay, ↓reduceIte, Nat.reduceEqDiff]
    refine Go_ite (fun hz => ?_) (fun hz => ?_)
    · rw [l13, wN_1, sN_le (by omega) (by omega)] at hz
      have : sc0 = scl st := by omega
      subst this
      exact k_278 bst hsc.2 (by omega) hdn bc.1 bc.2 hA (by omega) (by omega) _ Y G' y6 q3 q4 q12 q13 l1 l6 l8 l9 l10 l11 l13
    · rw [l13, wN_1, sN_le (by omega) (by omega)] at hz
      refine k_278 bst hsc.2 (by omega) hdn bc.1 bc.2 hA (by omega) (by omega) _ Y G' y6 q3 q4 q12 q13 l1 l6 l8 l9 l10 l11 ?_
      show (1 : Int32) = _
      rw [wN_1]; congr 1; omega
  -- 217: whether it is scaled
  have k217 : ∀ (lv : Nat → Int32) (G' : Nat → Nat → Int32) (w : Nat), fr [15, 16, 17, 18, 19, 20, 21] G G' → (w = if (st 3 < st 5 ∨ st 4 < st 6) ∧ st 9 = 1 then 1 else 0) → lv 1 = sN p → lv 6 = sN g → lv 8 = sN a → lv 9 = sN cr → lv 10 = sN (st 5) → lv 11 = sN (st 6) → lv 12 = sN w → Go (fun n => L_Mo_lay n 217 lv Y G') (fun q => q.2 = (Y, lyW5 a (edY (st 4) (st 6) (scl st) c pl) (sN (scl st)) (lyW4 a (edX (st 3) (st 5) (scl st) c pl cr g dn) (lyW3 a (sN dn) G')))) := by
    intro lv G' w hf hw l1 l6 l8 l9 l10 l11 l12
    have q3 : G' 14 (3 : Int32).toNatClampNeg = sN (st 3) := by show G' 14 3 = _; rw [hf 14 (by decide)]; exact g3
    have q4 : G' 14 (4 : Int32).toNatClampNeg = sN (st 4) := by show G' 14 4 = _; rw [hf 14 (by decide)]; exact g4
    refine Go_S ?_
    simp only [L_Mo_lay, ↓reduceIte, Nat.reduceEqDiff]
    rw [l10, l11, q3, q4, m_scale bst]
    refine Go_ite (fun hz => ?_) (fun hz => ?_)
    · have hw0 : w = 0 := by
        rw [l12, wN_0, sN_eq (by rw [hw]; split <;> omega) (by omega)] at hz
        exact hz
      have hn : ¬ ((st 3 < st 5 ∨ st 4 < st 6) ∧ st 9 = 1) := by
        intro h; rw [if_pos h] at hw; omega
      have hs1 : scl st = 1000 := by unfold scl; rw [if_neg hn]
      exact k264 _ G' 1000 hf (by omega) (by rw [hs1]; rfl) l1 l6 l8 l9 rfl rfl rfl
    · have hn : ((st 3 < st 5 ∨ st 4 < st 6) ∧ st 9 = 1) := by
        apply Classical.byContradiction
        intro h
        rw [if_neg h] at hw
        exact hz (by rw [l12, hw]; rfl)
      have hs1 : scl st = max 1 (min (1000 * st 3 / st 5) (1000 * st 4 / st 6)) := by unfold scl; rw [if_pos hn]
      have j5 : ¬ (sN (st 5)).toInt64 = 0 := by rw [sN_j (by omega), jN_0, jN_eq (by omega) (by omega)]; omega
      have j6 : ¬ (sN (st 6)).toInt64 = 0 := by rw [sN_j (by omega), jN_0, jN_eq (by omega) (by omega)]; omega
      exact Go_pos j5 (Go_pos j6 (k264 _ G' (min (1000 * st 3 / st 5) (1000 * st 4 / st 6)) hf (by omega) hs1.symm l1 l6 l8 l9 rfl rfl rfl))
  -- 136
  have k136 : ∀ (lv : Nat → Int32) (G' : Nat → Nat → Int32), fr [15, 16, 17, 18, 19, 20] G G' → lv 1 = sN p → lv 6 = sN g → lv 7 = sN (tld (st 2) n bl g) → lv 8 = sN a → Go (fun n => L_Mo_lay n 136 lv Y G') (fun q => q.2 = (Y, if tld (st 2) n bl g = 0 then G' else lyW5 a (edY (st 4) (st 6) (scl st) c pl) (sN (scl st)) (lyW4 a (edX (st 3) (st 5) (scl st) c pl cr g dn) (lyW3 a (sN dn) (lyW2 (tld (st 2) n bl g) (sN cr) G'))))) := by
    intro lv G' hf l1 l6 l7 l8
    have q14 : stF st (G' 14) := by rw [hf 14 (by decide)]; exact g14
    have q3 : G' 14 (3 : Int32).toNatClampNeg = sN (st 3) := q14 3 (by omega)
    have q4 : G' 14 (4 : Int32).toNatClampNeg = sN (st 4) := q14 4 (by omega)
    have q5 : G' 14 (5 : Int32).toNatClampNeg = sN (st 5) := q14 5 (by omega)
    have q6 : G' 14 (6 : Int32).toNatClampNeg = sN (st 6) := q14 6 (by omega)
    have q9 : G' 14 (9 : Int32).toNatClampNeg = sN (st 9) := q14 9 (by omega)
    have e7 : (lv 7).toNatClampNeg = tld (st 2) n bl g := by rw [l7, sN_nat (by omega)]
    have hfr : ∀ v, fr [15, 16, 17, 18, 19, 20, 21] G (va_up G' 21 v) := fun v => fr_vup (fr_mono hf (by decide)) (by decide)
    refine Go_S ?_
    simp only [L_Mo_lay, ↓reduceIte, Nat.reduceEqDiff]
    rw [e7, l1, l6, ec G' q14, q3, q4, q5, q6, q9]
    by_cases hz : tld (st 2) n bl g = 0
    · rw [if_pos hz]
      exact Go_neg (by rw [l7, hz]; exact fun z => z rfl) (Go_ret rfl)
    · rw [if_neg hz]
      refine Go_pos (by rw [l7, wN_0, sN_eq (by omega) (by omega)]; exact hz) (Go_pos (by rw [l7, wN_0, sN_lt (by omega) (by omega)]; omega) ?_)
      refine Go_ite (fun hy => ?_) (fun hy => Go_ite (fun hx => ?_) (fun hx => Go_ite (fun hw => ?_) (fun hw => ?_)))
      · rw [wN_1, sN_eq (by omega) (by omega)] at hy
        exact k217 _ _ 0 (hfr _) (by rw [if_neg (by omega)]) rfl rfl l8 rfl rfl rfl rfl
      · rw [wN_1, sN_eq (by omega) (by omega)] at hy
        rw [sN_lt (by omega) (by omega)] at hx
        exact k217 _ _ 1 (hfr _) (by rw [if_pos (by omega)]) rfl rfl l8 rfl rfl rfl rfl
      · rw [wN_1, sN_eq (by omega) (by omega)] at hy
        rw [sN_lt (by omega) (by omega)] at hx
        rw [sN_le (by omega) (by omega)] at hw
        exact k217 _ _ 0 (hfr _) (by rw [if_neg (by omega)]) rfl rfl l8 rfl rfl rfl rfl
      · rw [wN_1, sN_eq (by omega) (by omega)] at hy
        rw [sN_lt (by omega) (by omega)] at hx
        rw [sN_le (by omega) (by omega)] at hw
        exact k217 _ _ 1 (hfr _) (by rw [if_pos (by omega)]) rfl rfl l8 rfl rfl rfl rfl
  -- 61 and 104
  have k61 : ∀ (lv : Nat → Int32), lv 1 = sN p → lv 2 = sN s → lv 5 = sN N → lv 6 = sN g → lv 7 = sN (tld (st 2) n bl g) → Go (fun n => L_Mo_lay n 61 lv Y G) (fun q => q.2 = (Y, lyOut (tld (st 2) n bl g) a g cr dn c pl st G)) := by
    intro lv l1 l2 l5 l6 l7
    have e1 : (lv 1).toNatClampNeg = p := by rw [l1, sN_nat (by omega)]
    have c1 : ¬ (lv 1 < 0 ∨ 33 ≤ p) := by rw [l1, wN_0, sN_lt (by omega) (by omega)]; omega
    have eg : lv 6 - 1 = sN (g - 1) := by rw [l6, wN_1, sN_sub (by omega)]
    have ea : (32 : Int32) * lv 2 + lv 5 * sN (pgSd lf p) + sN pl = sN a := by rw [l2, l5, wN_32, sN_mul, sN_mul, sN_add, sN_add, hsd, ← ha, Nat.add_assoc]
    have ca : ¬ (sN a < 0 ∨ 640 ≤ a) := by rw [wN_0, sN_lt (by omega) (by omega)]; omega
    refine Go_S ?_
    simp only [L_Mo_lay, ↓reduceIte, Nat.reduceEqDiff]
    rw [e1, b11, b12, eg, ea, sN_nat (show a < 2147483648 by omega), sN_nat (show g - 1 < 2147483648 by omega)]
    refine Go_pos c1 (Go_pos c1 (Go_pos (by rw [wN_0, sN_lt (by omega) (by omega)]; omega) (Go_pos ca ?_)))
    refine Go_S ?_
    simp only [L_Mo_lay, ↓reduceIte, Nat.reduceEqDiff]
    rw [show upd (upd (upd (upd (upd (upd (upd (upd am_lv0 1 (lv 1)) 2 (lv 2)) 3 (lv 3)) 4 (lv 4)) 5 (lv 5)) 6 (lv 6)) 7 (lv 7)) 8 (sN a) 8 = sN a from rfl, sN_nat (show a < 2147483648 by omega), l7]
    refine Go_pos ca (Go_pos ca (Go_pos ca (Go_pos ca ?_)))
    refine Go_mono (k136 _ (lyW1 a (lyW0 a g (tld (st 2) n bl g) G)) ?_ l1 l6 rfl rfl) (fun q hq => ?_)
    · exact fr_vup (fr_vup (fr_vup (fr_vup (fr_vup (fr_vup fr_rfl (by decide)) (by decide)) (by decide)) (by decide)) (by decide)) (by decide)
    · rw [hq]; unfold lyOut; split <;> rfl
  -- 40: the told page
  have k40 : ∀ (lv : Nat → Int32), lv 1 = sN p → lv 2 = sN s → lv 4 = sN n → lv 5 = sN N → lv 6 = sN g → (lv 7 = sI ((g : Int) - (if st 2 = 1 then bl else 0 : Nat))) → Go (fun n => L_Mo_lay n 40 lv Y G) (fun q => q.2 = (Y, lyOut (tld (st 2) n bl g) a g cr dn c pl st G)) := by
    intro lv l1 l2 l4 l5 l6 l7
    have w1 : (1 : Int32) = sI 1 := rfl
    refine Go_S ?_
    simp only [L_Mo_lay, ↓reduceIte, Nat.reduceEqDiff]
    refine Go_ite (fun hz => ?_) (fun hz => Go_ite (fun hy => ?_) (fun hy => ?_))
    · rw [l7, w1, sI_lt (by split <;> omega) (by split <;> omega) (by omega) (by omega)] at hz
      refine k61 _ l1 l2 l5 l6 ?_
      have : tld (st 2) n bl g = 0 := by unfold tld; split <;> rename_i h <;> simp only [h, ↓reduceIte] at hz <;> split <;> omega
      rw [this]; rfl
    · rw [l7, w1, sI_lt (by split <;> omega) (by split <;> omega) (by omega) (by omega)] at hz
      rw [l7, l4, sN_sI, sI_le (by split <;> omega) (by split <;> omega) (by omega) (by omega)] at hy
      refine k61 _ l1 l2 l5 l6 ?_
      show lv 7 = _
      rw [l7, sN_sI]
      congr 1
      unfold tld
      split <;> rename_i h <;> simp only [h, ↓reduceIte] at hz hy <;> split <;> omega
    · rw [l7, w1, sI_lt (by split <;> omega) (by split <;> omega) (by omega) (by omega)] at hz
      rw [l7, l4, sN_sI, sI_le (by split <;> omega) (by split <;> omega) (by omega) (by omega)] at hy
      refine k61 _ l1 l2 l5 l6 ?_
      have : tld (st 2) n bl g = 0 := by unfold tld; split <;> rename_i h <;> simp only [h, ↓reduceIte] at hz hy <;> split <;> omega
      rw [this]; rfl
  have g2 : G 14 (2 : Int32).toNatClampNeg = sN (st 2) := g14 2 (by omega)
  unfold f_Mo_lay
  rw [ep, g2]
  have e5 : Y 6 * Y 7 = sN N := by rw [y6, y7, sN_mul, hN]
  rw [e5]
  refine Go_ite (fun hz => ?_) (fun hz => ?_)
  · rw [wN_1, sN_eq (by omega) (by omega)] at hz
    refine k40 _ rfl rfl rfl rfl rfl ?_
    show sN g = _
    rw [if_neg hz, sN_sI]; exact congrArg sI (by omega)
  · rw [wN_1, sN_eq (by omega) (by omega)] at hz
    refine k40 _ rfl rfl rfl rfl rfl ?_
    show sN g - sN bl = _
    rw [if_pos (Classical.not_not.mp hz), sN_sI, sN_sI, sI_sub]
