/-! where the pages are; the model's foldAll -/
def pgL (lf : Nat → Nat) (p : Nat) : Nat := lf ((p - 1) / 2)
def pgSd (lf : Nat → Nat) (p : Nat) : Nat := if p % 2 = 1 then pgL lf p % 2 else 1 - pgL lf p % 2
def pgPl (c r wy : Nat) (lf : Nat → Nat) (p : Nat) : Nat := if pgSd lf p = 0 then pgL lf p / 4 else if wy = 1 then pgL lf p / 4 % c + c * (r - 1 - pgL lf p / 4 / c) else c - 1 - pgL lf p / 4 % c + c * (pgL lf p / 4 / c)
def pgDn (wy : Nat) (lf : Nat → Nat) (p : Nat) : Nat := if pgSd lf p = 1 ∧ wy = 1 then 1 - pgL lf p / 2 % 2 else pgL lf p / 2 % 2
def spSd (fr : Nat) : Nat := 1 - fr
def spPl (c r wy cell fr : Nat) : Nat := if fr = 1 then cell else if wy = 1 then cell % c + c * (r - 1 - cell / c) else c - 1 - cell % c + c * (cell / c)
def spDn (wy fr hd : Nat) : Nat := if fr = 0 ∧ wy = 1 then hd else 1 - hd
theorem e_setPage (c r wy p cell ft hd : Nat) (hc : 1 ≤ c) (hc8 : c ≤ 8) (hr : 1 ≤ r) (hr8 : r ≤ 8) (hcell : cell < c * r) (hp : p < 33) (hf : ft = 0 ∨ ft = 1) (hh : hd = 0 ∨ hd = 1) (hwy : wy = 0 ∨ wy = 1) (Y : Nat → Int32) (G : Nat → Nat → Int32) (y6 : Y 6 = sN c) (y7 : Y 7 = sN r) (g14 : G 14 1 = sN wy) : Go (fun n => f_Mo_setPage n Y G (sN p) (sN cell) (sN ft) (sN hd)) (fun q => q.2 = (Y, va_up (va_up (va_up G 11 (upd (G 11) p (sN (spSd ft)))) 12 (upd (G 12) p (sN (spPl c r wy cell ft)))) 13 (upd (G 13) p (sN (spDn wy ft hd))))) := by
  have hcr : c * r ≤ 64 := Nat.mul_le_mul hc8 hr8
  have hdiv : cell / c < r := Nat.div_lt_of_lt_mul hcell
  have hmod : cell % c < c := Nat.mod_lt _ (by omega)
  have hmul : c * (cell / c) ≤ cell := Nat.mul_div_le cell c
  have n0 : ¬ Y 6 = 0 := by rw [y6, wN_0, sN_eq (by omega) (by omega)]; omega
  have cP : ∀ z : Int32, z = sN p → ¬ (z < 0 ∨ 33 ≤ z.toNatClampNeg) := fun z hz => by rw [hz, wN_0, sN_lt (by omega) (by omega), sN_nat (by omega)]; omega
  have e104 : ∀ (lv : Nat → Int32) (G1 : Nat → Nat → Int32), lv 1 = sN p → lv 3 = sN ft → lv 4 = sN hd → lv 7 = sN wy → Go (fun n => L_Mo_setPage n 104 lv Y G1) (fun q => q.2 = (Y, va_up G1 13 (upd (G1 13) p (sN (spDn wy ft hd))))) := by
    intro lv G1 l1 l3 l4 l7
    have en : (lv 1).toNatClampNeg = p := by rw [l1, sN_nat (by omega)]
    refine Go_S ?_
    simp only [L_Mo_setPage, ↓reduceIte, Nat.reduceEqDiff]
    have cp := cP (lv 1) l1
    rw [en] at cp ⊢
    rcases hf with rfl | rfl <;> rcases hh with rfl | rfl <;> rcases hwy with rfl | rfl <;> rw [l3, l4, l7]
    · exact Go_neg (by decide) (Go_neg (by decide) (Go_neg (by decide) (Go_pos cp (Go_ret rfl))))
    · exact Go_neg (by decide) (Go_pos (by decide) (Go_pos rfl (Go_pos cp (Go_ret rfl))))
    · exact Go_neg (by decide) (Go_neg (by decide) (Go_pos (by decide) (Go_pos cp (Go_ret rfl))))
    · exact Go_neg (by decide) (Go_pos (by decide) (Go_neg (by decide) (Go_pos cp (Go_ret rfl))))
    · exact Go_pos (by decide) (Go_neg (by decide) (Go_pos cp (Go_ret rfl)))
    · exact Go_pos (by decide) (Go_neg (by decide) (Go_pos cp (Go_ret rfl)))
    · exact Go_pos (by decide) (Go_pos (by decide) (Go_pos cp (Go_ret rfl)))
    · exact Go_pos (by decide) (Go_pos (by decide) (Go_pos cp (Go_ret rfl)))
  have e48 : ∀ (lv : Nat → Int32) (G1 : Nat → Nat → Int32), lv 1 = sN p → lv 2 = sN cell → lv 3 = sN ft → lv 4 = sN hd → lv 5 = sN (cell % c) → lv 6 = sN (cell / c) → lv 7 = sN wy → Go (fun n => L_Mo_setPage n 48 lv Y G1) (fun q => q.2 = (Y, va_up (va_up G1 12 (upd (G1 12) p (sN (spPl c r wy cell ft)))) 13 (upd (G1 13) p (sN (spDn wy ft hd))))) := by
    intro lv G1 l1 l2 l3 l4 l5 l6 l7
    have en : (lv 1).toNatClampNeg = p := by rw [l1, sN_nat (by omega)]
    refine Go_S ?_
    simp only [L_Mo_setPage, ↓reduceIte, Nat.reduceEqDiff]
    have cp := cP (lv 1) l1
    have nx := fun lv' h1 h3 h4 h7 => e104 lv' (va_up G1 12 (upd (G1 12) p (sN (spPl c r wy cell ft)))) h1 h3 h4 h7
    rw [en] at cp ⊢
    rw [l2, l5, l6, y6, y7]
    rcases hf with rfl | rfl
    · refine Go_pos (by rw [l3]; rfl) ?_
      rcases hwy with rfl | rfl
      · refine Go_pos (by rw [l7]; rfl) (Go_pos cp ?_)
        rw [wN_1, sN_sub (by omega), sN_sub (by omega), sN_mul, sN_add]
        exact nx _ l1 l3 l4 l7
      · refine Go_neg (by rw [l7]; decide) (Go_pos cp ?_)
        rw [wN_1, sN_sub (by omega), sN_sub (by omega), sN_mul, sN_add]
        exact nx _ l1 l3 l4 l7
    · refine Go_neg (by rw [l3]; decide) (Go_pos cp ?_)
      exact nx _ l1 l3 l4 l7
  have e33 : ∀ (lv : Nat → Int32), lv 1 = sN p → lv 2 = sN cell → lv 3 = sN ft → lv 4 = sN hd → lv 5 = sN (cell % c) → lv 6 = sN (cell / c) → lv 7 = sN wy → Go (fun n => L_Mo_setPage n 33 lv Y G) (fun q => q.2 = (Y, va_up (va_up (va_up G 11 (upd (G 11) p (sN (spSd ft)))) 12 (upd (G 12) p (sN (spPl c r wy cell ft)))) 13 (upd (G 13) p (sN (spDn wy ft hd))))) := by
    intro lv l1 l2 l3 l4 l5 l6 l7
    have en : (lv 1).toNatClampNeg = p := by rw [l1, sN_nat (by omega)]
    refine Go_S ?_
    simp only [L_Mo_setPage, ↓reduceIte, Nat.reduceEqDiff]
    have cp := cP (lv 1) l1
    rw [en] at cp ⊢
    rcases hf with rfl | rfl
    · exact Go_pos (by rw [l3]; rfl) (Go_pos cp (e48 _ (va_up G 11 (upd (G 11) p (sN (spSd 0)))) l1 l2 l3 l4 l5 l6 l7))
    · exact Go_neg (by rw [l3]; decide) (Go_pos cp (e48 _ (va_up G 11 (upd (G 11) p (sN (spSd 1)))) l1 l2 l3 l4 l5 l6 l7))
  unfold f_Mo_setPage
  refine Go_pos n0 (Go_pos n0 ?_)
  have ed : sN cell / Y 6 = sN (cell / c) := by rw [y6, sN_div (by omega) (by omega) (by omega)]
  have em : sN cell - sN cell / Y 6 * Y 6 = sN (cell % c) := by rw [ed, y6, sN_mul, sN_mod]
  rw [em, ed]
  have g14' : G 14 (1 : Int32).toNatClampNeg = sN wy := g14
  rw [g14']
  rcases hwy with rfl | rfl
  · exact Go_pos (by decide) (e33 _ rfl rfl rfl rfl rfl rfl rfl)
  · exact Go_neg (by decide) (e33 _ rfl rfl rfl rfl rfl rfl rfl)
/-- the pages as the model keeps them -/
def pgM (c r wy K : Nat) (lf : Nat → Nat) (G : Nat → Nat → Int32) : Prop := ∀ p, 1 ≤ p → p ≤ 2 * K → G 11 p = sN (pgSd lf p) ∧ G 12 p = sN (pgPl c r wy lf p) ∧ G 13 p = sN (pgDn wy lf p)
theorem g_fa136 {c r wy : Nat} {lf : Nat → Nat} (hc : 1 ≤ c) (hc8 : c ≤ 8) (hr : 1 ≤ r) (hr8 : r ≤ 8) (hN : c * r ≤ 16) (hwy : wy = 0 ∨ wy = 1) (fz : Nat) (hfz : fz < 100) (Y : Nat → Int32) (y6 : Y 6 = sN c) (y7 : Y 7 = sN r) (y8 : Y 8 = sN fz) (at_ : Nat → Nat) (hat : ∀ k, k < c * r → at_ k < 1024) (hat2 : ∀ k, k < c * r → at_ k = if fz = 0 then 16 * (8 * (k / c) + k % c) else c * r - 1 - k) (hlf : ∀ k, k < c * r → lf k < 64 ∧ lf k / 4 < c * r) : ∀ (m k : Nat) (lv : Nat → Int32) (G : Nat → Nat → Int32), k + m = c * r → lv 1 = sN (c * r) → lv 2 = sN k → G 14 1 = sN wy → (∀ j, j < c * r → lfM (G 8) (G 9) (G 10) (at_ j) (lf j)) → pgM c r wy k lf G → Go (fun n => L_Mo_foldAll n 136 lv Y G) (fun q => q.2.1 = Y ∧ fr [11, 12, 13] G q.2.2 ∧ pgM c r wy (c * r) lf q.2.2)
  | 0, k, lv, G, hm, l1, l2, g14, hL, hP => by
    refine Go_S ?_
    simp only [L_Mo_foldAll, ↓reduceIte, Nat.reduceEqDiff]
    refine Go_pos (by rw [l1, l2, sN_le (by omega) (by omega)]; omega) (Go_ret ⟨rfl, fr_rfl, ?_⟩)
    rw [show c * r = k by omega]; exact hP
  | m + 1, k, lv, G, hm, l1, l2, g14, hL, hP => by
    have lk := hL k (by omega)
    have bk := hlf k (by omega)
    have ak := hat k (by omega)
    have key : ∀ lv' : Nat → Int32, lv' 1 = sN (c * r) → lv' 2 = sN k → lv' 3 = sN (at_ k) → Go (fun n => L_Mo_foldAll n 175 lv' Y G) (fun q => q.2.1 = Y ∧ fr [11, 12, 13] G q.2.2 ∧ pgM c r wy (c * r) lf q.2.2) := by
      intro lv' m1 m2 m3
      have e3 : (lv' 3).toNatClampNeg = at_ k := by rw [m3, sN_nat (by omega)]
      have c3 : ¬ (lv' 3 < 0 ∨ 1024 ≤ at_ k) := by rw [m3, wN_0, sN_lt (by omega) (by omega)]; omega
      refine Go_S ?_
      simp only [L_Mo_foldAll, ↓reduceIte, Nat.reduceEqDiff]
      rw [e3]
      refine Go_pos c3 (Go_pos c3 (Go_pos c3 ?_))
      rw [lk.2.1, lk.2.2.1, lk.2.2.2, m2, wN_2, wN_1, sN_mul, sN_add, sN_add]
      refine Go_bind (e_setPage c r wy (2 * k + 1) (lf k / 4) (1 - lf k % 2) (1 - lf k / 2 % 2) hc hc8 hr hr8 bk.2 (by omega) (by omega) (by omega) hwy Y G y6 y7 g14) (fun q hq => ?_)
      rw [hq]
      refine Go_pos c3 (Go_pos c3 ?_)
      -- behind both pages
      have fin : ∀ (ft : Nat), (ft = 1 - (1 - lf k % 2)) → ∀ q2 : Res, q2.2 = (Y, va_up (va_up (va_up (va_up (va_up (va_up G 11 (upd (G 11) (2 * k + 1) (sN (spSd (1 - lf k % 2))))) 12 (upd (G 12) (2 * k + 1) (sN (spPl c r wy (lf k / 4) (1 - lf k % 2))))) 13 (upd (G 13) (2 * k + 1) (sN (spDn wy (1 - lf k % 2) (1 - lf k / 2 % 2))))) 11 (upd (upd (G 11) (2 * k + 1) (sN (spSd (1 - lf k % 2)))) (2 * k + 2) (sN (spSd ft)))) 12 (upd (upd (G 12) (2 * k + 1) (sN (spPl c r wy (lf k / 4) (1 - lf k % 2)))) (2 * k + 2) (sN (spPl c r wy (lf k / 4) ft)))) 13 (upd (upd (G 13) (2 * k + 1) (sN (spDn wy (1 - lf k % 2) (1 - lf k / 2 % 2)))) (2 * k + 2) (sN (spDn wy ft (1 - lf k / 2 % 2))))) → ∀ lv2 : Nat → Int32, lv2 1 = sN (c * r) → lv2 2 = sN k → Go (fun n => L_Mo_foldAll n 237 lv2 q2.2.1 q2.2.2) (fun q => q.2.1 = Y ∧ fr [11, 12, 13] G q.2.2 ∧ pgM c r wy (c * r) lf q.2.2) := by
        intro ft hft q2 hq2 lv2 n1 n2
        rw [hq2]
        refine Go_S ?_
        simp only [L_Mo_foldAll, ↓reduceIte, Nat.reduceEqDiff]
        refine Go_mono (g_fa136 hc hc8 hr hr8 hN hwy fz hfz Y y6 y7 y8 at_ hat hat2 hlf m (k + 1) _ _ (by omega) n1 ?_ g14 hL (fun p hp1 hp2 => ?_)) (fun x hx => ⟨hx.1, fr_trans (fr_vup (fr_vup (fr_vup (fr_vup (fr_vup (fr_vup fr_rfl (by decide)) (by decide)) (by decide)) (by decide)) (by decide)) (by decide)) hx.2.1, hx.2.2⟩)
        · show lv2 2 + Int32.ofInt 1 = _
          rw [n2]; exact sN_add k 1
        · show upd (upd (G 11) _ _) _ _ p = _ ∧ upd (upd (G 12) _ _) _ _ p = _ ∧ upd (upd (G 13) _ _) _ _ p = _
          simp only [upd_app]
          by_cases h2 : p = 2 * k + 2
          · subst h2
            simp only [↓reduceIte]
            have e1 : pgL lf (2 * k + 2) = lf k := by unfold pgL; congr 1; omega
            have e2 : pgSd lf (2 * k + 2) = 1 - lf k % 2 := by unfold pgSd; rw [e1, if_neg (by omega)]
            refine ⟨?_, ?_, ?_⟩
            · rw [e2]; unfold spSd; congr 1; omega
            · unfold pgPl spPl; rw [e1, e2]
              by_cases h : lf k % 2 = 1
              · rw [if_pos (show ft = 1 by omega), if_pos (show 1 - lf k % 2 = 0 by omega)]
              · rw [if_neg (show ¬ ft = 1 by omega), if_neg (show ¬ 1 - lf k % 2 = 0 by omega)]
            · unfold pgDn spDn; rw [e1, e2]
              by_cases h : lf k % 2 = 0 ∧ wy = 1
              · rw [if_pos (by omega), if_pos (by omega)]
              · rw [if_neg (by omega), if_neg (by omega)]; congr 1; omega
          · rw [if_neg h2, if_neg h2, if_neg h2]
            by_cases h1 : p = 2 * k + 1
            · subst h1
              simp only [↓reduceIte]
              have e1 : pgL lf (2 * k + 1) = lf k := by unfold pgL; congr 1; omega
              have e2 : pgSd lf (2 * k + 1) = lf k % 2 := by unfold pgSd; rw [e1, if_pos (by omega)]
              refine ⟨?_, ?_, ?_⟩
              · rw [e2]; unfold spSd; congr 1; omega
              · unfold pgPl spPl; rw [e1, e2]
                by_cases h : lf k % 2 = 0
                · rw [if_pos (show 1 - lf k % 2 = 1 by omega), if_pos h]
                · rw [if_neg (show ¬ 1 - lf k % 2 = 1 by omega), if_neg h]
              · unfold pgDn spDn; rw [e1, e2]
                by_cases h : lf k % 2 = 1 ∧ wy = 1
                · rw [if_pos (by omega), if_pos (by omega)]
                · rw [if_neg (by omega), if_neg (by omega)]; congr 1; omega
            · rw [if_neg h1, if_neg h1, if_neg h1]
              exact hP p hp1 (by omega)
      have e9 : (va_up (va_up (va_up G 11 (upd (G 11) (2 * k + 1) (sN (spSd (1 - lf k % 2))))) 12 (upd (G 12) (2 * k + 1) (sN (spPl c r wy (lf k / 4) (1 - lf k % 2))))) 13 (upd (G 13) (2 * k + 1) (sN (spDn wy (1 - lf k % 2) (1 - lf k / 2 % 2))))) 9 (at_ k) = sN (1 - lf k % 2) := lk.2.2.1
      have e8 : (va_up (va_up (va_up G 11 (upd (G 11) (2 * k + 1) (sN (spSd (1 - lf k % 2))))) 12 (upd (G 12) (2 * k + 1) (sN (spPl c r wy (lf k / 4) (1 - lf k % 2))))) 13 (upd (G 13) (2 * k + 1) (sN (spDn wy (1 - lf k % 2) (1 - lf k / 2 % 2))))) 8 (at_ k) = sN (lf k / 4) := lk.2.1
      have e10 : (va_up (va_up (va_up G 11 (upd (G 11) (2 * k + 1) (sN (spSd (1 - lf k % 2))))) 12 (upd (G 12) (2 * k + 1) (sN (spPl c r wy (lf k / 4) (1 - lf k % 2))))) 13 (upd (G 13) (2 * k + 1) (sN (spDn wy (1 - lf k % 2) (1 - lf k / 2 % 2))))) 10 (at_ k) = sN (1 - lf k / 2 % 2) := lk.2.2.2
      simp only [e8, e9, e10]
      refine Go_ite (fun hz => Go_pos c3 ?_) (fun hz => Go_pos c3 ?_)
      · rw [wN_0, sN_eq (by omega) (by omega)] at hz
        exact Go_bind (e_setPage c r wy (2 * k + 2) (lf k / 4) 0 (1 - lf k / 2 % 2) hc hc8 hr hr8 bk.2 (by omega) (by omega) (by omega) hwy Y _ y6 y7 g14) (fun q2 hq2 => fin 0 (by omega) q2 hq2 _ m1 rfl)
      · rw [wN_0, sN_eq (by omega) (by omega)] at hz
        exact Go_bind (e_setPage c r wy (2 * k + 2) (lf k / 4) 1 (1 - lf k / 2 % 2) hc hc8 hr hr8 bk.2 (by omega) (by omega) (by omega) hwy Y _ y6 y7 g14) (fun q2 hq2 => fin 1 (by omega) q2 hq2 _ m1 rfl)
    have a2 := hat2 k (by omega)
    refine Go_S ?_
    simp only [L_Mo_foldAll, ↓reduceIte, Nat.reduceEqDiff]
    refine Go_neg (by rw [l1, l2, sN_le (by omega) (by omega)]; omega) (Go_ite (fun hz => ?_) (fun hz => ?_))
    · rw [y8, wN_0, sN_eq (by omega) (by omega)] at hz
      rw [if_neg hz] at a2
      refine key _ l1 l2 ?_
      show lv 1 - 1 - lv 2 = _
      rw [l1, l2, wN_1, sN_sub (by omega), sN_sub (by omega), a2]
    · rw [y8, wN_0, sN_eq (by omega) (by omega)] at hz
      rw [if_pos (Classical.not_not.mp hz)] at a2
      have n0 : ¬ Y 6 = 0 := by rw [y6, wN_0, sN_eq (by omega) (by omega)]; omega
      refine Go_pos n0 (Go_pos n0 (key _ l1 l2 ?_))
      show 16 * f_Mo_spot (lv 2 - lv 2 / Y 6 * Y 6) (lv 2 / Y 6) = _
      rw [l2, y6, sN_div (by omega) (by omega) (by omega), sN_mul, sN_mod, f_spot, wN_16, sN_mul, a2]
