/-! the model's piles -/
def lfM (g8 g9 g10 : Nat → Int32) (i v : Nat) : Prop := v < 64 ∧ g8 i = sN (v / 4) ∧ g9 i = sN (1 - v % 2) ∧ g10 i = sN (1 - v / 2 % 2)
theorem x1_all : ∀ v : Fin 64, (v.1 ^^^ 1) < 64 ∧ (v.1 ^^^ 1) / 4 = v.1 / 4 ∧ (v.1 ^^^ 1) % 2 = 1 - v.1 % 2 ∧ (v.1 ^^^ 1) / 2 % 2 = v.1 / 2 % 2 := by decide
theorem x3_all : ∀ v : Fin 64, (v.1 ^^^ 3) < 64 ∧ (v.1 ^^^ 3) / 4 = v.1 / 4 ∧ (v.1 ^^^ 3) % 2 = 1 - v.1 % 2 ∧ (v.1 ^^^ 3) / 2 % 2 = 1 - v.1 / 2 % 2 := by decide
/-- the heads' flag and the marks -/
def mkOf (hd : Nat) : Nat := if hd = 0 then 1 else 3
theorem mk_all {v hd : Nat} (h : v < 64) (hh : hd = 0 ∨ hd = 1) : (v ^^^ mkOf hd) < 64 ∧ (v ^^^ mkOf hd) / 4 = v / 4 ∧ (v ^^^ mkOf hd) % 2 = 1 - v % 2 ∧ 1 - (v ^^^ mkOf hd) / 2 % 2 = if 1 - v / 2 % 2 = hd then 0 else 1 := by
  unfold mkOf
  rcases hh with rfl | rfl
  · have := x1_all ⟨v, h⟩
    simp only [↓reduceIte] at this ⊢
    refine ⟨this.1, this.2.1, this.2.2.1, ?_⟩
    rw [this.2.2.2]
    split <;> omega
  · have := x3_all ⟨v, h⟩
    simp only [Nat.reduceEqDiff, ↓reduceIte] at this ⊢
    refine ⟨this.1, this.2.1, this.2.2.1, ?_⟩
    rw [this.2.2.2]
    split <;> omega
/-- G' is G but for the leaves between lo and hi -/
def lfFr (lo hi : Nat) (G G' : Nat → Nat → Int32) : Prop := ∀ i, ¬ (lo ≤ i ∧ i < hi) → G' 8 i = G 8 i ∧ G' 9 i = G 9 i ∧ G' 10 i = G 10 i
theorem lfM_fr {lo hi i v : Nat} {G G' : Nat → Nat → Int32} (h : lfFr lo hi G G') (hi : ¬ (lo ≤ i ∧ i < hi)) (k : lfM (G 8) (G 9) (G 10) i v) : lfM (G' 8) (G' 9) (G' 10) i v := by
  obtain ⟨a, b, c⟩ := h i hi
  exact ⟨k.1, a.trans k.2.1, b.trans k.2.2.1, c.trans k.2.2.2⟩
theorem g_turn (a b H hd : Nat) (va : Nat → Nat) (ha : a < 64) (hb : b < 64) (hab : a ≠ b) (hH : 2 * H ≤ 16) (hhd : hd = 0 ∨ hd = 1) (Y : Nat → Int32) (G0 : Nat → Nat → Int32) (hva : ∀ k, k < H → lfM (G0 8) (G0 9) (G0 10) (16 * a + k) (va k)) : ∀ (m : Nat) (lv : Nat → Int32) (G : Nat → Nat → Int32), m ≤ H → lv 1 = sN a → lv 2 = sN b → lv 3 = sN hd → lv 5 = sI ((m : Int) - 1) → fr [7, 8, 9, 10] G0 G → (∀ j, j ≠ b → G 7 j = G0 7 j) → G 7 b = sN (2 * H - m) → lfFr (16 * b + H) (16 * b + 2 * H) G0 G → (∀ k, H ≤ k → k < 2 * H - m → lfM (G 8) (G 9) (G 10) (16 * b + k) (va (2 * H - 1 - k) ^^^ mkOf hd)) → Go (fun n => L_Mo_turnOnto n 14 lv Y G) (fun q => q.2.1 = Y ∧ fr [7, 8, 9, 10] G0 q.2.2 ∧ (∀ j, j ≠ b → q.2.2 7 j = G0 7 j) ∧ q.2.2 7 b = sN (2 * H) ∧ lfFr (16 * b + H) (16 * b + 2 * H) G0 q.2.2 ∧ ∀ k, H ≤ k → k < 2 * H → lfM (q.2.2 8) (q.2.2 9) (q.2.2 10) (16 * b + k) (va (2 * H - 1 - k) ^^^ mkOf hd))
  | 0, lv, G, hm, l1, l2, l3, l5, hf, h7, h7b, hfr, hw => by
    refine Go_S ?_
    simp only [L_Mo_turnOnto, ↓reduceIte]
    exact Go_pos (by rw [l5]; decide) (Go_ret ⟨rfl, hf, h7, h7b, hfr, hw⟩)
  | m + 1, lv, G, hm, l1, l2, l3, l5, hf, h7, h7b, hfr, hw => by
    have e5 : lv 5 = sN m := by rw [l5, sN_sI]; congr 1; omega
    have iA : (16 : Int32) * lv 1 + lv 5 = sN (16 * a + m) := by rw [l1, e5, wN_16, sN_mul, sN_add]
    have e7 : G 7 (lv 2).toNatClampNeg = sN (2 * H - (m + 1)) := by rw [l2, sN_nat (by omega)]; exact h7b
    have iB : (16 : Int32) * lv 2 + G 7 (lv 2).toNatClampNeg = sN (16 * b + (2 * H - (m + 1))) := by rw [e7, l2, wN_16, sN_mul, sN_add]
    have eb : ¬ (lv 2 < 0 ∨ 64 ≤ (lv 2).toNatClampNeg) := by rw [l2, wN_0, sN_lt (by omega) (by omega), sN_nat (by omega)]; omega
    have la : lfM (G 8) (G 9) (G 10) (16 * a + m) (va m) := lfM_fr hfr (by omega) (hva m (by omega))
    have mk := mk_all la.1 hhd
    refine Go_S ?_
    simp only [L_Mo_turnOnto, ↓reduceIte]
    rw [iA, iB]
    have cA : ¬ (sN (16 * a + m) < 0 ∨ 1024 ≤ (sN (16 * a + m)).toNatClampNeg) := by rw [wN_0, sN_lt (by omega) (by omega), sN_nat (by omega)]; omega
    have cB : ¬ (sN (16 * b + (2 * H - (m + 1))) < 0 ∨ 1024 ≤ (sN (16 * b + (2 * H - (m + 1)))).toNatClampNeg) := by rw [wN_0, sN_lt (by omega) (by omega), sN_nat (by omega)]; omega
    have cB2 : ¬ (sN (16 * b + (2 * H - (m + 1))) < 0 ∨ 1024 ≤ 16 * b + (2 * H - (m + 1))) := by rw [wN_0, sN_lt (by omega) (by omega)]; omega
    refine Go_neg (by rw [e5, wN_0, sN_lt (by omega) (by omega)]; omega) (Go_pos eb (Go_pos cA (Go_pos cB (Go_pos cA ?_))))
    rw [sN_nat (by omega), sN_nat (by omega)]
    -- behind the first two stores
    have key : ∀ (f : Nat), sN f = sN (1 - (va m ^^^ mkOf hd) % 2) → Go (fun n => L_Mo_turnOnto n 77 (upd (upd (upd (upd (upd (upd (upd am_lv0 1 (lv 1)) 2 (lv 2)) 3 (lv 3)) 4 (lv 4)) 5 (lv 5)) 6 (sN (16 * a + m))) 7 (sN (16 * b + (2 * H - (m + 1))))) Y (va_up (va_up G 8 (upd (G 8) (16 * b + (2 * H - (m + 1))) (G 8 (16 * a + m)))) 9 (upd (G 9) (16 * b + (2 * H - (m + 1))) (sN f)))) (fun q => q.2.1 = Y ∧ fr [7, 8, 9, 10] G0 q.2.2 ∧ (∀ j, j ≠ b → q.2.2 7 j = G0 7 j) ∧ q.2.2 7 b = sN (2 * H) ∧ lfFr (16 * b + H) (16 * b + 2 * H) G0 q.2.2 ∧ ∀ k, H ≤ k → k < 2 * H → lfM (q.2.2 8) (q.2.2 9) (q.2.2 10) (16 * b + k) (va (2 * H - 1 - k) ^^^ mkOf hd)) := by
      intro f hfv
      refine Go_S ?_
      simp only [L_Mo_turnOnto, ↓reduceIte, Nat.reduceEqDiff]
      refine Go_pos cA ?_
      have i6 : (upd (upd (upd (upd (upd (upd (upd am_lv0 1 (lv 1)) 2 (lv 2)) 3 (lv 3)) 4 (lv 4)) 5 (lv 5)) 6 (sN (16 * a + m))) 7 (sN (16 * b + (2 * H - (m + 1)))) 6) = sN (16 * a + m) := rfl
      have i7 : (upd (upd (upd (upd (upd (upd (upd am_lv0 1 (lv 1)) 2 (lv 2)) 3 (lv 3)) 4 (lv 4)) 5 (lv 5)) 6 (sN (16 * a + m))) 7 (sN (16 * b + (2 * H - (m + 1)))) 7) = sN (16 * b + (2 * H - (m + 1))) := rfl
      simp only [i6, i7, sN_nat (show 16 * a + m < 2147483648 by omega), sN_nat (show 16 * b + (2 * H - (m + 1)) < 2147483648 by omega)]
      -- behind the third store
      have key2 : ∀ (e : Nat), sN e = sN (1 - (va m ^^^ mkOf hd) / 2 % 2) → ∀ lv', lv' 1 = sN a → lv' 2 = sN b → lv' 3 = sN hd → lv' 5 = sN m → Go (fun n => L_Mo_turnOnto n 100 lv' Y (va_up (va_up (va_up G 8 (upd (G 8) (16 * b + (2 * H - (m + 1))) (G 8 (16 * a + m)))) 9 (upd (G 9) (16 * b + (2 * H - (m + 1))) (sN f))) 10 (upd (G 10) (16 * b + (2 * H - (m + 1))) (sN e)))) (fun q => q.2.1 = Y ∧ fr [7, 8, 9, 10] G0 q.2.2 ∧ (∀ j, j ≠ b → q.2.2 7 j = G0 7 j) ∧ q.2.2 7 b = sN (2 * H) ∧ lfFr (16 * b + H) (16 * b + 2 * H) G0 q.2.2 ∧ ∀ k, H ≤ k → k < 2 * H → lfM (q.2.2 8) (q.2.2 9) (q.2.2 10) (16 * b + k) (va (2 * H - 1 - k) ^^^ mkOf hd)) := by
        intro e he lv' k1 k2 k3 k5
        refine Go_S ?_
        simp only [L_Mo_turnOnto, ↓reduceIte, Nat.reduceEqDiff]
        have kb : ¬ (lv' 2 < 0 ∨ 64 ≤ (lv' 2).toNatClampNeg) := by rw [k2, wN_0, sN_lt (by omega) (by omega), sN_nat (by omega)]; omega
        refine Go_pos kb (Go_pos kb ?_)
        rw [k2, sN_nat (by omega)]
        refine g_turn a b H hd va ha hb hab hH hhd Y G0 hva m _ _ (by omega) k1 rfl k3 ?_ (fr_vup (fr_vup (fr_vup (fr_vup hf (by decide)) (by decide)) (by decide)) (by decide)) (fun j hj => ?_) ?_ (fun i hi => ?_) (fun k hk1 hk2 => ?_)
        · show lv' 5 + Int32.ofInt (-1) = _
          rw [k5, sN_sI]; exact sI_add m (-1)
        · show upd (G 7) b (G 7 b + 1) j = _
          rw [upd_app, if_neg hj]; exact h7 j hj
        · show upd (G 7) b (G 7 b + 1) b = _
          rw [upd_app, if_pos rfl, h7b, wN_1, sN_add]; congr 1; omega
        · show upd (G 8) _ _ i = _ ∧ upd (G 9) _ _ i = _ ∧ upd (G 10) _ _ i = _
          rw [upd_app, upd_app, upd_app, if_neg (by omega), if_neg (by omega), if_neg (by omega)]
          exact hfr i hi
        · show lfM (upd (G 8) _ _) (upd (G 9) _ _) (upd (G 10) _ _) _ _
          by_cases hkm : k = 2 * H - (m + 1)
          · subst hkm
            rw [show 2 * H - 1 - (2 * H - (m + 1)) = m by omega]
            refine ⟨mk.1, ?_, ?_, ?_⟩
            · rw [upd_app, if_pos rfl, la.2.1, mk.2.1]
            · rw [upd_app, if_pos rfl, hfv]
            · rw [upd_app, if_pos rfl, he]
          · have := hw k hk1 (by omega)
            refine ⟨this.1, ?_, ?_, ?_⟩
            · rw [upd_app, if_neg (by omega)]; exact this.2.1
            · rw [upd_app, if_neg (by omega)]; exact this.2.2.1
            · rw [upd_app, if_neg (by omega)]; exact this.2.2.2
      have g10 : (va_up (va_up G 8 (upd (G 8) (16 * b + (2 * H - (m + 1))) (G 8 (16 * a + m)))) 9 (upd (G 9) (16 * b + (2 * H - (m + 1))) (sN f))) 10 (16 * a + m) = sN (1 - va m / 2 % 2) := la.2.2.2
      rw [g10]
      refine Go_ite (fun hz => Go_pos cB2 ?_) (fun hz => Go_pos cB2 ?_)
      · have hz' : 1 - va m / 2 % 2 = hd := by
          have : sN (1 - va m / 2 % 2) = sN hd := hz.trans l3
          rw [sN_eq (by omega) (by omega)] at this; exact this
        exact key2 0 (by rw [mk.2.2.2, if_pos hz']) _ l1 l2 l3 e5
      · have hz' : ¬ 1 - va m / 2 % 2 = hd := by
          intro h
          exact hz (by rw [h]; exact l3.symm)
        exact key2 1 (by rw [mk.2.2.2, if_neg hz']) _ l1 l2 l3 e5
    rw [la.2.2.1]
    refine Go_ite (fun hz => Go_pos cB2 ?_) (fun hz => Go_pos cB2 ?_)
    · exact key 0 (by
        rw [wN_0, sN_eq (by omega) (by omega)] at hz
        rw [mk.2.2.1]; congr 1; omega)
    · exact key 1 (by
        rw [wN_0, sN_eq (by omega) (by omega)] at hz
        rw [mk.2.2.1]; congr 1; omega)
theorem e_turn (a b H hd : Nat) (va : Nat → Nat) (ha : a < 64) (hb : b < 64) (hab : a ≠ b) (hH1 : 1 ≤ H) (hH : 2 * H ≤ 16) (hhd : hd = 0 ∨ hd = 1) (Y : Nat → Int32) (G : Nat → Nat → Int32) (h7a : G 7 a = sN H) (h7b : G 7 b = sN H) (hva : ∀ k, k < H → lfM (G 8) (G 9) (G 10) (16 * a + k) (va k)) : Go (fun n => f_Mo_turnOnto n Y G (sN a) (sN b) (sN hd)) (fun q => q.2.1 = Y ∧ fr [7, 8, 9, 10] G q.2.2 ∧ (∀ j, j ≠ b → q.2.2 7 j = G 7 j) ∧ q.2.2 7 b = sN (2 * H) ∧ lfFr (16 * b + H) (16 * b + 2 * H) G q.2.2 ∧ ∀ k, H ≤ k → k < 2 * H → lfM (q.2.2 8) (q.2.2 9) (q.2.2 10) (16 * b + k) (va (2 * H - 1 - k) ^^^ mkOf hd)) := by
  unfold f_Mo_turnOnto
  refine Go_pos (by rw [wN_0, sN_lt (by omega) (by omega), sN_nat (by omega)]; omega) ?_
  rw [sN_nat (by omega), h7a]
  refine g_turn a b H hd va ha hb hab hH hhd Y G hva H _ G (Nat.le_refl _) rfl rfl rfl ?_ fr_rfl (fun _ _ => rfl) ?_ (fun _ _ => ⟨rfl, rfl, rfl⟩) (fun k h1 h2 => by omega)
  · show sN H - 1 = _
    rw [sN_sI]; exact sI_sub H 1
  · rw [h7b]; congr 1; omega
theorem g_move (a b H : Nat) (va : Nat → Nat) (ha : a < 64) (hb : b < 64) (hab : a ≠ b) (hH : H ≤ 16) (Y : Nat → Int32) (G0 : Nat → Nat → Int32) (h7a : G0 7 a = sN H) (hva : ∀ k, k < H → lfM (G0 8) (G0 9) (G0 10) (16 * a + k) (va k)) : ∀ (m i : Nat) (lv : Nat → Int32) (G : Nat → Nat → Int32), i + m = H → lv 1 = sN a → lv 2 = sN b → lv 3 = sN i → fr [8, 9, 10] G0 G → lfFr (16 * b) (16 * b + H) G0 G → (∀ k, k < i → lfM (G 8) (G 9) (G 10) (16 * b + k) (va k)) → Go (fun n => L_Mo_movePile n 2 lv Y G) (fun q => q.2.1 = Y ∧ fr [7, 8, 9, 10] G0 q.2.2 ∧ (∀ j, j ≠ b → q.2.2 7 j = G0 7 j) ∧ q.2.2 7 b = sN H ∧ lfFr (16 * b) (16 * b + H) G0 q.2.2 ∧ ∀ k, k < H → lfM (q.2.2 8) (q.2.2 9) (q.2.2 10) (16 * b + k) (va k))
  | 0, i, lv, G, hm, l1, l2, l3, hf, hfr, hw => by
    have e7 : G 7 = G0 7 := hf 7 (by decide)
    have c1 : ¬ (lv 1 < 0 ∨ 64 ≤ (lv 1).toNatClampNeg) := by rw [l1, wN_0, sN_lt (by omega) (by omega), sN_nat (by omega)]; omega
    have c2 : ¬ (lv 2 < 0 ∨ 64 ≤ (lv 2).toNatClampNeg) := by rw [l2, wN_0, sN_lt (by omega) (by omega), sN_nat (by omega)]; omega
    have e1 : G 7 (lv 1).toNatClampNeg = sN H := by rw [l1, sN_nat (by omega), e7]; exact h7a
    refine Go_S ?_
    simp only [L_Mo_movePile, ↓reduceIte]
    refine Go_pos c1 (Go_pos (by rw [e1, l3, sN_le (by omega) (by omega)]; omega) (Go_pos c1 (Go_pos c2 (Go_ret ⟨rfl, fr_vup (fr_mono hf (by decide)) (by decide), fun j hj => ?_, ?_, hfr, fun k hk => hw k (by omega)⟩))))
    · show upd (G 7) (lv 2).toNatClampNeg _ j = _
      rw [l2, sN_nat (by omega), upd_app, if_neg hj, e7]
    · show upd (G 7) (lv 2).toNatClampNeg _ b = _
      rw [l2, sN_nat (by omega), upd_app, if_pos rfl]; exact e1
  | m + 1, i, lv, G, hm, l1, l2, l3, hf, hfr, hw => by
    have e7 : G 7 = G0 7 := hf 7 (by decide)
    have c1 : ¬ (lv 1 < 0 ∨ 64 ≤ (lv 1).toNatClampNeg) := by rw [l1, wN_0, sN_lt (by omega) (by omega), sN_nat (by omega)]; omega
    have e1 : G 7 (lv 1).toNatClampNeg = sN H := by rw [l1, sN_nat (by omega), e7]; exact h7a
    have iA : (16 : Int32) * lv 1 + lv 3 = sN (16 * a + i) := by rw [l1, l3, wN_16, sN_mul, sN_add]
    have iB : (16 : Int32) * lv 2 + lv 3 = sN (16 * b + i) := by rw [l2, l3, wN_16, sN_mul, sN_add]
    have cA : ¬ (sN (16 * a + i) < 0 ∨ 1024 ≤ (sN (16 * a + i)).toNatClampNeg) := by rw [wN_0, sN_lt (by omega) (by omega), sN_nat (by omega)]; omega
    have cB : ¬ (sN (16 * b + i) < 0 ∨ 1024 ≤ (sN (16 * b + i)).toNatClampNeg) := by rw [wN_0, sN_lt (by omega) (by omega), sN_nat (by omega)]; omega
    have la : lfM (G 8) (G 9) (G 10) (16 * a + i) (va i) := lfM_fr hfr (by omega) (hva i (by omega))
    refine Go_S ?_
    simp only [L_Mo_movePile, ↓reduceIte]
    rw [iA, iB]
    refine Go_pos c1 (Go_neg (by rw [e1, l3, sN_le (by omega) (by omega)]; omega) (Go_pos cA (Go_pos cB (Go_pos cA (Go_pos cB (Go_pos cA (Go_pos cB ?_)))))))
    rw [sN_nat (by omega), sN_nat (by omega), la.2.1, la.2.2.1, la.2.2.2, nar_d (by omega), nar_d (by omega)]
    refine g_move a b H va ha hb hab hH Y G0 h7a hva m (i + 1) _ _ (by omega) l1 l2 ?_ (fr_vup (fr_vup (fr_vup hf (by decide)) (by decide)) (by decide)) (fun j hj => ?_) (fun k hk => ?_)
    · show lv 3 + Int32.ofInt 1 = _
      rw [l3]; exact sN_add i 1
    · show upd (G 8) _ _ j = _ ∧ upd (G 9) _ _ j = _ ∧ upd (G 10) _ _ j = _
      rw [upd_app, upd_app, upd_app, if_neg (by omega), if_neg (by omega), if_neg (by omega)]
      exact hfr j hj
    · show lfM (upd (G 8) _ _) (upd (G 9) _ _) (upd (G 10) _ _) _ _
      by_cases hki : k = i
      · subst hki
        refine ⟨la.1, ?_, ?_, ?_⟩ <;> rw [upd_app, if_pos rfl]
      · have := hw k (by omega)
        refine ⟨this.1, ?_, ?_, ?_⟩
        · rw [upd_app, if_neg (by omega)]; exact this.2.1
        · rw [upd_app, if_neg (by omega)]; exact this.2.2.1
        · rw [upd_app, if_neg (by omega)]; exact this.2.2.2
theorem e_move (a b H : Nat) (va : Nat → Nat) (ha : a < 64) (hb : b < 64) (hab : a ≠ b) (hH : H ≤ 16) (Y : Nat → Int32) (G : Nat → Nat → Int32) (h7a : G 7 a = sN H) (hva : ∀ k, k < H → lfM (G 8) (G 9) (G 10) (16 * a + k) (va k)) : Go (fun n => f_Mo_movePile n Y G (sN a) (sN b)) (fun q => q.2.1 = Y ∧ fr [7, 8, 9, 10] G q.2.2 ∧ (∀ j, j ≠ b → q.2.2 7 j = G 7 j) ∧ q.2.2 7 b = sN H ∧ lfFr (16 * b) (16 * b + H) G q.2.2 ∧ ∀ k, k < H → lfM (q.2.2 8) (q.2.2 9) (q.2.2 10) (16 * b + k) (va k)) := by
  unfold f_Mo_movePile
  exact g_move a b H va ha hb hab hH Y G h7a hva H 0 _ G (by omega) rfl rfl rfl fr_rfl (fun _ _ => ⟨rfl, rfl, rfl⟩) (fun k hk => by omega)
