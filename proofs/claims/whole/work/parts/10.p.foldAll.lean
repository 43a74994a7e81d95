/-! the model's foldAll; what the leaves are -/
theorem g_fa28 {c r : Nat} {Q : Res → Prop} (hc8 : c ≤ 8) (hr8 : r ≤ 8) : ∀ (m x y : Nat) (lv Y : Nat → Int32) (G : Nat → Nat → Int32), x + m = c → y < r → lv 1 = sN y → lv 2 = sN x → Y 6 = sN c → (∀ a b, a < c → b < r → (b < y ∨ (b = y ∧ a < x)) → a + c * b < 16 → pileAt G a b 1 (pl0 c a b)) → c * r ≤ 16 →
    (∀ (lv' : Nat → Int32) (G' : Nat → Nat → Int32), lv' 1 = sN (y + 1) → fr [7, 8, 9, 10] G G' → (∀ a b, a < c → b < r → (b < y + 1) → a + c * b < 16 → pileAt G' a b 1 (pl0 c a b)) → Go (fun n => L_Mo_foldAll n 18 lv' Y G') Q) → Go (fun n => L_Mo_foldAll n 28 lv Y G) Q
  | 0, x, y, lv, Y, G, hm, hy, l1, l2, y6, hI, hN, hK => by
    refine Go_S ?_
    simp only [L_Mo_foldAll, ↓reduceIte, Nat.reduceEqDiff]
    refine Go_pos (by rw [y6, l2, sN_le (by omega) (by omega)]; omega) (hK _ G ?_ fr_rfl (fun a b ha hb hd hl => hI a b ha hb (by omega) hl))
    show lv 1 + Int32.ofInt 1 = _
    rw [l1]; exact sN_add y 1
  | m + 1, x, y, lv, Y, G, hm, hy, l1, l2, y6, hI, hN, hK => by
    have hxy : x + c * y < 16 := in16 (t := r) (by omega) hy hN
    refine Go_S ?_
    simp only [L_Mo_foldAll, ↓reduceIte, Nat.reduceEqDiff]
    have es : f_Mo_spot (lv 2) (lv 1) = sN (8 * y + x) := by rw [l1, l2, f_spot]
    have e16 : (16 : Int32) * f_Mo_spot (lv 2) (lv 1) = sN (16 * (8 * y + x)) := by rw [es, wN_16, sN_mul]
    rw [e16, es]
    have c1 : ¬ (sN (8 * y + x) < 0 ∨ 64 ≤ (sN (8 * y + x)).toNatClampNeg) := by rw [wN_0, sN_lt (by omega) (by omega), sN_nat (by omega)]; omega
    have c2 : ¬ (sN (16 * (8 * y + x)) < 0 ∨ 1024 ≤ (sN (16 * (8 * y + x))).toNatClampNeg) := by rw [wN_0, sN_lt (by omega) (by omega), sN_nat (by omega)]; omega
    refine Go_neg (by rw [y6, l2, sN_le (by omega) (by omega)]; omega) (Go_pos c1 (Go_pos c2 (Go_pos c2 (Go_pos c2 ?_))))
    rw [sN_nat (by omega), sN_nat (by omega)]
    refine g_fa28 hc8 hr8 m (x + 1) y _ Y _ (by omega) hy l1 ?_ y6 (fun a b ha hb hd hl => ?_) hN (fun lv' G' r1 r2 r3 => hK lv' G' r1 (fr_trans (fr_vup (fr_vup (fr_vup (fr_vup fr_rfl (by decide)) (by decide)) (by decide)) (by decide)) r2) r3)
    · show lv 2 + Int32.ofInt 1 = _
      rw [l2]; exact sN_add x 1
    · show upd (G 7) _ _ (8 * b + a) = _ ∧ ∀ k, k < 1 → lfM (upd (G 8) _ _) (upd (G 9) _ _) (upd (G 10) _ _) _ _
      by_cases e : a = x ∧ b = y
      · obtain ⟨rfl, rfl⟩ := e
        refine ⟨by rw [upd_app, if_pos rfl]; rfl, fun k hk => ?_⟩
        rw [show k = 0 by omega, Nat.add_zero]
        unfold pl0
        refine ⟨by omega, ?_, ?_, ?_⟩
        · rw [upd_app, if_pos rfl, l1, l2, y6, sN_mul, sN_add]; congr 1; omega
        · rw [upd_app, if_pos rfl, show 1 - 4 * (a + c * b) % 2 = 1 by omega]; rfl
        · rw [upd_app, if_pos rfl, show 1 - 4 * (a + c * b) / 2 % 2 = 1 by omega]; rfl
      · have := hI a b ha hb (by omega) hl
        refine ⟨by rw [upd_app, if_neg (by omega)]; exact this.1, fun k hk => ?_⟩
        have h2 := this.2 k hk
        refine ⟨h2.1, ?_, ?_, ?_⟩
        · rw [upd_app, if_neg (by omega)]; exact h2.2.1
        · rw [upd_app, if_neg (by omega)]; exact h2.2.2.1
        · rw [upd_app, if_neg (by omega)]; exact h2.2.2.2
theorem g_fa18 {c r : Nat} {Q : Res → Prop} (hc8 : c ≤ 8) (hr8 : r ≤ 8) (hN : c * r ≤ 16) : ∀ (m y : Nat) (lv Y : Nat → Int32) (G : Nat → Nat → Int32), y + m = r → lv 1 = sN y → Y 6 = sN c → Y 7 = sN r → (∀ a b, a < c → b < r → b < y → a + c * b < 16 → pileAt G a b 1 (pl0 c a b)) →
    (∀ (lv' : Nat → Int32) (G' : Nat → Nat → Int32), lv' 1 = sN 0 → fr [7, 8, 9, 10] G G' → (∀ a b, a < c → b < r → a + c * b < 16 → pileAt G' a b 1 (pl0 c a b)) → Go (fun n => L_Mo_foldAll n 100 lv' Y G') Q) → Go (fun n => L_Mo_foldAll n 18 lv Y G) Q
  | 0, y, lv, Y, G, hm, l1, y6, y7, hI, hK => by
    refine Go_S ?_
    simp only [L_Mo_foldAll, ↓reduceIte, Nat.reduceEqDiff]
    exact Go_pos (by rw [y7, l1, sN_le (by omega) (by omega)]; omega) (hK _ G rfl fr_rfl (fun a b ha hb hl => hI a b ha hb (by omega) hl))
  | m + 1, y, lv, Y, G, hm, l1, y6, y7, hI, hK => by
    refine Go_S ?_
    simp only [L_Mo_foldAll, ↓reduceIte, Nat.reduceEqDiff]
    refine Go_neg (by rw [y7, l1, sN_le (by omega) (by omega)]; omega) ?_
    refine g_fa28 hc8 hr8 c 0 y _ Y G (by omega) (by omega) l1 rfl y6 (fun a b ha hb hd hl => hI a b ha hb (by omega) hl) hN (fun lv' G' r1 r2 r3 => ?_)
    exact g_fa18 hc8 hr8 hN m (y + 1) lv' Y G' (by omega) r1 y6 y7 r3 (fun lv3 G3 s1 s2 s3 => hK lv3 G3 s1 (fr_trans r2 s2) s3)
theorem g_fa100 {N : Nat} {Q : Res → Prop} : ∀ (ls : List Nat) (i w h H : Nat) (pl pl' : Pile) (lv Y : Nat → Int32) (G : Nat → Nat → Int32), i + ls.length ≤ 6 → (∀ x ∈ ls, isLt x) → w * h * H = N → lv 1 = sN i → Y 8 = sN (i + ls.length) → (∀ j x, ls[j]? = some x → G 3 (i + j) = sN x) → pilM w h H pl Y G → foldA ls w h H pl = some pl' →
    (∀ (lv' Y' : Nat → Int32) (G' : Nat → Nat → Int32), lv' 1 = Y' 6 * Y' 7 → lv' 2 = sN 0 → fr [14, 15] Y Y' → fr [7, 8, 9, 10] G G' → pileAt G' 0 0 N (pl' 0 0) → Go (fun n => L_Mo_foldAll n 136 lv' Y' G') Q) → Go (fun n => L_Mo_foldAll n 100 lv Y G) Q
  | [], i, w, h, H, pl, pl', lv, Y, G, hi, hL, hN, l1, y8, hG, hp, hA, hK => by
    simp only [List.length_nil, Nat.add_zero] at hi y8
    refine Go_S ?_
    simp only [L_Mo_foldAll, ↓reduceIte, Nat.reduceEqDiff]
    refine Go_pos (by rw [y8, l1, sN_le (by omega) (by omega)]; omega) (hK _ Y G rfl rfl fr_rfl fr_rfl ?_)
    unfold foldA at hA
    split at hA
    · rename_i hwh
      cases hA
      have := hp.2.2.2.2.2.2.2.2 0 0 (by omega) (by omega)
      rw [hwh.1, hwh.2, Nat.one_mul] at hN
      rw [← hN]; exact this
    · cases hA
  | x :: ls, i, w, h, H, pl, pl', lv, Y, G, hi, hL, hN, l1, y8, hG, hp, hA, hK => by
    simp only [List.length_cons] at hi y8
    have hx : G 3 i = sN x := hG 0 x rfl
    unfold foldA at hA
    split at hA
    · rename_i hf
      refine Go_S ?_
      simp only [L_Mo_foldAll, ↓reduceIte, Nat.reduceEqDiff]
      have e1 : (lv 1).toNatClampNeg = i := by rw [l1, sN_nat (by omega)]
      rw [e1, hx]
      refine Go_neg (by rw [y8, l1, sN_le (by omega) (by omega)]; omega) (Go_pos (by rw [l1, wN_0, sN_lt (by omega) (by omega)]; omega) ?_)
      refine Go_bind (e_Mo_foldOnce hp (hL x List.mem_cons_self) hf) (fun q hq => ?_)
      obtain ⟨q1, q2, q3⟩ := hq
      have hN' : fW x w * fH x h * (2 * H) = N := by
        have hf' := hf
        unfold fold1 at hf'
        have hev := beq_iff_eq.mp hf'
        unfold fW fH
        split
        · rename_i ha
          rw [if_pos ha] at hev
          have h4 : w = w / 2 * 2 := by omega
          rw [← hN]
          calc w / 2 * h * (2 * H) = w / 2 * 2 * h * H := by rw [Nat.mul_assoc (w / 2) 2 h, Nat.mul_comm 2 h, ← Nat.mul_assoc (w / 2) h 2, Nat.mul_assoc _ 2 H]
            _ = w * h * H := by rw [← h4]
        · rename_i ha
          rw [if_neg ha] at hev
          have h4 : h = h / 2 * 2 := by omega
          rw [← hN]
          calc w * (h / 2) * (2 * H) = w * (h / 2 * 2) * H := by rw [← Nat.mul_assoc w (h / 2) 2, Nat.mul_assoc _ 2 H]
            _ = w * h * H := by rw [← h4]
      refine g_fa100 ls (i + 1) _ _ _ _ pl' _ q.2.1 q.2.2 (by omega) (fun y hy => hL y (List.mem_cons_of_mem _ hy)) hN' ?_ ?_ ?_ q3 hA (fun lv' Y' G' r1 r2 r3 r4 r5 => hK lv' Y' G' r1 r2 (fr_trans q1 r3) (fr_trans q2 r4) r5)
      · show lv 1 + Int32.ofInt 1 = _
        rw [l1]; exact sN_add i 1
      · rw [q1 8 (by decide), y8]; congr 1; omega
      · intro j y hj
        rw [q2 3 (by decide), show i + 1 + j = i + (j + 1) by omega]
        exact hG (j + 1) y hj
    · cases hA
/-- each cell once: the leaves of a booklet, and where the pages are -/
def lfOK (c r : Nat) (lf : Nat → Nat) : Prop := (∀ k, k < c * r → lf k < 64 ∧ lf k / 4 < c * r) ∧ ∀ i j, i < c * r → j < c * r → lf i / 4 = lf j / 4 → i = j
theorem e_foldAll (c r wy : Nat) (ls : List Nat) (lf : Nat → Nat) (hc : 1 ≤ c) (hr : 1 ≤ r) (hc8 : c ≤ 8) (hr8 : r ≤ 8) (hN : c * r ≤ 16) (h6 : ls.length ≤ 6) (hL : ∀ x ∈ ls, isLt x) (hb : bkl c r ls = some lf) (hok : lfOK c r lf) (hwy : wy = 0 ∨ wy = 1) (Y : Nat → Int32) (G : Nat → Nat → Int32) (y6 : Y 6 = sN c) (y7 : Y 7 = sN r) (y8 : Y 8 = sN ls.length) (hG : ∀ j x, ls[j]? = some x → G 3 j = sN x) (g14 : G 14 1 = sN wy) : Go (fun n => f_Mo_foldAll n Y G) (fun q => fr [14, 15] Y q.2.1 ∧ fr [7, 8, 9, 10, 11, 12, 13] G q.2.2 ∧ pgM c r wy (c * r) lf q.2.2) := by
  unfold f_Mo_foldAll
  refine g_fa18 hc8 hr8 hN r 0 _ _ G (by omega) rfl y6 y7 (fun a b ha hb h => by omega) (fun lv' G' r1 r2 r3 => ?_)
  have r3' : ∀ a b, a < c → b < r → pileAt G' a b 1 (pl0 c a b) := fun a b ha hb => r3 a b ha hb (in16 (t := r) ha hb hN)
  have f0 : fr [14, 15] Y (upd (upd Y 14 (Y 6)) 15 (Y 7)) := fr_upd (fr_upd fr_rfl (by decide)) (by decide)
  cases ls with
  | nil =>
    have hlf : lf = fun k => 4 * k := (Option.some.inj hb).symm
    refine Go_S ?_
    simp only [L_Mo_foldAll, ↓reduceIte, Nat.reduceEqDiff]
    refine Go_pos (by rw [r1]; show Y 8 ≤ _; rw [y8, sN_le (by decide) (by decide)]; exact Nat.le_refl 0) ?_
    refine Go_mono (g_fa136 (lf := lf) hc hc8 hr hr8 hN hwy 0 (by omega) (upd (upd Y 14 (Y 6)) 15 (Y 7)) y6 y7 y8 (fun k => 16 * (8 * (k / c) + k % c)) (fun k hk => ?_) (fun k hk => rfl) hok.1 (c * r) 0 _ G' (by omega) ?_ rfl ?_ (fun k hk => ?_) (fun p h1 h2 => by omega)) (fun q hq => ⟨by rw [hq.1]; exact f0, fr_trans (fr_mono r2 (by decide)) (fr_mono hq.2.1 (by decide)), hq.2.2⟩)
    · have h1 : k / c < r := Nat.div_lt_of_lt_mul hk
      have h2 : k % c < c := Nat.mod_lt _ (by omega)
      show 16 * (8 * (k / c) + k % c) < 1024
      omega
    · show Y 6 * Y 7 = _
      rw [y6, y7, sN_mul]
    · rw [r2 14 (by decide)]; exact g14
    · have h1 : k / c < r := Nat.div_lt_of_lt_mul hk
      have h2 : k % c < c := Nat.mod_lt _ (by omega)
      have h3 := (r3' (k % c) (k / c) h2 h1).2 0 (by omega)
      have h4 : k % c + c * (k / c) = k := Nat.mod_add_div k c
      rw [Nat.add_zero] at h3
      unfold pl0 at h3
      rw [h4] at h3
      rw [hlf]; exact h3
  | cons l t =>
    have hA : ∃ pl', foldA (l :: t) c r 1 (pl0 c) = some pl' ∧ lf = fun k => pl' 0 0 (c * r - 1 - k) := by
      unfold bkl at hb
      change Option.map _ (foldA (l :: t) c r 1 (pl0 c)) = _ at hb
      cases hA : foldA (l :: t) c r 1 (pl0 c) with
      | none => rw [hA] at hb; cases hb
      | some p => rw [hA] at hb; exact ⟨p, rfl, (Option.some.inj hb).symm⟩
    obtain ⟨pl', hA, hlf⟩ := hA
    have hp : pilM c r 1 (pl0 c) (upd (upd Y 14 (Y 6)) 15 (Y 7)) G' := ⟨y6, y7, hc, hc8, hr, hr8, by omega, by omega, fun x y hx hy => r3' x y hx hy⟩
    refine g_fa100 (N := c * r) (l :: t) 0 c r 1 (pl0 c) pl' lv' _ G' (by omega) hL (by omega) r1 (by rw [Nat.zero_add]; exact y8) (fun j x hj => by rw [Nat.zero_add, r2 3 (by decide)]; exact hG j x hj) hp hA (fun lv2 Y2 G2 s1 s2 s3 s4 s5 => ?_)
    have z6 : Y2 6 = sN c := (s3 6 (by decide)).trans y6
    have z7 : Y2 7 = sN r := (s3 7 (by decide)).trans y7
    have z8 : Y2 8 = sN (l :: t).length := (s3 8 (by decide)).trans y8
    refine Go_mono (g_fa136 (lf := lf) hc hc8 hr hr8 hN hwy (l :: t).length (by omega) Y2 z6 z7 z8 (fun k => c * r - 1 - k) (fun k hk => by show c * r - 1 - k < 1024; omega) (fun k hk => ?_) hok.1 (c * r) 0 lv2 G2 (by omega) (by rw [s1, z6, z7, sN_mul]) s2 ?_ (fun k hk => ?_) (fun p h1 h2 => by omega)) (fun q hq => ⟨by rw [hq.1]; exact fr_trans f0 s3, fr_trans (fr_mono (fr_trans r2 s4) (by decide)) (fr_mono hq.2.1 (by decide)), hq.2.2⟩)
    · rw [if_neg (by simp)]
    · rw [s4 14 (by decide), r2 14 (by decide)]; exact g14
    · have h3 := s5.2 (c * r - 1 - k) (by omega)
      simp only [Nat.mul_zero, Nat.add_zero, Nat.zero_add] at h3
      rw [hlf]; exact h3
