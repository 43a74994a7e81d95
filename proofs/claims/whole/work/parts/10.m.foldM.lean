/-! the model folds once -/
def pileAt (G : Nat → Nat → Int32) (x y H : Nat) (v : Nat → Nat) : Prop := G 7 (8 * y + x) = sN H ∧ ∀ k, k < H → lfM (G 8) (G 9) (G 10) (16 * (8 * y + x) + k) (v k)
/-- how a fold goes: A across, S stays; w' h' the new size; ox oy where the part that stays begins -/
def fcase (A S w h w' h' ox oy : Nat) : Prop := ((A = 1 ∧ w' = w / 2 ∧ h' = h ∧ oy = 0 ∧ w % 2 = 0 ∧ ((S = 1 ∧ ox = 0) ∨ (S = 0 ∧ ox = w / 2))) ∨ (A = 0 ∧ w' = w ∧ h' = h / 2 ∧ ox = 0 ∧ h % 2 = 0 ∧ ((S = 1 ∧ oy = 0) ∨ (S = 0 ∧ oy = h / 2)))) ∧ 1 ≤ w ∧ w ≤ 8 ∧ 1 ≤ h ∧ h ≤ 8
def bxA (A w x : Nat) : Nat := if A = 1 then w - 1 - x else x
def byA (A h y : Nat) : Nat := if A = 1 then y else h - 1 - y
theorem f_spot (x y : Nat) : f_Mo_spot (sN x) (sN y) = sN (8 * y + x) := by unfold f_Mo_spot; rw [wN_8, sN_mul, sN_add]
theorem st87 {A S w h w' h' ox oy x y : Nat} {Q : Res → Prop} (hc : fcase A S w h w' h' ox oy) (hx : x < w') (hy : y < h') (lv Y : Nat → Int32) (G : Nat → Nat → Int32) (l2 : lv 2 = sN A) (l3 : lv 3 = sN S) (l4 : lv 4 = sN w') (l5 : lv 5 = sN h') (l6 : lv 6 = sN y) (l7 : lv 7 = sN x) (y14 : Y 14 = sN w) (y15 : Y 15 = sN h)
    (hK : ∀ lv' : Nat → Int32, lv' 2 = sN A → lv' 3 = sN S → lv' 4 = sN w' → lv' 5 = sN h' → lv' 6 = sN y → lv' 7 = sN x → lv' 8 = sN (ox + x) → lv' 9 = sN (oy + y) → lv' 10 = sN (bxA A w (ox + x)) → lv' 11 = sN (byA A h (oy + y)) → Go (fun n => L_Mo_foldOnce n 174 lv' Y G) Q) : Go (fun n => L_Mo_foldOnce n 87 lv Y G) Q := by
  obtain ⟨hc, w1, w2, h1, h2⟩ := hc
  refine Go_S ?_
  simp only [L_Mo_foldOnce, ↓reduceIte, Nat.reduceEqDiff]
  refine Go_neg (by rw [l4, l7, sN_le (by omega) (by omega)]; omega) ?_
  have e154 : ∀ lv' : Nat → Int32, lv' 2 = sN A → lv' 3 = sN S → lv' 4 = sN w' → lv' 5 = sN h' → lv' 6 = sN y → lv' 7 = sN x → lv' 8 = sN (ox + x) → lv' 9 = sN (oy + y) → lv' 10 = sN (bxA A w (ox + x)) → Go (fun n => L_Mo_foldOnce n 154 lv' Y G) Q := by
    intro lv' m2 m3 m4 m5 m6 m7 m8 m9 m10
    refine Go_S ?_
    simp only [L_Mo_foldOnce, ↓reduceIte, Nat.reduceEqDiff]
    rcases hc with ⟨rfl, rfl, rfl, rfl, he, hs⟩ | ⟨rfl, rfl, rfl, rfl, he, hs⟩
    · exact Go_neg (by rw [m2]; decide) (hK _ m2 m3 m4 m5 m6 m7 m8 m9 m10 m9)
    · refine Go_pos m2 (hK _ m2 m3 m4 m5 m6 m7 m8 m9 m10 ?_)
      show Y 15 - 1 - lv' 9 = _
      rw [y15, m9, wN_1, sN_sub (by omega), sN_sub (by omega)]; rfl
  have e134 : ∀ lv' : Nat → Int32, lv' 2 = sN A → lv' 3 = sN S → lv' 4 = sN w' → lv' 5 = sN h' → lv' 6 = sN y → lv' 7 = sN x → lv' 8 = sN (ox + x) → lv' 9 = sN (oy + y) → Go (fun n => L_Mo_foldOnce n 134 lv' Y G) Q := by
    intro lv' m2 m3 m4 m5 m6 m7 m8 m9
    refine Go_S ?_
    simp only [L_Mo_foldOnce, ↓reduceIte, Nat.reduceEqDiff]
    rcases hc with ⟨rfl, rfl, rfl, rfl, he, hs⟩ | ⟨rfl, rfl, rfl, rfl, he, hs⟩
    · refine Go_neg (by rw [m2]; decide) (e154 _ m2 m3 m4 m5 m6 m7 m8 m9 ?_)
      show Y 14 - 1 - lv' 8 = _
      rw [y14, m8, wN_1, sN_sub (by omega), sN_sub (by omega)]; rfl
    · exact Go_pos m2 (e154 _ m2 m3 m4 m5 m6 m7 m8 m9 m8)
  have e114 : ∀ lv' : Nat → Int32, lv' 2 = sN A → lv' 3 = sN S → lv' 4 = sN w' → lv' 5 = sN h' → lv' 6 = sN y → lv' 7 = sN x → lv' 8 = sN (ox + x) → Go (fun n => L_Mo_foldOnce n 114 lv' Y G) Q := by
    intro lv' m2 m3 m4 m5 m6 m7 m8
    refine Go_S ?_
    simp only [L_Mo_foldOnce, ↓reduceIte, Nat.reduceEqDiff]
    rcases hc with ⟨rfl, rfl, rfl, rfl, he, hs⟩ | ⟨rfl, rfl, rfl, rfl, he, hs⟩
    · refine Go_pos (by rw [m2]; decide) (e134 _ m2 m3 m4 m5 m6 m7 m8 ?_)
      show lv' 6 = _
      rw [m6, Nat.zero_add]
    · refine Go_neg (fun z => z m2) ?_
      rcases hs with ⟨rfl, rfl⟩ | ⟨rfl, rfl⟩
      · refine Go_pos (by rw [m3]; decide) (e134 _ m2 m3 m4 m5 m6 m7 m8 ?_)
        show lv' 6 = _
        rw [m6, Nat.zero_add]
      · refine Go_neg (fun z => z m3) (e134 _ m2 m3 m4 m5 m6 m7 m8 ?_)
        show lv' 6 + lv' 5 = _
        rw [m6, m5, sN_add, Nat.add_comm]
  rcases hc with ⟨rfl, rfl, rfl, rfl, he, hs⟩ | ⟨rfl, rfl, rfl, rfl, he, hs⟩
  · refine Go_neg (by rw [l2]; decide) ?_
    rcases hs with ⟨rfl, rfl⟩ | ⟨rfl, rfl⟩
    · refine Go_pos (by rw [l3]; decide) (e114 _ l2 l3 l4 l5 l6 l7 ?_)
      show lv 7 = _
      rw [l7, Nat.zero_add]
    · refine Go_neg (fun z => z l3) (e114 _ l2 l3 l4 l5 l6 l7 ?_)
      show lv 7 + lv 4 = _
      rw [l7, l4, sN_add, Nat.add_comm]
  · refine Go_pos l2 (e114 _ l2 l3 l4 l5 l6 l7 ?_)
    show lv 7 = _
    rw [l7, Nat.zero_add]
def tgt (A w h H : Nat) (pl : Pile) (x y k : Nat) : Nat := if k < H then pl x y k else pl (bxA A w x) (byA A h y) (2 * H - 1 - k) ^^^ mkOf (1 - A)
def dnD (w' h' ox oy y x : Nat) (a b : Nat) : Prop := ox ≤ a ∧ a < ox + w' ∧ oy ≤ b ∧ b < oy + h' ∧ (b < oy + y ∨ (b = oy + y ∧ a < ox + x))
def mInv (A w h H : Nat) (pl : Pile) (D : Nat → Nat → Prop) (G : Nat → Nat → Int32) : Prop := ∀ a b, a < w → b < h → (D a b → pileAt G a b (2 * H) (tgt A w h H pl a b)) ∧ (¬ D a b → pileAt G a b H (pl a b))
theorem mInv_step {A S w h w' h' ox oy x y H : Nat} {pl : Pile} {G G' : Nat → Nat → Int32} (hc : fcase A S w h w' h' ox oy) (hx : x < w') (hy : y < h') (hH : 2 * H ≤ 16) (hI : mInv A w h H pl (dnD w' h' ox oy y x) G)
    (h7 : ∀ j, j ≠ 8 * (oy + y) + (ox + x) → G' 7 j = G 7 j) (h7b : G' 7 (8 * (oy + y) + (ox + x)) = sN (2 * H)) (hfr : lfFr (16 * (8 * (oy + y) + (ox + x)) + H) (16 * (8 * (oy + y) + (ox + x)) + 2 * H) G G') (hw : ∀ k, H ≤ k → k < 2 * H → lfM (G' 8) (G' 9) (G' 10) (16 * (8 * (oy + y) + (ox + x)) + k) (pl (bxA A w (ox + x)) (byA A h (oy + y)) (2 * H - 1 - k) ^^^ mkOf (1 - A))) : mInv A w h H pl (dnD w' h' ox oy y (x + 1)) G' := by
  obtain ⟨hc, w1, w2, h1, h2⟩ := hc
  have bnd : ox + w' ≤ w ∧ oy + h' ≤ h := by omega
  intro a b ha hb
  by_cases e : a = ox + x ∧ b = oy + y
  · obtain ⟨rfl, rfl⟩ := e
    refine ⟨fun _ => ⟨h7b, fun k hk => ?_⟩, fun z => absurd (by unfold dnD; omega) z⟩
    unfold tgt
    by_cases hkH : k < H
    · rw [if_pos hkH]
      exact lfM_fr hfr (by omega) (((hI _ _ ha hb).2 (by unfold dnD; omega)).2 k hkH)
    · rw [if_neg hkH]
      exact hw k (by omega) hk
  · have hD : dnD w' h' ox oy y (x + 1) a b ↔ dnD w' h' ox oy y x a b := by unfold dnD; omega
    have hne : 8 * b + a ≠ 8 * (oy + y) + (ox + x) := by omega
    rw [hD]
    refine ⟨fun z => ?_, fun z => ?_⟩
    · have := (hI a b ha hb).1 z
      exact ⟨(h7 _ hne).trans this.1, fun k hk => lfM_fr hfr (by omega) (this.2 k hk)⟩
    · have := (hI a b ha hb).2 z
      exact ⟨(h7 _ hne).trans this.1, fun k hk => lfM_fr hfr (by omega) (this.2 k hk)⟩
theorem g_fold87 {A S w h w' h' ox oy H : Nat} {pl : Pile} {Q : Res → Prop} (hc : fcase A S w h w' h' ox oy) (hH1 : 1 ≤ H) (hH : 2 * H ≤ 16) : ∀ (m x y : Nat) (lv Y : Nat → Int32) (G : Nat → Nat → Int32), x + m = w' → y < h' → lv 2 = sN A → lv 3 = sN S → lv 4 = sN w' → lv 5 = sN h' → lv 6 = sN y → lv 7 = sN x → Y 14 = sN w → Y 15 = sN h → mInv A w h H pl (dnD w' h' ox oy y x) G →
    (∀ (lv' : Nat → Int32) (G' : Nat → Nat → Int32), lv' 2 = sN A → lv' 3 = sN S → lv' 4 = sN w' → lv' 5 = sN h' → lv' 6 = sN (y + 1) → fr [7, 8, 9, 10] G G' → mInv A w h H pl (dnD w' h' ox oy (y + 1) 0) G' → Go (fun n => L_Mo_foldOnce n 77 lv' Y G') Q) → Go (fun n => L_Mo_foldOnce n 87 lv Y G) Q
  | 0, x, y, lv, Y, G, hm, hy, l2, l3, l4, l5, l6, l7, y14, y15, hI, hK => by
    have hc' := hc
    obtain ⟨hc, w1, w2, h1, h2⟩ := hc
    refine Go_S ?_
    simp only [L_Mo_foldOnce, ↓reduceIte, Nat.reduceEqDiff]
    refine Go_pos (by rw [l4, l7, sN_le (by omega) (by omega)]; omega) (hK _ G l2 l3 l4 l5 ?_ fr_rfl ?_)
    · show lv 6 + Int32.ofInt 1 = _
      rw [l6]; exact sN_add y 1
    · intro a b ha hb
      have hD : dnD w' h' ox oy (y + 1) 0 a b ↔ dnD w' h' ox oy y x a b := by unfold dnD; omega
      rw [hD]; exact hI a b ha hb
  | m + 1, x, y, lv, Y, G, hm, hy, l2, l3, l4, l5, l6, l7, y14, y15, hI, hK => by
    have hcc := hc
    obtain ⟨hcc, w1, w2, h1, h2⟩ := hcc
    have bnd : ox + w' ≤ w ∧ oy + h' ≤ h := by omega
    refine st87 hc (by omega) hy lv Y G l2 l3 l4 l5 l6 l7 y14 y15 (fun lv' m2 m3 m4 m5 m6 m7 m8 m9 m10 m11 => ?_)
    have bx : bxA A w (ox + x) < w := by unfold bxA; split <;> omega
    have by' : byA A h (oy + y) < h := by unfold byA; split <;> omega
    have nD : ¬ dnD w' h' ox oy y x (bxA A w (ox + x)) (byA A h (oy + y)) := by
      unfold dnD bxA byA
      split <;> omega
    have hne : 8 * byA A h (oy + y) + bxA A w (ox + x) ≠ 8 * (oy + y) + (ox + x) := by
      unfold bxA byA
      split <;> omega
    have nD2 : ¬ dnD w' h' ox oy y x (ox + x) (oy + y) := by unfold dnD; omega
    have pB := (hI _ _ bx by').2 nD
    have pA := (hI (ox + x) (oy + y) (by omega) (by omega)).2 nD2
    have tu := e_turn (8 * byA A h (oy + y) + bxA A w (ox + x)) (8 * (oy + y) + (ox + x)) H (1 - A) (pl (bxA A w (ox + x)) (byA A h (oy + y))) (by omega) (by omega) hne hH1 hH (by omega) Y G pB.1 pA.1 pB.2
    have fin : ∀ q : Res, (q.2.1 = Y ∧ fr [7, 8, 9, 10] G q.2.2 ∧ (∀ j, j ≠ 8 * (oy + y) + (ox + x) → q.2.2 7 j = G 7 j) ∧ q.2.2 7 (8 * (oy + y) + (ox + x)) = sN (2 * H) ∧ lfFr (16 * (8 * (oy + y) + (ox + x)) + H) (16 * (8 * (oy + y) + (ox + x)) + 2 * H) G q.2.2 ∧ ∀ k, H ≤ k → k < 2 * H → lfM (q.2.2 8) (q.2.2 9) (q.2.2 10) (16 * (8 * (oy + y) + (ox + x)) + k) (pl (bxA A w (ox + x)) (byA A h (oy + y)) (2 * H - 1 - k) ^^^ mkOf (1 - A))) → ∀ lv2 : Nat → Int32, lv2 2 = sN A → lv2 3 = sN S → lv2 4 = sN w' → lv2 5 = sN h' → lv2 6 = sN y → lv2 7 = sN x → Go (fun n => L_Mo_foldOnce n 201 lv2 q.2.1 q.2.2) Q := by
      intro q hq lv2 k2 k3 k4 k5 k6 k7
      obtain ⟨q1, q2, q3, q4, q5, q6⟩ := hq
      refine Go_S ?_
      simp only [L_Mo_foldOnce, ↓reduceIte, Nat.reduceEqDiff]
      rw [q1]
      refine g_fold87 hc hH1 hH m (x + 1) y _ Y q.2.2 (by omega) hy k2 k3 k4 k5 k6 ?_ y14 y15 (mInv_step hc (by omega) hy hH hI q3 q4 q5 q6) (fun lv3 G3 r2 r3 r4 r5 r6 r7 r8 => hK lv3 G3 r2 r3 r4 r5 r6 (fr_trans q2 r7) r8)
      show lv2 7 + Int32.ofInt 1 = _
      rw [k7]; exact sN_add x 1
    refine Go_S ?_
    simp only [L_Mo_foldOnce, ↓reduceIte, Nat.reduceEqDiff]
    rw [m8, m9, m10, m11, f_spot, f_spot]
    rcases (show A = 1 ∨ A = 0 by omega) with hA | hA
    · refine Go_pos (by rw [m2, hA]; decide) (Go_bind (by rw [hA] at tu ⊢; exact tu) (fun q hq => fin q (by rw [hA]; exact hq) _ m2 m3 m4 m5 m6 m7))
    · refine Go_neg (fun z => z (by rw [m2, hA]; rfl)) (Go_bind (by rw [hA] at tu ⊢; exact tu) (fun q hq => fin q (by rw [hA]; exact hq) _ m2 m3 m4 m5 m6 m7))
theorem g_fold77 {A S w h w' h' ox oy H : Nat} {pl : Pile} {Q : Res → Prop} (hc : fcase A S w h w' h' ox oy) (hH1 : 1 ≤ H) (hH : 2 * H ≤ 16) : ∀ (m y : Nat) (lv Y : Nat → Int32) (G : Nat → Nat → Int32), y + m = h' → lv 2 = sN A → lv 3 = sN S → lv 4 = sN w' → lv 5 = sN h' → lv 6 = sN y → Y 14 = sN w → Y 15 = sN h → mInv A w h H pl (dnD w' h' ox oy y 0) G →
    (∀ (lv' : Nat → Int32) (G' : Nat → Nat → Int32), lv' 2 = sN A → lv' 3 = sN S → lv' 4 = sN w' → lv' 5 = sN h' → lv' 6 = sN 0 → fr [7, 8, 9, 10] G G' → mInv A w h H pl (dnD w' h' ox oy h' 0) G' → Go (fun n => L_Mo_foldOnce n 216 lv' Y G') Q) → Go (fun n => L_Mo_foldOnce n 77 lv Y G) Q
  | 0, y, lv, Y, G, hm, l2, l3, l4, l5, l6, y14, y15, hI, hK => by
    have hb := hc.2
    have hb1 := hc.1
    refine Go_S ?_
    simp only [L_Mo_foldOnce, ↓reduceIte, Nat.reduceEqDiff]
    refine Go_pos (by rw [l5, l6, sN_le (by omega) (by omega)]; omega) (hK _ G l2 l3 l4 l5 rfl fr_rfl ?_)
    rw [show h' = y by omega]
    rw [show h' = y by omega] at hI
    exact hI
  | m + 1, y, lv, Y, G, hm, l2, l3, l4, l5, l6, y14, y15, hI, hK => by
    have hb := hc.2
    have hb1 := hc.1
    refine Go_S ?_
    simp only [L_Mo_foldOnce, ↓reduceIte, Nat.reduceEqDiff]
    refine Go_neg (by rw [l5, l6, sN_le (by omega) (by omega)]; omega) ?_
    refine g_fold87 hc hH1 hH w' 0 y _ Y G (by omega) (by omega) l2 l3 l4 l5 l6 rfl y14 y15 hI (fun lv' G' r2 r3 r4 r5 r6 r7 r8 => ?_)
    exact g_fold77 hc hH1 hH m (y + 1) lv' Y G' (by omega) r2 r3 r4 r5 r6 y14 y15 r8 (fun lv3 G3 s2 s3 s4 s5 s6 s7 s8 => hK lv3 G3 s2 s3 s4 s5 s6 (fr_trans r7 s7) s8)
