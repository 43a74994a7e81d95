/-! the model moves the piles; one fold -/
def vInv (w' h' ox oy H2 : Nat) (tg : Nat → Nat → Nat → Nat) (y x : Nat) (G : Nat → Nat → Int32) : Prop := ∀ a b, a < w' → b < h' → pileAt G (ox + a) (oy + b) H2 (tg (ox + a) (oy + b)) ∧ ((b < y ∨ (b = y ∧ a < x)) → pileAt G a b H2 (tg (ox + a) (oy + b)))
theorem pileAt_fr {G G' : Nat → Nat → Int32} {x y H lo hi c : Nat} {v : Nat → Nat} (h7 : ∀ j, j ≠ c → G' 7 j = G 7 j) (hfr : lfFr lo hi G G') (hne : 8 * y + x ≠ c) (hlo : ∀ k, k < H → ¬ (lo ≤ 16 * (8 * y + x) + k ∧ 16 * (8 * y + x) + k < hi)) (h : pileAt G x y H v) : pileAt G' x y H v :=
  ⟨(h7 _ hne).trans h.1, fun k hk => lfM_fr hfr (hlo k hk) (h.2 k hk)⟩
theorem g_fold230 {A w h w' h' ox oy H2 : Nat} {tg : Nat → Nat → Nat → Nat} {Q : Res → Prop} (hc : fcase A 0 w h w' h' ox oy) (hH : H2 ≤ 16) : ∀ (m x y : Nat) (lv Y : Nat → Int32) (G : Nat → Nat → Int32), x + m = w' → y < h' → lv 2 = sN A → lv 3 = sN 0 → lv 4 = sN w' → lv 5 = sN h' → lv 6 = sN y → lv 7 = sN x → vInv w' h' ox oy H2 tg y x G →
    (∀ (lv' : Nat → Int32) (G' : Nat → Nat → Int32), lv' 2 = sN A → lv' 3 = sN 0 → lv' 4 = sN w' → lv' 5 = sN h' → lv' 6 = sN (y + 1) → fr [7, 8, 9, 10] G G' → vInv w' h' ox oy H2 tg (y + 1) 0 G' → Go (fun n => L_Mo_foldOnce n 216 lv' Y G') Q) → Go (fun n => L_Mo_foldOnce n 230 lv Y G) Q
  | 0, x, y, lv, Y, G, hm, hy, l2, l3, l4, l5, l6, l7, hI, hK => by
    have hb := hc.2
    have hb1 := hc.1
    refine Go_S ?_
    simp only [L_Mo_foldOnce, ↓reduceIte, Nat.reduceEqDiff]
    refine Go_pos (by rw [l4, l7, sN_le (by omega) (by omega)]; omega) (hK _ G l2 l3 l4 l5 ?_ fr_rfl ?_)
    · show lv 6 + Int32.ofInt 1 = _
      rw [l6]; exact sN_add y 1
    · intro a b ha hb
      exact ⟨(hI a b ha hb).1, fun z => (hI a b ha hb).2 (by omega)⟩
  | m + 1, x, y, lv, Y, G, hm, hy, l2, l3, l4, l5, l6, l7, hI, hK => by
    have hb := hc.2
    have hb1 := hc.1
    have hne : 8 * (oy + y) + (ox + x) ≠ 8 * y + x := by omega
    have src := (hI x y (by omega) hy).1
    have mv := e_move (8 * (oy + y) + (ox + x)) (8 * y + x) H2 (tg (ox + x) (oy + y)) (by omega) (by omega) hne hH Y G src.1 src.2
    have fin : ∀ q : Res, (q.2.1 = Y ∧ fr [7, 8, 9, 10] G q.2.2 ∧ (∀ j, j ≠ 8 * y + x → q.2.2 7 j = G 7 j) ∧ q.2.2 7 (8 * y + x) = sN H2 ∧ lfFr (16 * (8 * y + x)) (16 * (8 * y + x) + H2) G q.2.2 ∧ ∀ k, k < H2 → lfM (q.2.2 8) (q.2.2 9) (q.2.2 10) (16 * (8 * y + x) + k) (tg (ox + x) (oy + y) k)) → ∀ lv2 : Nat → Int32, lv2 2 = sN A → lv2 3 = sN 0 → lv2 4 = sN w' → lv2 5 = sN h' → lv2 6 = sN y → lv2 7 = sN x → Go (fun n => L_Mo_foldOnce n 279 lv2 q.2.1 q.2.2) Q := by
      intro q hq lv2 k2 k3 k4 k5 k6 k7
      obtain ⟨q1, q2, q3, q4, q5, q6⟩ := hq
      refine Go_S ?_
      simp only [L_Mo_foldOnce, ↓reduceIte, Nat.reduceEqDiff]
      rw [q1]
      refine g_fold230 hc hH m (x + 1) y _ Y q.2.2 (by omega) hy k2 k3 k4 k5 k6 ?_ (fun a b ha hb' => ⟨?_, fun z => ?_⟩) (fun lv3 G3 r2 r3 r4 r5 r6 r7 r8 => hK lv3 G3 r2 r3 r4 r5 r6 (fr_trans q2 r7) r8)
      · show lv2 7 + Int32.ofInt 1 = _
        rw [k7]; exact sN_add x 1
      · exact pileAt_fr q3 q5 (by omega) (fun k hk => by omega) (hI a b ha hb').1
      · by_cases e : a = x ∧ b = y
        · obtain ⟨rfl, rfl⟩ := e
          exact ⟨q4, q6⟩
        · exact pileAt_fr q3 q5 (by omega) (fun k hk => by omega) ((hI a b ha hb').2 (by omega))
    refine Go_S ?_
    simp only [L_Mo_foldOnce, ↓reduceIte, Nat.reduceEqDiff]
    refine Go_neg (by rw [l4, l7, sN_le (by omega) (by omega)]; omega) ?_
    rcases hb1 with ⟨hA, e1, e2, e3, e4, e5⟩ | ⟨hA, e1, e2, e3, e4, e5⟩
    · refine Go_neg (by rw [l2, hA]; decide) (Go_neg (by rw [l2, hA]; decide) ?_)
      rw [l4, l6, l7, sN_add, f_spot, f_spot]
      rw [show 8 * (oy + y) + (ox + x) = 8 * y + (x + w') by omega] at mv
      exact Go_bind mv (fun q hq => fin q hq _ l2 l3 rfl l5 rfl rfl)
    · refine Go_pos (by rw [l2, hA]; rfl) (Go_pos (by rw [l2, hA]; rfl) ?_)
      rw [l5, l6, l7, sN_add, f_spot, f_spot]
      rw [show 8 * (oy + y) + (ox + x) = 8 * (y + h') + x by omega] at mv
      exact Go_bind mv (fun q hq => fin q hq _ l2 l3 l4 rfl rfl rfl)
theorem g_fold216 {A w h w' h' ox oy H2 : Nat} {tg : Nat → Nat → Nat → Nat} {Q : Res → Prop} (hc : fcase A 0 w h w' h' ox oy) (hH : H2 ≤ 16) : ∀ (m y : Nat) (lv Y : Nat → Int32) (G : Nat → Nat → Int32), y + m = h' → lv 2 = sN A → lv 3 = sN 0 → lv 4 = sN w' → lv 5 = sN h' → lv 6 = sN y → vInv w' h' ox oy H2 tg y 0 G →
    (∀ (G' : Nat → Nat → Int32), fr [7, 8, 9, 10] G G' → vInv w' h' ox oy H2 tg h' 0 G' → Q (0, upd (upd Y 14 (sN w')) 15 (sN h'), G')) → Go (fun n => L_Mo_foldOnce n 216 lv Y G) Q
  | 0, y, lv, Y, G, hm, l2, l3, l4, l5, l6, hI, hK => by
    have hb := hc.2
    have hb1 := hc.1
    refine Go_S ?_
    simp only [L_Mo_foldOnce, ↓reduceIte, Nat.reduceEqDiff]
    rw [l4, l5, l6]
    refine Go_pos (by rw [sN_le (by omega) (by omega)]; omega) (Go_ret (hK G fr_rfl ?_))
    rw [show h' = y by omega]
    rw [show h' = y by omega] at hI
    exact hI
  | m + 1, y, lv, Y, G, hm, l2, l3, l4, l5, l6, hI, hK => by
    have hb := hc.2
    have hb1 := hc.1
    refine Go_S ?_
    simp only [L_Mo_foldOnce, ↓reduceIte, Nat.reduceEqDiff]
    refine Go_neg (by rw [l5, l6, sN_le (by omega) (by omega)]; omega) (Go_neg (fun z => z l3) ?_)
    refine g_fold230 hc hH w' 0 y _ Y G (by omega) (by omega) l2 l3 l4 l5 l6 rfl hI (fun lv' G' r2 r3 r4 r5 r6 r7 r8 => ?_)
    exact g_fold216 hc hH m (y + 1) lv' Y G' (by omega) r2 r3 r4 r5 r6 r8 (fun G3 s1 s2 => hK G3 (fr_trans r7 s1) s2)
def pilM (w h H : Nat) (pl : Pile) (Y : Nat → Int32) (G : Nat → Nat → Int32) : Prop := Y 14 = sN w ∧ Y 15 = sN h ∧ 1 ≤ w ∧ w ≤ 8 ∧ 1 ≤ h ∧ h ≤ 8 ∧ 1 ≤ H ∧ w * h * H ≤ 16 ∧ ∀ x y, x < w → y < h → pileAt G x y H (pl x y)
theorem e_Mo_foldOnce {w h H : Nat} {pl : Pile} {Y : Nat → Int32} {G : Nat → Nat → Int32} {l : Nat} (hp : pilM w h H pl Y G) (hl : isLt l) (hf : fold1 l w h = true) : Go (fun n => f_Mo_foldOnce n Y G (sN l)) (fun q => fr [14, 15] Y q.2.1 ∧ fr [7, 8, 9, 10] G q.2.2 ∧ pilM (fW l w) (fH l h) (2 * H) (plF l w h H pl) q.2.1 q.2.2) := by
  obtain ⟨y14, y15, b1, b2, b3, b4, b5, b6, hP⟩ := hp
  -- the numbers of the fold
  have num : ∃ A S ox oy : Nat, fcase A S w h (fW l w) (fH l h) ox oy ∧ (A = if fAc l then 1 else 0) ∧ (S = if fSt l then 1 else 0) ∧ 2 * H ≤ 16 ∧ fW l w * fH l h * (2 * H) ≤ 16 ∧ 1 ≤ fW l w ∧ 1 ≤ fH l h ∧ ∀ x y k, plF l w h H pl x y k = tgt A w h H pl (ox + x) (oy + y) k := by
    have hev := hf
    unfold fold1 at hev
    rcases hl with rfl | rfl | rfl | rfl
    · have he : w % 2 = 0 := beq_iff_eq.mp hev
      obtain ⟨e1, e2, e3⟩ := pil_ev b1 b3 he b6
      refine ⟨1, 1, 0, 0, ⟨Or.inl ⟨rfl, rfl, rfl, rfl, he, Or.inl ⟨rfl, rfl⟩⟩, b1, b2, b3, b4⟩, rfl, rfl, e1, e2, e3, b3, fun x y k => ?_⟩
      rw [Nat.zero_add, Nat.zero_add]; rfl
    · have he : w % 2 = 0 := beq_iff_eq.mp hev
      obtain ⟨e1, e2, e3⟩ := pil_ev b1 b3 he b6
      refine ⟨1, 0, w / 2, 0, ⟨Or.inl ⟨rfl, rfl, rfl, rfl, he, Or.inr ⟨rfl, rfl⟩⟩, b1, b2, b3, b4⟩, rfl, rfl, e1, e2, e3, b3, fun x y k => ?_⟩
      rw [Nat.zero_add, Nat.add_comm (w / 2) x]; rfl
    · have he : h % 2 = 0 := beq_iff_eq.mp hev
      obtain ⟨e1, e2, e3⟩ := pil_ev2 b1 b3 he b6
      refine ⟨0, 0, 0, h / 2, ⟨Or.inr ⟨rfl, rfl, rfl, rfl, he, Or.inr ⟨rfl, rfl⟩⟩, b1, b2, b3, b4⟩, rfl, rfl, e1, e2, b1, e3, fun x y k => ?_⟩
      rw [Nat.zero_add, Nat.add_comm (h / 2) y]; rfl
    · have he : h % 2 = 0 := beq_iff_eq.mp hev
      obtain ⟨e1, e2, e3⟩ := pil_ev2 b1 b3 he b6
      refine ⟨0, 1, 0, 0, ⟨Or.inr ⟨rfl, rfl, rfl, rfl, he, Or.inl ⟨rfl, rfl⟩⟩, b1, b2, b3, b4⟩, rfl, rfl, e1, e2, b1, e3, fun x y k => ?_⟩
      rw [Nat.zero_add, Nat.zero_add]; rfl
  obtain ⟨A, S, ox, oy, hc, hA, hS, hH, hb6, hw', hh', hpl⟩ := num
  have hcb := hc.2
  have hcc := hc.1
  -- from the loops on
  have main : ∀ lv : Nat → Int32, lv 2 = sN A → lv 3 = sN S → lv 4 = sN (fW l w) → lv 5 = sN (fH l h) → Go (fun n => L_Mo_foldOnce n 74 lv Y G) (fun q => fr [14, 15] Y q.2.1 ∧ fr [7, 8, 9, 10] G q.2.2 ∧ pilM (fW l w) (fH l h) (2 * H) (plF l w h H pl) q.2.1 q.2.2) := by
    intro lv l2 l3 l4 l5
    refine Go_S ?_
    simp only [L_Mo_foldOnce, ↓reduceIte, Nat.reduceEqDiff]
    refine g_fold77 (pl := pl) hc b5 hH (fH l h) 0 _ Y G (by omega) l2 l3 l4 l5 rfl y14 y15 (fun a b ha hb => ⟨fun z => by unfold dnD at z; omega, fun _ => hP a b ha hb⟩) (fun lv' G' r2 r3 r4 r5 r6 r7 r8 => ?_)
    have done : ∀ a b, a < fW l w → b < fH l h → pileAt G' (ox + a) (oy + b) (2 * H) (tgt A w h H pl (ox + a) (oy + b)) := fun a b ha hb => (r8 (ox + a) (oy + b) (by omega) (by omega)).1 (by unfold dnD; omega)
    have endd : ∀ G2 : Nat → Nat → Int32, fr [7, 8, 9, 10] G G2 → (∀ a b, a < fW l w → b < fH l h → pileAt G2 a b (2 * H) (tgt A w h H pl (ox + a) (oy + b))) → fr [14, 15] Y (upd (upd Y 14 (sN (fW l w))) 15 (sN (fH l h))) ∧ fr [7, 8, 9, 10] G G2 ∧ pilM (fW l w) (fH l h) (2 * H) (plF l w h H pl) (upd (upd Y 14 (sN (fW l w))) 15 (sN (fH l h))) G2 := by
      intro G2 hG2 h2
      refine ⟨fr_upd (fr_upd fr_rfl (by decide)) (by decide), hG2, rfl, rfl, hw', by omega, hh', by omega, by omega, hb6, fun x y hx hy => ?_⟩
      have := h2 x y hx hy
      exact ⟨this.1, fun k hk => by rw [hpl]; exact this.2 k hk⟩
    rcases (show S = 1 ∨ S = 0 by omega) with hS1 | hS0
    · refine Go_S ?_
      simp only [L_Mo_foldOnce, ↓reduceIte, Nat.reduceEqDiff]
      rw [r4, r5]
      refine Go_ite (fun _ => Go_ret ?_) (fun _ => Go_pos (by rw [r3, hS1]; decide) (Go_ret ?_))
      · refine endd G' r7 (fun a b ha hb => ?_)
        have := done a b ha hb
        rw [show ox = 0 by omega, show oy = 0 by omega] at this ⊢
        rw [Nat.zero_add, Nat.zero_add] at this ⊢
        exact this
      · refine endd G' r7 (fun a b ha hb => ?_)
        have := done a b ha hb
        rw [show ox = 0 by omega, show oy = 0 by omega] at this ⊢
        rw [Nat.zero_add, Nat.zero_add] at this ⊢
        exact this
    · rw [hS0] at hc r3
      refine g_fold216 (tg := tgt A w h H pl) hc hH (fH l h) 0 lv' Y G' (by omega) r2 r3 r4 r5 r6 (fun a b ha hb => ⟨done a b ha hb, fun z => by omega⟩) (fun G3 s1 s2 => ?_)
      exact endd G3 (fr_trans r7 s1) (fun a b ha hb => (s2 a b ha hb).2 (by omega))
  have e55 : ∀ lv : Nat → Int32, lv 2 = sN A → lv 3 = sN S → lv 4 = sN (fW l w) → Go (fun n => L_Mo_foldOnce n 55 lv Y G) (fun q => fr [14, 15] Y q.2.1 ∧ fr [7, 8, 9, 10] G q.2.2 ∧ pilM (fW l w) (fH l h) (2 * H) (plF l w h H pl) q.2.1 q.2.2) := by
    intro lv l2 l3 l4
    refine Go_S ?_
    simp only [L_Mo_foldOnce, ↓reduceIte, Nat.reduceEqDiff]
    rcases hcc with ⟨a0, e1, e2, e3, e4, e5⟩ | ⟨a0, e1, e2, e3, e4, e5⟩
    · refine Go_neg (by rw [l2, a0]; decide) (main _ l2 l3 l4 ?_)
      show Y 15 = _; rw [y15, e2]
    · refine Go_pos (by rw [l2, a0]; rfl) (main _ l2 l3 l4 ?_)
      show Y 15 / 2 = _; rw [y15, e2, wN_2, sN_div (by omega) (by omega) (by omega)]
  have e36 : ∀ lv : Nat → Int32, lv 2 = sN A → lv 3 = sN S → Go (fun n => L_Mo_foldOnce n 36 lv Y G) (fun q => fr [14, 15] Y q.2.1 ∧ fr [7, 8, 9, 10] G q.2.2 ∧ pilM (fW l w) (fH l h) (2 * H) (plF l w h H pl) q.2.1 q.2.2) := by
    intro lv l2 l3
    refine Go_S ?_
    simp only [L_Mo_foldOnce, ↓reduceIte, Nat.reduceEqDiff]
    rcases hcc with ⟨a0, e1, e2, e3, e4, e5⟩ | ⟨a0, e1, e2, e3, e4, e5⟩
    · refine Go_neg (by rw [l2, a0]; decide) (e55 _ l2 l3 ?_)
      show Y 14 / 2 = _; rw [y14, e1, wN_2, sN_div (by omega) (by omega) (by omega)]
    · refine Go_pos (by rw [l2, a0]; rfl) (e55 _ l2 l3 ?_)
      show Y 14 = _; rw [y14, e1]
  have e18 : ∀ lv : Nat → Int32, lv 1 = sN l → lv 2 = sN A → Go (fun n => L_Mo_foldOnce n 18 lv Y G) (fun q => fr [14, 15] Y q.2.1 ∧ fr [7, 8, 9, 10] G q.2.2 ∧ pilM (fW l w) (fH l h) (2 * H) (plF l w h H pl) q.2.1 q.2.2) := by
    intro lv l1 l2
    refine Go_S ?_
    simp only [L_Mo_foldOnce, ↓reduceIte, Nat.reduceEqDiff]
    rcases hl with rfl | rfl | rfl | rfl
    · exact Go_pos (by rw [l1]; rfl) (e36 _ l2 (by rw [hS]; rfl))
    · exact Go_neg (by rw [l1]; decide) (Go_pos (by rw [l1]; decide) (e36 _ l2 (by rw [hS]; rfl)))
    · exact Go_neg (by rw [l1]; decide) (Go_pos (by rw [l1]; decide) (e36 _ l2 (by rw [hS]; rfl)))
    · exact Go_neg (by rw [l1]; decide) (Go_neg (by rw [l1]; decide) (e36 _ l2 (by rw [hS]; rfl)))
  unfold f_Mo_foldOnce
  rcases hl with rfl | rfl | rfl | rfl
  · exact Go_pos (by decide) (e18 _ rfl (by rw [hA]; rfl))
  · exact Go_neg (by decide) (Go_neg (by decide) (e18 _ rfl (by rw [hA]; rfl)))
  · exact Go_neg (by decide) (Go_pos (by decide) (e18 _ rfl (by rw [hA]; rfl)))
  · exact Go_neg (by decide) (Go_pos (by decide) (e18 _ rfl (by rw [hA]; rfl)))
