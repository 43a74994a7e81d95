/-! what run and scheme share -/
theorem m_run92 (lv Y : Nat → Int32) (G : Nat → Nat → Int32) (t : Int32) (ht : ¬ t ≤ 0) : Go (fun n => L_Mo_run n 92 lv (upd Y 0 t) G) (fun q => q = (0, upd Y 0 t, G)) := by
  refine Go_S ?_
  simp only [L_Mo_run, ↓reduceIte, Nat.reduceEqDiff]
  exact Go_neg ht (Go_ret rfl)
theorem m_run92L (s : Sch) (n : Nat) (st : Nat → Nat) (hv : schV s) (ok : lfOK s.1 s.2.1 s.2.2.2.1) (hst : stOK st) (hB : bkB s.1 (s.1 * s.2.1) (shC n (s.1 * s.2.1)) n st) (kb : brS s (st 1) = 0) (hwy : st 1 = 0 ∨ st 1 = 1) (Y : Nat → Int32) (G : Nat → Nat → Int32) (hM : schM s (Y 5) (Y 6) (Y 7) (Y 8) (Y 9) (G 1) (G 2) (G 3)) (g14 : stF st (G 14)) (lv : Nat → Int32) (l1 : lv 1 = sN n) (l2 : lv 2 = sN (2 * (s.1 * s.2.1))) : Go (fun k => L_Mo_run k 92 lv (upd Y 0 0) G) (fun q => q.1 = sN (shC n (s.1 * s.2.1)) ∧ q.2.1 0 = 0 ∧ fr [0, 14, 15, 16, 17, 18, 19, 20] Y q.2.1 ∧ fr [7, 8, 9, 10, 11, 12, 13, 15, 16, 17, 18, 19, 20, 21] G q.2.2 ∧ q.2.1 16 = sN (shC n (s.1 * s.2.1)) ∧ q.2.1 17 = sN (2 * (s.1 * s.2.1)) ∧ q.2.1 18 = sN n ∧ q.2.1 19 = sN (shC n (s.1 * s.2.1) * (2 * (s.1 * s.2.1)) - n) ∧ (q.2.1 20 = if (st 3 < st 5 ∨ st 4 < st 6) ∧ st 9 = 0 then 1 else 0) ∧ bkP s.1 s.2.1 (shC n (s.1 * s.2.1)) n (st 1) st s.2.2.2.1 (fun _ _ => True) q.2.2) := by
  obtain ⟨v1, v2, v3, v4, v5, v6, v7, v8⟩ := hv
  have hN1 : 1 ≤ s.1 * s.2.1 := Nat.mul_le_mul v1 v2
  have hM' := hM
  obtain ⟨m5, m6, m7, m8, m9, m10⟩ := hM'
  have g141 : G 14 1 = sN (st 1) := g14 1 (by omega)
  have hB' := hB
  obtain ⟨bc, bN, bs, bB, bn, bn2, bst⟩ := hB'
  obtain ⟨-, -, -, i3, i4, i5, i6, -, -, i9⟩ := bst
  have e2 : shC n (s.1 * s.2.1) * (2 * (s.1 * s.2.1)) = 2 * (s.1 * s.2.1 * shC n (s.1 * s.2.1)) := by rw [Nat.mul_left_comm, Nat.mul_comm (shC n (s.1 * s.2.1)) (s.1 * s.2.1)]
  have nl : ¬ lv 2 = 0 := by rw [l2, wN_0, sN_eq (by omega) (by omega)]; omega
  have esh : (lv 1 + lv 2 - 1) / lv 2 = sN (shC n (s.1 * s.2.1)) := by rw [l1, l2, sN_add, wN_1, sN_sub (by omega), sN_div (by omega) (by omega) (by omega)]; rfl
  have ebl : sN (shC n (s.1 * s.2.1)) * lv 2 - lv 1 = sN (shC n (s.1 * s.2.1) * (2 * (s.1 * s.2.1)) - n) := by rw [l1, l2, sN_mul, sN_sub (by omega)]
  refine Go_S ?_
  simp only [L_Mo_run, ↓reduceIte, Nat.reduceEqDiff]
  refine Go_pos (by show (0 : Int32) ≤ 0; decide) (Go_bind (e_Mo_brokenPage v1 v2 v3 v4 v5 v6 v7 v8 hwy (upd Y 0 0) G hM g141) (fun q hq => ?_))
  obtain ⟨a1, a2, a3⟩ := hq
  refine Go_pos (by rw [a1, kb]; rfl) ?_
  have y6 : q.2.1 6 = sN s.1 := (a2 6 (by decide)).trans m6
  have y7 : q.2.1 7 = sN s.2.1 := (a2 7 (by decide)).trans m7
  refine Go_bind (e_foldAll s.1 s.2.1 (st 1) s.2.2.1 s.2.2.2.1 v1 v2 v3 v4 v5 v6 v7 v8 ok hwy q.2.1 q.2.2 y6 y7 ((a2 8 (by decide)).trans m8) (fun j x hj => by rw [a3 3 (by decide)]; exact m9 j x hj) (by rw [a3 14 (by decide)]; exact g141)) (fun q' hq' => ?_)
  obtain ⟨b1, b2, b3⟩ := hq'
  refine Go_pos nl ?_
  rw [esh, ebl]
  have fY1 : fr [14, 15] (upd Y 0 0) q'.2.1 := fr_trans a2 b1
  have fG1 : fr [7, 8, 9, 10, 11, 12, 13] G q'.2.2 := fr_trans a3 b2
  have q14 : stF st (q'.2.2 14) := by rw [fG1 14 (by decide)]; exact g14
  have q9 : q'.2.2 14 (9 : Int32).toNatClampNeg = sN (st 9) := q14 9 (by omega)
  have q3 : q'.2.2 14 (3 : Int32).toNatClampNeg = sN (st 3) := q14 3 (by omega)
  have q4 : q'.2.2 14 (4 : Int32).toNatClampNeg = sN (st 4) := q14 4 (by omega)
  have q5 : q'.2.2 14 (5 : Int32).toNatClampNeg = sN (st 5) := q14 5 (by omega)
  have q6 : q'.2.2 14 (6 : Int32).toNatClampNeg = sN (st 6) := q14 6 (by omega)
  rw [q9, q3, q4, q5, q6]
  have fin : ∀ tl : Int32, (tl = if (st 3 < st 5 ∨ st 4 < st 6) ∧ st 9 = 0 then 1 else 0) → Go (fun k => L_Mo_run k 197 (upd (upd (upd am_lv0 1 (lv 1)) 2 (lv 2)) 3 (lv 3)) (upd (upd (upd (upd (upd q'.2.1 16 (sN (shC n (s.1 * s.2.1)))) 17 (lv 2)) 18 (lv 1)) 19 (sN (shC n (s.1 * s.2.1) * (2 * (s.1 * s.2.1)) - n))) 20 tl) q'.2.2) (fun q => q.1 = sN (shC n (s.1 * s.2.1)) ∧ q.2.1 0 = 0 ∧ fr [0, 14, 15, 16, 17, 18, 19, 20] Y q.2.1 ∧ fr [7, 8, 9, 10, 11, 12, 13, 15, 16, 17, 18, 19, 20, 21] G q.2.2 ∧ q.2.1 16 = sN (shC n (s.1 * s.2.1)) ∧ q.2.1 17 = sN (2 * (s.1 * s.2.1)) ∧ q.2.1 18 = sN n ∧ q.2.1 19 = sN (shC n (s.1 * s.2.1) * (2 * (s.1 * s.2.1)) - n) ∧ (q.2.1 20 = if (st 3 < st 5 ∨ st 4 < st 6) ∧ st 9 = 0 then 1 else 0) ∧ bkP s.1 s.2.1 (shC n (s.1 * s.2.1)) n (st 1) st s.2.2.2.1 (fun _ _ => True) q.2.2) := by
    intro tl htl
    refine Go_S ?_
    simp only [L_Mo_run, ↓reduceIte, Nat.reduceEqDiff]
    refine Go_mono (g_run200 (wy := st 1) hB ok _ ?_ ?_ rfl rfl (shC n (s.1 * s.2.1)) 0 _ q'.2.2 (by omega) l1 l2 rfl q14 b3 (fun s' p' _ _ _ e => by omega)) (fun x hx => ?_)
    · exact (b1 6 (by decide)).trans y6
    · exact (b1 7 (by decide)).trans y7
    · obtain ⟨x1, x2, x3, x4⟩ := hx
      refine ⟨x1, ?_, ?_, fr_trans (fr_mono fG1 (by decide)) (fr_mono x3 (by decide)), ?_, ?_, ?_, ?_, ?_, x4⟩
      · rw [x2]; exact fY1 0 (by decide)
      · rw [x2]
        exact fr_upd (fr_upd (fr_upd (fr_upd (fr_upd (fr_trans (fr_upd fr_rfl (by decide)) (fr_mono fY1 (by decide))) (by decide)) (by decide)) (by decide)) (by decide)) (by decide)
      · rw [x2]; rfl
      · rw [x2]; exact l2
      · rw [x2]; exact l1
      · rw [x2]; rfl
      · rw [x2]; exact htl
  refine Go_ite (fun k9 => ?_) (fun k9 => Go_ite (fun k3 => ?_) (fun k3 => Go_ite (fun k4 => ?_) (fun k4 => ?_)))
  · rw [wN_0, sN_eq (by omega) (by omega)] at k9
    exact fin 0 (by rw [if_neg (by omega)])
  · rw [wN_0, sN_eq (by omega) (by omega)] at k9
    rw [sN_lt (by omega) (by omega)] at k3
    exact fin 1 (by rw [if_pos (by omega)])
  · rw [wN_0, sN_eq (by omega) (by omega)] at k9
    rw [sN_lt (by omega) (by omega)] at k3
    rw [sN_le (by omega) (by omega)] at k4
    exact fin 0 (by rw [if_neg (by omega)])
  · rw [wN_0, sN_eq (by omega) (by omega)] at k9
    rw [sN_lt (by omega) (by omega)] at k3
    rw [sN_le (by omega) (by omega)] at k4
    exact fin 1 (by rw [if_pos (by omega)])
theorem schB_sp_t {X X' : Nat → Int32} {F F' : Nat → Nat → Int32} {Y Y' : Nat → Int32} {G G' : Nat → Nat → Int32} (h : schB true X F Y G) (hX : fr [1, 2, 3, 4, 5, 6, 7, 8, 9, 21, 22, 23, 24] X X') (hF : fr [1, 12, 13, 14, 15] F F') (hY : fr [2, 3, 4, 10, 11, 12, 13] (upd (upd Y 0 0) 1 0) Y') (hG : fr [4, 5, 6] G G') : schB true (upd X' 0 0) F' Y' G' := by
  show schI (X' 25) (X' 26) (X' 27) (X' 28) (F' 16) (F' 17) (F' 18) (F' 19) Y' G'
  rw [hX 25 (by decide), hX 26 (by decide), hX 27 (by decide), hX 28 (by decide), hF 16 (by decide), hF 17 (by decide), hF 18 (by decide), hF 19 (by decide)]
  exact schI_cg (Y := upd (upd Y 0 0) 1 0) h (fun k hk => hY k (by revert k hk; decide)) (fun k hk => hG k (by revert k hk; decide))
theorem schB_sp_f {X X' : Nat → Int32} {F F' : Nat → Nat → Int32} {Y Y' : Nat → Int32} {G G' : Nat → Nat → Int32} (h : schB false X F Y G) (hX : fr [1, 2, 3, 4, 5, 6, 7, 8, 9, 25, 26, 27, 28] X X') (hF : fr [1, 16, 17, 18, 19] F F') (hY : fr [2, 3, 4, 10, 11, 12, 13] (upd (upd Y 0 0) 1 0) Y') (hG : fr [4, 5, 6] G G') : schB false (upd X' 0 0) F' Y' G' := by
  show schI (X' 21) (X' 22) (X' 23) (X' 24) (F' 12) (F' 13) (F' 14) (F' 15) Y' G'
  rw [hX 21 (by decide), hX 22 (by decide), hX 23 (by decide), hX 24 (by decide), hF 12 (by decide), hF 13 (by decide), hF 14 (by decide), hF 15 (by decide)]
  exact schI_cg (Y := upd (upd Y 0 0) 1 0) h (fun k hk => hY k (by revert k hk; decide)) (fun k hk => hG k (by revert k hk; decide))
theorem foS_l {t : Nat → Nat} {c r p0 w : Nat} : ∀ {m p : Nat} {pre : List Nat}, p0 ≤ p → foS t c r p0 m p pre = .inl w → w ≤ p + m
  | 0, p, pre, hp, h => by
    unfold foS at h
    split at h
    · cases h; omega
    · unfold foF at h
      split at h
      · cases h; omega
      · cases h
  | m + 1, p, pre, hp, h => by
    unfold foS at h
    split at h
    · have := foS_l (by omega) h; omega
    · unfold foF at h
      split at h
      · cases h; omega
      · cases h
theorem pgS_b (t : Nat → Nat) (N : Nat) : ∀ (m k p : Nat) (A : Told), match pgS t N m k p A with
    | .inl w => w ≤ p + 5 * m
    | .inr q => q.1 ≤ p + 5 * m
  | 0, k, p, A => Nat.le_refl _
  | m + 1, k, p, A => by
    unfold pgS
    have key : ∀ p', p' ≤ p + 1 → match sb (numE t N k p' A) (fun q => pgS t N m (k + 1) q.1 q.2) with
        | .inl w => w ≤ p + 5 * (m + 1)
        | .inr q => q.1 ≤ p + 5 * (m + 1) := by
      intro p' hp'
      unfold numE
      cases hn : nuS t (2 * N) p' with
      | inl w => have := nuS_l hn; show w ≤ _; omega
      | inr q =>
        have := nuS_r hn
        simp only [sb_inr]
        have ih := pgS_b t N m (k + 1) (if t q.2 = 33 then q.2 + 1 else q.2) (fun j => if j = k then (q.1, if t q.2 = 33 then 1 else 0) else A j)
        have hb : (if t q.2 = 33 then q.2 + 1 else q.2) ≤ p + 5 := by split <;> omega
        revert ih
        generalize (if t q.2 = 33 then q.2 + 1 else q.2) = e at hb ⊢
        cases pgS t N m (k + 1) e (fun j => if j = k then (q.1, if t q.2 = 33 then 1 else 0) else A j) with
        | inl w => intro ih; show w ≤ _; change w ≤ _ at ih; omega
        | inr x => intro ih; show x.1 ≤ _; change x.1 ≤ _ at ih; omega
    by_cases hk : k = 0
    · rw [if_pos hk, sb_inr]; exact key p (by omega)
    · rw [if_neg hk]
      unfold sepS
      by_cases ht : t p = (if k = N then 47 else 44)
      · rw [if_pos ht, sb_inr]; exact key (p + 1) (by omega)
      · rw [if_neg ht, sb_inl]; show p ≤ _; omega
theorem paS_lt {t : Nat → Nat} {x0 : Int32} {f0 : Nat → Int32} {w : Nat} (hT : tapeOK t x0 f0) (h : paS t = .inl w) : w < 1000 := by
  unfold paS at h
  cases hz : szS t with
  | inl w' =>
    rw [hz, sb_inl] at h; cases h
    unfold szS at hz
    cases h1 : nuS t 8 0 with
    | inl v => rw [h1, sb_inl] at hz; cases hz; have := nuS_l h1; omega
    | inr c =>
      have := nuS_r h1
      rw [h1, sb_inr] at hz
      unfold sepS at hz
      split at hz
      · rw [sb_inr] at hz
        cases h2 : nuS t (min 8 (16 / c.1)) (c.2 + 1) with
        | inl v => rw [h2, sb_inl] at hz; cases hz; have := nuS_l h2; omega
        | inr r => rw [h2, sb_inr] at hz; cases hz
      · rw [sb_inl] at hz; cases hz; omega
  | inr z =>
    obtain ⟨z1, z2, z3, z4, z5, z6⟩ := szS_r hz
    rw [hz, sb_inr] at h
    cases hf : foS t z.1 z.2.1 z.2.2 6 z.2.2 [] with
    | inl w' => rw [hf, sb_inl] at h; cases h; have := foS_l (Nat.le_refl _) hf; omega
    | inr f =>
      obtain ⟨g1, g2, g3, g4⟩ := foS_r hf (fun x hx => absurd hx List.not_mem_nil)
      rw [hf, sb_inr] at h
      split at h
      · have hb := pgS_b t (z.1 * z.2.1) (2 * (z.1 * z.2.1)) 0 (f.2.2 + 1) A0
        cases hp : pgS t (z.1 * z.2.1) (2 * (z.1 * z.2.1)) 0 (f.2.2 + 1) A0 with
        | inl w' => rw [hp] at hb; rw [hp, sb_inl] at h; cases h; change w ≤ _ at hb; omega
        | inr q =>
          rw [hp] at hb
          rw [hp, sb_inr] at h
          change q.1 ≤ _ at hb
          split at h
          · cases h
          · cases h; omega
      · split at h
        · cases h
        · cases h; omega
