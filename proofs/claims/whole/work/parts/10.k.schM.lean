/-! the model takes a scheme -/
def schM (s : Sch) (y5 y6 y7 y8 y9 : Int32) (g1 g2 g3 : Nat → Int32) : Prop :=
  y5 = 1 ∧ y6 = sN s.1 ∧ y7 = sN s.2.1 ∧ y8 = sN s.2.2.1.length ∧ (∀ j x, s.2.2.1[j]? = some x → g3 j = sN x) ∧ match s.2.2.2.2 with
  | none => y9 = 0
  | some A => y9 = 1 ∧ toldM (2 * (s.1 * s.2.1)) A g1 g2
theorem tk_end {t : Nat → Nat} {y2 : Int32} {g : Nat → Int32} {p : Nat} (h : tapeOK t y2 g) (hp : p < 10000) : (y2 ≤ sN p) = (t p = 1000) := by
  obtain ⟨s, h0, h1, h2, h3⟩ := h
  rw [h1, sN_le (by omega) (by omega)]
  refine propext ⟨fun z => h3 p z, fun z => ?_⟩
  rcases Nat.lt_or_ge p s with hs | hs
  · have := (h2 p hs).1; omega
  · exact hs
theorem g_sch250 (Y : Nat → Int32) (g5 g6 : Nat → Int32) : ∀ (m k : Nat) (lv : Nat → Int32) (G : Nat → Nat → Int32), k + m = 32 → lv 1 = sN k → G 5 = g5 → G 6 = g6 → (∀ j, j < k → G 1 j = g5 j ∧ G 2 j = vp_nar .boolean (g6 j)) → Go (fun n => L_Mo_scheme n 250 lv Y G) (fun q => q.1 = Y 6 * Y 7 ∧ q.2.1 = Y ∧ fr [1, 2] G q.2.2 ∧ ∀ j, j < 32 → q.2.2 1 j = g5 j ∧ q.2.2 2 j = vp_nar .boolean (g6 j))
  | 0, k, lv, G, hm, l1, h5, h6, hG => by
    refine Go_S ?_
    simp only [L_Mo_scheme, ↓reduceIte, Nat.reduceEqDiff]
    exact Go_pos (by rw [l1, wN_32, sN_le (by omega) (by omega)]; omega) (Go_ret ⟨rfl, rfl, fr_rfl, fun j hj => hG j (by omega)⟩)
  | m + 1, k, lv, G, hm, l1, h5, h6, hG => by
    refine Go_S ?_
    simp only [L_Mo_scheme, ↓reduceIte, Nat.reduceEqDiff]
    have hb : ¬ (lv 1 < 0 ∨ 32 ≤ (lv 1).toNatClampNeg) := by rw [l1, wN_0, sN_lt (by omega) (by omega), sN_nat (by omega)]; omega
    refine Go_neg (by rw [l1, wN_32, sN_le (by omega) (by omega)]; omega) (Go_pos hb (Go_pos hb (Go_pos hb (Go_pos hb ?_))))
    rw [l1, sN_nat (by omega), h5, h6]
    refine Go_mono (g_sch250 Y g5 g6 m (k + 1) _ _ (by omega) (sN_add k 1) h5 h6 (fun j hj => ?_)) (fun q hq => ⟨hq.1, hq.2.1, fr_trans (fr_vup (fr_vup fr_rfl (by decide)) (by decide)) hq.2.2.1, hq.2.2.2⟩)
    show upd (G 1) k (g5 k) j = _ ∧ upd (G 2) k (vp_nar .boolean (g6 k)) j = _
    rw [upd_app, upd_app]
    by_cases e : j = k
    · subst e; rw [if_pos rfl, if_pos rfl]; exact ⟨rfl, rfl⟩
    · rw [if_neg e, if_neg e]; exact hG j (by omega)
theorem g_sch224 (Y : Nat → Int32) (g4 g5 g6 : Nat → Int32) : ∀ (m k : Nat) (lv : Nat → Int32) (G : Nat → Nat → Int32), k + m = 6 → lv 1 = sN k → G 4 = g4 → G 5 = g5 → G 6 = g6 → (∀ j, j < k → G 3 j = g4 j) → Go (fun n => L_Mo_scheme n 224 lv Y G) (fun q => q.1 = Y 6 * Y 7 ∧ q.2.1 = Y ∧ fr [1, 2, 3] G q.2.2 ∧ (∀ j, j < 6 → q.2.2 3 j = g4 j) ∧ ∀ j, j < 32 → q.2.2 1 j = g5 j ∧ q.2.2 2 j = vp_nar .boolean (g6 j))
  | 0, k, lv, G, hm, l1, h4, h5, h6, hG => by
    refine Go_S ?_
    simp only [L_Mo_scheme, ↓reduceIte, Nat.reduceEqDiff]
    refine Go_pos (by rw [l1, wN_6, sN_le (by omega) (by omega)]; omega) ?_
    refine Go_mono (g_sch250 Y g5 g6 32 0 _ G rfl rfl h5 h6 (fun j hj => by omega)) (fun q hq => ⟨hq.1, hq.2.1, fr_mono hq.2.2.1 (by decide), fun j hj => ?_, hq.2.2.2⟩)
    rw [hq.2.2.1 3 (by decide)]; exact hG j (by omega)
  | m + 1, k, lv, G, hm, l1, h4, h5, h6, hG => by
    refine Go_S ?_
    simp only [L_Mo_scheme, ↓reduceIte, Nat.reduceEqDiff]
    have hb : ¬ (lv 1 < 0 ∨ 6 ≤ (lv 1).toNatClampNeg) := by rw [l1, wN_0, sN_lt (by omega) (by omega), sN_nat (by omega)]; omega
    refine Go_neg (by rw [l1, wN_6, sN_le (by omega) (by omega)]; omega) (Go_pos hb (Go_pos hb ?_))
    rw [l1, sN_nat (by omega), h4]
    refine Go_mono (g_sch224 Y g4 g5 g6 m (k + 1) _ _ (by omega) (sN_add k 1) h4 h5 h6 (fun j hj => ?_)) (fun q hq => ⟨hq.1, hq.2.1, fr_trans (fr_vup fr_rfl (by decide)) hq.2.2.1, hq.2.2.2⟩)
    show upd (G 3) k (g4 k) j = _
    rw [upd_app]
    by_cases e : j = k
    · subst e; rw [if_pos rfl]
    · rw [if_neg e]; exact hG j (by omega)
/-- how scheme ends -/
def schEnd (z : Nat ⊕ Sch) (Y : Nat → Int32) (G : Nat → Nat → Int32) (q : Res) : Prop := match z with
  | .inl w => q.1 = -1 - sN w ∧ fr [2, 3, 4, 10, 11, 12, 13] Y q.2.1 ∧ fr [4, 5, 6] G q.2.2
  | .inr s => q.1 = sN (s.1 * s.2.1) ∧ fr [2, 3, 4, 5, 6, 7, 8, 9, 10, 11, 12, 13] Y q.2.1 ∧ fr [1, 2, 3, 4, 5, 6] G q.2.2 ∧ schM s (q.2.1 5) (q.2.1 6) (q.2.1 7) (q.2.1 8) (q.2.1 9) (q.2.2 1) (q.2.2 2) (q.2.2 3)
theorem schEnd_fr {z : Nat ⊕ Sch} {Y Y1 : Nat → Int32} {G G1 : Nat → Nat → Int32} {q : Res} (h : schEnd z Y1 G1 q) (h1 : fr [2, 3, 4, 10, 11, 12, 13] Y Y1) (h2 : fr [4, 5, 6] G G1) : schEnd z Y G q := by
  cases z with
  | inl w => exact ⟨h.1, fr_trans h1 h.2.1, fr_trans h2 h.2.2⟩
  | inr s => exact ⟨h.1, fr_trans (fr_mono h1 (by decide)) h.2.1, fr_trans (fr_mono h2 (by decide)) h.2.2.1, h.2.2.2⟩
theorem fl122 {w : Nat} (hw : w < 1000) (lv Y : Nat → Int32) (G : Nat → Nat → Int32) (y13 : Y 13 = 0) (y4 : Y 4 = sN w) : Go (fun n => L_Mo_scheme n 122 lv Y G) (schEnd (.inl w) Y G) := by
  refine Go_S ?_
  simp only [L_Mo_scheme, ↓reduceIte, Nat.reduceEqDiff]
  have e : ¬ Y 4 = -1 := by rw [y4]; exact nm1 (by omega)
  exact Go_pos y13 (Go_pos e (Go_neg e (Go_ret ⟨congrArg (fun z => (-1 : Int32) - z) y4, fr_rfl, fr_rfl⟩)))
theorem fl84 {w : Nat} (hw : w < 1000) (lv Y : Nat → Int32) (G : Nat → Nat → Int32) (y4 : Y 4 = sN w) : Go (fun n => L_Mo_scheme n 84 lv Y G) (schEnd (.inl w) Y G) := by
  refine Go_S ?_
  simp only [L_Mo_scheme, ↓reduceIte, Nat.reduceEqDiff]
  have e : ¬ Y 4 = -1 := by rw [y4]; exact nm1 (by omega)
  exact Go_pos e (Go_pos e (Go_mono (fl122 hw _ (upd Y 13 0) G rfl y4) (fun q hq => schEnd_fr hq (fr_upd fr_rfl (by decide)) fr_rfl)))
/-- all is read -/
theorem ok224 (s : Sch) (hs : s.2.2.1.length ≤ 6) (hN : s.1 * s.2.1 ≤ 16) (Y : Nat → Int32) (G : Nat → Nat → Int32) (y10 : Y 10 = sN s.1) (y11 : Y 11 = sN s.2.1) (y12 : Y 12 = sN s.2.2.1.length) (hl : ∀ j x, s.2.2.1[j]? = some x → G 4 j = sN x) (ht : match s.2.2.2.2 with
    | none => Y 13 = 0
    | some A => Y 13 = 1 ∧ toldM (2 * (s.1 * s.2.1)) A (G 5) (G 6)) : Go (fun n => L_Mo_scheme n 224 (upd am_lv0 1 0) (upd (upd (upd (upd (upd Y 5 (1)) 6 (Y 10)) 7 (Y 11)) 8 (Y 12)) 9 (Y 13)) G) (schEnd (.inr s) Y G) := by
  refine Go_mono (g_sch224 _ (G 4) (G 5) (G 6) 6 0 _ G rfl rfl rfl rfl rfl (fun j hj => by omega)) (fun q hq => ?_)
  obtain ⟨a1, a2, a3, a4, a5⟩ := hq
  refine ⟨?_, ?_, fr_mono a3 (by decide), ?_⟩
  · rw [a1]; show Y 10 * Y 11 = _; rw [y10, y11, sN_mul]
  · rw [a2]; exact fr_upd (fr_upd (fr_upd (fr_upd (fr_upd fr_rfl (by decide)) (by decide)) (by decide)) (by decide)) (by decide)
  · rw [a2]
    refine ⟨rfl, y10, y11, y12, fun j x hj => ?_, ?_⟩
    · have hj6 : j < 6 := by
        rcases Nat.lt_or_ge j s.2.2.1.length with h | h
        · omega
        · rw [List.getElem?_eq_none h] at hj; cases hj
      rw [a4 j hj6]; exact hl j x hj
    · cases hA : s.2.2.2.2 with
      | none => rw [hA] at ht; exact ht
      | some A =>
        rw [hA] at ht
        refine ⟨ht.1, fun k hk => ?_⟩
        have h1 := ht.2 k hk
        have h2 := a5 k (by omega)
        rw [h2.1, h2.2, h1.2.1, nar_d h1.2.2]
        exact ⟨h1.1, rfl, h1.2.2⟩
theorem sign_f (Y : Nat → Int32) (G : Nat → Nat → Int32) (c : Int32) (h : ¬ Y 4 = -1) (n : Nat) : f_Mo_sign n Y G c = some (0, Y, G) := by
  unfold f_Mo_sign; rw [if_neg h]
/-- behind the folds -/
theorem m122 (t : Nat → Nat) (c r p : Nat) (ls : List Nat) (lf : Nat → Nat) (hc : 1 ≤ c) (hr : 1 ≤ r) (hN : c * r ≤ 16) (h6 : ls.length ≤ 6) (hp : p ≤ 18) (lv Y : Nat → Int32) (G : Nat → Nat → Int32) (y3 : Y 3 = sN p) (y4 : Y 4 = -1) (y10 : Y 10 = sN c) (y11 : Y 11 = sN r) (y12 : Y 12 = sN ls.length) (y13 : Y 13 = if t p = 61 then 1 else 0) (hl : ∀ j x, ls[j]? = some x → G 4 j = sN x) (hT : tapeOK t (Y 2) (G 0)) : Go (fun n => L_Mo_scheme n 122 lv Y G) (schEnd (if t p = 61 then sb (pgS t (c * r) (2 * (c * r)) 0 (p + 1) A0) (fun q => if t q.1 = 1000 then .inr (c, r, ls, lf, some q.2) else .inl q.1) else if t p = 1000 then .inr (c, r, ls, lf, none) else .inl p) Y G) := by
  refine Go_S ?_
  simp only [L_Mo_scheme, ↓reduceIte, Nat.reduceEqDiff]
  by_cases h61 : t p = 61
  · rw [if_pos h61] at y13 ⊢
    have hN1 : 1 ≤ c * r := Nat.mul_le_mul hc hr
    refine Go_neg (by rw [y13]; decide) ?_
    unfold f_Mo_readPages
    refine Go_bind (g_Mo_readPages t (c * r) hN1 hN (2 * (c * r)) 0 (p + 1) A0 _ (upd Y 3 (Y 3 + 1)) G (by omega) (by omega) ?_ rfl ?_ y4 (fun k hk => by omega) hT) (fun q hq => ?_)
    · show Y 10 * Y 11 = _; rw [y10, y11, sN_mul]
    · show Y 3 + 1 = _; rw [y3]; exact sN_add p 1
    · obtain ⟨a1, a2, a3⟩ := hq
      have f1 : fr [2, 3, 4, 10, 11, 12, 13] Y q.2.1 := fr_trans (fr_upd fr_rfl (by decide)) (fr_mono a1 (by decide))
      have f2 : fr [4, 5, 6] G q.2.2 := fr_mono a2 (by decide)
      cases hz : pgS t (c * r) (2 * (c * r)) 0 (p + 1) A0 with
      | inl w =>
        rw [hz] at a3
        have e : ¬ q.2.1 4 = -1 := by rw [a3.2]; exact nm1 (by omega)
        exact Go_pos e (Go_neg e (Go_ret ⟨congrArg (fun z => (-1 : Int32) - z) a3.2, f1, f2⟩))
      | inr f =>
        rw [hz] at a3
        obtain ⟨a3, a4, a5, a6⟩ := a3
        have hT1 : tapeOK t (q.2.1 2) (q.2.2 0) := by rw [a1 2 (by decide), a2 0 (by decide)]; exact hT
        simp only [sb_inr]
        refine Go_neg (fun z => z a3) (Go_ite (fun hd => ?_) (fun hd => ?_))
        · rw [a4, tk_end hT1 (by omega)] at hd
          rw [if_pos hd]
          have y13' : q.2.1 13 = 1 := (a1 13 (by decide)).trans y13
          refine Go_pos a3 (Go_pos (Or.inr y13') ?_)
          refine Go_mono (ok224 (c, r, ls, lf, some f.2) h6 hN q.2.1 q.2.2 ((a1 10 (by decide)).trans y10) ((a1 11 (by decide)).trans y11) ((a1 12 (by decide)).trans y12) (fun j x hj => by rw [a2 4 (by decide)]; exact hl j x hj) ⟨y13', a6⟩) (fun z hz => schEnd_fr hz f1 f2)
        · rw [a4, tk_end hT1 (by omega)] at hd
          rw [if_neg hd]
          simp only [mo_fail q.2.1 q.2.2 _ a3, Option.bind_some]
          have e : ¬ upd q.2.1 4 (q.2.1 3) 4 = -1 := by show ¬ q.2.1 3 = -1; rw [a4]; exact nm1 (by omega)
          exact Go_neg e (Go_ret ⟨congrArg (fun z => (-1 : Int32) - z) a4, fr_upd f1 (by decide), f2⟩)
  · rw [if_neg h61] at y13 ⊢
    refine Go_pos y13 (Go_neg (fun z => z y4) (Go_ite (fun hd => ?_) (fun hd => ?_)))
    · rw [y3, tk_end hT (by omega)] at hd
      rw [if_pos hd]
      exact Go_pos y4 (Go_pos (Or.inl y13) (ok224 (c, r, ls, lf, none) h6 hN Y G y10 y11 y12 hl y13))
    · rw [y3, tk_end hT (by omega)] at hd
      rw [if_neg hd]
      simp only [mo_fail Y G _ y4, Option.bind_some]
      have e : ¬ upd Y 4 (Y 3) 4 = -1 := by show ¬ Y 3 = -1; rw [y3]; exact nm1 (by omega)
      exact Go_neg e (Go_ret ⟨congrArg (fun z => (-1 : Int32) - z) y3, fr_upd fr_rfl (by decide), fr_rfl⟩)
/-- behind the size -/
theorem m84 (t : Nat → Nat) (z : Nat × Nat × Nat) (z1 : 1 ≤ z.1) (z2 : z.1 ≤ 8) (z3 : 1 ≤ z.2.1) (z4 : z.2.1 ≤ 8) (z5 : z.1 * z.2.1 ≤ 16) (z6 : z.2.2 ≤ 10) (lv Y : Nat → Int32) (G : Nat → Nat → Int32) (y3 : Y 3 = sN z.2.2) (y4 : Y 4 = -1) (y10 : Y 10 = sN z.1) (y11 : Y 11 = sN z.2.1) (hT : tapeOK t (Y 2) (G 0)) : Go (fun n => L_Mo_scheme n 84 lv Y G) (schEnd (sb (foS t z.1 z.2.1 z.2.2 6 z.2.2 []) (fun f =>
    if t f.2.2 = 61 then sb (pgS t (z.1 * z.2.1) (2 * (z.1 * z.2.1)) 0 (f.2.2 + 1) A0) (fun q => if t q.1 = 1000 then .inr (z.1, z.2.1, f.1, f.2.1, some q.2) else .inl q.1)
    else if t f.2.2 = 1000 then .inr (z.1, z.2.1, f.1, f.2.1, none) else .inl f.2.2)) Y G) := by
  refine Go_S ?_
  simp only [L_Mo_scheme, ↓reduceIte, Nat.reduceEqDiff]
  refine Go_neg (fun z => z y4) ?_
  unfold f_Mo_readFolds
  refine Go_bind (g_Mo_readFolds t z.1 z.2.1 z.2.2 z2 z4 (by omega) 6 z.2.2 [] _ (upd Y 12 0) G rfl (by omega) (by omega) (fun x hx => absurd hx List.not_mem_nil) y3 y3 y4 y10 y11 rfl (fun j x hj => by cases hj) hT) (fun q hq => ?_)
  obtain ⟨a1, a2, a3⟩ := hq
  have f1 : fr [2, 3, 4, 10, 11, 12, 13] Y q.2.1 := fr_trans (fr_upd fr_rfl (by decide)) (fr_mono a1 (by decide))
  have f2 : fr [4, 5, 6] G q.2.2 := fr_mono a2 (by decide)
  cases hf : foS t z.1 z.2.1 z.2.2 6 z.2.2 [] with
  | inl w =>
    rw [hf] at a3
    refine Go_pos (by rw [a3.2]; exact nm1 (by omega)) ?_
    exact Go_mono (fl122 a3.1 _ (upd q.2.1 13 0) q.2.2 rfl a3.2) (fun x hx => schEnd_fr hx (fr_upd f1 (by decide)) f2)
  | inr f =>
    rw [hf] at a3
    obtain ⟨a3, a4, a5, a6⟩ := a3
    obtain ⟨g1, g2, g3, g4⟩ := foS_r hf (fun x hx => absurd hx List.not_mem_nil)
    have g2' : f.1.length ≤ 6 := by simpa using g2
    have hT1 : tapeOK t (q.2.1 2) (q.2.2 0) := by rw [a1 2 (by decide), a2 0 (by decide)]; exact hT
    have hb := tk_byteAt hT1 a4 (by omega)
    have hrt := tk_r hT1 f.2.2
    simp only [sb_inr]
    have b10 : q.2.1 10 = sN z.1 := (a1 10 (by decide)).trans y10
    have b11 : q.2.1 11 = sN z.2.1 := (a1 11 (by decide)).trans y11
    refine Go_neg (fun z => z a3) (Go_pos (tk_inM hT1 a4 (by omega)) (Go_ite (fun hd => ?_) (fun hd => ?_)))
    · rw [hb, wN_61, cw_eq hrt (by omega)] at hd
      refine Go_mono (m122 t z.1 z.2.1 f.2.2 f.1 f.2.1 z1 z3 z5 g2' (by omega) _ (upd q.2.1 13 0) q.2.2 a4 a3 b10 b11 a5 (by rw [if_neg hd]; rfl) a6 hT1) (fun x hx => schEnd_fr hx (fr_upd f1 (by decide)) f2)
    · rw [hb, wN_61, cw_eq hrt (by omega)] at hd
      refine Go_mono (m122 t z.1 z.2.1 f.2.2 f.1 f.2.1 z1 z3 z5 g2' (by omega) _ (upd q.2.1 13 1) q.2.2 a4 a3 b10 b11 a5 (by rw [if_pos (Classical.not_not.mp hd)]; rfl) a6 hT1) (fun x hx => schEnd_fr hx (fr_upd f1 (by decide)) f2)
theorem e_Mo_scheme0 (t : Nat → Nat) (Y : Nat → Int32) (G : Nat → Nat → Int32) (hT : tapeOK t (Y 1) (G 0)) : Go (fun n => f_Mo_scheme n Y G) (schEnd (paS t) (upd (upd Y 0 0) 1 0) G) := by
  unfold f_Mo_scheme paS szS
  have f0 : fr [2, 3, 4, 10, 11, 12, 13] (upd (upd Y 0 0) 1 0) (upd (upd (upd (upd (upd Y 0 (0)) 2 (Y 1)) 1 (0)) 3 (0)) 4 ((-1))) := by
    intro k hk
    simp only [List.mem_cons, List.not_mem_nil, not_or, or_false] at hk
    simp only [upd_app]
    rw [if_neg hk.2.2.1, if_neg hk.2.1]
    by_cases h1 : k = 1
    · rw [if_pos h1, if_pos h1]
    · rw [if_neg h1, if_neg h1, if_neg hk.1]
  refine Go_bind (e_Mo_number t 8 0 (by omega) (by omega) _ G rfl rfl hT) (fun q hq => ?_)
  obtain ⟨a1, a2, a3⟩ := hq
  have f1 : fr [2, 3, 4, 10, 11, 12, 13] (upd (upd Y 0 0) 1 0) (upd q.2.1 10 q.1) := fr_upd (fr_trans f0 (fr_mono a2 (by decide))) (by decide)
  cases hz : nuS t 8 0 with
  | inl w =>
    rw [hz] at a3
    have hw := nuS_l hz
    change q.2.1 4 = sN w at a3
    have e : ¬ upd q.2.1 10 q.1 4 = -1 := by show ¬ q.2.1 4 = -1; rw [a3]; exact nm1 (by omega)
    simp only [sign_f (upd q.2.1 10 q.1) q.2.2 _ e, Option.bind_some]
    refine Go_pos e ?_
    rw [a1]
    exact Go_mono (fl84 (by omega) _ (upd q.2.1 10 q.1) G a3) (fun x hx => schEnd_fr hx f1 fr_rfl)
  | inr c =>
    rw [hz] at a3
    obtain ⟨a3, a4, a5⟩ := a3
    have rc := nuS_r hz
    simp only [sb_inr]
    have hT1 : tapeOK t (upd q.2.1 10 q.1 2) (q.2.2 0) := by rw [a1]; show tapeOK t (q.2.1 2) _; rw [a2 2 (by decide)]; exact hT
    refine Go_bind (e_Mo_sign t c.2 120 (by omega) (by omega) (upd q.2.1 10 q.1) q.2.2 a4 a5 hT1) (fun q2 hq2 => ?_)
    obtain ⟨b1, b2, b3⟩ := hq2
    have f2 : fr [2, 3, 4, 10, 11, 12, 13] (upd (upd Y 0 0) 1 0) q2.2.1 := fr_trans f1 (fr_mono b2 (by decide))
    have y10 : q2.2.1 10 = sN c.1 := (b2 10 (by decide)).trans a3
    unfold sepS
    by_cases hx : t c.2 = 120
    · rw [if_pos hx] at b3 ⊢
      have n0 : ¬ q2.2.1 10 = 0 := by rw [y10, wN_0, sN_eq (by omega) (by omega)]; omega
      refine Go_neg (fun z => z b3.2) (Go_pos n0 ?_)
      simp only [sb_inr]
      have hT2 : tapeOK t (q2.2.1 2) (q2.2.2 0) := by rw [b1, b2 2 (by decide)]; exact hT1
      have hdiv : (16 : Int32) / q2.2.1 10 = sN (16 / c.1) := by rw [y10, wN_16, sN_div (by omega) (by omega) (by omega)]
      have hd16 : 16 / c.1 ≤ 16 := Nat.div_le_self _ _
      have key : ∀ most, most = min 8 (16 / c.1) → Go (fun n => (f_Mo_number n q2.2.1 q2.2.2 (sN most)).bind (fun q3 => L_Mo_scheme n 84 am_lv0  (upd q3.2.1 11 (q3.1)) q3.2.2)) (schEnd (sb (sb (nuS t (min 8 (16 / c.1)) (c.2 + 1)) (fun r => .inr (c.1, r.1, r.2))) (fun z => sb (foS t z.1 z.2.1 z.2.2 6 z.2.2 []) (fun f =>
          if t f.2.2 = 61 then sb (pgS t (z.1 * z.2.1) (2 * (z.1 * z.2.1)) 0 (f.2.2 + 1) A0) (fun q => if t q.1 = 1000 then .inr (z.1, z.2.1, f.1, f.2.1, some q.2) else .inl q.1)
          else if t f.2.2 = 1000 then .inr (z.1, z.2.1, f.1, f.2.1, none) else .inl f.2.2))) (upd (upd Y 0 0) 1 0) G) := by
        intro most hmost
        rw [hmost]
        refine Go_bind (e_Mo_number t (min 8 (16 / c.1)) (c.2 + 1) (by omega) (by omega) q2.2.1 q2.2.2 b3.1 b3.2 hT2) (fun q3 hq3 => ?_)
        obtain ⟨d1, d2, d3⟩ := hq3
        have f3 : fr [2, 3, 4, 10, 11, 12, 13] (upd (upd Y 0 0) 1 0) (upd q3.2.1 11 q3.1) := fr_upd (fr_trans f2 (fr_mono d2 (by decide))) (by decide)
        have eG : q3.2.2 = G := by rw [d1, b1, a1]
        cases hy : nuS t (min 8 (16 / c.1)) (c.2 + 1) with
        | inl w =>
          rw [hy] at d3
          have hw := nuS_l hy
          change q3.2.1 4 = sN w at d3
          rw [eG]
          exact Go_mono (fl84 (by omega) _ (upd q3.2.1 11 q3.1) G d3) (fun x hx => schEnd_fr hx f3 fr_rfl)
        | inr r =>
          rw [hy] at d3
          obtain ⟨d3, d4, d5⟩ := d3
          have hsz : szS t = .inr (c.1, r.1, r.2) := by
            unfold szS; rw [hz, sb_inr]; unfold sepS; rw [if_pos hx, sb_inr, hy, sb_inr]
          obtain ⟨z1, z2, z3, z4, z5, z6⟩ := szS_r hsz
          simp only [sb_inr]
          refine Go_mono (m84 t (c.1, r.1, r.2) z1 z2 z3 z4 z5 z6 _ (upd q3.2.1 11 q3.1) q3.2.2 d4 d5 ((d2 10 (by decide)).trans y10) d3 ?_) (fun x hx => schEnd_fr hx f3 (by rw [eG]; exact fr_rfl))
          show tapeOK t (q3.2.1 2) _
          rw [d1, d2 2 (by decide)]; exact hT2
      rw [hdiv]
      refine Go_ite (fun h8 => ?_) (fun h8 => Go_pos n0 ?_)
      · rw [wN_8, sN_le (by omega) (by omega)] at h8
        exact key 8 (by omega)
      · rw [wN_8, sN_le (by omega) (by omega)] at h8
        exact key (16 / c.1) (by omega)
    · rw [if_neg hx] at b3 ⊢
      refine Go_pos (by rw [b3]; exact nm1 (by omega)) ?_
      exact Go_mono (fl84 (by omega) _ q2.2.1 q2.2.2 b3) (fun x hx => schEnd_fr hx f2 (by rw [b1, a1]; exact fr_rfl))
theorem e_Mo_scheme (t : Nat → Nat) (Y : Nat → Int32) (G : Nat → Nat → Int32) (hT : tapeOK t (Y 1) (G 0)) : Go (fun n => f_Mo_scheme n Y G) (fun q => q.2.1 0 = 0 ∧ q.2.1 1 = 0 ∧ schEnd (paS t) (upd (upd Y 0 0) 1 0) G q) := by
  refine Go_mono (e_Mo_scheme0 t Y G hT) (fun q hq => ?_)
  have : q.2.1 0 = 0 ∧ q.2.1 1 = 0 := by
    revert hq
    cases (paS t) with
    | inl w => exact fun hq => ⟨hq.2.1 0 (by decide), hq.2.1 1 (by decide)⟩
    | inr s => exact fun hq => ⟨hq.2.1 0 (by decide), hq.2.1 1 (by decide)⟩
  exact ⟨this.1, this.2, hq⟩
