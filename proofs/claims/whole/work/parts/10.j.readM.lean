/-! the model reads the told pages, and a whole tape -/
def toldM (K : Nat) (A : Told) (g1 g2 : Nat → Int32) : Prop := ∀ k, k < K → g1 k = sN (A k).1 ∧ g2 k = sN (A k).2 ∧ ((A k).2 = 0 ∨ (A k).2 = 1)
theorem toldM_step {K : Nat} {A : Told} {g1 g2 : Nat → Int32} {a b : Nat} (hb : b = 0 ∨ b = 1) (h : toldM K A g1 g2) : toldM (K + 1) (fun j => if j = K then (a, b) else A j) (upd g1 K (sN a)) (upd g2 K (sN b)) := by
  intro k hk
  rw [upd_app, upd_app]
  by_cases e : k = K
  · subst e; simp; exact hb
  · rw [if_neg e, if_neg e]
    simp only [if_neg e]
    exact h k (by omega)
theorem nar_0 : vp_nar .boolean 0 = sN 0 := rfl
theorem nar_1 : vp_nar .boolean 1 = sN 1 := rfl
theorem nar_d {d : Nat} (h : d = 0 ∨ d = 1) : vp_nar .boolean (sN d) = sN d := by rcases h with rfl | rfl <;> rfl
theorem g_Mo_readPages (t : Nat → Nat) (N : Nat) (hN1 : 1 ≤ N) (hN2 : N ≤ 16) : ∀ (m k p : Nat) (A : Told) (lv Y : Nat → Int32) (G : Nat → Nat → Int32), k + m = 2 * N → p ≤ 20 + 5 * k → lv 1 = sN N → lv 2 = sN k → Y 3 = sN p → Y 4 = -1 → toldM k A (G 5) (G 6) → tapeOK t (Y 2) (G 0) → Go (fun n => L_Mo_readPages n 12 lv Y G) (fun q => fr [3, 4] Y q.2.1 ∧ fr [5, 6] G q.2.2 ∧ match pgS t N m k p A with
    | .inl w => w < 1000 ∧ q.2.1 4 = sN w
    | .inr f => q.2.1 4 = -1 ∧ q.2.1 3 = sN f.1 ∧ f.1 ≤ 900 ∧ toldM (2 * N) f.2 (q.2.2 5) (q.2.2 6)) := by
  -- after a fault
  have flt : ∀ (k w : Nat) (lv Y : Nat → Int32) (G : Nat → Nat → Int32), k < 100 → w < 1000 → lv 1 = sN N → lv 2 = sN k → Y 4 = sN w → Go (fun n => L_Mo_readPages n 122 lv Y G) (fun q => q.2 = (Y, G)) := by
    intro k w lv Y G hk hw l1 l2 y4
    refine Go_S (Go_S ?_)
    simp (disch := omega) only [L_Mo_readPages, ↓reduceIte, Nat.reduceEqDiff]
    exact Go_ite (fun _ => Go_ret rfl) (fun _ => Go_pos (by rw [y4]; exact nm1 (by omega)) (Go_ret rfl))
  intro m
  induction m with
  | zero =>
    intro k p A lv Y G hm hp l1 l2 y3 y4 hA hT
    refine Go_S ?_
    simp only [L_Mo_readPages, ↓reduceIte]
    exact Go_pos (by rw [l1, l2, wN_2, sN_mul, sN_le (by omega) (by omega)]; omega) (Go_ret ⟨fr_rfl, fr_rfl, y4, y3, by show p ≤ 900; omega, by rw [show 2 * N = k by omega]; exact hA⟩)
  | succ m ih =>
    intro k p A lv Y G hm hp l1 l2 y3 y4 hA hT
    have key : ∀ (p' : Nat) (lv' Y1 : Nat → Int32), p' ≤ p + 1 → lv' 1 = sN N → lv' 2 = sN k → Y1 3 = sN p' → Y1 4 = -1 → fr [3, 4] Y Y1 → Go (fun n => L_Mo_readPages n 47 lv' Y1 G) (fun q => fr [3, 4] Y q.2.1 ∧ fr [5, 6] G q.2.2 ∧ match sb (numE t N k p' A) (fun q => pgS t N m (k + 1) q.1 q.2) with
        | .inl w => w < 1000 ∧ q.2.1 4 = sN w
        | .inr f => q.2.1 4 = -1 ∧ q.2.1 3 = sN f.1 ∧ f.1 ≤ 900 ∧ toldM (2 * N) f.2 (q.2.2 5) (q.2.2 6)) := by
      intro p' lv' Y1 hp' m1 m2 z3 z4 hfr
      have hT1 : tapeOK t (Y1 2) (G 0) := by rw [hfr 2 (by decide)]; exact hT
      have hkb : ¬ (lv' 2 < 0 ∨ 32 ≤ (lv' 2).toNatClampNeg) := by rw [m2, wN_0, sN_lt (by omega) (by omega), sN_nat (by omega)]; omega
      refine Go_S ?_
      simp only [L_Mo_readPages, ↓reduceIte, Nat.reduceEqDiff]
      refine Go_neg (fun z => z z4) ?_
      have em : (2 : Int32) * lv' 1 = sN (2 * N) := by rw [m1, wN_2, sN_mul]
      rw [em]
      refine Go_bind (e_Mo_number t (2 * N) p' (by omega) (by omega) Y1 G z3 z4 hT1) (fun q hq => ?_)
      obtain ⟨a1, a2, a3⟩ := hq
      have f1 : fr [3, 4] Y q.2.1 := fr_trans hfr a2
      refine Go_pos hkb ?_
      unfold numE
      have ek : (lv' 2).toNatClampNeg = k := by rw [m2, sN_nat (by omega)]
      rw [ek]
      cases hz : nuS t (2 * N) p' with
      | inl w =>
        rw [hz] at a3
        have hw := nuS_l hz
        change q.2.1 4 = sN w at a3
        refine Go_pos (by rw [a3]; exact nm1 (by omega)) (Go_pos (by rw [← ek]; exact hkb) ?_)
        refine Go_S ?_
        simp only [L_Mo_readPages, ↓reduceIte, Nat.reduceEqDiff]
        have ek2 : (upd (upd am_lv0 1 (lv' 1)) 2 (lv' 2) 2) = sN k := m2
        simp only [ek2, sN_nat (show k < 2147483648 by omega)]
        refine Go_pos (by rw [wN_0, sN_lt (by omega) (by omega)]; omega) (Go_pos ?_ ?_)
        · show upd _ k (vp_nar .boolean 0) k = 0
          rw [upd_app, if_pos rfl]; rfl
        · refine Go_mono (flt k w _ _ _ (by omega) (by omega) m1 rfl a3) (fun x hx => ?_)
          rw [hx]
          refine ⟨fr_upd f1 (by decide), ?_, by omega, a3⟩
          rw [a1]; exact fr_vup (fr_vup fr_rfl (by decide)) (by decide)
      | inr v =>
        rw [hz] at a3
        obtain ⟨a3, a4, a5⟩ := a3
        have rv := nuS_r hz
        have hT2 : tapeOK t (q.2.1 2) (q.2.2 0) := by rw [a1, a2 2 (by decide)]; exact hT1
        simp only [sb_inr]
        refine Go_neg (fun z => z a5) (Go_pos (tk_inM hT2 a4 (by omega)) ?_)
        have hb : f_Mo_byteAt q.2.1 (va_up q.2.2 5 (upd (q.2.2 5) k q.1)) = cw (t v.2) := tk_byteAt (G := va_up q.2.2 5 (upd (q.2.2 5) k q.1)) hT2 a4 (by omega)
        have hrt := tk_r hT2 v.2
        -- behind the store
        have st : ∀ (d : Nat) (b : Int32), (d = 0 ∨ d = 1) → vp_nar .boolean b = sN d → (d = if t v.2 = 33 then 1 else 0) → Go (fun n => L_Mo_readPages n 96 (upd (upd am_lv0 1 (lv' 1)) 2 (lv' 2)) q.2.1 (va_up (va_up q.2.2 5 (upd (q.2.2 5) k q.1)) 6 (upd (q.2.2 6) k (vp_nar .boolean b)))) (fun q => fr [3, 4] Y q.2.1 ∧ fr [5, 6] G q.2.2 ∧ match pgS t N m (k + 1) (if t v.2 = 33 then v.2 + 1 else v.2) (fun j => if j = k then (v.1, if t v.2 = 33 then 1 else 0) else A j) with
            | .inl w => w < 1000 ∧ q.2.1 4 = sN w
            | .inr f => q.2.1 4 = -1 ∧ q.2.1 3 = sN f.1 ∧ f.1 ≤ 900 ∧ toldM (2 * N) f.2 (q.2.2 5) (q.2.2 6)) := by
          intro d b hd hbd hdv
          have hT3 : tapeOK t (q.2.1 2) (G 0) := by have := hT2; rw [a1] at this; exact this
          rw [hbd, a3, a1]
          refine Go_S ?_
          simp only [L_Mo_readPages, ↓reduceIte, Nat.reduceEqDiff]
          have ek2 : (upd (upd am_lv0 1 (lv' 1)) 2 (lv' 2) 2) = sN k := m2
          simp only [ek2, sN_nat (show k < 2147483648 by omega)]
          refine Go_pos (by rw [wN_0, sN_lt (by omega) (by omega)]; omega) ?_
          have eg : va_up (va_up G 5 (upd (G 5) k (sN v.1))) 6 (upd (G 6) k (sN d)) 6 k = sN d := by
            show upd (G 6) k (sN d) k = _
            rw [upd_app, if_pos rfl]
          rw [eg]
          have tl : toldM (k + 1) (fun j => if j = k then (v.1, d) else A j) (upd (G 5) k (sN v.1)) (upd (G 6) k (sN d)) := toldM_step hd hA
          refine Go_ite (fun h0 => ?_) (fun h0 => ?_)
          · have hd0 : d = 0 := by rw [wN_0, sN_eq (by omega) (by omega)] at h0; exact h0
            have ht : ¬ t v.2 = 33 := by intro z; rw [if_pos z] at hdv; omega
            rw [if_neg ht, if_neg ht]
            subst hd0
            refine Go_S ?_
            simp only [L_Mo_readPages, ↓reduceIte, Nat.reduceEqDiff]
            refine Go_mono (ih (k + 1) v.2 _ _ _ _ (by omega) (by omega) m1 (sN_add k 1) ?_ ?_ tl hT3) (fun x hx => ⟨fr_trans (fr_upd f1 (by decide)) hx.1, fr_trans (fr_vup (fr_vup fr_rfl (by decide)) (by decide)) hx.2.1, hx.2.2⟩)
            · exact a4
            · exact a5
          · have hd1 : d = 1 := by rcases hd with h | h; · rw [h] at h0; exact absurd rfl h0
                                   · exact h
            have ht : t v.2 = 33 := by rcases Classical.em (t v.2 = 33) with z | z; · exact z
                                       · rw [if_neg z] at hdv; omega
            rw [if_pos ht, if_pos ht]
            subst hd1
            refine Go_S ?_
            simp only [L_Mo_readPages, ↓reduceIte, Nat.reduceEqDiff]
            refine Go_mono (ih (k + 1) (v.2 + 1) _ _ _ _ (by omega) (by omega) m1 (sN_add k 1) ?_ ?_ tl hT3) (fun x hx => ⟨fr_trans (fr_upd f1 (by decide)) hx.1, fr_trans (fr_vup (fr_vup fr_rfl (by decide)) (by decide)) hx.2.1, hx.2.2⟩)
            · show q.2.1 3 + 1 = _
              rw [a4]; exact sN_add v.2 1
            · exact a5
        refine Go_ite (fun hd => Go_pos (by rw [← ek]; exact hkb) ?_) (fun hd => Go_pos (by rw [← ek]; exact hkb) ?_)
        · rw [hb, wN_33, cw_eq hrt (by omega)] at hd
          exact st 0 0 (Or.inl rfl) rfl (by rw [if_neg hd])
        · rw [hb, wN_33, cw_eq hrt (by omega)] at hd
          exact st 1 1 (Or.inr rfl) rfl (by rw [if_pos (Classical.not_not.mp hd)])
    refine Go_S ?_
    simp only [L_Mo_readPages, ↓reduceIte]
    refine Go_neg (by rw [l1, l2, wN_2, sN_mul, sN_le (by omega) (by omega)]; omega) (Go_neg (fun z => z y4) ?_)
    unfold pgS
    refine Go_ite (fun hk => ?_) (fun hk => ?_)
    · rw [l2, wN_0, sN_le (by omega) (by omega)] at hk
      rw [if_pos (by omega)]
      exact key p _ Y (by omega) l1 l2 y3 y4 fr_rfl
    · rw [l2, wN_0, sN_le (by omega) (by omega)] at hk
      rw [if_neg (show ¬ k = 0 by omega)]
      have sg : ∀ ch, ch < 256 → Go (fun n => (f_Mo_sign n Y G (sN ch)).bind (fun q1 => L_Mo_readPages n 47 (upd (upd am_lv0 1 (lv 1)) 2 (lv 2))  q1.2.1 q1.2.2)) (fun q => fr [3, 4] Y q.2.1 ∧ fr [5, 6] G q.2.2 ∧ match sb (sepS t ch p) (fun p' => sb (numE t N k p' A) (fun q => pgS t N m (k + 1) q.1 q.2)) with
          | .inl w => w < 1000 ∧ q.2.1 4 = sN w
          | .inr f => q.2.1 4 = -1 ∧ q.2.1 3 = sN f.1 ∧ f.1 ≤ 900 ∧ toldM (2 * N) f.2 (q.2.2 5) (q.2.2 6)) := by
        intro ch hch
        refine Go_bind (e_Mo_sign t p ch (by omega) hch Y G y3 y4 hT) (fun q hq => ?_)
        obtain ⟨a1, a2, a3⟩ := hq
        unfold sepS
        by_cases hx : t p = ch
        · rw [if_pos hx] at a3 ⊢
          rw [a1]
          exact key (p + 1) _ q.2.1 (by omega) l1 l2 a3.1 a3.2 a2
        · rw [if_neg hx] at a3 ⊢
          refine Go_S ?_
          simp only [L_Mo_readPages, ↓reduceIte, Nat.reduceEqDiff]
          refine Go_pos (by rw [a3]; exact nm1 (by omega)) ?_
          refine Go_mono (flt k p _ _ _ (by omega) (by omega) l1 l2 a3) (fun x hx => ?_)
          rw [hx]
          exact ⟨a2, by rw [a1]; exact fr_rfl, by omega, a3⟩
      refine Go_ite (fun hk2 => ?_) (fun hk2 => ?_)
      · rw [l1, l2, sN_eq (by omega) (by omega)] at hk2
        rw [if_neg hk2]
        exact sg 44 (by omega)
      · rw [l1, l2, sN_eq (by omega) (by omega)] at hk2
        rw [if_pos (Classical.not_not.mp hk2)]
        exact sg 47 (by omega)
