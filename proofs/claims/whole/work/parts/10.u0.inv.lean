/-! what stands between class and model: the book -/
def agT (m : Nat → Nat) (v : Nat ⊕ Int32) (w t : Int32) : Prop := match v with
  | .inl k => t = sN (m k) ∧ (m k = 1 ∨ m k = 2)
  | .inr x => t = 0 ∧ w = x
def io (k : Nat) : Nat := if k = 0 then 1 else 99
def bokL (c r wy n : Nat) (st lf : Nat → Nat) (X : Nat → Int32) (F : Nat → Nat → Int32) (Y : Nat → Int32) (G : Nat → Nat → Int32) : Prop :=
  bkB c (c * r) (shC n (c * r)) n st ∧ lfOK c r lf ∧ bkC c (c * r) (shC n (c * r)) n (scl st) st X F ∧ spC c r wy lf (2 * (c * r)) F ∧ Y 16 = sN (shC n (c * r)) ∧ Y 17 = sN (2 * (c * r)) ∧ Y 18 = sN n ∧ Y 19 = sN (shC n (c * r) * (2 * (c * r)) - n) ∧ (Y 20 = if (st 3 < st 5 ∨ st 4 < st 6) ∧ st 9 = 0 then 1 else 0) ∧ bkP c r (shC n (c * r)) n wy st lf (fun _ _ => True) G
def bokI (X : Nat → Int32) (F : Nat → Nat → Int32) (Y : Nat → Int32) (G : Nat → Nat → Int32) : Prop :=
  (X 11 = 0 ∧ X 12 = 0 ∧ X 13 = 0 ∧ (∀ k, k < 10 → F 3 k = 0) ∧ Y 16 = 0) ∨ ∃ (c r wy n : Nat) (st lf : Nat → Nat), bokL c r wy n st lf X F Y G
theorem bokI_cg {X X' : Nat → Int32} {F F' : Nat → Nat → Int32} {Y Y' : Nat → Int32} {G G' : Nat → Nat → Int32} (h : bokI X F Y G) (hX : ∀ k ∈ [10, 11, 12, 13, 14], X' k = X k) (hF : ∀ k ∈ [3, 4, 5], F' k = F k) (hY : ∀ k ∈ [16, 17, 18, 19, 20], Y' k = Y k) (hG : ∀ k ∈ [15, 16, 17, 18, 19, 20, 21], G' k = G k) : bokI X' F' Y' G' := by
  rcases h with ⟨h1, h2, h3, h4, h5⟩ | ⟨c, r, wy, n, st, lf, h1, h2, h3, h4, h5, h6, h7, h8, h9, h10⟩
  · exact Or.inl ⟨by rw [hX 11 (by decide)]; exact h1, by rw [hX 12 (by decide)]; exact h2, by rw [hX 13 (by decide)]; exact h3, by rw [hF 3 (by decide)]; exact h4, by rw [hY 16 (by decide)]; exact h5⟩
  · refine Or.inr ⟨c, r, wy, n, st, lf, h1, h2, ?_, ?_, by rw [hY 16 (by decide)]; exact h5, by rw [hY 17 (by decide)]; exact h6, by rw [hY 18 (by decide)]; exact h7, by rw [hY 19 (by decide)]; exact h8, by rw [hY 20 (by decide)]; exact h9, ?_⟩
    · unfold bkC; rw [hX 10 (by decide), hX 11 (by decide), hX 12 (by decide), hX 13 (by decide), hX 14 (by decide), hF 3 (by decide)]; exact h3
    · unfold spC; rw [hF 4 (by decide), hF 5 (by decide)]; exact h4
    · intro s p a b d e
      have := h10 s p a b d e
      unfold bkE at this ⊢
      rw [hG 15 (by decide), hG 16 (by decide), hG 17 (by decide), hG 18 (by decide), hG 19 (by decide), hG 20 (by decide), hG 21 (by decide)]; exact this
theorem ag_fold {X : Nat → Int32} {F : Nat → Nat → Int32} {Y : Nat → Int32} {G : Nat → Nat → Int32} (h : bokI X F Y G) (a : Int32) : ∃ v w t, Go (fun n => f_Im_fold n X F a) (fun q => q = (v, X, F)) ∧ Go (fun n => f_Mo_fold n Y G a) (fun q => q = (w, upd Y 0 t, G)) ∧ agT io v w t := by
  obtain ⟨z, z1, z2, rfl⟩ := sI_ex a
  have w0 : (0 : Int32) = sI 0 := rfl
  by_cases k0 : z < 0
  · refine ⟨.inl 0, 0, 1, ?_, ?_, rfl, Or.inl rfl⟩
    · exact Go_pos (by rw [w0, sI_lt z1 z2 (by omega) (by omega)]; exact k0) (Go_ret rfl)
    · exact Go_pos (by rw [w0, sI_lt z1 z2 (by omega) (by omega)]; exact k0) (Go_ret rfl)
  have n0 : ¬ sI z < 0 := by rw [w0, sI_lt z1 z2 (by omega) (by omega)]; exact k0
  rcases h with ⟨h1, h2, h3, h4, h5⟩ | ⟨c, r, wy, n, st, lf, h1, h2, h3, h4, h5, h6, h7, h8, h9, h10⟩
  · refine ⟨.inl 0, 0, 1, ?_, ?_, rfl, Or.inl rfl⟩
    · refine Go_neg n0 (Go_neg ?_ (Go_ret rfl))
      unfold f_Bo_placeCount f_Bo_bookletPages
      rw [h1, h2]; exact n0
    · refine Go_neg n0 (Go_neg ?_ (Go_ret rfl))
      rw [h5, Int32.zero_mul]; exact n0
  · have h1' := h1
    obtain ⟨bc, bN, bs, bB, bn, bn2, bst⟩ := h1'
    have hbl := c_blanks h1 h3
    have e2 : shC n (c * r) * (2 * (c * r)) = 2 * (c * r * shC n (c * r)) := by rw [Nat.mul_left_comm, Nat.mul_comm (shC n (c * r)) (c * r)]
    have em : Y 16 * Y 17 = sN (shC n (c * r) * (2 * (c * r))) := by rw [h5, h6, sN_mul]
    by_cases k1 : z < ((2 * (c * r * shC n (c * r)) : Nat) : Int)
    · obtain ⟨g, hg1, hg2⟩ : ∃ g : Nat, z = (g : Int) ∧ g < 2 * (c * r * shC n (c * r)) := ⟨z.toNat, by omega, by omega⟩
      subst hg1
      rw [← sN_sI] at n0 ⊢
      obtain ⟨s, p, s1, p1, p2, hp⟩ := plc_sur (bd := st 0) bN.1 bs.1 (show 1 ≤ g + 1 by omega) (show g + 1 ≤ 2 * (c * r * shC n (c * r)) by omega)
      have hE := h10 s p s1 p1 p2 trivial
      rw [hp] at hE
      refine ⟨.inr (sN (tld (st 2) n (shC n (c * r) * (2 * (c * r)) - n) (g + 1))), sN (tld (st 2) n (shC n (c * r) * (2 * (c * r)) - n) (g + 1)), 0, ?_, ?_, rfl, rfl⟩
      · refine Go_neg n0 (Go_pos (by rw [hbl.2, sN_lt (by omega) (by omega)]; omega) ?_)
        rw [wN_1, sN_add, c_pageAt h1 h3 (by omega) (by omega)]
        exact Go_ret rfl
      · refine Go_neg n0 (Go_pos (by rw [em, sN_lt (by omega) (by omega)]; omega) (Go_pos (by rw [wN_0, sN_lt (by omega) (by omega), sN_nat (by omega)]; omega) ?_))
        rw [sN_nat (by omega)]
        exact Go_ret (by rw [show G 20 g = _ from hE.1])
    · refine ⟨.inl 0, 0, 1, ?_, ?_, rfl, Or.inl rfl⟩
      · exact Go_neg n0 (Go_neg (by rw [hbl.2, sN_sI, sI_lt z1 z2 (by omega) (by omega)]; omega) (Go_ret rfl))
      · exact Go_neg n0 (Go_neg (by rw [em, sN_sI, sI_lt z1 z2 (by omega) (by omega)]; omega) (Go_ret rfl))
theorem ag_creep {X : Nat → Int32} {F : Nat → Nat → Int32} {Y : Nat → Int32} {G : Nat → Nat → Int32} (h : bokI X F Y G) (a : Int32) : ∃ v w t, Go (fun n => f_Im_creep n X F a) (fun q => q = (v, X, F)) ∧ Go (fun n => f_Mo_creep n Y G a) (fun q => q = (w, upd Y 0 t, G)) ∧ agT io v w t := by
  obtain ⟨z, z1, z2, rfl⟩ := sI_ex a
  have w1 : (1 : Int32) = sI 1 := rfl
  rcases h with ⟨h1, h2, h3, h4, h5⟩ | ⟨c, r, wy, n, st, lf, h1, h2, h3, h4, h5, h6, h7, h8, h9, h10⟩
  · refine ⟨.inl 0, 0, 1, ?_, ?_, rfl, Or.inl rfl⟩
    · refine Go_neg (fun y => y ?_) (Go_ret rfl)
      rw [c_hasPage (N := 0) (sh := 0) (n := 0) h3 (by omega) z z1 z2, if_neg (by omega)]
    · exact Go_pos h5 (Go_ret rfl)
  · have h1' := h1
    obtain ⟨bc, bN, bs, bB, bn, bn2, bst⟩ := h1'
    have ny : ¬ Y 16 = 0 := by rw [h5, wN_0, sN_eq (by omega) (by omega)]; omega
    have e2 : shC n (c * r) * (2 * (c * r)) = 2 * (c * r * shC n (c * r)) := by rw [Nat.mul_left_comm, Nat.mul_comm (shC n (c * r)) (c * r)]
    have hp := c_hasPage (N := c * r) (sh := shC n (c * r)) h3.2.2.2.1 (by omega) z z1 z2
    by_cases k1 : 1 ≤ z ∧ z ≤ n
    · obtain ⟨g, hg1, hg2⟩ : ∃ g : Nat, z = (g : Int) ∧ 1 ≤ g ∧ g ≤ n := ⟨z.toNat, by omega, by omega, by omega⟩
      subst hg1
      rw [if_pos k1] at hp
      rw [← sN_sI] at hp ⊢
      -- the page's place
      have hpl : ∃ pl, 1 ≤ pl ∧ pl ≤ 2 * (c * r * shC n (c * r)) ∧ pl = g + (if st 2 = 1 then shC n (c * r) * (2 * (c * r)) - n else 0) ∧ tld (st 2) n (shC n (c * r) * (2 * (c * r)) - n) pl = g := by
        refine ⟨g + (if st 2 = 1 then shC n (c * r) * (2 * (c * r)) - n else 0), by omega, by split <;> omega, rfl, ?_⟩
        unfold tld
        split <;> split <;> omega
      obtain ⟨pl, q1, q2, q3, q4⟩ := hpl
      obtain ⟨s, p, s1, p1, p2, hpp⟩ := plc_sur (bd := st 0) bN.1 bs.1 q1 q2
      have hE := h10 s p s1 p1 p2 trivial
      rw [hpp, q4] at hE
      have hE4 := (hE.2.2.2 (by omega)).1
      refine ⟨.inr (sN (crp (st 0) (c * r) (shC n (c * r)) (st 7) (st 8) pl)), sN (crp (st 0) (c * r) (shC n (c * r)) (st 7) (st 8) pl), 0, ?_, ?_, rfl, rfl⟩
      · refine Go_pos (by rw [hp]; decide) (Go_pos (Or.inr (Or.inr ?_)) ?_)
        · show ¬ X 11 = 0
          rw [h3.2.1, wN_0, sN_eq (by omega) (by omega)]; omega
        · unfold f_Bo_creepOfPage
          rw [c_before h1 h3, sN_add, ← q3, c_creep h1 h3 q1 q2]
          exact Go_ret rfl
      · refine Go_neg ny (Go_neg (by rw [wN_1, sN_lt (by omega) (by omega)]; omega) (Go_pos (by rw [h7, sN_le (by omega) (by omega)]; omega) (Go_pos (by rw [wN_0, sN_lt (by omega) (by omega), sN_nat (by omega)]; omega) ?_)))
        rw [sN_nat (by omega), hE4]
        exact Go_ret rfl
    · rw [if_neg k1] at hp
      refine ⟨.inl 0, 0, 1, ?_, ?_, rfl, Or.inl rfl⟩
      · exact Go_neg (fun z => z hp) (Go_ret rfl)
      · refine Go_neg ny (Go_ite (fun _ => Go_ret rfl) (fun k2 => Go_neg ?_ (Go_ret rfl)))
        rw [w1, sI_lt z1 z2 (by omega) (by omega)] at k2
        rw [h7, sN_sI, sI_le z1 z2 (by omega) (by omega)]; omega
theorem ag_laid {X : Nat → Int32} {F : Nat → Nat → Int32} {Y : Nat → Int32} {G : Nat → Nat → Int32} (h : bokI X F Y G) (a : Int32) : ∃ v w t, Go (fun n => f_Im_laid n X F a) (fun q => q = (v, X, F)) ∧ Go (fun n => f_Mo_laid n Y G a) (fun q => q = (w, upd Y 0 t, G)) ∧ agT io v w t := by
  obtain ⟨z, z1, z2, rfl⟩ := sI_ex a
  have w0 : (0 : Int32) = sI 0 := rfl
  have w1 : (1 : Int32) = sI 1 := rfl
  have w2 : (2 : Int32) = sI 2 := rfl
  have w3 : (3 : Int32) = sI 3 := rfl
  have i0 : (sI z = 0) = (z = 0) := by rw [w0, sI_eq z1 z2 (by omega) (by omega)]
  have i1 : (sI z = 1) = (z = 1) := by rw [w1, sI_eq z1 z2 (by omega) (by omega)]
  have i2 : (sI z = 2) = (z = 2) := by rw [w2, sI_eq z1 z2 (by omega) (by omega)]
  have i3 : (sI z = 3) = (z = 3) := by rw [w3, sI_eq z1 z2 (by omega) (by omega)]
  have j0 : (sI z < 0) = (z < 0) := by rw [w0, sI_lt z1 z2 (by omega) (by omega)]
  have j3 : (sI z ≤ 3) = (z ≤ 3) := by rw [w3, sI_le z1 z2 (by omega) (by omega)]
  unfold f_Im_laid f_Mo_laid
  simp only [i0, i1, i2, i3, j0, j3]
  by_cases kk : z < 0 ∨ 3 < z
  · refine ⟨.inl 0, 0, 1, ?_, ?_, rfl, Or.inl rfl⟩
    · exact Go_neg (by omega) (Go_neg (by omega) (Go_neg (by omega) (Go_neg (by omega) (Go_ret rfl))))
    · exact Go_ite (fun _ => Go_ret rfl) (fun _ => Go_neg (by omega) (Go_ret rfl))
  rcases h with ⟨h1, h2, h3, h4, h5⟩ | ⟨c, r, wy, n, st, lf, h1, h2, h3, h4, h5, h6, h7, h8, h9, h10⟩
  · refine ⟨.inr 0, 0, 0, ?_, Go_neg (by omega) (Go_pos (by omega) (Go_neg (fun z => z h5) (Go_ret rfl))), rfl, rfl⟩
    have b1 : f_Bo_bookletPages X = 0 := by unfold f_Bo_bookletPages; rw [h1]; rfl
    have b2 : f_Bo_blankCount X = 0 := by unfold f_Bo_blankCount f_Bo_placeCount; rw [b1, h2, h3]; rfl
    have b3 : f_Bo_isTooSmallForPages F = 0 := by
      have : f_Bo_isPageGreater F = 0 := by
        unfold f_Bo_isPageGreater
        have q3 : F 3 (3 : Int32).toNatClampNeg = 0 := h4 3 (by omega)
        have q4 : F 3 (4 : Int32).toNatClampNeg = 0 := h4 4 (by omega)
        have q5 : F 3 (5 : Int32).toNatClampNeg = 0 := h4 5 (by omega)
        have q6 : F 3 (6 : Int32).toNatClampNeg = 0 := h4 6 (by omega)
        rw [q3, q4, q5, q6]; rfl
      unfold f_Bo_isTooSmallForPages
      rw [if_pos this]
    rw [b1, b2, b3]
    have b0 : f_Bo_sheetCount X = 0 := h2
    rw [b0]
    refine Go_ite (fun _ => Go_ret rfl) (fun k0 => Go_ite (fun _ => Go_ret rfl) (fun k1 => Go_ite (fun _ => Go_ret rfl) (fun k2 => Go_pos (by omega) (Go_pos rfl (Go_ret rfl)))))
  · have h1' := h1
    obtain ⟨bc, bN, bs, bB, bn, bn2, bst⟩ := h1'
    have ny : ¬ Y 16 = 0 := by rw [h5, wN_0, sN_eq (by omega) (by omega)]; omega
    have hs := c_tooSmall bst h3.2.2.2.2.2
    have hbl := (c_blanks h1 h3).1
    by_cases k0 : z = 0
    · refine ⟨.inr (sN (shC n (c * r))), sN (shC n (c * r)), 0, Go_pos k0 (Go_ret ?_), Go_neg (by omega) (Go_pos (by omega) (Go_pos ny (Go_neg (by omega) (Go_ret (by rw [h5]))))), rfl, rfl⟩
      unfold f_Bo_sheetCount; rw [h3.2.2.1]
    · by_cases k1 : z = 1
      · refine ⟨.inr (sN (2 * (c * r))), sN (2 * (c * r)), 0, Go_neg k0 (Go_pos k1 (Go_ret ?_)), Go_neg (by omega) (Go_pos (by omega) (Go_pos ny (Go_pos k0 (Go_neg (by omega) (Go_ret (by rw [h6])))))), rfl, rfl⟩
        unfold f_Bo_bookletPages; rw [h3.2.1, wN_2, sN_mul]
      · by_cases k2 : z = 2
        · exact ⟨.inr (sN (shC n (c * r) * (2 * (c * r)) - n)), sN (shC n (c * r) * (2 * (c * r)) - n), 0, Go_neg k0 (Go_neg k1 (Go_pos k2 (Go_ret (by rw [hbl])))), Go_neg (by omega) (Go_pos (by omega) (Go_pos ny (Go_pos k0 (Go_pos k1 (Go_neg (by omega) (Go_ret (by rw [h8]))))))), rfl, rfl⟩
        · refine ⟨.inr (if (st 3 < st 5 ∨ st 4 < st 6) ∧ st 9 = 0 then 1 else 0), (if (st 3 < st 5 ∨ st 4 < st 6) ∧ st 9 = 0 then 1 else 0), 0, Go_neg k0 (Go_neg k1 (Go_neg k2 (Go_pos (by omega) ?_))), Go_neg (by omega) (Go_pos (by omega) (Go_pos ny (Go_pos k0 (Go_pos k1 (Go_pos k2 (Go_ret (by rw [h9]))))))), rfl, rfl⟩
          rw [hs]
          by_cases kk : (st 3 < st 5 ∨ st 4 < st 6) ∧ st 9 = 0
          · rw [if_pos kk]; exact Go_neg (by decide) (Go_ret rfl)
          · rw [if_neg kk]; exact Go_pos rfl (Go_ret rfl)
