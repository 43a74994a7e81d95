/-! at, and settings -/
theorem c_hasSpot {X : Nat → Int32} {sh N : Nat} (x12 : X 12 = sN sh) (x11 : X 11 = sN N) (hs : sh < 1000) (hN : N < 1000) (a b c : Int) (a1 : -2147483648 ≤ a) (a2 : a < 2147483648) (b1 : -2147483648 ≤ b) (b2 : b < 2147483648) (c1 : -2147483648 ≤ c) (c2 : c < 2147483648) : f_Bo_hasSpot X (sI a) (sI b) (sI c) = if (0 ≤ a ∧ a < sh) ∧ (0 ≤ b ∧ b ≤ 1) ∧ 0 ≤ c ∧ c < N then 1 else 0 := by
  have w0 : (0 : Int32) = sI 0 := rfl
  have w1 : (1 : Int32) = sI 1 := rfl
  unfold f_Bo_hasSpot
  rw [x12, x11, sN_sI, sN_sI]
  by_cases k1 : a < 0
  · rw [if_pos (by rw [w0, sI_lt a1 a2 (by omega) (by omega)]; exact k1), if_neg (by omega)]
  rw [if_neg (by rw [w0, sI_lt a1 a2 (by omega) (by omega)]; exact k1)]
  by_cases k2 : (sh : Int) ≤ a
  · rw [if_pos (by rw [sI_le (by omega) (by omega) a1 a2]; exact k2), if_neg (by omega)]
  rw [if_neg (by rw [sI_le (by omega) (by omega) a1 a2]; exact k2)]
  by_cases k3 : b < 0
  · rw [if_pos (by rw [w0, sI_lt b1 b2 (by omega) (by omega)]; exact k3), if_neg (by omega)]
  rw [if_neg (by rw [w0, sI_lt b1 b2 (by omega) (by omega)]; exact k3)]
  by_cases k4 : 1 < b
  · rw [if_pos (by rw [w1, sI_lt (by omega) (by omega) b1 b2]; exact k4), if_neg (by omega)]
  rw [if_neg (by rw [w1, sI_lt (by omega) (by omega) b1 b2]; exact k4)]
  by_cases k5 : c < 0
  · rw [if_pos (by rw [w0, sI_lt c1 c2 (by omega) (by omega)]; exact k5), if_neg (by omega)]
  rw [if_neg (by rw [w0, sI_lt c1 c2 (by omega) (by omega)]; exact k5)]
  by_cases k6 : (N : Int) ≤ c
  · rw [if_pos (by rw [sI_le (by omega) (by omega) c1 c2]; exact k6), if_neg (by omega)]
  rw [if_neg (by rw [sI_le (by omega) (by omega) c1 c2]; exact k6), if_pos (by omega)]
theorem m_at53 (lv Y : Nat → Int32) (G : Nat → Nat → Int32) (l5 : lv 5 = 0) : Go (fun n => L_Mo_at n 53 lv Y G) (fun q => q = (0, upd Y 0 1, G)) := by
  refine Go_S ?_
  simp only [L_Mo_at, ↓reduceIte]
  refine Go_pos l5 (Go_S ?_)
  simp only [L_Mo_at, ↓reduceIte, Nat.reduceEqDiff]
  exact Go_neg (by show ¬ (1 : Int32) ≤ 0; decide) (Go_ret rfl)
/-- out of bounds: the model throws -/
theorem m_atOut {Y : Nat → Int32} {G : Nat → Nat → Int32} {sh N : Nat} (y16 : Y 16 = sN sh) (y17 : sh = 0 ∨ Y 17 = sN (2 * N)) (hs : sh < 1000) (hN : N < 1000) (a b c d : Int) (a1 : -2147483648 ≤ a) (a2 : a < 2147483648) (b1 : -2147483648 ≤ b) (b2 : b < 2147483648) (c1 : -2147483648 ≤ c) (c2 : c < 2147483648) (d1 : -2147483648 ≤ d) (d2 : d < 2147483648) (ho : ¬ (((0 ≤ a ∧ a < sh) ∧ (0 ≤ b ∧ b ≤ 1) ∧ 0 ≤ c ∧ c < N) ∧ 0 ≤ d ∧ d ≤ 4)) : Go (fun n => f_Mo_at n Y G (sI a) (sI b) (sI c) (sI d)) (fun q => q = (0, upd Y 0 1, G)) := by
  have w0 : (0 : Int32) = sI 0 := rfl
  have w1 : (1 : Int32) = sI 1 := rfl
  have w4 : (4 : Int32) = sI 4 := rfl
  unfold f_Mo_at
  refine Go_ite (fun _ => m_at53 _ _ _ rfl) (fun k1 => Go_ite (fun _ => m_at53 _ _ _ rfl) (fun k2 => ?_))
  rw [w0, sI_lt a1 a2 (by omega) (by omega)] at k1
  rw [y16, sN_sI, sI_le (by omega) (by omega) a1 a2] at k2
  have e17 : Y 17 / 2 = sI N := by
    rw [y17.resolve_left (by omega), wN_2, sN_div (by omega) (by omega) (by omega), show 2 * N / 2 = N by omega, sN_sI]
  rw [e17]
  have fin : (0 ≤ b ∧ b ≤ 1) → Go (fun n => if sI c < 0 then L_Mo_at n 53 (upd (upd (upd (upd (upd am_lv0 1 (sI a)) 2 (sI b)) 3 (sI c)) 4 (sI d)) 5 0) Y G else if sI N ≤ sI c then L_Mo_at n 53 (upd (upd (upd (upd (upd am_lv0 1 (sI a)) 2 (sI b)) 3 (sI c)) 4 (sI d)) 5 0) Y G else if sI d < 0 then L_Mo_at n 53 (upd (upd (upd (upd (upd am_lv0 1 (sI a)) 2 (sI b)) 3 (sI c)) 4 (sI d)) 5 0) Y G else if 4 < sI d then L_Mo_at n 53 (upd (upd (upd (upd (upd am_lv0 1 (sI a)) 2 (sI b)) 3 (sI c)) 4 (sI d)) 5 0) Y G else L_Mo_at n 53 (upd (upd (upd (upd (upd am_lv0 1 (sI a)) 2 (sI b)) 3 (sI c)) 4 (sI d)) 5 1) Y G) (fun q => q = (0, upd Y 0 1, G)) := by
    intro hb
    refine Go_ite (fun _ => m_at53 _ _ _ rfl) (fun k3 => Go_ite (fun _ => m_at53 _ _ _ rfl) (fun k4 => Go_ite (fun _ => m_at53 _ _ _ rfl) (fun k5 => Go_pos ?_ (m_at53 _ _ _ rfl))))
    rw [w0, sI_lt c1 c2 (by omega) (by omega)] at k3
    rw [sI_le (by omega) (by omega) c1 c2] at k4
    rw [w0, sI_lt d1 d2 (by omega) (by omega)] at k5
    rw [w4, sI_lt (by omega) (by omega) d1 d2]
    omega
  refine Go_ite (fun kb => ?_) (fun kb => Go_ite (fun _ => m_at53 _ _ _ rfl) (fun kb1 => ?_))
  · rw [w0, sI_eq b1 b2 (by omega) (by omega)] at kb
    exact fin (by omega)
  · rw [w1, sI_eq b1 b2 (by omega) (by omega)] at kb1
    exact fin (by omega)
theorem m_atIn {Y : Nat → Int32} {G : Nat → Nat → Int32} {sh N s sd i d : Nat} (y16 : Y 16 = sN sh) (y17 : Y 17 = sN (2 * N)) (hs : sh ≤ 20) (hN : N ≤ 16) (h1 : s < sh) (h2 : sd ≤ 1) (h3 : i < N) (h4 : d ≤ 4) : Go (fun n => f_Mo_at n Y G (sN s) (sN sd) (sN i) (sN d)) (fun q => q = (G (15 + d) (32 * s + (N * sd + i)), upd Y 0 0, G)) := by
  have hk : N * sd ≤ N * 1 := Nat.mul_le_mul_left _ h2
  have e17 : Y 17 / 2 = sN N := by rw [y17, wN_2, sN_div (by omega) (by omega) (by omega), show 2 * N / 2 = N by omega]
  have ei : (32 : Int32) * sN s + sN N * sN sd + sN i = sN (32 * s + (N * sd + i)) := by rw [wN_32, sN_mul, sN_mul, sN_add, sN_add, Nat.add_assoc]
  have ci : ¬ (sN (32 * s + (N * sd + i)) < 0 ∨ 640 ≤ 32 * s + (N * sd + i)) := by rw [wN_0, sN_lt (by omega) (by omega)]; omega
  have k53 : Go (fun n => L_Mo_at n 53 (upd (upd (upd (upd (upd am_lv0 1 (sN s)) 2 (sN sd)) 3 (sN i)) 4 (sN d)) 5 1) Y G) (fun q => q = (G (15 + d) (32 * s + (N * sd + i)), upd Y 0 0, G)) := by
    refine Go_S ?_
    simp only [L_Mo_at, ↓reduceIte]
    refine Go_neg (by show ¬ (1 : Int32) = 0; decide) (Go_S ?_)
    simp only [L_Mo_at, ↓reduceIte, Nat.reduceEqDiff]
    simp only [show ∀ lv : Nat → Int32, upd (upd (upd (upd (upd lv 1 (sN s)) 2 (sN sd)) 3 (sN i)) 4 (sN d)) 5 1 1 = sN s from fun _ => rfl, show ∀ lv : Nat → Int32, upd (upd (upd (upd (upd lv 1 (sN s)) 2 (sN sd)) 3 (sN i)) 4 (sN d)) 5 1 2 = sN sd from fun _ => rfl, show ∀ lv : Nat → Int32, upd (upd (upd (upd (upd lv 1 (sN s)) 2 (sN sd)) 3 (sN i)) 4 (sN d)) 5 1 3 = sN i from fun _ => rfl, show ∀ lv : Nat → Int32, upd (upd (upd (upd (upd lv 1 (sN s)) 2 (sN sd)) 3 (sN i)) 4 (sN d)) 5 1 4 = sN d from fun _ => rfl, show ∀ lv : Nat → Int32, upd (upd (upd (upd (upd lv 1 (sN s)) 2 (sN sd)) 3 (sN i)) 4 (sN d)) 5 1 5 = 1 from fun _ => rfl, show upd Y 0 0 17 = Y 17 from rfl, show upd Y 0 0 0 = 0 from rfl, e17, ei, sN_nat (show 32 * s + (N * sd + i) < 2147483648 by omega)]
    refine Go_pos (by decide) ?_
    rcases (show d = 0 ∨ d = 1 ∨ d = 2 ∨ d = 3 ∨ d = 4 by omega) with rfl | rfl | rfl | rfl | rfl
    · exact Go_neg (by decide) (Go_neg (by decide) (Go_pos ci (Go_ret rfl)))
    · exact Go_neg (by decide) (Go_pos (by decide) (Go_pos ci (Go_ret rfl)))
    · exact Go_pos (by decide) (Go_neg (by decide) (Go_pos ci (Go_ret rfl)))
    · exact Go_pos (by decide) (Go_pos (by decide) (Go_neg (by decide) (Go_pos ci (Go_ret rfl))))
    · exact Go_pos (by decide) (Go_pos (by decide) (Go_pos (by decide) (Go_pos ci (Go_ret rfl))))
  unfold f_Mo_at
  rw [e17]
  have r3 : ¬ sN i < 0 := by rw [wN_0, sN_lt (by omega) (by omega)]; omega
  have r4 : ¬ sN N ≤ sN i := by rw [sN_le (by omega) (by omega)]; omega
  have r5 : ¬ sN d < 0 := by rw [wN_0, sN_lt (by omega) (by omega)]; omega
  have r6 : ¬ 4 < sN d := by rw [wN_4, sN_lt (by omega) (by omega)]; omega
  refine Go_neg (by rw [wN_0, sN_lt (by omega) (by omega)]; omega) (Go_neg (by rw [y16, sN_le (by omega) (by omega)]; omega) ?_)
  refine Go_ite (fun kb => Go_neg r3 (Go_neg r4 (Go_neg r5 (Go_neg r6 k53)))) (fun kb => Go_neg (fun z => ?_) (Go_neg r3 (Go_neg r4 (Go_neg r5 (Go_neg r6 k53)))))
  rw [wN_0, sN_eq (by omega) (by omega)] at kb
  rw [wN_1, sN_eq (by omega) (by omega)] at z
  omega
theorem ag_at {X : Nat → Int32} {F : Nat → Nat → Int32} {Y : Nat → Int32} {G : Nat → Nat → Int32} (h : bokI X F Y G) (a b c d : Int32) : ∃ v w t, Go (fun n => f_Im_at n X F a b c d) (fun q => q = (v, X, F)) ∧ Go (fun n => f_Mo_at n Y G a b c d) (fun q => q = (w, upd Y 0 t, G)) ∧ agT io v w t := by
  obtain ⟨a, a1, a2, rfl⟩ := sI_ex a
  obtain ⟨b, b1, b2, rfl⟩ := sI_ex b
  obtain ⟨c, c1, c2, rfl⟩ := sI_ex c
  obtain ⟨d, d1, d2, rfl⟩ := sI_ex d
  have w0 : (0 : Int32) = sI 0 := rfl
  have w4 : (4 : Int32) = sI 4 := rfl
  rcases h with ⟨h1, h2, h3, h4, h5⟩ | ⟨C, r, wy, n, st, lf, h1, h2, h3, h4, h5, h6, h7, h8, h9, h10⟩
  · refine ⟨.inl 0, 0, 1, Go_pos ?_ (Go_ret rfl), m_atOut (sh := 0) (N := 0) h5 (Or.inl rfl) (by omega) (by omega) a b c d a1 a2 b1 b2 c1 c2 d1 d2 (by omega), rfl, Or.inl rfl⟩
    rw [c_hasSpot (sh := 0) (N := 0) h2 h1 (by omega) (by omega) a b c a1 a2 b1 b2 c1 c2, if_neg (by omega)]
  · have h1' := h1
    obtain ⟨bc, bN, bs, bB, bn, bn2, bst⟩ := h1'
    have hsp := c_hasSpot (sh := shC n (C * r)) (N := C * r) h3.2.2.1 h3.2.1 (by omega) (by omega) a b c a1 a2 b1 b2 c1 c2
    by_cases hin : ((0 ≤ a ∧ a < (shC n (C * r) : Nat)) ∧ (0 ≤ b ∧ b ≤ 1) ∧ 0 ≤ c ∧ c < (C * r : Nat)) ∧ 0 ≤ d ∧ d ≤ 4
    · rw [if_pos hin.1] at hsp
      obtain ⟨s, rfl, hs⟩ : ∃ s : Nat, a = (s : Int) ∧ s < shC n (C * r) := ⟨a.toNat, by omega, by omega⟩
      obtain ⟨sd, rfl, hsd⟩ : ∃ s : Nat, b = (s : Int) ∧ s ≤ 1 := ⟨b.toNat, by omega, by omega⟩
      obtain ⟨i, rfl, hi⟩ : ∃ s : Nat, c = (s : Int) ∧ s < C * r := ⟨c.toNat, by omega, by omega⟩
      obtain ⟨w, rfl, hw⟩ : ∃ s : Nat, d = (s : Int) ∧ s ≤ 4 := ⟨d.toNat, by omega, by omega⟩
      rw [← sN_sI, ← sN_sI, ← sN_sI] at hsp
      rw [← sN_sI, ← sN_sI, ← sN_sI, ← sN_sI]
      obtain ⟨p, p1, p2, p3, p4⟩ := pg_sur (wy := wy) bc.1 h2 sd i hsd hi
      have hE := h10 s p hs p1 p2 trivial
      have hS := h4 p p1 p2
      have gr := plc_r (bd := st 0) hs p1 p2
      rw [p3, p4] at hE hS
      have hdn : pgDn wy lf p ≤ 1 := by unfold pgDn; split <;> omega
      have ex : sN sd * 16 + sN i = sN (16 * sd + i) := by rw [wN_16, sN_mul, sN_add, Nat.mul_comm]
      have c0 : ¬ (sN (16 * sd + i) < 0 ∨ 32 ≤ (sN (16 * sd + i)).toNatClampNeg) := by rw [wN_0, sN_lt (by omega) (by omega), sN_nat (by omega)]; omega
      have x10 : ¬ X 10 = 0 := by rw [h3.1, wN_0, sN_eq (by omega) (by omega)]; omega
      have x11 : ¬ X 11 = 0 := by rw [h3.2.1, wN_0, sN_eq (by omega) (by omega)]; omega
      refine ⟨.inr (G (15 + w) (32 * s + (C * r * sd + i))), G (15 + w) (32 * s + (C * r * sd + i)), 0, ?_, m_atIn h5 h6 bs.2 bN.2 hs hsd hi hw, rfl, rfl⟩
      unfold f_Im_at
      rw [hsp, ex]
      refine Go_neg (by decide) (Go_neg (by rw [wN_0, sN_lt (by omega) (by omega)]; omega) (Go_pos (by rw [wN_4, sN_le (by omega) (by omega)]; omega) ?_))
      refine Go_pos (Or.inr (Or.inr c0)) (Go_pos (Or.inr (Or.inr (Or.inr (Or.inr (Or.inr x10))))) (Go_pos (Or.inr (Or.inr (Or.inr (Or.inr c0)))) (Go_pos (Or.inr (Or.inr (Or.inr (Or.inr (Or.inr (Or.inr (Or.inr x11))))))) (Go_pos (Or.inr (Or.inr (Or.inr (Or.inr (Or.inr x10))))) (Go_pos (Or.inr (Or.inr (Or.inr (Or.inr (Or.inr (Or.inr (Or.inr x11))))))) (Go_pos (Or.inr (Or.inr (Or.inr (Or.inr c0)))) ?_))))))
      have ev : f_Bo_tellSpot X F (sN s) (sN sd) (sN i) (sN w) = G (15 + w) (32 * s + (C * r * sd + i)) := by
        unfold f_Bo_tellSpot
        rw [ex, if_neg (fun z => c0 (Or.inl z)), if_pos (by rw [wN_32, sN_lt (by omega) (by omega)]; omega), sN_nat (show 16 * sd + i < 2147483648 by omega), hS.1, hS.2, c_placeOf h1 h3 hs p1 p2, c_pageAt h1 h3 gr.1 gr.2, c_left h1 h3 gr.1 gr.2 hi hdn, c_top h1 h3 hi, h3.2.2.2.2.1]
        generalize hT : tld (st 2) n (shC n (C * r) * (2 * (C * r)) - n) (plc (st 0) (C * r) (shC n (C * r)) s p) = T at hE ⊢
        have hTn : T < 1000 := by rw [← hT]; unfold tld; split <;> split <;> omega
        obtain ⟨e1, e2, e3, e4⟩ := hE
        by_cases hz : T = 0
        · subst hz
          obtain ⟨u1, u2, u3, u4⟩ := e3 rfl
          rw [if_neg (fun z => z rfl)]
          rcases (show w = 0 ∨ w = 1 ∨ w = 2 ∨ w = 3 ∨ w = 4 by omega) with rfl | rfl | rfl | rfl | rfl
          · exact e2.symm
          · exact u1.symm
          · exact u2.symm
          · exact u3.symm
          · exact u4.symm
        · obtain ⟨u0, u1, u2, u3, u4⟩ := e4 hz
          rw [if_pos (by rw [wN_0, sN_eq (by omega) (by omega)]; exact hz)]
          rcases (show w = 0 ∨ w = 1 ∨ w = 2 ∨ w = 3 ∨ w = 4 by omega) with rfl | rfl | rfl | rfl | rfl
          · rw [if_pos (by decide)]; exact e2.symm
          · rw [if_neg (by decide), if_pos (by decide)]; exact u1.symm
          · rw [if_neg (by decide), if_neg (by decide), if_pos (by decide)]; exact u2.symm
          · rw [if_neg (by decide), if_neg (by decide), if_neg (by decide), if_pos (by decide)]; exact u3.symm
          · rw [if_neg (by decide), if_neg (by decide), if_neg (by decide), if_neg (by decide)]; exact u4.symm
      rw [ev]
      exact Go_ret rfl
    · refine ⟨.inl 0, 0, 1, ?_, m_atOut h5 (Or.inr h6) (by omega) (by omega) a b c d a1 a2 b1 b2 c1 c2 d1 d2 hin, rfl, Or.inl rfl⟩
      refine Go_ite (fun _ => Go_ret rfl) (fun k1 => Go_ite (fun _ => Go_ret rfl) (fun k2 => Go_neg ?_ (Go_ret rfl)))
      rw [w0, sI_lt d1 d2 (by omega) (by omega)] at k2
      rw [w4, sI_le d1 d2 (by omega) (by omega)]
      intro k3
      refine hin ⟨Classical.byContradiction (fun k4 => ?_), by omega⟩
      rw [if_neg k4] at hsp
      exact k1 hsp
