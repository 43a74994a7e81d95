/-! settings agree -/
def sx (k : Nat) : Nat := k + 1
def stLo (k : Nat) : Nat := if 3 ≤ k ∧ k ≤ 6 then 1 else 0
def stHi (k : Nat) : Nat := if k = 0 then 2 else if k < 3 ∨ k = 9 then 1 else if k < 7 then 100000 else 10000
theorem nS_lo {k : Nat} (h : k < 10) : nS_1 k = sN (stLo k) := by
  rcases (show k = 0 ∨ k = 1 ∨ k = 2 ∨ k = 3 ∨ k = 4 ∨ k = 5 ∨ k = 6 ∨ k = 7 ∨ k = 8 ∨ k = 9 by omega) with rfl | rfl | rfl | rfl | rfl | rfl | rfl | rfl | rfl | rfl <;> rfl
theorem nS_hi {k : Nat} (h : k < 10) : nS_2 k = sN (stHi k) := by
  rcases (show k = 0 ∨ k = 1 ∨ k = 2 ∨ k = 3 ∨ k = 4 ∨ k = 5 ∨ k = 6 ∨ k = 7 ∨ k = 8 ∨ k = 9 by omega) with rfl | rfl | rfl | rfl | rfl | rfl | rfl | rfl | rfl | rfl <;> rfl
theorem stOK_iff {st : Nat → Nat} : stOK st ↔ ∀ k, k < 10 → stLo k ≤ st k ∧ st k ≤ stHi k := by
  unfold stOK
  constructor
  · intro h k hk
    unfold stLo stHi
    rcases (show k = 0 ∨ k = 1 ∨ k = 2 ∨ k = 3 ∨ k = 4 ∨ k = 5 ∨ k = 6 ∨ k = 7 ∨ k = 8 ∨ k = 9 by omega) with rfl | rfl | rfl | rfl | rfl | rfl | rfl | rfl | rfl | rfl <;> simp <;> omega
  · intro h
    have h0 := h 0 (by omega); have h1 := h 1 (by omega); have h2 := h 2 (by omega); have h3 := h 3 (by omega); have h4 := h 4 (by omega); have h5 := h 5 (by omega); have h6 := h 6 (by omega); have h7 := h 7 (by omega); have h8 := h 8 (by omega); have h9 := h 9 (by omega)
    simp [stLo, stHi] at h0 h1 h2 h3 h4 h5 h6 h7 h8 h9
    omega
theorem m_setOut (lv Y : Nat → Int32) (G : Nat → Nat → Int32) (z : Int) (z1 : -2147483648 ≤ z) (z2 : z < 2147483648) (l1 : lv 1 = sI z) (ho : z < 0 ∨ 9 < z) : Go (fun n => L_Mo_setting n 91 lv Y G) (fun q => q = (0, upd Y 0 1, G)) := by
  have w0 : (0 : Int32) = sI 0 := rfl
  have w9 : (9 : Int32) = sI 9 := rfl
  have k118 : ∀ lv', Go (fun n => L_Mo_setting n 118 lv' (upd Y 0 1) G) (fun q => q = (0, upd Y 0 1, G)) := by
    intro lv'
    refine Go_S ?_
    simp only [L_Mo_setting, ↓reduceIte, Nat.reduceEqDiff]
    exact Go_neg (by show ¬ (1 : Int32) ≤ 0; decide) (Go_ret rfl)
  refine Go_S ?_
  simp only [L_Mo_setting, ↓reduceIte]
  refine Go_ite (fun _ => k118 _) (fun k1 => Go_neg ?_ (k118 _))
  rw [l1, w0, sI_lt z1 z2 (by omega) (by omega)] at k1
  rw [l1, w9, sI_le z1 z2 (by omega) (by omega)]; omega
theorem m_set91 (lv Y : Nat → Int32) (G : Nat → Nat → Int32) (k rt : Nat) (b : Int32) (hk : k < 10) (hr : rt ≤ 1) (l1 : lv 1 = sN k) (l2 : lv 2 = b) (l3 : lv 3 = sN rt) : Go (fun n => L_Mo_setting n 91 lv Y G) (fun q => q = if rt = 1 then (G 14 k, upd Y 0 0, va_up G 14 (upd (G 14) k b)) else (0, upd Y 0 2, G)) := by
  refine Go_S ?_
  simp only [L_Mo_setting, ↓reduceIte]
  refine Go_neg (by rw [l1, wN_0, sN_lt (by omega) (by omega)]; omega) (Go_pos (by rw [l1, wN_9, sN_le (by omega) (by omega)]; omega) ?_)
  rcases (show rt = 0 ∨ rt = 1 by omega) with rfl | rfl
  · refine Go_neg (fun y => y l3) (Go_S ?_)
    simp only [L_Mo_setting, ↓reduceIte, Nat.reduceEqDiff]
    exact Go_neg (by show ¬ (2 : Int32) ≤ 0; decide) (Go_ret rfl)
  · refine Go_pos (by rw [l3]; decide) (Go_S ?_)
    simp only [L_Mo_setting, ↓reduceIte, Nat.reduceEqDiff]
    have e1 : ∀ x : Nat → Int32, upd (upd (upd x 1 (lv 1)) 2 (lv 2)) 3 (lv 3) 1 = sN k := fun _ => l1
    have e2 : ∀ x : Nat → Int32, upd (upd (upd x 1 (lv 1)) 2 (lv 2)) 3 (lv 3) 2 = b := fun _ => l2
    rw [e1, e2, sN_nat (by omega)]
    have ck : ¬ (sN k < 0 ∨ 10 ≤ k) := by rw [wN_0, sN_lt (by omega) (by omega)]; omega
    exact Go_pos (by show (0 : Int32) ≤ 0; decide) (Go_pos ck (Go_pos ck (Go_ret rfl)))
theorem m_setIn (Y : Nat → Int32) (G : Nat → Nat → Int32) (k : Nat) (hk : k < 10) (z : Int) (z1 : -2147483648 ≤ z) (z2 : z < 2147483648) : Go (fun n => f_Mo_setting n Y G (sN k) (sI z)) (fun q => q = if (stLo k : Int) ≤ z ∧ z ≤ (stHi k : Int) then (G 14 k, upd Y 0 0, va_up G 14 (upd (G 14) k (sI z))) else (0, upd Y 0 2, G)) := by
  have lt : ∀ m : Nat, m < 1000000 → (sI z < sN m) = (z < m) := fun m hm => by rw [sN_sI, sI_lt z1 z2 (by omega) (by omega)]
  have tl : ∀ m : Nat, m < 1000000 → (sN m < sI z) = ((m : Int) < z) := fun m hm => by rw [sN_sI, sI_lt (by omega) (by omega) z1 z2]
  have eq : ∀ m : Nat, m < 1000000 → (sI z = sN m) = (z = m) := fun m hm => by rw [sN_sI, sI_eq z1 z2 (by omega) (by omega)]
  have go : ∀ rt : Nat, rt ≤ 1 → (rt = 1 ↔ (stLo k : Int) ≤ z ∧ z ≤ (stHi k : Int)) → Go (fun n => L_Mo_setting n 91 (upd (upd (upd am_lv0 1 (sN k)) 2 (sI z)) 3 (sN rt)) Y G) (fun q => q = if (stLo k : Int) ≤ z ∧ z ≤ (stHi k : Int) then (G 14 k, upd Y 0 0, va_up G 14 (upd (G 14) k (sI z))) else (0, upd Y 0 2, G)) := by
    intro rt hr hi
    refine Go_mono (m_set91 _ Y G k rt (sI z) hk hr rfl rfl rfl) (fun q hq => ?_)
    rw [hq]
    by_cases h : rt = 1
    · rw [if_pos h, if_pos (hi.mp h)]
    · rw [if_neg h, if_neg (fun y => h (hi.mpr y))]
  have l0 := lt 0 (by omega); have l1 := lt 1 (by omega)
  have g2 := tl 2 (by omega); have gA := tl 10000 (by omega); have gB := tl 100000 (by omega)
  have q0 := eq 0 (by omega); have q1 := eq 1 (by omega)
  unfold f_Mo_setting
  by_cases k0 : k = 0
  · subst k0
    simp only [stLo, stHi] at go ⊢
    refine Go_neg (by decide) (Go_ite (fun y => ?_) (fun y => Go_ite (fun x => ?_) (fun x => ?_)))
    · rw [wN_0, l0] at y; exact go 0 (by omega) (by simp; omega)
    · rw [wN_0, l0] at y; rw [wN_2, g2] at x; exact go 0 (by omega) (by simp; omega)
    · rw [wN_0, l0] at y; rw [wN_2, g2] at x; exact go 1 (by omega) (by simp; omega)
  refine Go_pos (by rw [wN_0, sN_eq (by omega) (by omega)]; exact k0) ?_
  by_cases k3 : k < 3
  · have hl : stLo k = 0 := by unfold stLo; rw [if_neg (by omega)]
    have hh : stHi k = 1 := by unfold stHi; rw [if_neg k0, if_pos (by omega)]
    rw [hl, hh] at go ⊢
    refine Go_pos (by rw [wN_3, sN_lt (by omega) (by omega)]; exact k3) (Go_ite (fun y => ?_) (fun y => Go_ite (fun x => ?_) (fun x => ?_)))
    · rw [wN_0, q0] at y; exact go 1 (by omega) (by simp; omega)
    · rw [wN_0, q0] at y; rw [wN_1, q1] at x; exact go 0 (by omega) (by simp; omega)
    · rw [wN_0, q0] at y; rw [wN_1, q1] at x; exact go 1 (by omega) (by simp; omega)
  refine Go_neg (by rw [wN_3, sN_lt (by omega) (by omega)]; exact k3) ?_
  by_cases k9 : k = 9
  · subst k9
    simp only [stLo, stHi] at go ⊢
    refine Go_neg (by decide) (Go_ite (fun y => ?_) (fun y => Go_ite (fun x => ?_) (fun x => ?_)))
    · rw [wN_0, q0] at y; exact go 1 (by omega) (by simp; omega)
    · rw [wN_0, q0] at y; rw [wN_1, q1] at x; exact go 0 (by omega) (by simp; omega)
    · rw [wN_0, q0] at y; rw [wN_1, q1] at x; exact go 1 (by omega) (by simp; omega)
  refine Go_pos (by rw [wN_9, sN_eq (by omega) (by omega)]; exact k9) ?_
  by_cases k7 : 7 ≤ k
  · have hl : stLo k = 0 := by unfold stLo; rw [if_neg (by omega)]
    have hh : stHi k = 10000 := by unfold stHi; rw [if_neg k0, if_neg (by omega), if_neg (by omega)]
    rw [hl, hh] at go ⊢
    refine Go_pos (by rw [wN_7, sN_le (by omega) (by omega)]; exact k7) (Go_ite (fun y => ?_) (fun y => Go_ite (fun x => ?_) (fun x => ?_)))
    · rw [wN_0, l0] at y; exact go 0 (by omega) (by simp; omega)
    · rw [wN_0, l0] at y; rw [wN_10000, gA] at x; exact go 0 (by omega) (by simp; omega)
    · rw [wN_0, l0] at y; rw [wN_10000, gA] at x; exact go 1 (by omega) (by simp; omega)
  · have hl : stLo k = 1 := by unfold stLo; rw [if_pos (by omega)]
    have hh : stHi k = 100000 := by unfold stHi; rw [if_neg k0, if_neg (by omega), if_pos (by omega)]
    rw [hl, hh] at go ⊢
    refine Go_neg (by rw [wN_7, sN_le (by omega) (by omega)]; exact k7) (Go_ite (fun y => ?_) (fun y => Go_ite (fun x => ?_) (fun x => ?_)))
    · rw [wN_1, l1] at y; exact go 0 (by omega) (by simp; omega)
    · rw [wN_1, l1] at y; rw [wN_100000, gB] at x; exact go 0 (by omega) (by simp; omega)
    · rw [wN_1, l1] at y; rw [wN_100000, gB] at x; exact go 1 (by omega) (by simp; omega)
def setI (F G : Nat → Nat → Int32) : Prop := ∃ st, stOK st ∧ stF st (F 2) ∧ stF st (G 14)
theorem ag_setting {X : Nat → Int32} {F : Nat → Nat → Int32} {Y : Nat → Int32} {G : Nat → Nat → Int32} (h : setI F G) (a b : Int32) : ∃ v w t F' G', Go (fun n => f_Im_setting n X F a b) (fun q => q = (v, X, F')) ∧ Go (fun n => f_Mo_setting n Y G a b) (fun q => q = (w, upd Y 0 t, G')) ∧ agT sx v w t ∧ setI F' G' ∧ fr [2] F F' ∧ fr [14] G G' := by
  obtain ⟨a, a1, a2, rfl⟩ := sI_ex a
  obtain ⟨z, z1, z2, rfl⟩ := sI_ex b
  have w0 : (0 : Int32) = sI 0 := rfl
  have w10 : (10 : Int32) = sI 10 := rfl
  by_cases ho : a < 0 ∨ 9 < a
  · refine ⟨.inl 0, 0, 1, F, G, ?_, ?_, ⟨rfl, Or.inl rfl⟩, h, fr_rfl, fr_rfl⟩
    · refine Go_ite (fun _ => Go_ret rfl) (fun k1 => Go_neg ?_ (Go_ret rfl))
      rw [w0, sI_lt a1 a2 (by omega) (by omega)] at k1
      rw [w10, sI_lt a1 a2 (by omega) (by omega)]; omega
    · have o := fun lv l1 => m_setOut lv Y G a a1 a2 l1 ho
      exact Go_ite (fun _ => Go_ite (fun _ => Go_ite (fun _ => o _ rfl) (fun _ => Go_ite (fun _ => o _ rfl) (fun _ => o _ rfl))) (fun _ => Go_ite (fun _ => Go_ite (fun _ => Go_ite (fun _ => o _ rfl) (fun _ => Go_ite (fun _ => o _ rfl) (fun _ => o _ rfl))) (fun _ => Go_ite (fun _ => o _ rfl) (fun _ => Go_ite (fun _ => o _ rfl) (fun _ => o _ rfl)))) (fun _ => Go_ite (fun _ => o _ rfl) (fun _ => Go_ite (fun _ => o _ rfl) (fun _ => o _ rfl))))) (fun _ => Go_ite (fun _ => o _ rfl) (fun _ => Go_ite (fun _ => o _ rfl) (fun _ => o _ rfl)))
  obtain ⟨k, rfl, hk⟩ : ∃ k : Nat, a = (k : Int) ∧ k < 10 := ⟨a.toNat, by omega, by omega⟩
  rw [← sN_sI]
  obtain ⟨st, h1, h2, h3⟩ := h
  have hm := m_setIn Y G k hk z z1 z2
  have ck : ¬ (sN k < 0 ∨ 10 ≤ k) := by rw [wN_0, sN_lt (by omega) (by omega)]; omega
  have hhi : stHi k ≤ 100000 := by unfold stHi; split <;> (try split) <;> (try split) <;> omega
  have hlo : stLo k ≤ 1 := by unfold stLo; split <;> omega
  by_cases hr : (stLo k : Int) ≤ z ∧ z ≤ (stHi k : Int)
  · rw [if_pos hr] at hm
    refine ⟨.inr (F 2 k), G 14 k, 0, va_up F 2 (upd (F 2) k (sI z)), va_up G 14 (upd (G 14) k (sI z)), ?_, hm, ⟨rfl, by rw [h2 k hk, h3 k hk]⟩, ?_, fr_vup fr_rfl (by decide), fr_vup fr_rfl (by decide)⟩
    · unfold f_Im_setting
      rw [sN_nat (by omega), nS_lo hk, nS_hi hk]
      refine Go_neg (fun y => ck (Or.inl y)) (Go_pos (by rw [wN_10, sN_lt (by omega) (by omega)]; omega) (Go_pos ck (Go_neg ?_ (Go_pos ck (Go_pos ?_ (Go_pos ck (Go_pos ck (Go_ret rfl))))))))
      · rw [sN_sI, sI_lt z1 z2 (by omega) (by omega)]; omega
      · rw [sN_sI, sI_le z1 z2 (by omega) (by omega)]; omega
    · obtain ⟨m, rfl⟩ : ∃ m : Nat, z = (m : Int) := ⟨z.toNat, by omega⟩
      refine ⟨fun j => if j = k then m else st j, stOK_iff.mpr (fun j hj => ?_), fun j hj => ?_, fun j hj => ?_⟩
      · show stLo j ≤ (if j = k then m else st j) ∧ (if j = k then m else st j) ≤ stHi j
        by_cases e : j = k
        · rw [if_pos e, e]; omega
        · rw [if_neg e]; exact stOK_iff.mp h1 j hj
      · show (if j = k then sI (m : Int) else F 2 j) = sN (if j = k then m else st j)
        by_cases e : j = k
        · rw [if_pos e, if_pos e, sN_sI]
        · rw [if_neg e, if_neg e]; exact h2 j hj
      · show (if j = k then sI (m : Int) else G 14 j) = sN (if j = k then m else st j)
        by_cases e : j = k
        · rw [if_pos e, if_pos e, sN_sI]
        · rw [if_neg e, if_neg e]; exact h3 j hj
  · rw [if_neg hr] at hm
    refine ⟨.inl 1, 0, 2, F, G, ?_, hm, ⟨rfl, Or.inr rfl⟩, ⟨st, h1, h2, h3⟩, fr_rfl, fr_rfl⟩
    unfold f_Im_setting
    rw [sN_nat (by omega), nS_lo hk, nS_hi hk]
    refine Go_neg (fun y => ck (Or.inl y)) (Go_pos (by rw [wN_10, sN_lt (by omega) (by omega)]; omega) (Go_pos ck (Go_ite (fun _ => Go_ret rfl) (fun y => Go_pos ck (Go_neg ?_ (Go_ret rfl))))))
    rw [sN_sI, sI_lt z1 z2 (by omega) (by omega)] at y
    rw [sN_sI, sI_le z1 z2 (by omega) (by omega)]; omega
