/-! shared agrees -/
theorem m_shdOut (lv Y : Nat → Int32) (G : Nat → Nat → Int32) (l3 : lv 3 = 0) : Go (fun n => L_Mo_shared n 58 lv Y G) (fun q => q = (0, upd Y 0 1, G)) := by
  refine Go_S ?_
  simp only [L_Mo_shared, ↓reduceIte]
  refine Go_pos l3 (Go_S ?_)
  simp only [L_Mo_shared, ↓reduceIte, Nat.reduceEqDiff]
  exact Go_neg (by show ¬ (1 : Int32) ≤ 0; decide) (Go_ret rfl)
theorem m_shdIn {P : Res → Prop} (lv Y : Nat → Int32) (G : Nat → Nat → Int32) (l3 : lv 3 = 1) (h : Go (fun n => L_Mo_shared n 71 (upd (upd (upd am_lv0 1 (lv 1)) 2 (lv 2)) 3 (lv 3)) (upd Y 0 0) G) P) : Go (fun n => L_Mo_shared n 58 lv Y G) P := by
  refine Go_S ?_
  simp only [L_Mo_shared, ↓reduceIte]
  exact Go_neg (by rw [l3]; decide) h
/-- whether the model may tell -/
def shdM (tk : Bool) (M : Nat) (z x : Int) : Prop := (tk = true ∧ -3 ≤ z ∧ z < M ∧ (z < 0 ∨ (0 ≤ x ∧ x ≤ 2))) ∨ z = -1 ∨ z = -2
theorem m_shd58 {P : Res → Prop} {Y : Nat → Int32} {G : Nat → Nat → Int32} {tk : Bool} {M : Nat} {z x : Int} (hM : M ≤ 8) (z1 : -2147483648 ≤ z) (z2 : z < 2147483648) (x1 : -2147483648 ≤ x) (x2 : x < 2147483648) (y22 : Y 22 = if tk then 1 else 0) (y23 : Y 23 = 1) (y24 : tk = true → Y 24 = sN M) (hin : shdM tk M z x → Go (fun n => L_Mo_shared n 58 (upd (upd (upd am_lv0 1 (sI z)) 2 (sI x)) 3 1) Y G) P) (hout : ¬ shdM tk M z x → Go (fun n => L_Mo_shared n 58 (upd (upd (upd am_lv0 1 (sI z)) 2 (sI x)) 3 0) Y G) P) : Go (fun n => f_Mo_shared n Y G (sI z) (sI x)) P := by
  have n23 : ¬ Y 23 = 0 := by rw [y23]; decide
  have i1 : (sI z = -1) = (z = -1) := by rw [sI_m1, sI_eq z1 z2 (by omega) (by omega)]
  have i2 : (sI z = -2) = (z = -2) := by rw [sI_m2, sI_eq z1 z2 (by omega) (by omega)]
  have i3 : (sI z < -3) = (z < -3) := by rw [sI_m3, sI_lt z1 z2 (by omega) (by omega)]
  have i0 : (sI z < 0) = (z < 0) := by rw [show (0 : Int32) = sI 0 from rfl, sI_lt z1 z2 (by omega) (by omega)]
  have iM : (sN M ≤ sI z) = ((M : Int) ≤ z) := by rw [sN_sI, sI_le (by omega) (by omega) z1 z2]
  have b0 : (sI x < 0) = (x < 0) := by rw [show (0 : Int32) = sI 0 from rfl, sI_lt x1 x2 (by omega) (by omega)]
  have b2 : (sI x ≤ 2) = (x ≤ 2) := by rw [show (2 : Int32) = sI 2 from rfl, sI_le x1 x2 (by omega) (by omega)]
  -- only the last two
  have tail : ¬ (tk = true ∧ -3 ≤ z ∧ z < M ∧ (z < 0 ∨ (0 ≤ x ∧ x ≤ 2))) → Go (fun n => if Y 23 = 0 then L_Mo_shared n 58 (upd (upd (upd am_lv0 1 (sI z)) 2 (sI x)) 3 0) Y G else if sI z = -1 then L_Mo_shared n 58 (upd (upd (upd am_lv0 1 (sI z)) 2 (sI x)) 3 1) Y G else if ¬ sI z = -2 then L_Mo_shared n 58 (upd (upd (upd am_lv0 1 (sI z)) 2 (sI x)) 3 0) Y G else L_Mo_shared n 58 (upd (upd (upd am_lv0 1 (sI z)) 2 (sI x)) 3 1) Y G) P := by
    intro hno
    refine Go_neg n23 (Go_ite (fun k => ?_) (fun k => Go_ite (fun k2 => ?_) (fun k2 => ?_)))
    · rw [i1] at k; exact hin (Or.inr (Or.inl k))
    · rw [i1] at k; rw [i2] at k2
      exact hout (fun y => by rcases y with y | y | y; exact hno y; exact k y; exact k2 y)
    · rw [i2] at k2; exact hin (Or.inr (Or.inr (Classical.not_not.mp k2)))
  unfold f_Mo_shared
  cases tk with
  | false => exact Go_pos y22 (tail (fun y => absurd y.1 (by decide)))
  | true =>
    have y24' := y24 rfl
    refine Go_neg (by rw [y22]; decide) ?_
    rw [y24']
    refine Go_ite (fun k => ?_) (fun k => Go_ite (fun k2 => ?_) (fun k2 => Go_ite (fun k3 => ?_) (fun k3 => Go_ite (fun k4 => ?_) (fun k4 => Go_ite (fun k5 => ?_) (fun k5 => ?_)))))
    · rw [i3] at k; exact tail (fun y => by omega)
    · rw [iM] at k2; exact tail (fun y => by omega)
    · rw [i3] at k; rw [iM] at k2; rw [i0] at k3; exact hin (Or.inl ⟨rfl, by omega, by omega, Or.inl k3⟩)
    · rw [i0] at k3; rw [b0] at k4; exact tail (fun y => by omega)
    · rw [i3] at k; rw [iM] at k2; rw [b0] at k4; rw [b2] at k5; exact hin (Or.inl ⟨rfl, by omega, by omega, Or.inr (by omega)⟩)
    · rw [i0] at k3; rw [b2] at k5; exact tail (fun y => by omega)
/-- whether the class may -/
theorem c_canTell {X : Nat → Int32} {tk : Bool} {L M P : Nat} {z x : Int} (hL : 1 ≤ L) (hL2 : L ≤ 1000) (hM : M ≤ 8) (hP : 1 ≤ P) (hP8 : P ≤ 8) (z1 : -2147483648 ≤ z) (z2 : z < 2147483648) (x1 : -2147483648 ≤ x) (x2 : x < 2147483648) (x17 : X 17 = sN L) (x19 : X 19 = sN M) (x20 : X 20 = if tk then sN P else 0) (hMt : 1 ≤ M) : (shdM tk M z x → f_Sh_canTell X (sI z) (sI x) = 1) ∧ (¬ shdM tk M z x → f_Sh_canTell X (sI z) (sI x) = 0) := by
  have n17 : ¬ X 17 = 0 := by rw [x17, wN_0, sN_eq (by omega) (by omega)]; omega
  have i1 : (sI z = -1) = (z = -1) := by rw [sI_m1, sI_eq z1 z2 (by omega) (by omega)]
  have i2 : (sI z = -2) = (z = -2) := by rw [sI_m2, sI_eq z1 z2 (by omega) (by omega)]
  have i3 : (-3 ≤ sI z) = (-3 ≤ z) := by rw [sI_m3, sI_le (by omega) (by omega) z1 z2]
  have i4 : (sI z = -3) = (z = -3) := by rw [sI_m3, sI_eq z1 z2 (by omega) (by omega)]
  have iM : (X 19 ≤ sI z) = ((M : Int) ≤ z) := by rw [x19, sN_sI, sI_le (by omega) (by omega) z1 z2]
  have b0 : (sI x < 0) = (x < 0) := by rw [show (0 : Int32) = sI 0 from rfl, sI_lt x1 x2 (by omega) (by omega)]
  have b2 : (2 < sI x) = (2 < x) := by rw [show (2 : Int32) = sI 2 from rfl, sI_lt (by omega) (by omega) x1 x2]
  unfold f_Sh_canTell shdM
  rw [if_neg n17]
  simp only [i1, i2, i3, i4, iM, b0, b2]
  by_cases k3 : -3 ≤ z
  · rw [if_pos k3]
    by_cases k1 : z = -1
    · rw [if_pos k1]; exact ⟨fun _ => rfl, fun y => absurd (Or.inr (Or.inl k1)) y⟩
    rw [if_neg k1]
    by_cases k2 : z = -2
    · rw [if_neg (fun y => y k2)]; exact ⟨fun _ => rfl, fun y => absurd (Or.inr (Or.inr k2)) y⟩
    rw [if_pos k2]
    cases tk with
    | false =>
      rw [if_neg (fun y => y x20)]
      exact ⟨fun y => by rcases y with y | y | y; exact absurd y.1 (by decide); exact absurd y k1; exact absurd y k2, fun _ => rfl⟩
    | true =>
      have x20' : X 20 = sN P := x20
      rw [if_pos (by rw [x20', wN_0, sN_eq (by omega) (by omega)]; omega)]
      by_cases k4 : z = -3
      · rw [if_pos k4]; exact ⟨fun _ => rfl, fun y => absurd (Or.inl ⟨rfl, by omega, by omega, by omega⟩) y⟩
      rw [if_neg k4]
      by_cases k5 : (M : Int) ≤ z
      · rw [if_pos k5]; exact ⟨fun y => by rcases y with y | y | y <;> omega, fun _ => rfl⟩
      rw [if_neg k5]
      by_cases k6 : x < 0
      · rw [if_pos k6]; exact ⟨fun y => by rcases y with y | y | y <;> omega, fun _ => rfl⟩
      rw [if_neg k6]
      by_cases k7 : 2 < x
      · rw [if_pos k7]; exact ⟨fun y => by rcases y with y | y | y <;> omega, fun _ => rfl⟩
      rw [if_neg k7]
      exact ⟨fun _ => rfl, fun y => absurd (Or.inl ⟨rfl, by omega, by omega, by omega⟩) y⟩
  · rw [if_neg k3]
    exact ⟨fun y => by rcases y with y | y | y <;> omega, fun _ => rfl⟩
theorem ag_shared {X : Nat → Int32} {F : Nat → Nat → Int32} {Y : Nat → Int32} {G : Nat → Nat → Int32} (h : shaI X F Y G) (a b : Int32) : ∃ v w t, Go (fun n => f_Im_shared n X F a b) (fun q => q = (v, X, F)) ∧ Go (fun n => f_Mo_shared n Y G a b) (fun q => q = (w, upd Y 0 t, G)) ∧ agT io v w t := by
  obtain ⟨z, z1, z2, rfl⟩ := sI_ex a
  obtain ⟨x, x1, x2, rfl⟩ := sI_ex b
  obtain ⟨J, cp, ⟨j1, j2, x15, y21, h6, h22⟩, hsh⟩ := h
  rcases hsh with ⟨s1, s2, s3⟩ | ⟨L, M, a, o, e1, e2, e3, e4, e5, e6, e7, e8, e9, e10⟩
  · refine ⟨.inl 0, 0, 1, ?_, ?_, rfl, Or.inl rfl⟩
    · refine Go_neg (fun y => y ?_) (Go_ret rfl)
      unfold f_Sh_canTell
      rw [if_pos s1]
    · exact Go_pos s2 (Go_pos s3 (m_shdOut _ Y G rfl))
  · -- what was taken
    obtain ⟨tk, P, p1, p2, x20, y22, y24, y25, htk⟩ : ∃ (tk : Bool) (P : Nat), 1 ≤ P ∧ P ≤ 8 ∧ (X 20 = if tk then sN P else 0) ∧ (Y 22 = if tk then 1 else 0) ∧ (tk = true → Y 24 = sN M) ∧ (tk = true → Y 25 = sN P) ∧ (tk = true → ∀ j, j < M → ∃ t z, t < 8 ∧ 1 ≤ z ∧ z ≤ 100000 ∧ F 10 j = sN t ∧ G 24 j = sN t ∧ F 11 j = sN z ∧ G 25 t = sN z ∧ G 26 j = sN (cp j)) := by
      cases o with
      | none => exact ⟨false, 1, by omega, by omega, e10.1, e10.2, (fun y => absurd y (by decide)), (fun y => absurd y (by decide)), (fun y => absurd y (by decide))⟩
      | some b =>
        obtain ⟨t1, t2, P, t3, t4, t5, t6, t7⟩ := e10
        exact ⟨true, P, t3, t4, t5, t1, fun _ => t2, fun _ => t6, fun _ => t7⟩
    have hct := c_canTell (X := X) (tk := tk) (L := L) (M := M) (P := P) (z := z) (x := x) e1.1 e1.2 (by omega) p1 p2 z1 z2 x1 x2 e4 e8 x20 e2.1
    by_cases hin : shdM tk M z x
    · have hc1 := hct.1 hin
      have go : ∀ v : Int32, (∀ g1 : Prop, True) → Go (fun n => L_Mo_shared n 71 (upd (upd (upd am_lv0 1 (sI z)) 2 (sI x)) 3 1) (upd Y 0 0) G) (fun q => q = (v, upd Y 0 0, G)) → Go (fun n => f_Im_shared n X F (sI z) (sI x)) (fun q => q = (.inr v, X, F)) → ∃ v w t, Go (fun n => f_Im_shared n X F (sI z) (sI x)) (fun q => q = (v, X, F)) ∧ Go (fun n => f_Mo_shared n Y G (sI z) (sI x)) (fun q => q = (w, upd Y 0 t, G)) ∧ agT io v w t := by
        intro v _ hm hc
        refine ⟨.inr v, v, 0, hc, ?_, rfl, rfl⟩
        exact m_shd58 (tk := tk) (M := M) (by omega) z1 z2 x1 x2 y22 e9 y24 (fun _ => m_shdIn _ Y G rfl hm) (fun y => absurd hin y)
      have n71 : ∀ Q : Res → Prop, z < 0 → Go (fun n => if ¬ sI z = -1 then (if ¬ sI z = -2 then some (upd Y 0 0 25, upd Y 0 0, G) else some (upd Y 0 0 26, upd Y 0 0, G)) else if upd Y 0 0 27 = 0 then some (0, upd Y 0 0, G) else some (1, upd Y 0 0, G)) Q → Go (fun n => L_Mo_shared n 71 (upd (upd (upd am_lv0 1 (sI z)) 2 (sI x)) 3 1) (upd Y 0 0) G) Q := by
        intro Q hz hQ
        refine Go_S ?_
        simp only [L_Mo_shared, ↓reduceIte, Nat.reduceEqDiff]
        refine Go_pos (by show (0 : Int32) ≤ 0; decide) (Go_neg ?_ hQ)
        show ¬ 0 ≤ sI z
        rw [show (0 : Int32) = sI 0 from rfl, sI_le (by omega) (by omega) z1 z2]; omega
      have i1 : (sI z = -1) = (z = -1) := by rw [sI_m1, sI_eq z1 z2 (by omega) (by omega)]
      have i2 : (sI z = -2) = (z = -2) := by rw [sI_m2, sI_eq z1 z2 (by omega) (by omega)]
      have i0 : (sI z < 0) = (z < 0) := by rw [show (0 : Int32) = sI 0 from rfl, sI_lt z1 z2 (by omega) (by omega)]
      by_cases k1 : z = -1
      · -- whether all was looked at
        have hv : f_Sh_tell X F (sI z) (sI x) = sN a := by
          unfold f_Sh_tell
          rw [if_neg (fun y => y (by rw [i1]; exact k1)), e6]
          rcases (show a = 0 ∨ a = 1 by omega) with rfl | rfl <;> rfl
        refine go (sN a) (fun _ => trivial) (n71 _ (by omega) (Go_neg (fun y => y (by rw [i1]; exact k1)) ?_)) ?_
        · have : upd Y 0 0 27 = sN a := e7
          rw [this]
          rcases (show a = 0 ∨ a = 1 by omega) with rfl | rfl
          · exact Go_pos rfl (Go_ret rfl)
          · exact Go_neg (by decide) (Go_ret rfl)
        · have g1 : ¬ ¬ sI z = -1 := fun y => y (by rw [i1]; exact k1)
          refine Go_pos (by rw [hc1]; decide) (Go_pos (Or.inl g1) (Go_pos (Or.inl g1) (Go_pos (Or.inl g1) (Go_pos (Or.inl g1) (Go_pos (Or.inl g1) (Go_ret (by rw [hv])))))))
      have nk1 : ¬ sI z = -1 := by rw [i1]; exact k1
      by_cases k2 : z = -2
      · have hv : f_Sh_tell X F (sI z) (sI x) = sN L := by
          unfold f_Sh_tell
          rw [if_pos nk1, if_neg (fun y => y (by rw [i2]; exact k2)), e4]
        refine go (sN L) (fun _ => trivial) (n71 _ (by omega) (Go_pos nk1 (Go_neg (fun y => y (by rw [i2]; exact k2)) (Go_ret (by show (Y 26, _, _) = _; rw [e5]))))) ?_
        have g1 : ¬ ¬ sI z = -2 := fun y => y (by rw [i2]; exact k2)
        exact Go_pos (by rw [hc1]; decide) (Go_pos (Or.inr (Or.inl g1)) (Go_pos (Or.inr (Or.inl g1)) (Go_pos (Or.inr (Or.inl g1)) (Go_pos (Or.inr (Or.inl g1)) (Go_pos (Or.inr (Or.inl g1)) (Go_ret (by rw [hv])))))))
      have nk2 : ¬ sI z = -2 := by rw [i2]; exact k2
      -- a way was taken
      obtain ⟨rfl, hz3, hzM, hx⟩ : tk = true ∧ -3 ≤ z ∧ z < M ∧ (z < 0 ∨ (0 ≤ x ∧ x ≤ 2)) := by
        rcases hin with y | y | y
        · exact y
        · exact absurd y k1
        · exact absurd y k2
      by_cases k0 : z < 0
      · have hv : f_Sh_tell X F (sI z) (sI x) = sN P := by
          unfold f_Sh_tell
          rw [if_pos nk1, if_pos nk2, if_pos (by rw [i0]; exact k0)]; exact x20
        refine go (sN P) (fun _ => trivial) (n71 _ k0 (Go_pos nk1 (Go_pos nk2 (Go_ret (by show (Y 25, _, _) = _; rw [y25 rfl]))))) ?_
        have g1 : ¬ ¬ sI z < 0 := fun y => y (by rw [i0]; exact k0)
        exact Go_pos (by rw [hc1]; decide) (Go_pos (Or.inr (Or.inr (Or.inl g1))) (Go_pos (Or.inr (Or.inr (Or.inl g1))) (Go_pos (Or.inr (Or.inr (Or.inl g1))) (Go_pos (Or.inr (Or.inr (Or.inl g1))) (Go_pos (Or.inr (Or.inr (Or.inl g1))) (Go_ret (by rw [hv])))))))
      · obtain ⟨j, rfl, hj⟩ : ∃ j : Nat, z = (j : Int) ∧ j < M := ⟨z.toNat, by omega, by omega⟩
        obtain ⟨m, rfl, hm⟩ : ∃ m : Nat, x = (m : Int) ∧ m ≤ 2 := ⟨x.toNat, by omega, by omega⟩
        obtain ⟨t, zz', t1, t2, t3, t4, t5, t6, t7, t8⟩ := htk rfl j hj
        have hcj := j2 j (by omega)
        have h6j := h6 j (by omega)
        rw [← sN_sI] at nk1 nk2 hc1 n71 go
        rw [← sN_sI] at hc1 n71 go
        rw [← sN_sI, ← sN_sI]
        have ej : (sN j).toNatClampNeg = j := sN_nat (by omega)
        have cj : ¬ (sN j < 0 ∨ 8 ≤ (sN j).toNatClampNeg) := by rw [ej, wN_0, sN_lt (by omega) (by omega)]; omega
        have n11 : ¬ F 11 (sN j).toNatClampNeg = 0 := by rw [ej, t6, wN_0, sN_eq (by omega) (by omega)]; omega
        have hcls : ∀ v, f_Sh_tell X F (sN j) (sN m) = v → Go (fun n => f_Im_shared n X F (sN j) (sN m)) (fun q => q = (.inr v, X, F)) := by
          intro v hv
          refine Go_pos (by rw [hc1]; decide) (Go_pos (Or.inr (Or.inr (Or.inr (Or.inr (Or.inr cj))))) (Go_pos (Or.inr (Or.inr (Or.inr (Or.inr (Or.inr cj))))) (Go_pos (Or.inr (Or.inr (Or.inr (Or.inr (Or.inr (Or.inr n11)))))) (Go_pos (Or.inr (Or.inr (Or.inr (Or.inr (Or.inr cj))))) (Go_pos (Or.inr (Or.inr (Or.inr (Or.inr (Or.inr cj))))) (Go_ret (by rw [hv])))))))
        have hmod : ∀ v : Int32, Go (fun n => if ¬ sN m = 0 then (if ¬ sN m = 1 then some (sN zz', upd Y 0 0, G) else if ¬ (sN j < 0 ∨ 8 ≤ j) then (if ¬ sN zz' = 0 then some (f_Mo_upward (sN (cp j)) (sN zz'), upd Y 0 0, G) else none) else none) else if ¬ (sN j < 0 ∨ 8 ≤ j) then some (sN t, upd Y 0 0, G) else none) (fun q => q = (v, upd Y 0 0, G)) → Go (fun n => L_Mo_shared n 71 (upd (upd (upd am_lv0 1 (sN j)) 2 (sN m)) 3 1) (upd Y 0 0) G) (fun q => q = (v, upd Y 0 0, G)) := by
          intro v hv
          have l1 : upd (upd (upd am_lv0 1 (sN j)) 2 (sN m)) 3 1 1 = sN j := rfl
          have l2 : upd (upd (upd am_lv0 1 (sN j)) 2 (sN m)) 3 1 2 = sN m := rfl
          refine Go_S ?_
          simp only [L_Mo_shared, ↓reduceIte, Nat.reduceEqDiff]
          rw [l1, l2, ej, t5, sN_nat (show t < 2147483648 by omega), t7, t8]
          rw [ej] at cj
          exact Go_pos (by show (0 : Int32) ≤ 0; decide) (Go_pos (by rw [wN_0, sN_le (by omega) (by omega)]; omega) (Go_pos cj (Go_pos (by rw [wN_0, sN_lt (by omega) (by omega)]; omega) hv)))
        have htell : f_Sh_tell X F (sN j) (sN m) = if sN m = 0 then F 10 j else if sN m = 1 then f_Im_upward (F 6 j) (F 11 j) else F 11 j := by
          unfold f_Sh_tell
          rw [if_pos nk1, if_pos nk2, if_neg (fun y => cj (Or.inl y)), if_pos (by rw [wN_8, sN_lt (by omega) (by omega)]; omega), ej]
        have cj' : ¬ (sN j < 0 ∨ 8 ≤ j) := by rw [ej] at cj; exact cj
        rcases (show m = 0 ∨ m = 1 ∨ m = 2 by omega) with rfl | rfl | rfl
        · refine go (sN t) (fun _ => trivial) (hmod _ (Go_neg (by decide) (Go_pos cj' (Go_ret rfl)))) (hcls _ ?_)
          rw [htell, if_pos (by decide), t4]
        · refine go (sN (upw (cp j) zz')) (fun _ => trivial) (hmod _ (Go_pos (by decide) (Go_neg (by decide) (Go_pos cj' (Go_pos (by rw [wN_0, sN_eq (by omega) (by omega)]; omega) (Go_ret (by rw [m_upward (by omega) t2 t3]))))))) (hcls _ ?_)
          rw [htell, if_neg (by decide), if_pos (by decide), h6j, t6, sN_upward _ _ (by omega) (by omega) (by omega)]; rfl
        · refine go (sN zz') (fun _ => trivial) (hmod _ (Go_pos (by decide) (Go_pos (by decide) (Go_ret rfl)))) (hcls _ ?_)
          rw [htell, if_neg (by decide), if_neg (by decide), t6]
    · refine ⟨.inl 0, 0, 1, Go_neg (fun y => y (hct.2 hin)) (Go_ret rfl), ?_, rfl, Or.inl rfl⟩
      exact m_shd58 (tk := tk) (M := M) (by omega) z1 z2 x1 x2 y22 e9 y24 (fun y => absurd y hin) (fun _ => m_shdOut _ Y G rfl)
