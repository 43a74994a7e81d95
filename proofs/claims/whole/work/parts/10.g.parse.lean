/-! what a tape says -/
theorem nuL_r (t : Nat → Nat) (most p0 : Nat) : ∀ (m p v : Nat), p + m = p0 + 3 → p0 ≤ p → match nuL t most p0 m p v with
    | .inl w => w ≤ p0 + 3
    | .inr q => 1 ≤ q.1 ∧ q.1 ≤ most ∧ q.2 ≤ p0 + 3
  | 0, p, v, h, h0 => by
    unfold nuL
    by_cases h1 : 48 ≤ t p ∧ t p ≤ 57
    · rw [if_pos h1]; show p ≤ p0 + 3; omega
    · rw [if_neg h1]
      by_cases h2 : p = p0
      · rw [if_pos h2]; show p ≤ p0 + 3; omega
      · rw [if_neg h2]
        by_cases h3 : 1 ≤ v ∧ v ≤ most
        · rw [if_pos h3]; exact ⟨h3.1, h3.2, by show p ≤ p0 + 3; omega⟩
        · rw [if_neg h3]; show p0 ≤ p0 + 3; omega
  | m + 1, p, v, h, h0 => by
    unfold nuL
    by_cases h1 : 48 ≤ t p ∧ t p ≤ 57
    · rw [if_pos h1]; exact nuL_r t most p0 m (p + 1) _ (by omega) (by omega)
    · rw [if_neg h1]
      by_cases h2 : p = p0
      · rw [if_pos h2]; show p ≤ p0 + 3; omega
      · rw [if_neg h2]
        by_cases h3 : 1 ≤ v ∧ v ≤ most
        · rw [if_pos h3]; exact ⟨h3.1, h3.2, by show p ≤ p0 + 3; omega⟩
        · rw [if_neg h3]; show p0 ≤ p0 + 3; omega
theorem nuS_r {t : Nat → Nat} {most p0 : Nat} {q : Nat × Nat} (h : nuS t most p0 = .inr q) : 1 ≤ q.1 ∧ q.1 ≤ most ∧ q.2 ≤ p0 + 3 := by
  have := nuL_r t most p0 3 p0 0 rfl (Nat.le_refl _)
  unfold nuS at h
  rw [h] at this
  exact this
theorem nuS_l {t : Nat → Nat} {most p0 w : Nat} (h : nuS t most p0 = .inl w) : w ≤ p0 + 3 := by
  have := nuL_r t most p0 3 p0 0 rfl (Nat.le_refl _)
  unfold nuS at h
  rw [h] at this
  exact this
def sb {α β : Type} (z : Nat ⊕ α) (f : α → Nat ⊕ β) : Nat ⊕ β := match z with
  | .inl w => .inl w
  | .inr a => f a
def sepS (t : Nat → Nat) (ch p : Nat) : Nat ⊕ Nat := if t p = ch then .inr (p + 1) else .inl p
def szS (t : Nat → Nat) : Nat ⊕ (Nat × Nat × Nat) := sb (nuS t 8 0) (fun c => sb (sepS t 120 c.2) (fun p => sb (nuS t (min 8 (16 / c.1)) p) (fun r => .inr (c.1, r.1, r.2))))
def foF (c r p0 p : Nat) (pre : List Nat) : Nat ⊕ (List Nat × (Nat → Nat) × Nat) := match bkl c r pre with
  | none => .inl p0
  | some lf => .inr (pre, lf, p)
def foS (t : Nat → Nat) (c r p0 : Nat) : Nat → Nat → List Nat → Nat ⊕ (List Nat × (Nat → Nat) × Nat)
  | 0, p, pre => if t p = 82 ∨ t p = 76 ∨ t p = 84 ∨ t p = 66 then .inl p else foF c r p0 p pre
  | m + 1, p, pre => if t p = 82 ∨ t p = 76 ∨ t p = 84 ∨ t p = 66 then foS t c r p0 m (p + 1) (pre ++ [t p]) else foF c r p0 p pre
abbrev Told : Type := Nat → Nat × Nat
def numE (t : Nat → Nat) (N k p : Nat) (A : Told) : Nat ⊕ (Nat × Told) := sb (nuS t (2 * N) p) (fun q => .inr (if t q.2 = 33 then q.2 + 1 else q.2, fun j => if j = k then (q.1, if t q.2 = 33 then 1 else 0) else A j))
def rsS (t : Nat → Nat) (N sd : Nat) : Nat → Nat → Nat → Told → Nat ⊕ (Nat × Told)
  | 0, _, p, A => .inr (p, A)
  | m + 1, i, p, A => sb (if i = 0 then .inr p else sepS t 44 p) (fun p' => sb (numE t N (sd * N + i) p' A) (fun q => rsS t N sd m (i + 1) q.1 q.2))
def pgS (t : Nat → Nat) (N : Nat) : Nat → Nat → Nat → Told → Nat ⊕ (Nat × Told)
  | 0, _, p, A => .inr (p, A)
  | m + 1, k, p, A => sb (if k = 0 then .inr p else sepS t (if k = N then 47 else 44) p) (fun p' => sb (numE t N k p' A) (fun q => pgS t N m (k + 1) q.1 q.2))
theorem sb_sb {α β γ : Type} (z : Nat ⊕ α) (f : α → Nat ⊕ β) (g : β → Nat ⊕ γ) : sb (sb z f) g = sb z (fun a => sb (f a) g) := by cases z <;> rfl
theorem pg_rs0 (t : Nat → Nat) (N : Nat) (x : Nat) : ∀ (m i p : Nat) (A : Told), i + m = N → pgS t N (m + x) i p A = sb (rsS t N 0 m i p A) (fun q => pgS t N x N q.1 q.2)
  | 0, i, p, A, h => by
    rw [show i = N by omega, Nat.zero_add]; rfl
  | m + 1, i, p, A, h => by
    rw [show m + 1 + x = (m + x) + 1 by omega]
    change sb (if i = 0 then Sum.inr p else sepS t (if i = N then 47 else 44) p) (fun p' => sb (numE t N i p' A) (fun q => pgS t N (m + x) (i + 1) q.1 q.2)) = sb (sb (if i = 0 then Sum.inr p else sepS t 44 p) (fun p' => sb (numE t N (0 * N + i) p' A) (fun q => rsS t N 0 m (i + 1) q.1 q.2))) _
    rw [sb_sb, if_neg (show ¬ i = N by omega)]
    congr 1
    funext p'
    rw [sb_sb, show 0 * N + i = i by omega]
    congr 1
    funext q
    exact pg_rs0 t N x m (i + 1) q.1 q.2 (by omega)
theorem pg_rs1 (t : Nat → Nat) (N : Nat) (hN : 1 ≤ N) : ∀ (m i p : Nat) (A : Told), 1 ≤ i → pgS t N m (N + i) p A = rsS t N 1 m i p A
  | 0, i, p, A, h => rfl
  | m + 1, i, p, A, h => by
    unfold pgS rsS
    rw [if_neg (show ¬ N + i = 0 by omega), if_neg (show ¬ N + i = N by omega), if_neg (show ¬ i = 0 by omega), show 1 * N + i = N + i by omega]
    congr 1
    funext p'
    congr 1
    funext q
    exact pg_rs1 t N hN m (i + 1) q.1 q.2 (by omega)
theorem pg_rs (t : Nat → Nat) (N : Nat) (hN : 1 ≤ N) (p : Nat) (A : Told) : pgS t N (2 * N) 0 p A = sb (rsS t N 0 N 0 p A) (fun q => sb (sepS t 47 q.1) (fun p' => rsS t N 1 N 0 p' q.2)) := by
  rw [show 2 * N = N + N by omega, pg_rs0 t N N N 0 p A (by omega)]
  congr 1
  funext q
  obtain ⟨M, rfl⟩ : ∃ M, N = M + 1 := ⟨N - 1, by omega⟩
  unfold pgS
  rw [if_neg (by omega), if_pos rfl]
  congr 1
  funext p'
  show _ = rsS t (M + 1) 1 (M + 1) 0 p' q.2
  unfold rsS
  rw [if_pos rfl, show 1 * (M + 1) + 0 = M + 1 by omega]
  show _ = sb (numE t (M + 1) (M + 1) p' q.2) _
  congr 1
  funext q'
  exact pg_rs1 t (M + 1) (by omega) M 1 q'.1 q'.2 (by omega)
/-- columns, rows, folds, leaves, told pages -/
abbrev Sch : Type := Nat × Nat × List Nat × (Nat → Nat) × Option Told
def A0 : Told := fun _ => (0, 0)
def paS (t : Nat → Nat) : Nat ⊕ Sch := sb (szS t) (fun z => sb (foS t z.1 z.2.1 z.2.2 6 z.2.2 []) (fun f =>
  if t f.2.2 = 61 then sb (pgS t (z.1 * z.2.1) (2 * (z.1 * z.2.1)) 0 (f.2.2 + 1) A0) (fun q => if t q.1 = 1000 then .inr (z.1, z.2.1, f.1, f.2.1, some q.2) else .inl q.1)
  else if t f.2.2 = 1000 then .inr (z.1, z.2.1, f.1, f.2.1, none) else .inl f.2.2))
theorem szS_r {t : Nat → Nat} {z : Nat × Nat × Nat} (h : szS t = .inr z) : 1 ≤ z.1 ∧ z.1 ≤ 8 ∧ 1 ≤ z.2.1 ∧ z.2.1 ≤ 8 ∧ z.1 * z.2.1 ≤ 16 ∧ z.2.2 ≤ 10 := by
  unfold szS at h
  cases h1 : nuS t 8 0 with
  | inl w => rw [h1] at h; cases h
  | inr c =>
    rw [h1] at h
    have r1 := nuS_r h1
    change sb (sepS t 120 c.2) _ = _ at h
    unfold sepS at h
    split at h
    · change sb (nuS t (min 8 (16 / c.1)) (c.2 + 1)) _ = _ at h
      cases h2 : nuS t (min 8 (16 / c.1)) (c.2 + 1) with
      | inl w => rw [h2] at h; cases h
      | inr r =>
        rw [h2] at h
        have r2 := nuS_r h2
        have e := Sum.inr.inj h
        subst e
        refine ⟨r1.1, r1.2.1, r2.1, by show r.1 ≤ 8; omega, ?_, by show r.2 ≤ 10; omega⟩
        show c.1 * r.1 ≤ 16
        have h3 : r.1 ≤ 16 / c.1 := by omega
        exact Nat.le_trans (Nat.mul_le_mul_left c.1 h3) (Nat.mul_div_le 16 c.1)
    · cases h
theorem foS_r {t : Nat → Nat} {c r p0 : Nat} {f : List Nat × (Nat → Nat) × Nat} : ∀ {m p : Nat} {pre : List Nat}, foS t c r p0 m p pre = .inr f → (∀ x ∈ pre, isLt x) → (∀ x ∈ f.1, isLt x) ∧ f.1.length ≤ pre.length + m ∧ f.2.2 ≤ p + m ∧ bkl c r f.1 = some f.2.1
  | 0, p, pre, h, hL => by
    unfold foS at h
    split at h
    · cases h
    · unfold foF at h
      split at h
      · cases h
      · rename_i lf hb
        have e := Sum.inr.inj h
        subst e
        exact ⟨hL, by simp, by simp, hb⟩
  | m + 1, p, pre, h, hL => by
    unfold foS at h
    split at h
    · rename_i hp
      have := foS_r h (fun x hx => by
        rcases List.mem_append.mp hx with hx | hx
        · exact hL x hx
        · rw [List.mem_singleton.mp hx]; exact hp)
      refine ⟨this.1, ?_, by have := this.2.2.1; omega, this.2.2.2⟩
      have h2 := this.2.1
      rw [List.length_append, List.length_singleton] at h2
      omega
    · unfold foF at h
      split at h
      · cases h
      · rename_i lf hb
        have e := Sum.inr.inj h
        subst e
        exact ⟨hL, by simp, by simp, hb⟩
theorem rsS_r {t : Nat → Nat} {N sd : Nat} : ∀ {m i p : Nat} {A : Told} {q : Nat × Told}, rsS t N sd m i p A = .inr q → q.1 ≤ p + 5 * m
  | 0, i, p, A, q, h => by
    have e := Sum.inr.inj h
    subst e
    exact Nat.le_refl _
  | m + 1, i, p, A, q, h => by
    unfold rsS at h
    have key : ∀ p', p' ≤ p + 1 → sb (numE t N (sd * N + i) p' A) (fun q => rsS t N sd m (i + 1) q.1 q.2) = .inr q → q.1 ≤ p + 5 * (m + 1) := by
      intro p' hp' h
      unfold numE at h
      cases h2 : nuS t (2 * N) p' with
      | inl w => rw [h2] at h; cases h
      | inr v =>
        rw [h2] at h
        have r2 := nuS_r h2
        have := rsS_r (q := q) h
        have h3 : (if t v.2 = 33 then v.2 + 1 else v.2) ≤ v.2 + 1 := by split <;> omega
        omega
    by_cases hi : i = 0
    · rw [if_pos hi] at h
      exact key p (by omega) h
    · rw [if_neg hi] at h
      unfold sepS at h
      split at h
      · exact key (p + 1) (by omega) h
      · cases h
theorem sN_min (a b : Nat) (ha : a < 2147483648) (hb : b < 2147483648) : f_Ma_min (sN a) (sN b) = sN (min a b) := by
  unfold f_Ma_min
  simp (disch := omega) only [sN_add, sN_mul, sN_sub, sN_lt, sN_le, sN_eq, sN_nat, sN_div, sN_mod, sN_1', wN_0, wN_1, wN_2, wN_3, wN_4, wN_5, wN_6, wN_7, wN_8, wN_9, wN_10, wN_11, wN_12, wN_13, wN_14, wN_15, wN_16, wN_17, wN_18, wN_19, wN_20, wN_28, wN_31, wN_32, wN_33, wN_36, wN_40, wN_42, wN_43, wN_44, wN_45, wN_46, wN_47, wN_48, wN_57, wN_61, wN_63, wN_64, wN_66, wN_76, wN_82, wN_84, wN_88, wN_90, wN_100, wN_120, wN_128, wN_200, wN_255, wN_256, wN_512, wN_640, wN_641, wN_1000, wN_1024, wN_10000, wN_100000]
  split <;> congr 1 <;> omega
theorem sN_max (a b : Nat) (ha : a < 2147483648) (hb : b < 2147483648) : f_Ma_max (sN a) (sN b) = sN (max a b) := by
  unfold f_Ma_max
  simp (disch := omega) only [sN_add, sN_mul, sN_sub, sN_lt, sN_le, sN_eq, sN_nat, sN_div, sN_mod, sN_1', wN_0, wN_1, wN_2, wN_3, wN_4, wN_5, wN_6, wN_7, wN_8, wN_9, wN_10, wN_11, wN_12, wN_13, wN_14, wN_15, wN_16, wN_17, wN_18, wN_19, wN_20, wN_28, wN_31, wN_32, wN_33, wN_36, wN_40, wN_42, wN_43, wN_44, wN_45, wN_46, wN_47, wN_48, wN_57, wN_61, wN_63, wN_64, wN_66, wN_76, wN_82, wN_84, wN_88, wN_90, wN_100, wN_120, wN_128, wN_200, wN_255, wN_256, wN_512, wN_640, wN_641, wN_1000, wN_1024, wN_10000, wN_100000]
  split <;> congr 1 <;> omega
theorem sN_floorDiv (a b : Nat) (ha : a < 2147483648) (hb : 0 < b) (hb2 : b < 2147483648) : f_Ma_floorDiv (sN a) (sN b) = sN (a / b) := by
  unfold f_Ma_floorDiv
  have hx : a ^^^ b < 2147483648 := Nat.xor_lt_two_pow (n := 31) ha hb2
  rw [if_pos (by rw [sN_xor, wN_0, sN_le (by omega) hx]; omega)]
  exact sN_div ha hb hb2
theorem sN_downward (a b : Nat) (ha : a < 2147483648) (hb : 0 < b) (hb2 : b < 2147483648) : f_Im_downward (sN a) (sN b) = sN (a / b) := by
  unfold f_Im_downward
  rw [if_neg (by rw [wN_0, sN_le (by omega) (by omega)]; omega)]
  exact sN_floorDiv a b ha hb hb2
theorem sN_upward (a b : Nat) (ha : a < 1000000000) (hb : 0 < b) (hb2 : b < 1000000000) : f_Im_upward (sN a) (sN b) = sN ((a + b - 1) / b) := by
  unfold f_Im_upward
  rw [if_neg (by rw [wN_0, sN_le (by omega) (by omega)]; omega), sN_add, wN_1, sN_sub (by omega), sN_div (by omega) hb (by omega)]
