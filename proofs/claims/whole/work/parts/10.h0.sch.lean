/-! a scheme as the class holds it -/
theorem sb_inr {α β : Type} (a : α) (f : α → Nat ⊕ β) : sb (.inr a) f = f a := rfl
theorem sb_inl {α β : Type} (w : Nat) (f : α → Nat ⊕ β) : sb (.inl w) f = .inl w := rfl
def tix (N k : Nat) : Nat := if k < N then k else 16 + (k - N)
def toldC (N K : Nat) (A : Told) (f1 f2 : Nat → Int32) : Prop := ∀ k, k < K → f1 (tix N k) = sN (A k).1 ∧ f2 (tix N k) = sN (A k).2
def schC (s : Sch) (x0 x1 x2 x3 : Int32) (f0 f1 f2 f3 : Nat → Int32) : Prop :=
  x0 = sN s.1 ∧ x1 = sN s.2.1 ∧ x2 = sN s.2.2.1.length ∧ (∀ j x, s.2.2.1[j]? = some x → f0 j = sN x) ∧ (∀ k, k < s.1 * s.2.1 → f3 k = sN (s.2.2.2.1 k)) ∧ match s.2.2.2.2 with
  | none => x3 = 0
  | some A => x3 = 1 ∧ toldC (s.1 * s.2.1) (2 * (s.1 * s.2.1)) A f1 f2
theorem toldC_step {N K : Nat} {A : Told} {f1 f2 : Nat → Int32} {a b : Nat} (hN : N ≤ 16) (hK : K < 2 * N) (h : toldC N K A f1 f2) : toldC N (K + 1) (fun j => if j = K then (a, b) else A j) (upd f1 (tix N K) (sN a)) (upd f2 (tix N K) (sN b)) := by
  intro k hk
  rw [upd_app, upd_app]
  by_cases e : k = K
  · subst e
    simp
  · have : ¬ tix N k = tix N K := by unfold tix; split <;> split <;> omega
    rw [if_neg this, if_neg this]
    simp only [if_neg e]
    exact h k (by omega)
