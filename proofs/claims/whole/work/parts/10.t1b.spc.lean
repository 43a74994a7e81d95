def spC (c r wy : Nat) (lf : Nat → Nat) (K : Nat) (F : Nat → Nat → Int32) : Prop := ∀ p, 1 ≤ p → p ≤ K → F 4 (16 * pgSd lf p + pgPl c r wy lf p) = sN p ∧ F 5 (16 * pgSd lf p + pgPl c r wy lf p) = sN (pgDn wy lf p)
def shC (n N : Nat) : Nat := (n + 2 * N - 1) / (2 * N)
theorem shC_r {n N : Nat} (hN : 1 ≤ N) (hN2 : N ≤ 16) (hn : 1 ≤ n) (hn2 : n ≤ 40 * N) : (1 ≤ shC n N ∧ shC n N ≤ 20) ∧ N * shC n N ≤ 320 ∧ n ≤ 2 * (N * shC n N) ∧ 2 * (N * shC n N) < n + 2 * N := by
  unfold shC
  have h1 := Nat.div_add_mod (n + 2 * N - 1) (2 * N)
  have h2 := Nat.mod_lt (n + 2 * N - 1) (show 2 * N > 0 by omega)
  have h3 : (n + 2 * N - 1) / (2 * N) < 21 := Nat.div_lt_of_lt_mul (by omega)
  have h4 : 0 < (n + 2 * N - 1) / (2 * N) := Nat.div_pos (by omega) (by omega)
  generalize (n + 2 * N - 1) / (2 * N) = q at h1 h3 h4 ⊢
  rw [Nat.mul_assoc] at h1
  have h5 : N * q ≤ 16 * 20 := Nat.mul_le_mul hN2 (by omega)
  exact ⟨⟨h4, by omega⟩, by omega, by omega, by omega⟩
