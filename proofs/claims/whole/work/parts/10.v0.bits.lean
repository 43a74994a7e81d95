/-! sharing: bits, sums, halving -/
def upw (a z : Nat) : Nat := (a + z - 1) / z
def slR (cp : Nat → Nat) (on : Nat → Bool) (z : Nat) : Nat → Nat → Nat
  | 0, _ => 0
  | m + 1, j => (if on j = true then upw (cp j) z else 0) + slR cp on z m (j + 1)
def cnR (on : Nat → Bool) : Nat → Nat → Nat
  | 0, _ => 0
  | m + 1, j => (if on j = true then 1 else 0) + cnR on m (j + 1)
def bsS (f : Nat → Nat) (S : Nat) : Nat → Nat → Nat → Nat
  | 0, lo, _ => lo
  | n + 1, lo, hi => if hi ≤ lo then lo else if S < f ((lo + hi) / 2) then bsS f S n ((lo + hi) / 2 + 1) hi else bsS f S n lo ((lo + hi) / 2)
theorem upw_le {a z : Nat} (hz : 1 ≤ z) : upw a z ≤ a := by
  unfold upw
  rcases Nat.eq_zero_or_pos a with rfl | ha
  · rw [Nat.div_eq_of_lt (by omega)]; exact Nat.le_refl 0
  · refine Nat.le_of_lt_succ (Nat.div_lt_of_lt_mul ?_)
    have : a * 1 ≤ a * z := Nat.mul_le_mul_left a hz
    have h2 : z * (a + 1) = a * z + z := by rw [Nat.mul_succ, Nat.mul_comm]
    rw [h2]; omega
theorem slR_le {cp : Nat → Nat} {on : Nat → Bool} {z : Nat} (hz : 1 ≤ z) : ∀ (m j : Nat), (∀ k, k < j + m → cp k ≤ 100000) → slR cp on z m j ≤ 100000 * m
  | 0, j, h => Nat.le_refl _
  | m + 1, j, h => by
    have ih := slR_le (on := on) hz m (j + 1) (fun k hk => h k (by omega))
    have h1 := upw_le (a := cp j) hz
    have h2 := h j (by omega)
    unfold slR
    split <;> omega
theorem slR_cg {cp : Nat → Nat} {on on' : Nat → Bool} {z : Nat} : ∀ (m j : Nat), (∀ k, j ≤ k → k < j + m → on k = on' k) → slR cp on z m j = slR cp on' z m j
  | 0, j, h => rfl
  | m + 1, j, h => by
    unfold slR
    rw [h j (by omega) (by omega), slR_cg m (j + 1) (fun k a b => h k (by omega) (by omega))]
theorem cnR_cg {on on' : Nat → Bool} : ∀ (m j : Nat), (∀ k, j ≤ k → k < j + m → on k = on' k) → cnR on m j = cnR on' m j
  | 0, j, h => rfl
  | m + 1, j, h => by
    unfold cnR
    rw [h j (by omega) (by omega), cnR_cg m (j + 1) (fun k a b => h k (by omega) (by omega))]
theorem cnR_le {on : Nat → Bool} : ∀ (m j : Nat), cnR on m j ≤ m
  | 0, j => Nat.le_refl _
  | m + 1, j => by
    have := cnR_le (on := on) m (j + 1)
    unfold cnR; split <;> omega
theorem cnR_0 {on : Nat → Bool} : ∀ (m j : Nat), (∀ k, j ≤ k → k < j + m → on k = false) → cnR on m j = 0
  | 0, j, h => rfl
  | m + 1, j, h => by
    unfold cnR
    rw [h j (by omega) (by omega), cnR_0 m (j + 1) (fun k a b => h k (by omega) (by omega))]; rfl
theorem cnR_add {on : Nat → Bool} (b : Nat) : ∀ (a j : Nat), cnR on (a + b) j = cnR on a j + cnR on b (j + a)
  | 0, j => by rw [Nat.zero_add]; show _ = 0 + cnR on b (j + 0); rw [Nat.zero_add, Nat.add_zero]
  | a + 1, j => by
    rw [show a + 1 + b = (a + b) + 1 by omega]
    show (if on j = true then 1 else 0) + cnR on (a + b) (j + 1) = (if on j = true then 1 else 0) + cnR on a (j + 1) + cnR on b (j + (a + 1))
    rw [cnR_add b a (j + 1), show j + 1 + a = j + (a + 1) by omega, Nat.add_assoc]
theorem bsS_r {f : Nat → Nat} {S : Nat} : ∀ (n lo hi : Nat), lo ≤ hi → lo ≤ bsS f S n lo hi ∧ bsS f S n lo hi ≤ hi
  | 0, lo, hi, h => ⟨Nat.le_refl _, h⟩
  | n + 1, lo, hi, h => by
    unfold bsS
    split
    · exact ⟨Nat.le_refl _, h⟩
    · split
      · have := bsS_r (f := f) (S := S) n ((lo + hi) / 2 + 1) hi (by omega); omega
      · have := bsS_r (f := f) (S := S) n lo ((lo + hi) / 2) (by omega); omega
theorem bsS_cg {f g : Nat → Nat} {S : Nat} : ∀ (n lo hi : Nat), 1 ≤ lo → (∀ z, 1 ≤ z → f z = g z) → bsS f S n lo hi = bsS g S n lo hi
  | 0, lo, hi, h, e => rfl
  | n + 1, lo, hi, h, e => by
    unfold bsS
    by_cases k : hi ≤ lo
    · rw [if_pos k, if_pos k]
    · rw [if_neg k, if_neg k, e _ (show 1 ≤ (lo + hi) / 2 by omega), bsS_cg n _ hi (show 1 ≤ (lo + hi) / 2 + 1 by omega) e, bsS_cg n lo _ h e]
theorem bit_at : ∀ (v : Fin 256) (j : Fin 8), (((sN v.1 >>> (sN j.1 &&& 31)) &&& 1) = 1) = (Nat.testBit v.1 j.1 = true) := by
  intro v j
  have : ∀ (v : Fin 256) (j : Fin 8), decide (((sN v.1 >>> (sN j.1 &&& 31)) &&& 1) = 1) = Nat.testBit v.1 j.1 := by decide +kernel
  have h := this v j
  refine propext ⟨fun z => ?_, fun z => ?_⟩
  · rw [← h]; exact decide_eq_true z
  · rw [z] at h; exact of_decide_eq_true h
theorem bit_or : ∀ (v : Fin 256) (j : Fin 8), (sN v.1 ||| ((1 : Int32) <<< (sN j.1 &&& 31))) = sN (v.1 ||| 2 ^ j.1) := by decide +kernel
theorem bit_or_lt : ∀ (v : Fin 256) (j : Fin 8), v.1 ||| 2 ^ j.1 < 256 := by decide +kernel
theorem bit_cnt : ∀ (v : Fin 256), f_In_bitCount (sN v.1) = sN (cnR (fun j => Nat.testBit v.1 j) 8 0) := by decide +kernel
/-- the jobs of a plate, as a set of bits -/
def bset (w : Nat → Nat) (p : Nat) : Nat → Nat
  | 0 => 0
  | i + 1 => if w i = p then bset w p i ||| 2 ^ i else bset w p i
theorem bset_lt {w : Nat → Nat} {p : Nat} : ∀ i, i ≤ 8 → bset w p i < 256
  | 0, h => by show 0 < 256; omega
  | i + 1, h => by
    have ih := bset_lt (w := w) (p := p) i (by omega)
    unfold bset
    split
    · exact bit_or_lt ⟨_, ih⟩ ⟨i, by omega⟩
    · exact ih
theorem bset_bit {w : Nat → Nat} {p : Nat} : ∀ i j, Nat.testBit (bset w p i) j = (decide (j < i) && decide (w j = p))
  | 0, j => by show Nat.testBit 0 j = _; simp
  | i + 1, j => by
    have ih := bset_bit (w := w) (p := p) i j
    unfold bset
    by_cases h : w i = p
    · rw [if_pos h, Nat.testBit_or, ih, Nat.testBit_two_pow]
      by_cases e : j = i
      · subst e; simp [h]
      · have : ¬ i = j := fun z => e z.symm
        simp only [this, decide_false, Bool.or_false]
        have h2 : (j < i + 1) = (j < i) := propext ⟨fun z => by omega, fun z => by omega⟩
        simp only [h2]
    · rw [if_neg h, ih]
      by_cases e : j = i
      · subst e; simp [h]
      · have h2 : (j < i + 1) = (j < i) := propext ⟨fun z => by omega, fun z => by omega⟩
        simp only [h2]
/-- the least sheets for the jobs that are on -/
def lsS (cp : Nat → Nat) (on : Nat → Bool) (J S : Nat) : Nat := bsS (fun z => slR cp on z J 0) S 32 1 100000
theorem lsS_r {cp : Nat → Nat} {on : Nat → Bool} {J S : Nat} : 1 ≤ lsS cp on J S ∧ lsS cp on J S ≤ 100000 := bsS_r 32 1 100000 (by omega)
/-- what a set needs, as the class notes it -/
def ned (cp : Nat → Nat) (J S v : Nat) : Int32 := if S < cnR (fun j => Nat.testBit v j) 8 0 then -1 else sN (lsS cp (fun j => Nat.testBit v j) J S)
/-- what a plate needs -/
def zz (cp w : Nat → Nat) (J S p : Nat) : Int32 := if S < cnR (fun j => decide (w j = p)) J 0 then -1 else sN (lsS cp (fun j => decide (w j = p)) J S)
theorem ned_zz {cp w : Nat → Nat} {J S p : Nat} (hJ : J ≤ 8) : ned cp J S (bset w p J) = zz cp w J S p := by
  unfold ned zz
  have hb : ∀ k, k < J → Nat.testBit (bset w p J) k = decide (w k = p) := fun k hk => by rw [bset_bit]; simp [hk]
  have e1 : cnR (fun j => Nat.testBit (bset w p J) j) 8 0 = cnR (fun j => decide (w j = p)) J 0 := by
    rw [show 8 = J + (8 - J) by omega, cnR_add, cnR_0 (8 - J) (0 + J) (fun k a b => by rw [bset_bit]; simp; intro z; omega), Nat.add_zero]
    exact cnR_cg J 0 (fun k a b => hb k (by omega))
  have e2 : lsS cp (fun j => Nat.testBit (bset w p J) j) J S = lsS cp (fun j => decide (w j = p)) J S := by
    unfold lsS
    exact bsS_cg 32 1 100000 (by omega) (fun z hz => slR_cg J 0 (fun k a b => hb k (by omega)))
  rw [e1, e2]
theorem zz_c {cp w : Nat → Nat} {J S p : Nat} : zz cp w J S p = -1 ∨ ∃ z, 1 ≤ z ∧ z ≤ 100000 ∧ zz cp w J S p = sN z := by
  unfold zz
  split
  · exact Or.inl rfl
  · exact Or.inr ⟨_, lsS_r.1, lsS_r.2, rfl⟩
/-- the greatest of the first i -/
def gb (w : Nat → Nat) : Nat → Nat
  | 0 => 0
  | i + 1 => max (gb w i) (w i)
theorem gb_le {w : Nat → Nat} (h : ∀ j, w j ≤ j) : ∀ i, gb w i ≤ i - 1
  | 0 => Nat.le_refl _
  | i + 1 => by
    have ih := gb_le h i
    have := h i
    show max (gb w i) (w i) ≤ i + 1 - 1
    omega
theorem gb_cg {w w' : Nat → Nat} : ∀ i, (∀ j, j < i → w j = w' j) → gb w i = gb w' i
  | 0, h => rfl
  | i + 1, h => by
    show max (gb w i) (w i) = max (gb w' i) (w' i)
    rw [gb_cg i (fun j hj => h j (by omega)), h i (by omega)]
theorem gb_ge {w : Nat → Nat} : ∀ i j, j < i → w j ≤ gb w i
  | 0, j, h => by omega
  | i + 1, j, h => by
    show w j ≤ max (gb w i) (w i)
    rcases Nat.lt_or_ge j i with k | k
    · have := gb_ge (w := w) i j k; omega
    · rw [show j = i by omega]; omega
def wOK (w : Nat → Nat) (J : Nat) : Prop := (∀ j, w j ≤ j) ∧ ∀ j, J ≤ j → w j = 0
def nwS : Nat → (Nat → Nat) → Option (Nat → Nat)
  | 0, _ => none
  | i + 1, w => if gb w (i + 1) < w (i + 1) then nwS i (fun j => if j = i + 1 then 0 else w j) else some (fun j => if j = i + 1 then w j + 1 else w j)
theorem nwS_ok {J : Nat} : ∀ (i : Nat) (w w2 : Nat → Nat), i < J → wOK w J → nwS i w = some w2 → wOK w2 J
  | 0, w, w2, hi, h, e => by cases e
  | i + 1, w, w2, hi, h, e => by
    unfold nwS at e
    split at e
    · refine nwS_ok i _ w2 (by omega) ⟨fun j => ?_, fun j hj => ?_⟩ e
      · show (if j = i + 1 then 0 else w j) ≤ j
        split
        · omega
        · exact h.1 j
      · show (if j = i + 1 then 0 else w j) = 0
        split
        · rfl
        · exact h.2 j hj
    · rename_i k
      cases e
      refine ⟨fun j => ?_, fun j hj => ?_⟩
      · show (if j = i + 1 then w j + 1 else w j) ≤ j
        have := gb_le h.1 (i + 1)
        split
        · rename_i e; subst e; omega
        · exact h.1 j
      · show (if j = i + 1 then w j + 1 else w j) = 0
        rw [if_neg (by omega)]; exact h.2 j hj
def zer (i : Nat) (w : Nat → Nat) : Nat → Nat := fun j => if i < j then 0 else w j
