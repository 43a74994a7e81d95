/-! the laid book as numbers; the class's answers -/
def stOK (st : Nat → Nat) : Prop := st 0 ≤ 2 ∧ st 1 ≤ 1 ∧ st 2 ≤ 1 ∧ (1 ≤ st 3 ∧ st 3 ≤ 100000) ∧ (1 ≤ st 4 ∧ st 4 ≤ 100000) ∧ (1 ≤ st 5 ∧ st 5 ≤ 100000) ∧ (1 ≤ st 6 ∧ st 6 ≤ 100000) ∧ st 7 ≤ 10000 ∧ st 8 ≤ 10000 ∧ st 9 ≤ 1
def stF (st : Nat → Nat) (f : Nat → Int32) : Prop := ∀ k, k < 10 → f k = sN (st k)
def plc (bd N sh s p : Nat) : Nat := if bd = 1 then (if N < p then sh * (2 * N) - N * (s + 1) + p - N else N * s + p) else if bd = 2 then 2 * ((p - 1) / 2 * sh + s) + 2 - p % 2 else 2 * N * s + p
def tld (b n bl g : Nat) : Nat := if b = 1 then (if g ≤ bl then 0 else g - bl) else (if g ≤ n then g else 0)
def dep (bd N sh g : Nat) : Nat := if bd = 1 then min ((g - 1) / 2) (sh * N - 1 - (g - 1) / 2) else if bd = 2 then 0 else min ((g - 1) / 2 % N) (N - 1 - (g - 1) / 2 % N)
def crp (bd N sh a l g : Nat) : Nat := min (dep bd N sh g * a / 1000) l
def grt (st : Nat → Nat) : Prop := st 3 < st 5 ∨ st 4 < st 6
def scl (st : Nat → Nat) : Nat := if (st 3 < st 5 ∨ st 4 < st 6) ∧ st 9 = 1 then max 1 (min (1000 * st 3 / st 5) (1000 * st 4 / st 6)) else 1000
def edX (a b sc c pl cr g dn : Nat) : Int32 := sN a * sN (pl % c) + f_Im_downward (sN a - sN (b * sc / 1000)) 2 + (if (g % 2 = 1) = (dn = 0) then -sN cr else sN cr)
def edY (a b sc c pl : Nat) : Int32 := sN a * sN (pl / c) + f_Im_downward (sN a - sN (b * sc / 1000)) 2
def bkB (c N sh n : Nat) (st : Nat → Nat) : Prop := (1 ≤ c ∧ c ≤ 8) ∧ (1 ≤ N ∧ N ≤ 16) ∧ (1 ≤ sh ∧ sh ≤ 20) ∧ N * sh ≤ 320 ∧ (1 ≤ n ∧ n ≤ 2 * (N * sh)) ∧ 2 * (N * sh) < n + 2 * N ∧ stOK st
def bkC (c N sh n sc : Nat) (st : Nat → Nat) (X : Nat → Int32) (F : Nat → Nat → Int32) : Prop := X 10 = sN c ∧ X 11 = sN N ∧ X 12 = sN sh ∧ X 13 = sN n ∧ X 14 = sN sc ∧ stF st (F 3)
theorem scl_le {st : Nat → Nat} (h : stOK st) : 1 ≤ scl st ∧ scl st ≤ 1000 := by
  obtain ⟨-, -, -, h3, h4, h5, h6, -⟩ := h
  unfold scl
  split
  · rename_i hg
    refine ⟨by omega, ?_⟩
    rcases hg.1 with h | h
    · have : 1000 * st 3 / st 5 < 1000 := Nat.div_lt_of_lt_mul (by rw [Nat.mul_comm]; exact Nat.mul_lt_mul_of_pos_right h (by omega))
      omega
    · have : 1000 * st 4 / st 6 < 1000 := Nat.div_lt_of_lt_mul (by rw [Nat.mul_comm]; exact Nat.mul_lt_mul_of_pos_right h (by omega))
      omega
  · omega
theorem plc_r {bd N sh s p : Nat} (hs : s < sh) (h1 : 1 ≤ p) (h2 : p ≤ 2 * N) : 1 ≤ plc bd N sh s p ∧ plc bd N sh s p ≤ 2 * (N * sh) := by
  have e1 : N * (s + 1) ≤ N * sh := Nat.mul_le_mul_left N hs
  have e2 : sh * (2 * N) = 2 * (N * sh) := by rw [Nat.mul_left_comm, Nat.mul_comm sh N]
  have e3 : N * (s + 1) = N * s + N := Nat.mul_succ N s
  have e4 : 2 * N * s = 2 * (N * s) := Nat.mul_assoc 2 N s
  unfold plc
  split
  · split <;> omega
  · split
    · have e5 : ((p - 1) / 2 + 1) * sh ≤ N * sh := Nat.mul_le_mul_right sh (by omega)
      rw [Nat.add_mul] at e5
      omega
    · omega
theorem plc_sur {bd N sh g : Nat} (hN : 1 ≤ N) (hs : 1 ≤ sh) (h1 : 1 ≤ g) (h2 : g ≤ 2 * (N * sh)) : ∃ s p, s < sh ∧ 1 ≤ p ∧ p ≤ 2 * N ∧ plc bd N sh s p = g := by
  have e2 : sh * (2 * N) = 2 * (N * sh) := by rw [Nat.mul_left_comm, Nat.mul_comm sh N]
  by_cases b1 : bd = 1
  · by_cases hg : g ≤ N * sh
    · have m1 := Nat.mod_lt (g - 1) (show N > 0 by omega)
      have m2 := Nat.div_add_mod (g - 1) N
      have m3 : (g - 1) / N < sh := Nat.div_lt_of_lt_mul (by omega)
      refine ⟨(g - 1) / N, (g - 1) % N + 1, m3, by omega, by omega, ?_⟩
      unfold plc
      rw [if_pos b1, if_neg (by omega)]
      omega
    · have m1 := Nat.mod_lt (2 * (N * sh) - g) (show N > 0 by omega)
      have m2 := Nat.div_add_mod (2 * (N * sh) - g) N
      have m3 : (2 * (N * sh) - g) / N < sh := Nat.div_lt_of_lt_mul (by omega)
      have m4 : N * ((2 * (N * sh) - g) / N + 1) ≤ N * sh := Nat.mul_le_mul_left N m3
      rw [Nat.mul_succ] at m4
      refine ⟨(2 * (N * sh) - g) / N, 2 * N - (2 * (N * sh) - g) % N, m3, by omega, by omega, ?_⟩
      unfold plc
      rw [if_pos b1, if_pos (by omega), Nat.mul_succ, e2]
      omega
  · by_cases b2 : bd = 2
    · have m1 := Nat.mod_lt ((g - 1) / 2) (show sh > 0 by omega)
      have m2 := Nat.div_add_mod ((g - 1) / 2) sh
      have m3 : (g - 1) / 2 / sh < N := Nat.div_lt_of_lt_mul (by rw [Nat.mul_comm]; omega)
      refine ⟨(g - 1) / 2 % sh, 2 * ((g - 1) / 2 / sh) + (2 - g % 2), m1, by omega, by omega, ?_⟩
      unfold plc
      rw [if_neg b1, if_pos b2]
      have e3 : (2 * ((g - 1) / 2 / sh) + (2 - g % 2) - 1) / 2 = (g - 1) / 2 / sh := by omega
      rw [e3, Nat.mul_comm ((g - 1) / 2 / sh) sh, m2]
      omega
    · have m1 := Nat.mod_lt (g - 1) (show 2 * N > 0 by omega)
      have m2 := Nat.div_add_mod (g - 1) (2 * N)
      have m3 : (g - 1) / (2 * N) < sh := Nat.div_lt_of_lt_mul (by rw [Nat.mul_comm, e2]; omega)
      refine ⟨(g - 1) / (2 * N), (g - 1) % (2 * N) + 1, m3, by omega, by omega, ?_⟩
      unfold plc
      rw [if_neg b1, if_neg b2]
      omega
theorem dep_le {bd N sh g : Nat} (h : N * sh ≤ 320) (h2 : g ≤ 2 * (N * sh)) : dep bd N sh g ≤ 320 := by
  unfold dep
  split
  · omega
  · split
    · omega
    · have := Nat.mod_le ((g - 1) / 2) N
      omega
theorem c_placeOf {c N sh n sc s p : Nat} {st : Nat → Nat} {X : Nat → Int32} {F : Nat → Nat → Int32} (hb : bkB c N sh n st) (h : bkC c N sh n sc st X F) (hs : s < sh) (h1 : 1 ≤ p) (h2 : p ≤ 2 * N) : f_Bo_placeOf X F (sN s) (sN p) = sN (plc (st 0) N sh s p) := by
  obtain ⟨-, bN, bs, bB, bn, -, bst⟩ := hb
  obtain ⟨-, x11, x12, -, -, f3⟩ := h
  have e1 : N * (s + 1) ≤ N * sh := Nat.mul_le_mul_left N hs
  have e2 : sh * (2 * N) = 2 * (N * sh) := by rw [Nat.mul_left_comm, Nat.mul_comm sh N]
  have e3 : N * (s + 1) = N * s + N := Nat.mul_succ N s
  have f30 : F 3 (0 : Int32).toNatClampNeg = sN (st 0) := f3 0 (by omega)
  have b0 := bst.1
  unfold f_Bo_placeOf f_Bo_placeCount f_Bo_bookletPages plc
  rw [f30, x11, x12, wN_1, wN_2]
  simp only [sN_eq (show st 0 < 2147483648 by omega) (show 1 < 2147483648 by omega), sN_eq (show st 0 < 2147483648 by omega) (show 2 < 2147483648 by omega), sN_lt (show N < 2147483648 by omega) (show p < 2147483648 by omega)]
  by_cases k1 : st 0 = 1
  · rw [if_pos k1, if_pos k1]
    by_cases k2 : N < p
    · rw [if_pos k2, if_pos k2, sN_mul, sN_mul, sN_add, sN_mul, sN_sub (by omega), sN_add, sN_sub (by omega)]
    · rw [if_neg k2, if_neg k2, sN_mul, sN_add]
  · rw [if_neg k1, if_neg k1]
    by_cases k2 : st 0 = 2
    · rw [if_pos k2, if_pos k2, sN_sub (by omega), sN_div (by omega) (by omega) (by omega), sN_mul, sN_add, sN_mul, sN_add, sN_div (by omega) (by omega) (by omega), sN_mul, sN_mod, sN_sub (by omega)]
    · rw [if_neg k2, if_neg k2, sN_mul, sN_mul, sN_add]
theorem c_blanks {c N sh n sc : Nat} {st : Nat → Nat} {X : Nat → Int32} {F : Nat → Nat → Int32} (hb : bkB c N sh n st) (h : bkC c N sh n sc st X F) : f_Bo_blankCount X = sN (sh * (2 * N) - n) ∧ f_Bo_placeCount X = sN (sh * (2 * N)) := by
  obtain ⟨-, bN, bs, bB, bn, -, bst⟩ := hb
  obtain ⟨-, x11, x12, x13, -, f3⟩ := h
  have e2 : sh * (2 * N) = 2 * (N * sh) := by rw [Nat.mul_left_comm, Nat.mul_comm sh N]
  unfold f_Bo_blankCount f_Bo_placeCount f_Bo_bookletPages
  rw [x11, x12, x13, wN_2, sN_mul, sN_mul, sN_sub (by omega)]
  exact ⟨rfl, rfl⟩
theorem c_before {c N sh n sc : Nat} {st : Nat → Nat} {X : Nat → Int32} {F : Nat → Nat → Int32} (hb : bkB c N sh n st) (h : bkC c N sh n sc st X F) : f_Bo_blanksBefore X F = sN (if st 2 = 1 then sh * (2 * N) - n else 0) := by
  have e := (c_blanks hb h).1
  obtain ⟨-, bN, bs, bB, bn, -, bst⟩ := hb
  have f32 : F 3 (2 : Int32).toNatClampNeg = sN (st 2) := h.2.2.2.2.2 2 (by omega)
  have b2 := bst.2.2.1
  unfold f_Bo_blanksBefore
  rw [f32, e, wN_1]
  simp only [sN_eq (show st 2 < 2147483648 by omega) (show 1 < 2147483648 by omega)]
  by_cases k : st 2 = 1
  · rw [if_neg (fun z => z k), if_pos k]
  · rw [if_pos k, if_neg k]; rfl
theorem c_hasPage {N sh n : Nat} {X : Nat → Int32} (x13 : X 13 = sN n) (hn : n < 2147483648) (z : Int) (h1 : -2147483648 ≤ z) (h2 : z < 2147483648) : f_Bo_hasPage X (sI z) = if 1 ≤ z ∧ z ≤ n then 1 else 0 := by
  unfold f_Bo_hasPage
  have w1 : (1 : Int32) = sI 1 := rfl
  rw [x13, sN_sI]
  by_cases k1 : z < 1
  · rw [if_pos (by rw [w1, sI_lt (by omega) (by omega) (by omega) (by omega)]; exact k1), if_neg (by omega)]
  · rw [if_neg (by rw [w1, sI_lt (by omega) (by omega) (by omega) (by omega)]; exact k1)]
    by_cases k2 : (n : Int) < z
    · rw [if_pos (by rw [sI_lt (by omega) (by omega) (by omega) (by omega)]; exact k2), if_neg (by omega)]
    · rw [if_neg (by rw [sI_lt (by omega) (by omega) (by omega) (by omega)]; exact k2), if_pos (by omega)]
theorem c_pageAt {c N sh n sc g : Nat} {st : Nat → Nat} {X : Nat → Int32} {F : Nat → Nat → Int32} (hb : bkB c N sh n st) (h : bkC c N sh n sc st X F) (h1 : 1 ≤ g) (h2 : g ≤ 2 * (N * sh)) : f_Bo_pageAtPlace X F (sN g) = sN (tld (st 2) n (sh * (2 * N) - n) g) := by
  have e := c_before hb h
  obtain ⟨-, bN, bs, bB, bn, -, bst⟩ := hb
  have e2 : sh * (2 * N) = 2 * (N * sh) := by rw [Nat.mul_left_comm, Nat.mul_comm sh N]
  unfold f_Bo_pageAtPlace tld
  rw [e, sN_sI, sN_sI, sI_sub, c_hasPage (N := N) (sh := sh) h.2.2.2.1 (by omega) _ (by split <;> omega) (by split <;> omega)]
  by_cases k : st 2 = 1
  · simp only [if_pos k]
    by_cases k2 : g ≤ sh * (2 * N) - n
    · rw [if_neg (show ¬ (1 ≤ (g : Int) - ((sh * (2 * N) - n : Nat) : Int) ∧ (g : Int) - ((sh * (2 * N) - n : Nat) : Int) ≤ n) by omega), if_pos rfl, if_pos k2]; rfl
    · rw [if_pos (show (1 ≤ (g : Int) - ((sh * (2 * N) - n : Nat) : Int) ∧ (g : Int) - ((sh * (2 * N) - n : Nat) : Int) ≤ n) by omega), if_neg (by decide), if_neg k2, sN_sI]; exact congrArg sI (by omega)
  · simp only [if_neg k]
    by_cases k2 : g ≤ n
    · rw [if_pos (show (1 ≤ (g : Int) - ((0 : Nat) : Int) ∧ (g : Int) - ((0 : Nat) : Int) ≤ n) by omega), if_neg (by decide), if_pos k2, sN_sI]; exact congrArg sI (by omega)
    · rw [if_neg (show ¬ (1 ≤ (g : Int) - ((0 : Nat) : Int) ∧ (g : Int) - ((0 : Nat) : Int) ≤ n) by omega), if_pos rfl, if_neg k2]; rfl
theorem c_creep {c N sh n sc g : Nat} {st : Nat → Nat} {X : Nat → Int32} {F : Nat → Nat → Int32} (hb : bkB c N sh n st) (h : bkC c N sh n sc st X F) (h1 : 1 ≤ g) (h2 : g ≤ 2 * (N * sh)) : f_Bo_creepOfPlace X F (sN g) = sN (crp (st 0) N sh (st 7) (st 8) g) := by
  obtain ⟨-, bN, bs, bB, bn, -, bst⟩ := hb
  obtain ⟨-, x11, x12, -, -, f3⟩ := h
  have f30 : F 3 (0 : Int32).toNatClampNeg = sN (st 0) := f3 0 (by omega)
  have f37 : F 3 (7 : Int32).toNatClampNeg = sN (st 7) := f3 7 (by omega)
  have f38 : F 3 (8 : Int32).toNatClampNeg = sN (st 8) := f3 8 (by omega)
  have eNs : sh * N = N * sh := Nat.mul_comm sh N
  have b0 := bst.1
  have b7 := bst.2.2.2.2.2.2.2.1
  have b8 := bst.2.2.2.2.2.2.2.2.1
  have ml : (g - 1) / 2 % N < N := Nat.mod_lt _ (by omega)
  have ed : f_Bo_depthOf X F (sN g) = sN (dep (st 0) N sh g) := by
    unfold f_Bo_depthOf dep
    rw [f30, x11, x12, wN_1, wN_2, wN_0]
    simp only [sN_eq (show st 0 < 2147483648 by omega) (show 1 < 2147483648 by omega), sN_eq (show st 0 < 2147483648 by omega) (show 2 < 2147483648 by omega), sN_le (show N < 2147483648 by omega) (show 0 < 2147483648 by omega)]
    have eg : (sN g - sN 1) / sN 2 = sN ((g - 1) / 2) := by rw [sN_sub (by omega), sN_div (by omega) (by omega) (by omega)]
    rw [eg]
    by_cases k1 : st 0 = 1
    · rw [if_pos k1, if_pos k1, sN_mul, sN_sub (by omega), sN_sub (by omega), sN_min _ _ (by omega) (by omega)]
    · rw [if_neg k1, if_neg k1]
      by_cases k2 : st 0 = 2
      · rw [if_pos k2, if_pos k2]
      · rw [if_neg k2, if_neg k2, if_neg (by omega), sN_div (by omega) (by omega) (by omega), sN_mul, sN_mod, sN_sub (by omega), sN_sub (by omega), sN_min _ _ (by omega) (by omega)]
  have hd := dep_le (bd := st 0) bB h2
  have hm : dep (st 0) N sh g * st 7 ≤ 320 * 10000 := Nat.mul_le_mul hd b7
  unfold f_Bo_creepOfPlace crp
  rw [ed, f37, f38, sN_mul, wN_1000, sN_div (by omega) (by omega) (by omega), sN_min _ _ (by omega) (by omega)]
theorem c_greater {st : Nat → Nat} {F : Nat → Nat → Int32} (hst : stOK st) (f3 : stF st (F 3)) : f_Bo_isPageGreater F = if st 3 < st 5 ∨ st 4 < st 6 then 1 else 0 := by
  obtain ⟨-, -, -, h3, h4, h5, h6, -⟩ := hst
  have f33 : F 3 (3 : Int32).toNatClampNeg = sN (st 3) := f3 3 (by omega)
  have f34 : F 3 (4 : Int32).toNatClampNeg = sN (st 4) := f3 4 (by omega)
  have f35 : F 3 (5 : Int32).toNatClampNeg = sN (st 5) := f3 5 (by omega)
  have f36 : F 3 (6 : Int32).toNatClampNeg = sN (st 6) := f3 6 (by omega)
  unfold f_Bo_isPageGreater
  rw [f33, f34, f35, f36]
  simp only [sN_lt (show st 3 < 2147483648 by omega) (show st 5 < 2147483648 by omega), sN_le (show st 6 < 2147483648 by omega) (show st 4 < 2147483648 by omega)]
  by_cases k1 : st 3 < st 5
  · rw [if_pos k1, if_pos (Or.inl k1)]
  · rw [if_neg k1]
    by_cases k2 : st 6 ≤ st 4
    · rw [if_pos k2, if_neg (by omega)]
    · rw [if_neg k2, if_pos (by omega)]
theorem c_scale {st : Nat → Nat} {F : Nat → Nat → Int32} (hst : stOK st) (f3 : stF st (F 3)) : f_Bo_findScale F = sN (scl st) := by
  have eg := c_greater hst f3
  obtain ⟨-, -, -, h3, h4, h5, h6, -, -, h9⟩ := hst
  have f33 : F 3 (3 : Int32).toNatClampNeg = sN (st 3) := f3 3 (by omega)
  have f34 : F 3 (4 : Int32).toNatClampNeg = sN (st 4) := f3 4 (by omega)
  have f35 : F 3 (5 : Int32).toNatClampNeg = sN (st 5) := f3 5 (by omega)
  have f36 : F 3 (6 : Int32).toNatClampNeg = sN (st 6) := f3 6 (by omega)
  have f39 : F 3 (9 : Int32).toNatClampNeg = sN (st 9) := f3 9 (by omega)
  unfold f_Bo_findScale scl
  rw [eg, f33, f34, f35, f36, f39, wN_0]
  simp only [sN_eq (show st 9 < 2147483648 by omega) (show 0 < 2147483648 by omega)]
  by_cases k1 : st 3 < st 5 ∨ st 4 < st 6
  · rw [if_pos k1, if_neg (by decide)]
    by_cases k2 : st 9 = 1
    · rw [if_pos (by omega), if_pos ⟨k1, k2⟩]
      have d1 : 1000 * st 3 / st 5 ≤ 1000 * st 3 := Nat.div_le_self _ _
      have d2 : 1000 * st 4 / st 6 ≤ 1000 * st 4 := Nat.div_le_self _ _
      rw [wN_1000, sN_mul, sN_mul, sN_downward _ _ (by omega) (by omega) (by omega), sN_downward _ _ (by omega) (by omega) (by omega), sN_min _ _ (by omega) (by omega), wN_1, sN_max _ _ (by omega) (by omega)]
    · rw [if_neg (by omega), if_neg (by omega)]; rfl
  · rw [if_neg k1, if_pos rfl, if_neg (by omega)]; rfl
theorem c_tooSmall {st : Nat → Nat} {F : Nat → Nat → Int32} (hst : stOK st) (f3 : stF st (F 3)) : f_Bo_isTooSmallForPages F = if (st 3 < st 5 ∨ st 4 < st 6) ∧ st 9 = 0 then 1 else 0 := by
  have eg := c_greater hst f3
  obtain ⟨-, -, -, h3, h4, h5, h6, -, -, h9⟩ := hst
  have f39 : F 3 (9 : Int32).toNatClampNeg = sN (st 9) := f3 9 (by omega)
  unfold f_Bo_isTooSmallForPages
  rw [eg, f39, wN_0]
  simp only [sN_eq (show st 9 < 2147483648 by omega) (show 0 < 2147483648 by omega)]
  by_cases k1 : st 3 < st 5 ∨ st 4 < st 6
  · rw [if_pos k1, if_neg (by decide)]
    by_cases k2 : st 9 = 0
    · rw [if_neg (by omega), if_pos ⟨k1, k2⟩]
    · rw [if_pos k2, if_neg (by omega)]
  · rw [if_neg k1, if_pos rfl, if_neg (by omega)]
theorem c_margin {a b sc : Nat} {X : Nat → Int32} (x14 : X 14 = sN sc) (hb : b ≤ 100000) (hs : sc ≤ 1000) : f_Bo_margin X (sN a) (sN b) = f_Im_downward (sN a - sN (b * sc / 1000)) 2 := by
  have : b * sc ≤ 100000 * 1000 := Nat.mul_le_mul hb hs
  unfold f_Bo_margin
  rw [x14, sN_mul, wN_1000, sN_div (by omega) (by omega) (by omega)]
theorem c_left {c N sh n g pl dn : Nat} {st : Nat → Nat} {X : Nat → Int32} {F : Nat → Nat → Int32} (hb : bkB c N sh n st) (h : bkC c N sh n (scl st) st X F) (h1 : 1 ≤ g) (h2 : g ≤ 2 * (N * sh)) (hp : pl < N) (hd : dn ≤ 1) : f_Bo_leftEdge X F (sN pl) (sN g) (sN dn) = edX (st 3) (st 5) (scl st) c pl (crp (st 0) N sh (st 7) (st 8) g) g dn := by
  have ec := c_creep hb h h1 h2
  obtain ⟨bc, bN, bs, bB, bn, -, bst⟩ := hb
  obtain ⟨x10, x11, x12, -, x14, f3⟩ := h
  have hsc := scl_le bst
  obtain ⟨-, -, -, h3, h4, h5, h6, -⟩ := bst
  have f33 : F 3 (3 : Int32).toNatClampNeg = sN (st 3) := f3 3 (by omega)
  have f35 : F 3 (5 : Int32).toNatClampNeg = sN (st 5) := f3 5 (by omega)
  have em := c_margin (a := st 3) (b := st 5) x14 h5.2 hsc.2
  unfold f_Bo_leftEdge edX
  have e10 : sN pl - sN pl / X 10 * X 10 = sN (pl % c) := by rw [x10, sN_div (by omega) (by omega) (by omega), sN_mul, sN_mod]
  have eg2 : sN g - sN g / 2 * 2 = sN (g % 2) := by rw [wN_2, sN_div (by omega) (by omega) (by omega), sN_mul, sN_mod]
  rw [e10, eg2, f33, f35, em, ec]
  rw [if_neg (show ¬ X 10 ≤ 0 by rw [x10, wN_0, sN_le (by omega) (by omega)]; omega)]
  simp only [wN_1, wN_0, sN_eq (show g % 2 < 2147483648 by omega) (show 1 < 2147483648 by omega), sN_eq (show dn < 2147483648 by omega) (show 0 < 2147483648 by omega)]
  by_cases k1 : g % 2 = 1 <;> by_cases k2 : dn = 0
  · rw [if_neg (fun z => z k1), if_neg (fun z => z k2), if_pos (by simp [k1, k2])]
  · rw [if_neg (fun z => z k1), if_pos k2, if_neg (by simp [k1, k2])]
  · rw [if_pos k1, if_neg (fun z => z k2), if_neg (by simp [k1, k2])]
  · rw [if_pos k1, if_pos k2, if_pos (by simp [k1, k2])]
theorem c_top {c N sh n pl : Nat} {st : Nat → Nat} {X : Nat → Int32} {F : Nat → Nat → Int32} (hb : bkB c N sh n st) (h : bkC c N sh n (scl st) st X F) (hp : pl < N) : f_Bo_topEdge X F (sN pl) = edY (st 4) (st 6) (scl st) c pl := by
  obtain ⟨bc, bN, bs, bB, bn, -, bst⟩ := hb
  obtain ⟨x10, x11, x12, -, x14, f3⟩ := h
  have hsc := scl_le bst
  obtain ⟨-, -, -, h3, h4, h5, h6, -⟩ := bst
  have f34 : F 3 (4 : Int32).toNatClampNeg = sN (st 4) := f3 4 (by omega)
  have f36 : F 3 (6 : Int32).toNatClampNeg = sN (st 6) := f3 6 (by omega)
  have em := c_margin (a := st 4) (b := st 6) x14 h6.2 hsc.2
  unfold f_Bo_topEdge edY
  rw [f34, f36, em, x10, sN_downward _ _ (by omega) (by omega) (by omega)]
