/-! each cell once -/
theorem fnum {l w h H : Nat} (pl : Pile) (hl : isLt l) (hf : fold1 l w h = true) (b1 : 1 ≤ w) (b2 : w ≤ 8) (b3 : 1 ≤ h) (b4 : h ≤ 8) : ∃ A S ox oy : Nat, fcase A S w h (fW l w) (fH l h) ox oy ∧ ∀ x y k, plF l w h H pl x y k = tgt A w h H pl (ox + x) (oy + y) k := by
  have hev := hf
  unfold fold1 at hev
  rcases hl with rfl | rfl | rfl | rfl
  · have he : w % 2 = 0 := beq_iff_eq.mp hev
    refine ⟨1, 1, 0, 0, ⟨Or.inl ⟨rfl, rfl, rfl, rfl, he, Or.inl ⟨rfl, rfl⟩⟩, b1, b2, b3, b4⟩, fun x y k => ?_⟩
    rw [Nat.zero_add, Nat.zero_add]; rfl
  · have he : w % 2 = 0 := beq_iff_eq.mp hev
    refine ⟨1, 0, w / 2, 0, ⟨Or.inl ⟨rfl, rfl, rfl, rfl, he, Or.inr ⟨rfl, rfl⟩⟩, b1, b2, b3, b4⟩, fun x y k => ?_⟩
    rw [Nat.zero_add, Nat.add_comm (w / 2) x]; rfl
  · have he : h % 2 = 0 := beq_iff_eq.mp hev
    refine ⟨0, 0, 0, h / 2, ⟨Or.inr ⟨rfl, rfl, rfl, rfl, he, Or.inr ⟨rfl, rfl⟩⟩, b1, b2, b3, b4⟩, fun x y k => ?_⟩
    rw [Nat.zero_add, Nat.add_comm (h / 2) y]; rfl
  · have he : h % 2 = 0 := beq_iff_eq.mp hev
    refine ⟨0, 1, 0, 0, ⟨Or.inr ⟨rfl, rfl, rfl, rfl, he, Or.inl ⟨rfl, rfl⟩⟩, b1, b2, b3, b4⟩, fun x y k => ?_⟩
    rw [Nat.zero_add, Nat.zero_add]; rfl
def plOK (N w h H : Nat) (pl : Pile) : Prop := (∀ x y k, x < w → y < h → k < H → pl x y k < 64 ∧ pl x y k / 4 < N) ∧ ∀ x y k x2 y2 k2, x < w → y < h → k < H → x2 < w → y2 < h → k2 < H → pl x y k / 4 = pl x2 y2 k2 / 4 → x = x2 ∧ y = y2 ∧ k = k2
/-- whence a leaf of the folded pile comes -/
theorem plOK_step {N l w h H : Nat} {pl : Pile} (hl : isLt l) (hf : fold1 l w h = true) (b1 : 1 ≤ w) (b2 : w ≤ 8) (b3 : 1 ≤ h) (b4 : h ≤ 8) (hp : plOK N w h H pl) : plOK N (fW l w) (fH l h) (2 * H) (plF l w h H pl) := by
  obtain ⟨A, S, ox, oy, hc, e⟩ := fnum (H := H) pl hl hf b1 b2 b3 b4
  obtain ⟨hc, -⟩ := hc
  have bnd : ox + fW l w ≤ w ∧ oy + fH l h ≤ h := by omega
  -- the place whence
  let sx := fun x k : Nat => if k < H then ox + x else bxA A w (ox + x)
  let sy := fun y k : Nat => if k < H then oy + y else byA A h (oy + y)
  let sk := fun k : Nat => if k < H then k else 2 * H - 1 - k
  have cell : ∀ x y k, x < fW l w → y < fH l h → k < 2 * H → sx x k < w ∧ sy y k < h ∧ sk k < H ∧ plF l w h H pl x y k < 64 ∧ plF l w h H pl x y k / 4 = pl (sx x k) (sy y k) (sk k) / 4 := by
    intro x y k hx hy hk
    rw [e]
    unfold tgt
    simp only [sx, sy, sk]
    by_cases hkH : k < H
    · simp only [if_pos hkH]
      have := hp.1 (ox + x) (oy + y) k (by omega) (by omega) hkH
      exact ⟨by omega, by omega, hkH, this.1, trivial⟩
    · simp only [if_neg hkH]
      have bx : bxA A w (ox + x) < w := by unfold bxA; split <;> omega
      have by' : byA A h (oy + y) < h := by unfold byA; split <;> omega
      have := hp.1 _ _ (2 * H - 1 - k) bx by' (by omega)
      have mk := mk_all (hd := 1 - A) this.1 (by omega)
      exact ⟨bx, by', by omega, mk.1, mk.2.1⟩
  refine ⟨fun x y k hx hy hk => ?_, fun x y k x2 y2 k2 hx hy hk hx2 hy2 hk2 he => ?_⟩
  · obtain ⟨c1, c2, c3, c4, c5⟩ := cell x y k hx hy hk
    exact ⟨c4, by rw [c5]; exact (hp.1 _ _ _ c1 c2 c3).2⟩
  · obtain ⟨c1, c2, c3, c4, c5⟩ := cell x y k hx hy hk
    obtain ⟨d1, d2, d3, d4, d5⟩ := cell x2 y2 k2 hx2 hy2 hk2
    rw [c5, d5] at he
    obtain ⟨g1, g2, g3⟩ := hp.2 _ _ _ _ _ _ c1 c2 c3 d1 d2 d3 he
    simp only [sx, sy, sk] at g1 g2 g3
    by_cases h1 : k < H <;> by_cases h2 : k2 < H
    · rw [if_pos h1, if_pos h2] at g1 g2 g3; omega
    · rw [if_pos h1, if_neg h2] at g1 g2 g3
      unfold bxA at g1; unfold byA at g2
      split at g1 <;> split at g2 <;> omega
    · rw [if_neg h1, if_pos h2] at g1 g2 g3
      unfold bxA at g1; unfold byA at g2
      split at g1 <;> split at g2 <;> omega
    · rw [if_neg h1, if_neg h2] at g1 g2 g3
      unfold bxA at g1; unfold byA at g2
      split at g1 <;> split at g2 <;> omega
theorem foldA_ok {N : Nat} : ∀ (ls : List Nat) (w h H : Nat) (pl pl' : Pile), (∀ x ∈ ls, isLt x) → 1 ≤ w → w ≤ 8 → 1 ≤ h → h ≤ 8 → w * h * H = N → plOK N w h H pl → foldA ls w h H pl = some pl' → plOK N 1 1 N pl'
  | [], w, h, H, pl, pl', hL, b1, b2, b3, b4, hN, hp, hA => by
    unfold foldA at hA
    split at hA
    · rename_i hwh
      cases hA
      rw [hwh.1, hwh.2, Nat.one_mul] at hN
      rw [hwh.1, hwh.2] at hp
      rw [hN] at hp
      exact hp
    · cases hA
  | x :: ls, w, h, H, pl, pl', hL, b1, b2, b3, b4, hN, hp, hA => by
    unfold foldA at hA
    split at hA
    · rename_i hf
      have hf' := hf
      unfold fold1 at hf'
      have hev := beq_iff_eq.mp hf'
      have hx := hL x List.mem_cons_self
      have hW : 1 ≤ fW x w ∧ fW x w ≤ 8 := by unfold fW; split <;> rename_i ha <;> (first | rw [if_pos ha] at hev | rw [if_neg ha] at hev) <;> omega
      have hHh : 1 ≤ fH x h ∧ fH x h ≤ 8 := by unfold fH; split <;> rename_i ha <;> (first | rw [if_pos ha] at hev | rw [if_neg ha] at hev) <;> omega
      have hN' : fW x w * fH x h * (2 * H) = N := by
        unfold fW fH
        split
        · rename_i ha
          rw [if_pos ha] at hev
          have h4 : w = w / 2 * 2 := by omega
          rw [← hN]
          calc w / 2 * h * (2 * H) = w / 2 * 2 * h * H := by rw [Nat.mul_assoc (w / 2) 2 h, Nat.mul_comm 2 h, ← Nat.mul_assoc (w / 2) h 2, Nat.mul_assoc _ 2 H]
            _ = w * h * H := by rw [← h4]
        · rename_i ha
          rw [if_neg ha] at hev
          have h4 : h = h / 2 * 2 := by omega
          rw [← hN]
          calc w * (h / 2) * (2 * H) = w * (h / 2 * 2) * H := by rw [← Nat.mul_assoc w (h / 2) 2, Nat.mul_assoc _ 2 H]
            _ = w * h * H := by rw [← h4]
      exact foldA_ok ls _ _ _ _ pl' (fun y hy => hL y (List.mem_cons_of_mem _ hy)) hW.1 hW.2 hHh.1 hHh.2 hN' (plOK_step hx hf b1 b2 b3 b4 hp) hA
    · cases hA
theorem bkl_ok {c r : Nat} {ls : List Nat} {lf : Nat → Nat} (hc : 1 ≤ c) (hr : 1 ≤ r) (hc8 : c ≤ 8) (hr8 : r ≤ 8) (hN : c * r ≤ 16) (hL : ∀ x ∈ ls, isLt x) (hb : bkl c r ls = some lf) : lfOK c r lf := by
  cases ls with
  | nil =>
    have hlf : lf = fun k => 4 * k := (Option.some.inj hb).symm
    rw [hlf]
    refine ⟨fun k hk => ?_, fun i j hi hj e => ?_⟩
    · show 4 * k < 64 ∧ 4 * k / 4 < c * r
      omega
    · change 4 * i / 4 = 4 * j / 4 at e
      omega
  | cons l t =>
    have hA : ∃ pl', foldA (l :: t) c r 1 (pl0 c) = some pl' ∧ lf = fun k => pl' 0 0 (c * r - 1 - k) := by
      unfold bkl at hb
      change Option.map _ (foldA (l :: t) c r 1 (pl0 c)) = _ at hb
      cases hA : foldA (l :: t) c r 1 (pl0 c) with
      | none => rw [hA] at hb; cases hb
      | some p => rw [hA] at hb; exact ⟨p, rfl, (Option.some.inj hb).symm⟩
    obtain ⟨pl', hA, hlf⟩ := hA
    have h0 : plOK (c * r) c r 1 (pl0 c) := by
      refine ⟨fun x y k hx hy hk => ?_, fun x y k x2 y2 k2 hx hy hk hx2 hy2 hk2 e => ?_⟩
      · have h1 : c * (y + 1) ≤ c * r := Nat.mul_le_mul_left c (by omega)
        rw [Nat.mul_add] at h1
        show 4 * (x + c * y) < 64 ∧ 4 * (x + c * y) / 4 < c * r
        omega
      · change 4 * (x + c * y) / 4 = 4 * (x2 + c * y2) / 4 at e
        have := xy_inj hx hx2 (show x + c * y = x2 + c * y2 by omega)
        exact ⟨this.1, this.2, by omega⟩
    have ok := foldA_ok (l :: t) c r 1 (pl0 c) pl' hL hc hc8 hr hr8 (by omega) h0 hA
    rw [hlf]
    refine ⟨fun k hk => ok.1 0 0 _ (by omega) (by omega) (by omega), fun i j hi hj e => ?_⟩
    have := (ok.2 0 0 (c * r - 1 - i) 0 0 (c * r - 1 - j) (by omega) (by omega) (by omega) (by omega) (by omega) (by omega) e).2.2
    omega
theorem xy_lt {c r x y : Nat} (hx : x < c) (hy : y < r) : x + c * y < c * r := by
  have h1 : c * (y + 1) ≤ c * r := Nat.mul_le_mul_left c (by omega)
  rw [Nat.mul_add] at h1
  omega
theorem pg_lt {c r wy p : Nat} {lf : Nat → Nat} (hc : 1 ≤ c) (ok : lfOK c r lf) (h1 : 1 ≤ p) (h2 : p ≤ 2 * (c * r)) : pgSd lf p ≤ 1 ∧ pgPl c r wy lf p < c * r ∧ pgL lf p < 64 ∧ pgL lf p / 4 < c * r := by
  have h3 := ok.1 ((p - 1) / 2) (by omega)
  have hd : pgL lf p / 4 / c < r := Nat.div_lt_of_lt_mul h3.2
  have hm : pgL lf p / 4 % c < c := Nat.mod_lt _ (by omega)
  refine ⟨by unfold pgSd; split <;> omega, ?_, h3⟩
  unfold pgPl
  split
  · exact h3.2
  · split
    · exact xy_lt hm (Nat.lt_of_le_of_lt (Nat.sub_le _ _) (Nat.sub_lt (Nat.lt_of_le_of_lt (Nat.zero_le _) hd) Nat.one_pos))
    · exact xy_lt (by omega) hd
theorem pg_inj {c r wy p q : Nat} {lf : Nat → Nat} (hc : 1 ≤ c) (ok : lfOK c r lf) (h1 : 1 ≤ p) (h2 : p ≤ 2 * (c * r)) (h3 : 1 ≤ q) (h4 : q ≤ 2 * (c * r)) (e1 : pgSd lf p = pgSd lf q) (e2 : pgPl c r wy lf p = pgPl c r wy lf q) : p = q := by
  obtain ⟨-, -, -, a3⟩ := pg_lt (wy := wy) hc ok h1 h2
  obtain ⟨-, -, -, b3⟩ := pg_lt (wy := wy) hc ok h3 h4
  have da : pgL lf p / 4 / c < r := Nat.div_lt_of_lt_mul a3
  have db : pgL lf q / 4 / c < r := Nat.div_lt_of_lt_mul b3
  have ma : pgL lf p / 4 % c < c := Nat.mod_lt _ (by omega)
  have mb : pgL lf q / 4 % c < c := Nat.mod_lt _ (by omega)
  have ea := Nat.mod_add_div (pgL lf p / 4) c
  have eb := Nat.mod_add_div (pgL lf q / 4) c
  have ec : pgL lf p / 4 = pgL lf q / 4 := by
    unfold pgPl at e2
    rw [← e1] at e2
    split at e2
    · exact e2
    · split at e2
      · have := xy_inj ma mb e2
        rw [← ea, ← eb, this.1, show pgL lf p / 4 / c = pgL lf q / 4 / c by omega]
      · have := xy_inj (by omega) (by omega) e2
        rw [← ea, ← eb, this.2, show pgL lf p / 4 % c = pgL lf q / 4 % c by omega]
  have ek := ok.2 _ _ (show (p - 1) / 2 < c * r by omega) (show (q - 1) / 2 < c * r by omega) ec
  have el : pgL lf p = pgL lf q := by unfold pgL; rw [ek]
  unfold pgSd at e1
  rw [el] at e1
  split at e1 <;> split at e1 <;> omega
/-- as many as there are places -/
theorem pigeon : ∀ (n : Nat) (f : Nat → Nat), (∀ i, i < n → f i < n) → (∀ i j, i < n → j < n → f i = f j → i = j) → ∀ j, j < n → ∃ i, i < n ∧ f i = j
  | 0, f, hf, hi, j, hj => by omega
  | n + 1, f, hf, hi, j, hj => by
    have ih := pigeon n (fun i => if f i = n then f n else f i) (fun i h => by
      show (if f i = n then f n else f i) < n
      have h1 := hf i (by omega)
      have h2 := hf n (by omega)
      split
      · rename_i e
        rcases Nat.lt_or_ge (f n) n with h3 | h3
        · exact h3
        · have := hi i n (by omega) (by omega) (by omega); omega
      · omega) (fun a b ha hb e => by
      change (if f a = n then f n else f a) = (if f b = n then f n else f b) at e
      split at e <;> split at e
      · exact hi a b (by omega) (by omega) (by omega)
      · have := hi n b (by omega) (by omega) e; omega
      · have := hi a n (by omega) (by omega) e; omega
      · exact hi a b (by omega) (by omega) e)
    by_cases h1 : j = f n
    · exact ⟨n, by omega, h1.symm⟩
    · by_cases h2 : j = n
      · have hfn : f n < n := by have := hf n (by omega); omega
        obtain ⟨i, hi1, hi2⟩ := ih (f n) hfn
        change (if f i = n then f n else f i) = f n at hi2
        split at hi2
        · rename_i e; exact ⟨i, by omega, by omega⟩
        · have := hi i n (by omega) (by omega) hi2; omega
      · obtain ⟨i, hi1, hi2⟩ := ih j (by omega)
        change (if f i = n then f n else f i) = j at hi2
        split at hi2
        · omega
        · exact ⟨i, by omega, hi2⟩
theorem pg_sur {c r wy : Nat} {lf : Nat → Nat} (hc : 1 ≤ c) (ok : lfOK c r lf) (sd i : Nat) (hs : sd ≤ 1) (hi : i < c * r) : ∃ p, 1 ≤ p ∧ p ≤ 2 * (c * r) ∧ pgSd lf p = sd ∧ pgPl c r wy lf p = i := by
  obtain ⟨q, h1, h2⟩ := pigeon (2 * (c * r)) (fun q => pgSd lf (q + 1) * (c * r) + pgPl c r wy lf (q + 1)) (fun q hq => by
    obtain ⟨a1, a2, -, -⟩ := pg_lt (wy := wy) hc ok (show 1 ≤ q + 1 by omega) (show q + 1 ≤ 2 * (c * r) by omega)
    have : pgSd lf (q + 1) * (c * r) ≤ 1 * (c * r) := Nat.mul_le_mul_right _ a1
    show pgSd lf (q + 1) * (c * r) + pgPl c r wy lf (q + 1) < 2 * (c * r)
    omega) (fun a b ha hb e => by
    obtain ⟨a1, a2, -, -⟩ := pg_lt (wy := wy) hc ok (show 1 ≤ a + 1 by omega) (show a + 1 ≤ 2 * (c * r) by omega)
    obtain ⟨b1, b2, -, -⟩ := pg_lt (wy := wy) hc ok (show 1 ≤ b + 1 by omega) (show b + 1 ≤ 2 * (c * r) by omega)
    change pgSd lf (a + 1) * (c * r) + pgPl c r wy lf (a + 1) = pgSd lf (b + 1) * (c * r) + pgPl c r wy lf (b + 1) at e
    have e1 : pgSd lf (a + 1) = pgSd lf (b + 1) := by
      rcases (show pgSd lf (a + 1) = 0 ∨ pgSd lf (a + 1) = 1 by omega) with h | h <;> rcases (show pgSd lf (b + 1) = 0 ∨ pgSd lf (b + 1) = 1 by omega) with h' | h' <;> rw [h, h'] at e ⊢ <;> omega
    have := pg_inj (wy := wy) hc ok (show 1 ≤ a + 1 by omega) (show a + 1 ≤ 2 * (c * r) by omega) (show 1 ≤ b + 1 by omega) (show b + 1 ≤ 2 * (c * r) by omega) e1 (by rw [e1] at e; omega)
    omega) (sd * (c * r) + i) (by have : sd * (c * r) ≤ 1 * (c * r) := Nat.mul_le_mul_right _ hs; omega)
  obtain ⟨a1, a2, -, -⟩ := pg_lt (wy := wy) hc ok (show 1 ≤ q + 1 by omega) (show q + 1 ≤ 2 * (c * r) by omega)
  change pgSd lf (q + 1) * (c * r) + pgPl c r wy lf (q + 1) = sd * (c * r) + i at h2
  have e1 : pgSd lf (q + 1) = sd := by
    rcases (show pgSd lf (q + 1) = 0 ∨ pgSd lf (q + 1) = 1 by omega) with h | h <;> rcases (show sd = 0 ∨ sd = 1 by omega) with h' | h' <;> rw [h, h'] at h2 ⊢ <;> omega
  exact ⟨q + 1, by omega, by omega, e1, by rw [e1] at h2; omega⟩
