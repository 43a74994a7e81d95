/-! the model's run: all pages of all sheets -/
def bkE (T a g cr dn c pl : Nat) (st : Nat → Nat) (G : Nat → Nat → Int32) : Prop :=
  G 20 (g - 1) = sN T ∧ G 15 a = sN T ∧ (T = 0 → G 16 a = 0 ∧ G 17 a = 0 ∧ G 18 a = 0 ∧ G 19 a = 0) ∧ (¬ T = 0 → G 21 T = sN cr ∧ G 16 a = sN dn ∧ G 17 a = edX (st 3) (st 5) (scl st) c pl cr g dn ∧ G 18 a = edY (st 4) (st 6) (scl st) c pl ∧ G 19 a = sN (scl st))
theorem lyOut_self {T a g cr dn c pl : Nat} {st : Nat → Nat} {G : Nat → Nat → Int32} : bkE T a g cr dn c pl st (lyOut T a g cr dn c pl st G) := by
  unfold lyOut bkE
  by_cases h : T = 0
  · rw [if_pos h]
    refine ⟨?_, ?_, fun _ => ⟨?_, ?_, ?_, ?_⟩, fun z => absurd h z⟩ <;> simp [lyW0, lyW1, va_up, upd]
  · rw [if_neg h]
    refine ⟨?_, ?_, fun z => absurd z h, fun _ => ⟨?_, ?_, ?_, ?_, ?_⟩⟩ <;> simp [lyW0, lyW1, lyW2, lyW3, lyW4, lyW5, va_up, upd]
theorem lyOut_at {T a g cr dn c pl : Nat} {st : Nat → Nat} {G : Nat → Nat → Int32} (k j : Nat) (hk : k = 15 ∨ k = 16 ∨ k = 17 ∨ k = 18 ∨ k = 19) (hj : ¬ j = a) : lyOut T a g cr dn c pl st G k j = G k j := by
  unfold lyOut
  by_cases h : T = 0
  · rw [if_pos h]
    rcases hk with rfl | rfl | rfl | rfl | rfl <;> simp [lyW0, lyW1, va_up, upd, hj]
  · rw [if_neg h]
    rcases hk with rfl | rfl | rfl | rfl | rfl <;> simp [lyW0, lyW1, lyW2, lyW3, lyW4, lyW5, va_up, upd, hj]
theorem lyOut_20 {T a g cr dn c pl : Nat} {st : Nat → Nat} {G : Nat → Nat → Int32} (j : Nat) : lyOut T a g cr dn c pl st G 20 j = if j = g - 1 then sN T else G 20 j := by
  unfold lyOut
  by_cases h : T = 0
  · rw [if_pos h]; simp [lyW0, lyW1, va_up, upd]
  · rw [if_neg h]; simp [lyW0, lyW1, lyW2, lyW3, lyW4, lyW5, va_up, upd]
theorem lyOut_21 {T a g cr dn c pl : Nat} {st : Nat → Nat} {G : Nat → Nat → Int32} (j : Nat) (hj : ¬ j = 0) : lyOut T a g cr dn c pl st G 21 j = if j = T then sN cr else G 21 j := by
  unfold lyOut
  by_cases h : T = 0
  · rw [if_pos h, if_neg (by omega)]; simp [lyW0, lyW1, va_up, upd]
  · rw [if_neg h]; simp [lyW0, lyW1, lyW2, lyW3, lyW4, lyW5, va_up, upd]
theorem lyOut_other {T a g cr dn c pl T' a' g' cr' dn' c' pl' : Nat} {st : Nat → Nat} {G : Nat → Nat → Int32} (ha : ¬ a' = a) (hg : g' - 1 = g - 1 → T' = T) (hT : T' = T → ¬ T' = 0 → cr' = cr) (h : bkE T' a' g' cr' dn' c' pl' st G) : bkE T' a' g' cr' dn' c' pl' st (lyOut T a g cr dn c pl st G) := by
  obtain ⟨h1, h2, h3, h4⟩ := h
  unfold bkE
  rw [lyOut_20, lyOut_at 15 a' (by omega) ha, lyOut_at 16 a' (by omega) ha, lyOut_at 17 a' (by omega) ha, lyOut_at 18 a' (by omega) ha, lyOut_at 19 a' (by omega) ha]
  refine ⟨?_, h2, h3, fun hz => ?_⟩
  · split
    · rename_i e; rw [hg e]
    · exact h1
  · obtain ⟨i1, i2⟩ := h4 hz
    rw [lyOut_21 T' hz]
    refine ⟨?_, i2⟩
    split
    · rename_i e; rw [hT e hz]
    · exact i1
theorem lyOut_fr {T a g cr dn c pl : Nat} {st : Nat → Nat} {G : Nat → Nat → Int32} : fr [15, 16, 17, 18, 19, 20, 21] G (lyOut T a g cr dn c pl st G) := by
  unfold lyOut
  split
  · exact fr_vup (fr_vup (fr_vup (fr_vup (fr_vup (fr_vup fr_rfl (by decide)) (by decide)) (by decide)) (by decide)) (by decide)) (by decide)
  · exact fr_vup (fr_vup (fr_vup (fr_vup (fr_vup (fr_vup (fr_vup (fr_vup (fr_vup (fr_vup (fr_vup fr_rfl (by decide)) (by decide)) (by decide)) (by decide)) (by decide)) (by decide)) (by decide)) (by decide)) (by decide)) (by decide)) (by decide)
def bkP (c r sh n wy : Nat) (st : Nat → Nat) (lf : Nat → Nat) (D : Nat → Nat → Prop) (G : Nat → Nat → Int32) : Prop := ∀ s p, s < sh → 1 ≤ p → p ≤ 2 * (c * r) → D s p → bkE (tld (st 2) n (sh * (2 * (c * r)) - n) (plc (st 0) (c * r) sh s p)) (32 * s + (c * r * pgSd lf p + pgPl c r wy lf p)) (plc (st 0) (c * r) sh s p) (crp (st 0) (c * r) sh (st 7) (st 8) (plc (st 0) (c * r) sh s p)) (pgDn wy lf p) c (pgPl c r wy lf p) st G
theorem tld_inj {b n bl g g' : Nat} (h : tld b n bl g = tld b n bl g') (h0 : ¬ tld b n bl g = 0) : g = g' := by
  unfold tld at h h0
  split at h <;> split at h <;> split at h <;> simp_all <;> omega
theorem bkP_step {c r sh n wy s p : Nat} {st lf : Nat → Nat} {D D' : Nat → Nat → Prop} {G : Nat → Nat → Int32} (hc : 1 ≤ c) (hN : c * r ≤ 16) (ok : lfOK c r lf) (hs : s < sh) (h1 : 1 ≤ p) (h2 : p ≤ 2 * (c * r)) (hD : ∀ s' p', D' s' p' → D s' p' ∨ (s' = s ∧ p' = p)) (h : bkP c r sh n wy st lf D G) : bkP c r sh n wy st lf D' (lyOut (tld (st 2) n (sh * (2 * (c * r)) - n) (plc (st 0) (c * r) sh s p)) (32 * s + (c * r * pgSd lf p + pgPl c r wy lf p)) (plc (st 0) (c * r) sh s p) (crp (st 0) (c * r) sh (st 7) (st 8) (plc (st 0) (c * r) sh s p)) (pgDn wy lf p) c (pgPl c r wy lf p) st G) := by
  intro s' p' hs' h1' h2' hd
  by_cases e : s' = s ∧ p' = p
  · rw [e.1, e.2]; exact lyOut_self
  · have hd' : D s' p' := (hD s' p' hd).resolve_right e
    have b := h s' p' hs' h1' h2' hd'
    obtain ⟨a1, a2, -, -⟩ := pg_lt (wy := wy) hc ok h1 h2
    obtain ⟨a1', a2', -, -⟩ := pg_lt (wy := wy) hc ok h1' h2'
    have r1 := plc_r (bd := st 0) hs h1 h2
    have r1' := plc_r (bd := st 0) hs' h1' h2'
    refine lyOut_other (fun z => e ?_) (fun z => ?_) (fun z z0 => ?_) b
    · have k1 : c * r * pgSd lf p ≤ c * r * 1 := Nat.mul_le_mul_left _ a1
      have k2 : c * r * pgSd lf p' ≤ c * r * 1 := Nat.mul_le_mul_left _ a1'
      have es : s' = s := by omega
      have ek : c * r * pgSd lf p' + pgPl c r wy lf p' = c * r * pgSd lf p + pgPl c r wy lf p := by omega
      have ed : pgSd lf p' = pgSd lf p := by
        rcases (show pgSd lf p = 0 ∨ pgSd lf p = 1 by omega) with u | u <;> rcases (show pgSd lf p' = 0 ∨ pgSd lf p' = 1 by omega) with u' | u' <;> rw [u, u'] at ek ⊢ <;> omega
      exact ⟨es, pg_inj (wy := wy) hc ok h1' h2' h1 h2 ed (by rw [ed] at ek; omega)⟩
    · rw [show plc (st 0) (c * r) sh s' p' = plc (st 0) (c * r) sh s p by omega]
    · rw [tld_inj z z0]
theorem g_run212 {c r sh n wy s : Nat} {st lf : Nat → Nat} {Q : Res → Prop} (hb : bkB c (c * r) sh n st) (ok : lfOK c r lf) (hs : s < sh) (Y : Nat → Int32) (y6 : Y 6 = sN c) (y7 : Y 7 = sN r) (y16 : Y 16 = sN sh) (y19 : Y 19 = sN (sh * (2 * (c * r)) - n)) : ∀ (m p : Nat) (lv : Nat → Int32) (G : Nat → Nat → Int32), p + m = 2 * (c * r) + 1 → 1 ≤ p → lv 1 = sN n → lv 2 = sN (2 * (c * r)) → lv 4 = sN s → lv 5 = sN p → stF st (G 14) → pgM c r wy (c * r) lf G → bkP c r sh n wy st lf (fun s' p' => s' < s ∨ (s' = s ∧ p' < p)) G →
    (∀ (lv' : Nat → Int32) (G' : Nat → Nat → Int32), lv' 1 = sN n → lv' 2 = sN (2 * (c * r)) → lv' 4 = sN (s + 1) → fr [15, 16, 17, 18, 19, 20, 21] G G' → bkP c r sh n wy st lf (fun s' _ => s' < s + 1) G' → Go (fun n => L_Mo_run n 200 lv' Y G') Q) → Go (fun n => L_Mo_run n 212 lv Y G) Q
  | 0, p, lv, G, hm, hp, l1, l2, l4, l5, g14, hP, hB, hK => by
    obtain ⟨bc, bN, bs, bB, bn, bn2, bst⟩ := hb
    refine Go_S ?_
    simp only [L_Mo_run, ↓reduceIte, Nat.reduceEqDiff]
    refine Go_pos (by rw [l2, l5, sN_lt (by omega) (by omega)]; omega) (hK _ G l1 l2 ?_ fr_rfl (fun s' p' a b d e => hB s' p' a b d (by omega)))
    show lv 4 + Int32.ofInt 1 = _
    rw [l4]; exact sN_add s 1
  | m + 1, p, lv, G, hm, hp, l1, l2, l4, l5, g14, hP, hB, hK => by
    have hb' := hb
    obtain ⟨bc, bN, bs, bB, bn, bn2, bst⟩ := hb'
    refine Go_S ?_
    simp only [L_Mo_run, ↓reduceIte, Nat.reduceEqDiff]
    refine Go_neg (by rw [l2, l5, sN_lt (by omega) (by omega)]; omega) ?_
    rw [l1, l4, l5, y19]
    refine Go_bind (e_Mo_lay hb ok rfl Y G y6 y7 y16 g14 hP hs hp (by omega)) (fun q hq => ?_)
    rw [hq]
    have hf := lyOut_fr (T := tld (st 2) n (sh * (2 * (c * r)) - n) (plc (st 0) (c * r) sh s p)) (a := 32 * s + (c * r * pgSd lf p + pgPl c r wy lf p)) (g := plc (st 0) (c * r) sh s p) (cr := crp (st 0) (c * r) sh (st 7) (st 8) (plc (st 0) (c * r) sh s p)) (dn := pgDn wy lf p) (c := c) (pl := pgPl c r wy lf p) (st := st) (G := G)
    refine g_run212 hb ok hs Y y6 y7 y16 y19 m (p + 1) _ _ (by omega) (by omega) rfl l2 rfl (sN_add p 1) (by show stF st (lyOut _ _ _ _ _ _ _ _ _ 14); rw [hf 14 (by decide)]; exact g14) (fun p' u v => by show lyOut _ _ _ _ _ _ _ _ _ 11 p' = _ ∧ lyOut _ _ _ _ _ _ _ _ _ 12 p' = _ ∧ lyOut _ _ _ _ _ _ _ _ _ 13 p' = _; rw [hf 11 (by decide), hf 12 (by decide), hf 13 (by decide)]; exact hP p' u v) (bkP_step bc.1 bN.2 ok hs hp (by omega) (fun s' p' d => by omega) hB) (fun lv' G' m1 m2 m4 hf' hB' => hK lv' G' m1 m2 m4 (fr_trans hf hf') hB')
theorem g_run200 {c r sh n wy : Nat} {st lf : Nat → Nat} (hb : bkB c (c * r) sh n st) (ok : lfOK c r lf) (Y : Nat → Int32) (y6 : Y 6 = sN c) (y7 : Y 7 = sN r) (y16 : Y 16 = sN sh) (y19 : Y 19 = sN (sh * (2 * (c * r)) - n)) : ∀ (m s : Nat) (lv : Nat → Int32) (G : Nat → Nat → Int32), s + m = sh → lv 1 = sN n → lv 2 = sN (2 * (c * r)) → lv 4 = sN s → stF st (G 14) → pgM c r wy (c * r) lf G → bkP c r sh n wy st lf (fun s' _ => s' < s) G → Go (fun n => L_Mo_run n 200 lv Y G) (fun q => q.1 = sN sh ∧ q.2.1 = Y ∧ fr [15, 16, 17, 18, 19, 20, 21] G q.2.2 ∧ bkP c r sh n wy st lf (fun _ _ => True) q.2.2)
  | 0, s, lv, G, hm, l1, l2, l4, g14, hP, hB => by
    obtain ⟨bc, bN, bs, bB, bn, bn2, bst⟩ := hb
    refine Go_S ?_
    simp only [L_Mo_run, ↓reduceIte, Nat.reduceEqDiff]
    exact Go_pos (by rw [y16, l4, sN_le (by omega) (by omega)]; omega) (Go_ret ⟨y16, rfl, fr_rfl, fun s' p' a b d _ => hB s' p' a b d (by omega)⟩)
  | m + 1, s, lv, G, hm, l1, l2, l4, g14, hP, hB => by
    have hb' := hb
    obtain ⟨bc, bN, bs, bB, bn, bn2, bst⟩ := hb'
    refine Go_S ?_
    simp only [L_Mo_run, ↓reduceIte, Nat.reduceEqDiff]
    refine Go_neg (by rw [y16, l4, sN_le (by omega) (by omega)]; omega) ?_
    refine g_run212 (wy := wy) hb ok (show s < sh by omega) Y y6 y7 y16 y19 (2 * (c * r)) 1 _ G (by omega) (by omega) l1 l2 l4 rfl g14 hP (fun s' p' a b d e => hB s' p' a b d (by omega)) (fun lv' G' m1 m2 m4 hf hB' => ?_)
    exact Go_mono (g_run200 hb ok Y y6 y7 y16 y19 m (s + 1) lv' G' (by omega) m1 m2 m4 (by rw [hf 14 (by decide)]; exact g14) (fun p' u v => by rw [hf 11 (by decide), hf 12 (by decide), hf 13 (by decide)]; exact hP p' u v) hB') (fun q hq => ⟨hq.1, hq.2.1, fr_trans hf hq.2.2.1, hq.2.2.2⟩)
