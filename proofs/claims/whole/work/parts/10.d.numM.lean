/-! the model reads numbers; signs -/
theorem cw_digM {t : Nat → Nat} {Y : Nat → Int32} {G : Nat → Nat → Int32} {p : Nat} (hT : tapeOK t (Y 2) (G 0)) (hp : Y 3 = sN p) (hr : p < 10000) : (f_Mo_isDigit Y G = sN 0) = ¬ (48 ≤ t p ∧ t p ≤ 57) := by
  have e : f_Mo_isDigit Y G = f_Re_isDigit (cw (t p)) := by unfold f_Mo_isDigit; rw [tk_byteAt hT hp hr]; rfl
  rw [e]; exact cw_dig (tk_r hT p)
def rdM (Y : Nat → Int32) (G : Nat → Nat → Int32) (z : Nat ⊕ (Nat × Nat)) (r : Int32 × (Nat → Int32) × (Nat → Nat → Int32)) : Prop :=
  r.2.2 = G ∧ fr [3, 4] Y r.2.1 ∧ match z with
  | .inl w => r.2.1 4 = sN w
  | .inr q => r.1 = sN q.1 ∧ r.2.1 3 = sN q.2 ∧ r.2.1 4 = -1
theorem mo_fail (Y : Nat → Int32) (G : Nat → Nat → Int32) (w : Int32) (h : Y 4 = -1) (n : Nat) : f_Mo_fail n Y G w = some (0, upd Y 4 w, G) := by
  unfold f_Mo_fail; rw [if_neg (fun z => z h)]
theorem g_Mo_number (t : Nat → Nat) (most p0 : Nat) (hp0 : p0 < 1000) (hmo : most < 1000000) : ∀ (m p v : Nat), (m = 3 ∧ v < 1) ∨ (m = 2 ∧ v < 10) ∨ (m = 1 ∧ v < 100) ∨ (m = 0 ∧ v < 1000) → p + m = p0 + 3 → (p = p0 → 48 ≤ t p ∧ t p ≤ 57) → ∀ (lv Y : Nat → Int32) (G : Nat → Nat → Int32), lv 1 = sN most → lv 2 = sN p0 → lv 3 = sN v → Y 3 = sN p → Y 4 = -1 → tapeOK t (Y 2) (G 0) → Go (fun n => L_Mo_number n 22 lv Y G) (rdM Y G (nuL t most p0 m p v)) := by
  intro m
  induction m with
  | zero =>
    intro p v hv hp hq lv Y G h1 h2 h3 hY3 hY4 hT
    have hn := tk_byteAt hT hY3 (by omega)
    have hi := tk_inM hT hY3 (by omega)
    have hr := tk_r hT p
    refine Go_S ?_
    simp (disch := omega) only [L_Mo_number, h1, h2, h3, hY4, cw_digM hT hY3, ↓reduceIte, not_true_eq_false]
    refine Go_pos hi (Go_pos (Or.inr hi) ?_)
    unfold nuL
    refine Go_ite (fun hd => ?_) (fun hd => ?_)
    · rw [wN_0, cw_digM hT hY3 (by omega)] at hd
      rw [if_neg hd, if_neg (by omega)]
      refine Go_ite (fun hl => ?_) (fun hl => Go_ite (fun hl2 => ?_) (fun hl2 => ?_))
      · rw [wN_1, sN_lt (by omega) (by omega)] at hl
        rw [if_neg (by omega)]
        simp only [mo_fail Y G _ hY4, Option.bind_some]
        exact Go_ret ⟨rfl, fr_upd fr_rfl (by decide), rfl⟩
      · rw [wN_1, sN_lt (by omega) (by omega)] at hl
        rw [sN_le (by omega) (by omega)] at hl2
        rw [if_pos (by omega)]
        exact Go_ret ⟨rfl, fr_rfl, rfl, hY3, hY4⟩
      · rw [wN_1, sN_lt (by omega) (by omega)] at hl
        rw [sN_le (by omega) (by omega)] at hl2
        rw [if_neg (by omega)]
        simp only [mo_fail Y G _ hY4, Option.bind_some]
        exact Go_ret ⟨rfl, fr_upd fr_rfl (by decide), rfl⟩
    · rw [wN_0, cw_digM hT hY3 (by omega)] at hd
      rw [if_pos (Classical.not_not.mp hd)]
      refine Go_neg (by rw [hY3, wN_3, sN_add, sN_eq (by omega) (by omega)]; omega) ?_
      simp only [mo_fail Y G _ hY4, Option.bind_some]
      refine Go_S ?_
      have e4 : ¬ upd Y 4 (Y 3) 4 = -1 := by show ¬ Y 3 = -1; rw [hY3]; intro z; have := sN_nm (a := p) (b := 1) (by omega) (by omega) (by omega); rw [← this]; exact z
      simp only [L_Mo_number, ↓reduceIte]
      exact Go_pos e4 (Go_pos e4 (Go_ret ⟨rfl, fr_upd fr_rfl (by decide), hY3⟩))
  | succ m ih =>
    intro p v hv hp hq lv Y G h1 h2 h3 hY3 hY4 hT
    have hn := tk_byteAt hT hY3 (by omega)
    have hi := tk_inM hT hY3 (by omega)
    have hr := tk_r hT p
    refine Go_S ?_
    simp (disch := omega) only [L_Mo_number, h1, h2, h3, hY4, ↓reduceIte, not_true_eq_false]
    refine Go_pos hi (Go_pos (Or.inr hi) ?_)
    unfold nuL
    refine Go_ite (fun hd => ?_) (fun hd => ?_)
    · rw [wN_0, cw_digM hT hY3 (by omega)] at hd
      rw [if_neg hd, if_neg (fun z => hd (hq z))]
      refine Go_ite (fun hl => ?_) (fun hl => Go_ite (fun hl2 => ?_) (fun hl2 => ?_))
      · rw [wN_1, sN_lt (by omega) (by omega)] at hl
        rw [if_neg (by omega)]
        simp only [mo_fail Y G _ hY4, Option.bind_some]
        exact Go_ret ⟨rfl, fr_upd fr_rfl (by decide), rfl⟩
      · rw [wN_1, sN_lt (by omega) (by omega)] at hl
        rw [sN_le (by omega) (by omega)] at hl2
        rw [if_pos (by omega)]
        exact Go_ret ⟨rfl, fr_rfl, rfl, hY3, hY4⟩
      · rw [wN_1, sN_lt (by omega) (by omega)] at hl
        rw [sN_le (by omega) (by omega)] at hl2
        rw [if_neg (by omega)]
        simp only [mo_fail Y G _ hY4, Option.bind_some]
        exact Go_ret ⟨rfl, fr_upd fr_rfl (by decide), rfl⟩
    · rw [wN_0, cw_digM hT hY3 (by omega)] at hd
      have hd' := Classical.not_not.mp hd
      rw [if_pos hd']
      refine Go_pos (by rw [hY3, wN_3, sN_add, sN_eq (by omega) (by omega)]; omega) (Go_pos hi ?_)
      refine Go_mono (ih (p + 1) (10 * v + (t p - 48)) (by omega) (by omega) (by omega) _ _ G rfl rfl ?_ ?_ hY4 hT) (fun r hr2 => ?_)
      · show (10 : Int32) * sN v + f_Mo_byteAt Y G - 48 = _
        rw [hn]
        unfold cw
        rw [if_neg (by omega), wN_10, sN_mul, sN_add, wN_48, sN_sub (by omega)]; congr 1; omega
      · show Y 3 + 1 = _; rw [hY3]; exact sN_add p 1
      · obtain ⟨a, b, c⟩ := hr2
        exact ⟨a, fr_trans (fr_upd fr_rfl (by decide)) b, c⟩
theorem e_Mo_number (t : Nat → Nat) (most p0 : Nat) (hp0 : p0 < 1000) (hmo : most < 1000000) (Y : Nat → Int32) (G : Nat → Nat → Int32) (h3 : Y 3 = sN p0) (h4 : Y 4 = -1) (hT : tapeOK t (Y 2) (G 0)) : Go (fun n => f_Mo_number n Y G (sN most)) (rdM Y G (nuS t most p0)) := by
  have hi := tk_inM hT h3 (by omega)
  unfold f_Mo_number
  refine Go_pos hi (Go_pos (Or.inr hi) ?_)
  refine Go_ite (fun hd => ?_) (fun hd => ?_)
  · rw [wN_0, cw_digM hT h3 (by omega)] at hd
    exact g_Mo_number t most p0 hp0 hmo 3 p0 0 (by omega) rfl (fun _ => Classical.not_not.mp hd) _ Y G rfl h3 rfl h3 h4 hT
  · rw [wN_0, cw_digM hT h3 (by omega)] at hd
    simp only [mo_fail Y G _ h4, Option.bind_some]
    have e4 : ¬ upd Y 4 (Y 3) 4 = -1 := by show ¬ Y 3 = -1; rw [h3]; intro z; have := sN_nm (a := p0) (b := 1) (by omega) (by omega) (by omega); rw [← this]; exact z
    refine Go_S ?_
    simp only [L_Mo_number, ↓reduceIte]
    refine Go_pos e4 (Go_pos e4 (Go_ret ⟨rfl, fr_upd fr_rfl (by decide), ?_⟩))
    unfold nuS nuL
    rw [if_neg (Classical.not_not.mp hd), if_pos rfl]
    exact h3
/-- one letter -/
theorem e_expect (t : Nat → Nat) (p k : Nat) (hp : p < 1000) (hk : k < 256 ∨ k = 1000) (X : Nat → Int32) (F : Nat → Nat → Int32) (h1 : X 1 = sN p) (hT : tapeOK t (X 0) (F 0)) : Go (fun n => f_Re_expect n X F (cw k)) (fun r => r.2.2 = F ∧ fr [1, 2, 3] X r.2.1 ∧ if t p = k then r.1 = 1 ∧ r.2.1 1 = sN (p + 1) else r.1 = 0 ∧ r.2.1 2 = sN p) := by
  have hi := tk_in hT h1 (by omega)
  have hn := tk_next hT h1 (by omega)
  have hr := tk_r hT p
  unfold f_Re_expect
  refine Go_pos hi ?_
  have e : (f_Re_next X F = cw k) = (t p = k) := by
    rw [hn]
    rcases hk with hk | hk
    · rw [show cw k = sN k by unfold cw; rw [if_neg (by omega)], cw_eq hr hk]
    · rw [hk]; exact cw_m1 hr
  refine Go_ite (fun hd => ?_) (fun hd => ?_)
  · rw [e] at hd
    refine Go_ret ⟨rfl, fr_upd fr_rfl (by decide), ?_⟩
    rw [if_pos hd]
    refine ⟨rfl, ?_⟩
    show X 1 + 1 = _; rw [h1]; exact sN_add p 1
  · rw [e] at hd
    refine Go_bind (Go_ret rfl) (fun q hq => ?_)
    rw [← hq]
    refine Go_pos (Or.inl rfl) (Go_ret ⟨rfl, fr_upd fr_rfl (by decide), ?_⟩)
    rw [if_neg hd]
    exact ⟨rfl, h1⟩
theorem e_Mo_sign (t : Nat → Nat) (p k : Nat) (hp : p < 1000) (hk : k < 256) (Y : Nat → Int32) (G : Nat → Nat → Int32) (h3 : Y 3 = sN p) (h4 : Y 4 = -1) (hT : tapeOK t (Y 2) (G 0)) : Go (fun n => f_Mo_sign n Y G (sN k)) (fun r => r.2.2 = G ∧ fr [3, 4] Y r.2.1 ∧ if t p = k then r.2.1 3 = sN (p + 1) ∧ r.2.1 4 = -1 else r.2.1 4 = sN p) := by
  have hi := tk_inM hT h3 (by omega)
  have hn := tk_byteAt hT h3 (by omega)
  have hr := tk_r hT p
  unfold f_Mo_sign
  refine Go_pos h4 (Go_pos hi ?_)
  refine Go_ite (fun hd => ?_) (fun hd => ?_)
  · rw [hn, cw_eq hr hk] at hd
    simp only [mo_fail Y G _ h4, Option.bind_some]
    refine Go_ret ⟨rfl, fr_upd fr_rfl (by decide), ?_⟩
    rw [if_neg hd]
    exact h3
  · rw [hn, cw_eq hr hk] at hd
    refine Go_ret ⟨rfl, fr_upd fr_rfl (by decide), ?_⟩
    rw [if_pos (Classical.not_not.mp hd)]
    refine ⟨?_, h4⟩
    show Y 3 + 1 = _; rw [h3]; exact sN_add p 1
