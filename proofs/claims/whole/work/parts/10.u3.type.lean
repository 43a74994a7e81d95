/-! typing agrees; a scheme that stands -/
def tapI (X : Nat → Int32) (F : Nat → Nat → Int32) (Y : Nat → Int32) (G : Nat → Nat → Int32) : Prop := ∃ t, tapeOK t (X 0) (F 0) ∧ tapeOK t (Y 1) (G 0)
theorem tape_app {t : Nat → Nat} {x0 : Int32} {f0 : Nat → Int32} {s k : Nat} {b : Nat → Int32} {cs : Nat → Nat} (h1 : s + k ≤ 200) (h : tapeOK t x0 f0) (hx : x0 = sN s) (hc : ∀ i, i < k → cs i < 256 ∧ b i = sN (cs i)) : tapeOK (fun j => if s ≤ j ∧ j < s + k then cs (j - s) else t j) (sN (s + k)) (tpF f0 s 0 k b) := by
  obtain ⟨s', a1, a2, a3, a4⟩ := h
  have es : s' = s := by
    rw [hx, sN_eq (by omega) (by omega)] at a2; exact a2.symm
  subst es
  refine ⟨s' + k, h1, rfl, fun p hp => ?_, fun p hp => ?_⟩
  · show (if s' ≤ p ∧ p < s' + k then cs (p - s') else t p) < 256 ∧ (if s' + 0 ≤ p ∧ p < s' + k then b (p - s') else f0 p) = sN (if s' ≤ p ∧ p < s' + k then cs (p - s') else t p)
    by_cases e : s' ≤ p ∧ p < s' + k
    · rw [if_pos e, if_pos (by omega)]; exact hc _ (by omega)
    · rw [if_neg e, if_neg (by omega)]; exact a3 p (by omega)
  · show (if s' ≤ p ∧ p < s' + k then cs (p - s') else t p) = 1000
    rw [if_neg (by omega)]; exact a4 p (by omega)
theorem ag_type {X : Nat → Int32} {F : Nat → Nat → Int32} {Y : Nat → Int32} {G : Nat → Nat → Int32} (h : tapI X F Y G) (v : Int64) (b : Int32) : ∃ w X' F' Y' G', Go (fun n => f_Im_type n X F v b) (fun q => q = (w, X', F')) ∧ Go (fun n => f_Mo_type n Y G v b) (fun q => q = (w, Y', G')) ∧ tapI X' F' Y' G' ∧ fr [0] X X' ∧ fr [0] F F' ∧ fr [0, 1] Y Y' ∧ fr [0] G G' := by
  obtain ⟨z, z1, z2, rfl⟩ := sI_ex b
  have w1 : (1 : Int32) = sI 1 := rfl
  have w8 : (8 : Int32) = sI 8 := rfl
  have w200 : (200 : Int32) = sI 200 := rfl
  have h0 := h
  obtain ⟨t, ⟨s, s1, s2, s3, s4⟩, ⟨s', s1', s2', s3', s4'⟩⟩ := h
  have es : s' = s := by
    rcases Nat.lt_or_ge s s' with k | k
    · have := (s3' s k).1; have := s4 s (by omega); omega
    · rcases Nat.lt_or_ge s' s with k' | k'
      · have := (s3 s' k').1; have := s4' s' (by omega); omega
      · omega
  subst es
  by_cases hin : 1 ≤ z ∧ z ≤ 8 ∧ s' + z ≤ 200
  · obtain ⟨k, rfl, hk⟩ : ∃ k : Nat, z = (k : Int) ∧ 1 ≤ k := ⟨z.toNat, by omega, by omega⟩
    have a := g_append v s' k (by omega) (by omega) k 0 (by omega) (upd (upd am_lv0 3 (sN k)) 4 0) X F rfl rfl s2
    have a' := g_Mo_type v s' k (by omega) (by omega) k 0 (by omega) (upd (upd am_lv0 3 (sN k)) 4 0) (upd Y 0 0) G rfl rfl s2'
    have hcs : ∀ i, ∃ c : Nat, c < 256 ∧ byC v i = sN c := by_lt v
    refine ⟨1, upd X 0 (sN (s' + k)), va_up F 0 (tpF (F 0) s' 0 k (byC v)), upd (upd Y 0 0) 1 (sN (s' + k)), va_up G 0 (tpF (G 0) s' 0 k (byM v)), ?_, ?_, ?_, fr_upd fr_rfl (by decide), fr_vup fr_rfl (by decide), fr_upd (fr_upd fr_rfl (by decide)) (by decide), fr_vup fr_rfl (by decide)⟩
    · unfold f_Im_type f_Ta_append
      rw [← sN_sI]
      refine Go_bind (Q := fun r => r = (1, upd X 0 (sN (s' + k)), va_up F 0 (tpF (F 0) s' 0 k (byC v)))) (Go_neg ?_ (Go_neg ?_ (Go_pos ?_ a))) (fun q hq => ?_)
      · rw [wN_1, sN_lt (by omega) (by omega)]; omega
      · rw [wN_8, sN_lt (by omega) (by omega)]; omega
      · rw [s2, sN_add, wN_200, sN_le (by omega) (by omega)]; omega
      · rw [hq]; exact Go_pos (Or.inr rfl) (Go_ret rfl)
    · unfold f_Mo_type
      rw [← sN_sI]
      refine Go_neg ?_ (Go_neg ?_ (Go_pos ?_ a'))
      · rw [wN_1, sN_lt (by omega) (by omega)]; omega
      · rw [wN_8, sN_lt (by omega) (by omega)]; omega
      · rw [s2', sN_add, wN_200, sN_le (by omega) (by omega)]; omega
    · refine ⟨fun j => if s' ≤ j ∧ j < s' + k then (fun i => Classical.choose (hcs i)) (j - s') else t j, ?_, ?_⟩
      · exact tape_app (cs := fun i => Classical.choose (hcs i)) (by omega) ⟨s', s1, s2, s3, s4⟩ s2 (fun i hi => Classical.choose_spec (hcs i))
      · exact tape_app (cs := fun i => Classical.choose (hcs i)) (by omega) ⟨s', s1', s2', s3', s4'⟩ s2' (fun i hi => ⟨(Classical.choose_spec (hcs i)).1, by rw [← by_eq v i (by omega)]; exact (Classical.choose_spec (hcs i)).2⟩)
  · refine ⟨0, X, F, upd Y 0 0, G, ?_, ?_, h0, fr_rfl, fr_rfl, fr_upd fr_rfl (by decide), fr_rfl⟩
    · unfold f_Im_type f_Ta_append
      refine Go_bind (Q := fun r => r = (0, X, F)) (Go_ite (fun _ => Go_ret rfl) (fun k1 => Go_ite (fun _ => Go_ret rfl) (fun k2 => Go_neg ?_ (Go_ret rfl)))) (fun q hq => ?_)
      · rw [w1, sI_lt z1 z2 (by omega) (by omega)] at k1
        rw [w8, sI_lt (by omega) (by omega) z1 z2] at k2
        rw [s2, sN_sI, sI_add, w200, sI_le (by omega) (by omega) (by omega) (by omega)]; omega
      · rw [hq]; exact Go_pos (Or.inl rfl) (Go_ret rfl)
    · unfold f_Mo_type
      refine Go_ite (fun _ => Go_ret rfl) (fun k1 => Go_ite (fun _ => Go_ret rfl) (fun k2 => Go_neg ?_ (Go_ret rfl)))
      rw [w1, sI_lt z1 z2 (by omega) (by omega)] at k1
      rw [w8, sI_lt (by omega) (by omega) z1 z2] at k2
      rw [s2', sN_sI, sI_add, w200, sI_le (by omega) (by omega) (by omega) (by omega)]; omega
def schV (s : Sch) : Prop := 1 ≤ s.1 ∧ 1 ≤ s.2.1 ∧ s.1 ≤ 8 ∧ s.2.1 ≤ 8 ∧ s.1 * s.2.1 ≤ 16 ∧ s.2.2.1.length ≤ 6 ∧ (∀ x ∈ s.2.2.1, isLt x) ∧ bkl s.1 s.2.1 s.2.2.1 = some s.2.2.2.1
theorem paS_v {t : Nat → Nat} {s : Sch} (h : paS t = .inr s) : schV s := by
  unfold paS at h
  cases hz : szS t with
  | inl w => rw [hz] at h; cases h
  | inr z =>
    obtain ⟨z1, z2, z3, z4, z5, z6⟩ := szS_r hz
    rw [hz, sb_inr] at h
    cases hf : foS t z.1 z.2.1 z.2.2 6 z.2.2 [] with
    | inl w => rw [hf] at h; cases h
    | inr f =>
      obtain ⟨g1, g2, g3, g4⟩ := foS_r hf (fun x hx => absurd hx List.not_mem_nil)
      have g2' : f.1.length ≤ 6 := by simpa using g2
      rw [hf, sb_inr] at h
      split at h
      · cases hp : pgS t (z.1 * z.2.1) (2 * (z.1 * z.2.1)) 0 (f.2.2 + 1) A0 with
        | inl w => rw [hp] at h; cases h
        | inr q =>
          rw [hp, sb_inr] at h
          split at h
          · cases h; exact ⟨z1, z3, z2, z4, z5, g2', g1, g4⟩
          · cases h
      · split at h
        · cases h; exact ⟨z1, z3, z2, z4, z5, g2', g1, g4⟩
        · cases h
def schI (x0 x1 x2 x3 : Int32) (f0 f1 f2 f3 : Nat → Int32) (Y : Nat → Int32) (G : Nat → Nat → Int32) : Prop := (x0 = 0 ∧ x1 = 0 ∧ x3 = 0 ∧ Y 5 = 0 ∧ Y 6 = 0 ∧ Y 7 = 0) ∨ ∃ s, schV s ∧ schC s x0 x1 x2 x3 f0 f1 f2 f3 ∧ schM s (Y 5) (Y 6) (Y 7) (Y 8) (Y 9) (G 1) (G 2) (G 3)
theorem schI_cg {x0 x1 x2 x3 : Int32} {f0 f1 f2 f3 : Nat → Int32} {Y Y' : Nat → Int32} {G G' : Nat → Nat → Int32} (h : schI x0 x1 x2 x3 f0 f1 f2 f3 Y G) (hY : ∀ k ∈ [5, 6, 7, 8, 9], Y' k = Y k) (hG : ∀ k ∈ [1, 2, 3], G' k = G k) : schI x0 x1 x2 x3 f0 f1 f2 f3 Y' G' := by
  unfold schI
  rw [hY 5 (by decide), hY 6 (by decide), hY 7 (by decide), hY 8 (by decide), hY 9 (by decide), hG 1 (by decide), hG 2 (by decide), hG 3 (by decide)]
  exact h
def schB (b : Bool) (X : Nat → Int32) (F : Nat → Nat → Int32) (Y : Nat → Int32) (G : Nat → Nat → Int32) : Prop := match b with
  | false => schI (X 21) (X 22) (X 23) (X 24) (F 12) (F 13) (F 14) (F 15) Y G
  | true => schI (X 25) (X 26) (X 27) (X 28) (F 16) (F 17) (F 18) (F 19) Y G
theorem schB_cg {b : Bool} {X X' : Nat → Int32} {F F' : Nat → Nat → Int32} {Y Y' : Nat → Int32} {G G' : Nat → Nat → Int32} (h : schB b X F Y G) (hX : ∀ k ∈ [21, 22, 23, 24, 25, 26, 27, 28], X' k = X k) (hF : ∀ k ∈ [12, 13, 14, 15, 16, 17, 18, 19], F' k = F k) (hY : ∀ k ∈ [5, 6, 7, 8, 9], Y' k = Y k) (hG : ∀ k ∈ [1, 2, 3], G' k = G k) : schB b X' F' Y' G' := by
  cases b
  · have := schI_cg h hY hG
    show schI (X' 21) (X' 22) (X' 23) (X' 24) (F' 12) (F' 13) (F' 14) (F' 15) Y' G'
    rw [hX 21 (by decide), hX 22 (by decide), hX 23 (by decide), hX 24 (by decide), hF 12 (by decide), hF 13 (by decide), hF 14 (by decide), hF 15 (by decide)]
    exact this
  · have := schI_cg h hY hG
    show schI (X' 25) (X' 26) (X' 27) (X' 28) (F' 16) (F' 17) (F' 18) (F' 19) Y' G'
    rw [hX 25 (by decide), hX 26 (by decide), hX 27 (by decide), hX 28 (by decide), hF 16 (by decide), hF 17 (by decide), hF 18 (by decide), hF 19 (by decide)]
    exact this
theorem tape0 (f : Nat → Int32) : tapeOK (fun _ => 1000) 0 f := ⟨0, by omega, rfl, fun p hp => by omega, fun p hp => rfl⟩
