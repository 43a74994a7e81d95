/-! the class reads the told pages (object 0) -/
theorem e_tell_0 (sp : Nat) (v : Int32) (d : Nat) (hd : d = 0 ∨ d = 1) (hs : sp < 32) (X : Nat → Int32) (F : Nat → Nat → Int32) (n : Nat) : f_Sc_tellPage_0 n X F (sN sp) v (sN d) = some (0, upd X 24 1, va_up (va_up F 13 (upd (F 13) sp v)) 14 (upd (F 14) sp (sN d))) := by
  unfold f_Sc_tellPage_0
  have e : ¬ sN sp < 0 := by rw [wN_0, sN_lt (by omega) (by omega)]; omega
  have e2 : ¬ 32 ≤ sN sp := by rw [wN_32, sN_le (by omega) (by omega)]; omega
  have e3 : ¬ (sN sp < 0 ∨ 32 ≤ (sN sp).toNatClampNeg) := by rw [sN_nat (by omega)]; exact fun z => z.elim e (fun z => by omega)
  rw [if_neg e, if_neg e2, if_pos e3]
  rcases hd with rfl | rfl
  · rw [if_pos (show sN 0 = 0 from rfl), if_pos e3, sN_nat (by omega)]; rfl
  · rw [if_neg (by decide), if_pos e3, sN_nat (by omega)]; rfl
theorem g_readSide_0 (t : Nat → Nat) (c r N sd : Nat) (hN : c * r = N) (hN1 : 1 ≤ N) (hN2 : N ≤ 16) (hs : sd ≤ 1) : ∀ (m i p : Nat) (A : Told) (lv X : Nat → Int32) (F : Nat → Nat → Int32), i + m = N → p ≤ 20 + 5 * (sd * N + i) + sd → lv 2 = sN sd → lv 3 = sN N → lv 4 = sN i → X 1 = sN p → X 21 = sN c → X 22 = sN r → (1 ≤ sd * N + i → X 24 = 1) → toldC N (sd * N + i) A (F 13) (F 14) → tapeOK t (X 0) (F 0) → Go (fun n => L_Re_readSide_0 n 8 lv X F) (fun q => fr [1, 2, 3, 24] X q.2.1 ∧ fr [13, 14] F q.2.2 ∧ match rsS t N sd m i p A with
    | .inl w => q.1 = 0 ∧ q.2.1 2 = sN w
    | .inr f => q.1 = 1 ∧ q.2.1 1 = sN f.1 ∧ q.2.1 24 = 1 ∧ toldC N (sd * N + N) f.2 (q.2.2 13) (q.2.2 14)) := by
  intro m
  induction m with
  | zero =>
    intro i p A lv X F hm hp l2 l3 l4 h1 hx0 hx1 hx3 hA hT
    refine Go_S ?_
    simp (disch := omega) only [L_Re_readSide_0, l3, l4, ↓reduceIte, sN_add, sN_mul, sN_sub, sN_lt, sN_le, sN_eq, sN_nat, sN_div, sN_mod, sN_1', wN_0, wN_1, wN_2, wN_3, wN_4, wN_5, wN_6, wN_7, wN_8, wN_9, wN_10, wN_11, wN_12, wN_13, wN_14, wN_15, wN_16, wN_17, wN_18, wN_19, wN_20, wN_28, wN_31, wN_32, wN_33, wN_36, wN_40, wN_42, wN_43, wN_44, wN_45, wN_46, wN_47, wN_48, wN_57, wN_61, wN_63, wN_64, wN_66, wN_76, wN_82, wN_84, wN_88, wN_90, wN_100, wN_120, wN_128, wN_200, wN_255, wN_256, wN_512, wN_640, wN_641, wN_1000, wN_1024, wN_10000, wN_100000]
    have e : sd * N + i = sd * N + N := by omega
    exact Go_pos (by omega) (Go_ret ⟨fr_rfl, fr_rfl, rfl, h1, hx3 (by omega), by rw [← e]; exact hA⟩)
  | succ m ih =>
    intro i p A lv X F hm hp l2 l3 l4 h1 hx0 hx1 hx3 hA hT
    have hsN : sd * N ≤ N := Nat.le_trans (Nat.mul_le_mul_right N hs) (by omega)
    have htx : sd * 16 + i = tix N (sd * N + i) := by
      unfold tix
      rcases (show sd = 0 ∨ sd = 1 by omega) with h | h
      · rw [h, if_pos (by omega)]; omega
      · rw [h, if_neg (by omega)]; omega
    have hpc : ∀ (X' : Nat → Int32) (F' : Nat → Nat → Int32), X' 21 = sN c → X' 22 = sN r → ∀ n, f_Sc_pageCount_0 n X' F' = some (sN (2 * N), X', F') := by
      intro X' F' e0 e1 n
      unfold f_Sc_pageCount_0 f_Sc_cells_0
      rw [Option.bind_some, e0, e1, sN_mul, wN_2, sN_mul, hN]
    -- behind the sign
    have key : ∀ (p' : Nat) (X1 : Nat → Int32), p' ≤ p + 1 → X1 1 = sN p' → fr [1, 2, 3] X X1 → Go (fun n => (f_Sc_pageCount_0 n X1 F).bind (fun q1 => (f_Re_readNumber n q1.2.1 q1.2.2 q1.1).bind (fun q2 => if ¬ q2.1 = 0 then (if (¬ (¬ (((q2.2.1 1)) < 0)) ∨ (¬ (¬ ((((q2.2.1 0))) ≤ ((q2.2.1 1)))) ∨ ¬ (((q2.2.1 1)) < 0 ∨ 200 ≤ ((q2.2.1 1)).toNatClampNeg))) then (if ¬ (f_Re_next q2.2.1 q2.2.2) = 33 then ((f_Sc_tellPage_0 n q2.2.1 q2.2.2 (((lv 2) * 16) + (lv 4)) (q2.2.1 3) 0).bind (fun q3 => L_Re_readSide_0 n 8 (upd (upd (upd am_lv0 2 (lv 2)) 3 (lv 3)) 4 ((lv 4) + Int32.ofInt 1))  q3.2.1 q3.2.2)) else ((f_Sc_tellPage_0 n (upd q2.2.1 1 ((q2.2.1 1) + 1)) q2.2.2 (((lv 2) * 16) + (lv 4)) (q2.2.1 3) 1).bind (fun q4 => L_Re_readSide_0 n 8 (upd (upd (upd am_lv0 2 (lv 2)) 3 (lv 3)) 4 ((lv 4) + Int32.ofInt 1))  q4.2.1 q4.2.2))) else none) else (some ((0 : Int32), q2.2.1, q2.2.2))))) (fun q => fr [1, 2, 3, 24] X q.2.1 ∧ fr [13, 14] F q.2.2 ∧ match sb (numE t N (sd * N + i) p' A) (fun q => rsS t N sd m (i + 1) q.1 q.2) with
      | .inl w => q.1 = 0 ∧ q.2.1 2 = sN w
      | .inr f => q.1 = 1 ∧ q.2.1 1 = sN f.1 ∧ q.2.1 24 = 1 ∧ toldC N (sd * N + N) f.2 (q.2.2 13) (q.2.2 14)) := by
      intro p' X1 hp' e1 hfr
      have hT1 : tapeOK t (X1 0) (F 0) := by rw [hfr 0 (by decide)]; exact hT
      simp only [hpc X1 F ((hfr 21 (by decide)).trans hx0) ((hfr 22 (by decide)).trans hx1), Option.bind_some]
      refine Go_bind (e_readNumber t (2 * N) p' (by omega) (by omega) X1 F e1 hT1) (fun q hq => ?_)
      obtain ⟨a1, a2, a3⟩ := hq
      unfold numE
      cases hz : nuS t (2 * N) p' with
      | inl w =>
        rw [hz] at a3
        exact Go_neg (fun z => z a3.1) (Go_ret ⟨fr_mono (fr_trans hfr a2) (by decide), by rw [a1]; exact fr_rfl, rfl, a3.2⟩)
      | inr v =>
        rw [hz] at a3
        obtain ⟨a3, a4, a5⟩ := a3
        have rv := nuS_r hz
        have hT2 : tapeOK t (q.2.1 0) (q.2.2 0) := by rw [a1, a2 0 (by decide)]; exact hT1
        have hn := tk_next hT2 a5 (by omega)
        refine Go_pos (by rw [a3]; decide) (Go_pos (tk_in hT2 a5 (by omega)) ?_)
        simp only [sb_inr]
        have f1 : fr [1, 2, 3] X q.2.1 := fr_trans hfr a2
        have est : sN sd * sN 16 + sN i = sN (tix N (sd * N + i)) := by rw [sN_mul, sN_add, htx]
        have htl : tix N (sd * N + i) < 32 := by rw [← htx]; omega
        refine Go_ite (fun hd => ?_) (fun hd => ?_)
        · rw [hn, wN_33, cw_eq (tk_r hT2 _) (by omega)] at hd
          simp only [l2, l3, l4, wN_16, est, wN_0, e_tell_0 _ _ 0 (Or.inl rfl) htl, Option.bind_some, a4]
          refine Go_mono (ih (i + 1) v.2 (fun j => if j = sd * N + i then (v.1, 0) else A j) _ _ _ (by omega) (by omega) rfl rfl ?_ a5 ((f1 21 (by decide)).trans hx0) ((f1 22 (by decide)).trans hx1) (fun _ => rfl) ?_ ?_) (fun z hz2 => ⟨?_, ?_, ?_⟩)
          · exact sN_add i 1
          · rw [a1]; exact toldC_step (K := sd * N + i) hN2 (by omega) hA
          · exact hT2
          · exact fr_trans (fr_upd (fr_mono f1 (by decide)) (by decide)) hz2.1
          · refine fr_trans ?_ hz2.2.1; rw [a1]; exact fr_vup (fr_vup fr_rfl (by decide)) (by decide)
          · have := hz2.2.2
            rw [if_neg hd, if_neg hd]; exact this
        · rw [hn, wN_33, cw_eq (tk_r hT2 _) (by omega)] at hd
          have hd2 := Classical.not_not.mp hd
          simp only [l2, l3, l4, wN_16, est, wN_1, e_tell_0 _ _ 1 (Or.inr rfl) htl, Option.bind_some, a4]
          refine Go_mono (ih (i + 1) (v.2 + 1) (fun j => if j = sd * N + i then (v.1, 1) else A j) _ _ _ (by omega) (by omega) rfl rfl ?_ ?_ ((f1 21 (by decide)).trans hx0) ((f1 22 (by decide)).trans hx1) (fun _ => rfl) ?_ ?_) (fun z hz2 => ⟨?_, ?_, ?_⟩)
          · exact sN_add i 1
          · show q.2.1 1 + sN 1 = _; rw [a5, sN_add]
          · rw [a1]; exact toldC_step (K := sd * N + i) hN2 (by omega) hA
          · exact hT2
          · exact fr_trans (fr_upd (fr_upd (fr_mono f1 (by decide)) (by decide)) (by decide)) hz2.1
          · refine fr_trans ?_ hz2.2.1; rw [a1]; exact fr_vup (fr_vup fr_rfl (by decide)) (by decide)
          · have := hz2.2.2
            rw [if_pos hd2, if_pos hd2]; exact this
    refine Go_S ?_
    simp (disch := omega) only [L_Re_readSide_0, ↓reduceIte]
    refine Go_neg (by rw [l3, l4, sN_le (by omega) (by omega)]; omega) ?_
    unfold rsS
    refine Go_ite (fun hi => ?_) (fun hi => ?_)
    · rw [l4, wN_0, sN_le (by omega) (by omega)] at hi
      rw [if_pos (by omega)]
      exact key p X (by omega) h1 fr_rfl
    · rw [l4, wN_0, sN_le (by omega) (by omega)] at hi
      rw [if_neg (by omega)]
      refine Go_bind (e_expect t p 44 (by omega) (by omega) X F h1 hT) (fun q hq => ?_)
      obtain ⟨a1, a2, a3⟩ := hq
      unfold sepS
      by_cases hx : t p = 44
      · rw [if_pos hx] at a3 ⊢
        refine Go_neg (by rw [a3.1]; decide) ?_
        rw [a1]
        exact key (p + 1) q.2.1 (by omega) a3.2 a2
      · rw [if_neg hx] at a3 ⊢
        exact Go_pos a3.1 (Go_ret ⟨fr_mono a2 (by decide), by rw [a1]; exact fr_rfl, rfl, a3.2⟩)
theorem e_readSide_0 (t : Nat → Nat) (c r N sd : Nat) (hN : c * r = N) (hN1 : 1 ≤ N) (hN2 : N ≤ 16) (hs : sd ≤ 1) (p : Nat) (A : Told) (X : Nat → Int32) (F : Nat → Nat → Int32) (hp : p ≤ 20 + 5 * (sd * N) + sd) (h1 : X 1 = sN p) (hx0 : X 21 = sN c) (hx1 : X 22 = sN r) (hx3 : 1 ≤ sd * N → X 24 = 1) (hA : toldC N (sd * N) A (F 13) (F 14)) (hT : tapeOK t (X 0) (F 0)) : Go (fun n => f_Re_readSide_0 n X F (sN sd)) (fun q => fr [1, 2, 3, 24] X q.2.1 ∧ fr [13, 14] F q.2.2 ∧ match rsS t N sd N 0 p A with
    | .inl w => q.1 = 0 ∧ q.2.1 2 = sN w
    | .inr f => q.1 = 1 ∧ q.2.1 1 = sN f.1 ∧ q.2.1 24 = 1 ∧ toldC N (sd * N + N) f.2 (q.2.2 13) (q.2.2 14)) := by
  unfold f_Re_readSide_0 f_Sc_cells_0
  simp only [Option.bind_some, hx0, hx1, sN_mul, hN]
  exact g_readSide_0 t c r N sd hN hN1 hN2 hs N 0 p A _ X F (by omega) (by omega) rfl rfl rfl h1 hx0 hx1 (fun z => hx3 (by omega)) hA hT
theorem e_readPages_0 (t : Nat → Nat) (c r N : Nat) (hN : c * r = N) (hN1 : 1 ≤ N) (hN2 : N ≤ 16) (p : Nat) (X : Nat → Int32) (F : Nat → Nat → Int32) (hp : p ≤ 18) (h1 : X 1 = sN p) (hx0 : X 21 = sN c) (hx1 : X 22 = sN r) (hT : tapeOK t (X 0) (F 0)) : Go (fun n => f_Re_readPages_0 n X F) (fun q => fr [1, 2, 3, 24] X q.2.1 ∧ fr [13, 14] F q.2.2 ∧ if t p = 61 then (match pgS t N (2 * N) 0 (p + 1) A0 with
      | .inl w => q.1 = 0 ∧ q.2.1 2 = sN w
      | .inr f => q.1 = 1 ∧ q.2.1 1 = sN f.1 ∧ f.1 ≤ 900 ∧ q.2.1 24 = 1 ∧ toldC N (2 * N) f.2 (q.2.2 13) (q.2.2 14)) else (q.1 = 1 ∧ q.2.1 1 = sN p ∧ q.2.1 24 = X 24)) := by
  have hn := tk_next hT h1 (by omega)
  have hr := tk_r hT p
  unfold f_Re_readPages_0
  refine Go_pos (tk_in hT h1 (by omega)) (Go_ite (fun hd => ?_) (fun hd => ?_))
  · rw [hn, wN_61, cw_eq hr (by omega)] at hd
    simp only [if_pos hd]
    rw [pg_rs t N hN1]
    refine Go_bind (e_readSide_0 t c r N 0 hN hN1 hN2 (by omega) (p + 1) A0 (upd X 1 (X 1 + 1)) F (by omega) (by show X 1 + 1 = _; rw [h1]; exact sN_add p 1) hx0 hx1 (fun z => by omega) (fun k hk => by omega) hT) (fun q hq => ?_)
    obtain ⟨a1, a2, a3⟩ := hq
    have f0 : fr [1, 2, 3, 24] X q.2.1 := fr_trans (fr_upd fr_rfl (by decide)) a1
    cases hz : rsS t N 0 N 0 (p + 1) A0 with
    | inl w =>
      rw [hz] at a3
      exact Go_pos a3.1 (Go_ret ⟨f0, a2, rfl, a3.2⟩)
    | inr f =>
      rw [hz] at a3
      have rf := rsS_r hz
      refine Go_neg (by rw [a3.1]; decide) ?_
      simp only [sb_inr]
      have hT1 : tapeOK t (q.2.1 0) (q.2.2 0) := by rw [f0 0 (by decide), a2 0 (by decide)]; exact hT
      refine Go_bind (e_expect t f.1 47 (by omega) (by omega) q.2.1 q.2.2 a3.2.1 hT1) (fun q2 hq2 => ?_)
      obtain ⟨b1, b2, b3⟩ := hq2
      have g0 : fr [1, 2, 3, 24] X q2.2.1 := fr_trans f0 (fr_mono b2 (by decide))
      unfold sepS
      by_cases hx : t f.1 = 47
      · rw [if_pos hx] at b3 ⊢
        refine Go_neg (by rw [b3.1]; decide) ?_
        simp only [sb_inr]
        have hT2 : tapeOK t (q2.2.1 0) (q2.2.2 0) := by rw [b1, b2 0 (by decide)]; exact hT1
        refine Go_bind (e_readSide_0 t c r N 1 hN hN1 hN2 (by omega) (f.1 + 1) f.2 q2.2.1 q2.2.2 (by omega) b3.2 ((g0 21 (by decide)).trans hx0) ((g0 22 (by decide)).trans hx1) (fun _ => (b2 24 (by decide)).trans a3.2.2.1) ?_ hT2) (fun q3 hq3 => ?_)
        · rw [b1]
          have := a3.2.2.2
          rw [show 1 * N = 0 * N + N by omega]; exact this
        · obtain ⟨d1, d2, d3⟩ := hq3
          have k0 : fr [1, 2, 3, 24] X q3.2.1 := fr_trans g0 d1
          have k1 : fr [13, 14] F q3.2.2 := fr_trans (by rw [b1]; exact a2) d2
          cases hy : rsS t N 1 N 0 (f.1 + 1) f.2 with
          | inl w =>
            rw [hy] at d3
            exact Go_pos d3.1 (Go_ret ⟨k0, k1, rfl, d3.2⟩)
          | inr g =>
            rw [hy] at d3
            have rg := rsS_r hy
            refine Go_neg (by rw [d3.1]; decide) (Go_ret ⟨k0, k1, rfl, d3.2.1, by omega, d3.2.2.1, ?_⟩)
            rw [show 2 * N = 1 * N + N by omega]; exact d3.2.2.2
      · rw [if_neg hx] at b3 ⊢
        exact Go_pos b3.1 (Go_ret ⟨g0, by rw [b1]; exact a2, rfl, b3.2⟩)
  · rw [hn, wN_61, cw_eq hr (by omega)] at hd
    simp only [if_neg hd]
    exact Go_ret ⟨fr_rfl, fr_rfl, rfl, h1, rfl⟩
/-! the class reads the told pages (object 1) -/
theorem e_tell_1 (sp : Nat) (v : Int32) (d : Nat) (hd : d = 0 ∨ d = 1) (hs : sp < 32) (X : Nat → Int32) (F : Nat → Nat → Int32) (n : Nat) : f_Sc_tellPage_1 n X F (sN sp) v (sN d) = some (0, upd X 28 1, va_up (va_up F 17 (upd (F 17) sp v)) 18 (upd (F 18) sp (sN d))) := by
  unfold f_Sc_tellPage_1
  have e : ¬ sN sp < 0 := by rw [wN_0, sN_lt (by omega) (by omega)]; omega
  have e2 : ¬ 32 ≤ sN sp := by rw [wN_32, sN_le (by omega) (by omega)]; omega
  have e3 : ¬ (sN sp < 0 ∨ 32 ≤ (sN sp).toNatClampNeg) := by rw [sN_nat (by omega)]; exact fun z => z.elim e (fun z => by omega)
  rw [if_neg e, if_neg e2, if_pos e3]
  rcases hd with rfl | rfl
  · rw [if_pos (show sN 0 = 0 from rfl), if_pos e3, sN_nat (by omega)]; rfl
  · rw [if_neg (by decide), if_pos e3, sN_nat (by omega)]; rfl
theorem g_readSide_1 (t : Nat → Nat) (c r N sd : Nat) (hN : c * r = N) (hN1 : 1 ≤ N) (hN2 : N ≤ 16) (hs : sd ≤ 1) : ∀ (m i p : Nat) (A : Told) (lv X : Nat → Int32) (F : Nat → Nat → Int32), i + m = N → p ≤ 20 + 5 * (sd * N + i) + sd → lv 2 = sN sd → lv 3 = sN N → lv 4 = sN i → X 1 = sN p → X 25 = sN c → X 26 = sN r → (1 ≤ sd * N + i → X 28 = 1) → toldC N (sd * N + i) A (F 17) (F 18) → tapeOK t (X 0) (F 0) → Go (fun n => L_Re_readSide_1 n 8 lv X F) (fun q => fr [1, 2, 3, 28] X q.2.1 ∧ fr [17, 18] F q.2.2 ∧ match rsS t N sd m i p A with
    | .inl w => q.1 = 0 ∧ q.2.1 2 = sN w
    | .inr f => q.1 = 1 ∧ q.2.1 1 = sN f.1 ∧ q.2.1 28 = 1 ∧ toldC N (sd * N + N) f.2 (q.2.2 17) (q.2.2 18)) := by
  intro m
  induction m with
  | zero =>
    intro i p A lv X F hm hp l2 l3 l4 h1 hx0 hx1 hx3 hA hT
    refine Go_S ?_
    simp (disch := omega) only [L_Re_readSide_1, l3, l4, ↓reduceIte, sN_add, sN_mul, sN_sub, sN_lt, sN_le, sN_eq, sN_nat, sN_div, sN_mod, sN_1', wN_0, wN_1, wN_2, wN_3, wN_4, wN_5, wN_6, wN_7, wN_8, wN_9, wN_10, wN_11, wN_12, wN_13, wN_14, wN_15, wN_16, wN_17, wN_18, wN_19, wN_20, wN_28, wN_31, wN_32, wN_33, wN_36, wN_40, wN_42, wN_43, wN_44, wN_45, wN_46, wN_47, wN_48, wN_57, wN_61, wN_63, wN_64, wN_66, wN_76, wN_82, wN_84, wN_88, wN_90, wN_100, wN_120, wN_128, wN_200, wN_255, wN_256, wN_512, wN_640, wN_641, wN_1000, wN_1024, wN_10000, wN_100000]
    have e : sd * N + i = sd * N + N := by omega
    exact Go_pos (by omega) (Go_ret ⟨fr_rfl, fr_rfl, rfl, h1, hx3 (by omega), by rw [← e]; exact hA⟩)
  | succ m ih =>
    intro i p A lv X F hm hp l2 l3 l4 h1 hx0 hx1 hx3 hA hT
    have hsN : sd * N ≤ N := Nat.le_trans (Nat.mul_le_mul_right N hs) (by omega)
    have htx : sd * 16 + i = tix N (sd * N + i) := by
      unfold tix
      rcases (show sd = 0 ∨ sd = 1 by omega) with h | h
      · rw [h, if_pos (by omega)]; omega
      · rw [h, if_neg (by omega)]; omega
    have hpc : ∀ (X' : Nat → Int32) (F' : Nat → Nat → Int32), X' 25 = sN c → X' 26 = sN r → ∀ n, f_Sc_pageCount_1 n X' F' = some (sN (2 * N), X', F') := by
      intro X' F' e0 e1 n
      unfold f_Sc_pageCount_1 f_Sc_cells_1
      rw [Option.bind_some, e0, e1, sN_mul, wN_2, sN_mul, hN]
    -- behind the sign
    have key : ∀ (p' : Nat) (X1 : Nat → Int32), p' ≤ p + 1 → X1 1 = sN p' → fr [1, 2, 3] X X1 → Go (fun n => (f_Sc_pageCount_1 n X1 F).bind (fun q1 => (f_Re_readNumber n q1.2.1 q1.2.2 q1.1).bind (fun q2 => if ¬ q2.1 = 0 then (if (¬ (¬ (((q2.2.1 1)) < 0)) ∨ (¬ (¬ ((((q2.2.1 0))) ≤ ((q2.2.1 1)))) ∨ ¬ (((q2.2.1 1)) < 0 ∨ 200 ≤ ((q2.2.1 1)).toNatClampNeg))) then (if ¬ (f_Re_next q2.2.1 q2.2.2) = 33 then ((f_Sc_tellPage_1 n q2.2.1 q2.2.2 (((lv 2) * 16) + (lv 4)) (q2.2.1 3) 0).bind (fun q3 => L_Re_readSide_1 n 8 (upd (upd (upd am_lv0 2 (lv 2)) 3 (lv 3)) 4 ((lv 4) + Int32.ofInt 1))  q3.2.1 q3.2.2)) else ((f_Sc_tellPage_1 n (upd q2.2.1 1 ((q2.2.1 1) + 1)) q2.2.2 (((lv 2) * 16) + (lv 4)) (q2.2.1 3) 1).bind (fun q4 => L_Re_readSide_1 n 8 (upd (upd (upd am_lv0 2 (lv 2)) 3 (lv 3)) 4 ((lv 4) + Int32.ofInt 1))  q4.2.1 q4.2.2))) else none) else (some ((0 : Int32), q2.2.1, q2.2.2))))) (fun q => fr [1, 2, 3, 28] X q.2.1 ∧ fr [17, 18] F q.2.2 ∧ match sb (numE t N (sd * N + i) p' A) (fun q => rsS t N sd m (i + 1) q.1 q.2) with
      | .inl w => q.1 = 0 ∧ q.2.1 2 = sN w
      | .inr f => q.1 = 1 ∧ q.2.1 1 = sN f.1 ∧ q.2.1 28 = 1 ∧ toldC N (sd * N + N) f.2 (q.2.2 17) (q.2.2 18)) := by
      intro p' X1 hp' e1 hfr
      have hT1 : tapeOK t (X1 0) (F 0) := by rw [hfr 0 (by decide)]; exact hT
      simp only [hpc X1 F ((hfr 25 (by decide)).trans hx0) ((hfr 26 (by decide)).trans hx1), Option.bind_some]
      refine Go_bind (e_readNumber t (2 * N) p' (by omega) (by omega) X1 F e1 hT1) (fun q hq => ?_)
      obtain ⟨a1, a2, a3⟩ := hq
      unfold numE
      cases hz : nuS t (2 * N) p' with
      | inl w =>
        rw [hz] at a3
        exact Go_neg (fun z => z a3.1) (Go_ret ⟨fr_mono (fr_trans hfr a2) (by decide), by rw [a1]; exact fr_rfl, rfl, a3.2⟩)
      | inr v =>
        rw [hz] at a3
        obtain ⟨a3, a4, a5⟩ := a3
        have rv := nuS_r hz
        have hT2 : tapeOK t (q.2.1 0) (q.2.2 0) := by rw [a1, a2 0 (by decide)]; exact hT1
        have hn := tk_next hT2 a5 (by omega)
        refine Go_pos (by rw [a3]; decide) (Go_pos (tk_in hT2 a5 (by omega)) ?_)
        simp only [sb_inr]
        have f1 : fr [1, 2, 3] X q.2.1 := fr_trans hfr a2
        have est : sN sd * sN 16 + sN i = sN (tix N (sd * N + i)) := by rw [sN_mul, sN_add, htx]
        have htl : tix N (sd * N + i) < 32 := by rw [← htx]; omega
        refine Go_ite (fun hd => ?_) (fun hd => ?_)
        · rw [hn, wN_33, cw_eq (tk_r hT2 _) (by omega)] at hd
          simp only [l2, l3, l4, wN_16, est, wN_0, e_tell_1 _ _ 0 (Or.inl rfl) htl, Option.bind_some, a4]
          refine Go_mono (ih (i + 1) v.2 (fun j => if j = sd * N + i then (v.1, 0) else A j) _ _ _ (by omega) (by omega) rfl rfl ?_ a5 ((f1 25 (by decide)).trans hx0) ((f1 26 (by decide)).trans hx1) (fun _ => rfl) ?_ ?_) (fun z hz2 => ⟨?_, ?_, ?_⟩)
          · exact sN_add i 1
          · rw [a1]; exact toldC_step (K := sd * N + i) hN2 (by omega) hA
          · exact hT2
          · exact fr_trans (fr_upd (fr_mono f1 (by decide)) (by decide)) hz2.1
          · refine fr_trans ?_ hz2.2.1; rw [a1]; exact fr_vup (fr_vup fr_rfl (by decide)) (by decide)
          · have := hz2.2.2
            rw [if_neg hd, if_neg hd]; exact this
        · rw [hn, wN_33, cw_eq (tk_r hT2 _) (by omega)] at hd
          have hd2 := Classical.not_not.mp hd
          simp only [l2, l3, l4, wN_16, est, wN_1, e_tell_1 _ _ 1 (Or.inr rfl) htl, Option.bind_some, a4]
          refine Go_mono (ih (i + 1) (v.2 + 1) (fun j => if j = sd * N + i then (v.1, 1) else A j) _ _ _ (by omega) (by omega) rfl rfl ?_ ?_ ((f1 25 (by decide)).trans hx0) ((f1 26 (by decide)).trans hx1) (fun _ => rfl) ?_ ?_) (fun z hz2 => ⟨?_, ?_, ?_⟩)
          · exact sN_add i 1
          · show q.2.1 1 + sN 1 = _; rw [a5, sN_add]
          · rw [a1]; exact toldC_step (K := sd * N + i) hN2 (by omega) hA
          · exact hT2
          · exact fr_trans (fr_upd (fr_upd (fr_mono f1 (by decide)) (by decide)) (by decide)) hz2.1
          · refine fr_trans ?_ hz2.2.1; rw [a1]; exact fr_vup (fr_vup fr_rfl (by decide)) (by decide)
          · have := hz2.2.2
            rw [if_pos hd2, if_pos hd2]; exact this
    refine Go_S ?_
    simp (disch := omega) only [L_Re_readSide_1, ↓reduceIte]
    refine Go_neg (by rw [l3, l4, sN_le (by omega) (by omega)]; omega) ?_
    unfold rsS
    refine Go_ite (fun hi => ?_) (fun hi => ?_)
    · rw [l4, wN_0, sN_le (by omega) (by omega)] at hi
      rw [if_pos (by omega)]
      exact key p X (by omega) h1 fr_rfl
    · rw [l4, wN_0, sN_le (by omega) (by omega)] at hi
      rw [if_neg (by omega)]
      refine Go_bind (e_expect t p 44 (by omega) (by omega) X F h1 hT) (fun q hq => ?_)
      obtain ⟨a1, a2, a3⟩ := hq
      unfold sepS
      by_cases hx : t p = 44
      · rw [if_pos hx] at a3 ⊢
        refine Go_neg (by rw [a3.1]; decide) ?_
        rw [a1]
        exact key (p + 1) q.2.1 (by omega) a3.2 a2
      · rw [if_neg hx] at a3 ⊢
        exact Go_pos a3.1 (Go_ret ⟨fr_mono a2 (by decide), by rw [a1]; exact fr_rfl, rfl, a3.2⟩)
theorem e_readSide_1 (t : Nat → Nat) (c r N sd : Nat) (hN : c * r = N) (hN1 : 1 ≤ N) (hN2 : N ≤ 16) (hs : sd ≤ 1) (p : Nat) (A : Told) (X : Nat → Int32) (F : Nat → Nat → Int32) (hp : p ≤ 20 + 5 * (sd * N) + sd) (h1 : X 1 = sN p) (hx0 : X 25 = sN c) (hx1 : X 26 = sN r) (hx3 : 1 ≤ sd * N → X 28 = 1) (hA : toldC N (sd * N) A (F 17) (F 18)) (hT : tapeOK t (X 0) (F 0)) : Go (fun n => f_Re_readSide_1 n X F (sN sd)) (fun q => fr [1, 2, 3, 28] X q.2.1 ∧ fr [17, 18] F q.2.2 ∧ match rsS t N sd N 0 p A with
    | .inl w => q.1 = 0 ∧ q.2.1 2 = sN w
    | .inr f => q.1 = 1 ∧ q.2.1 1 = sN f.1 ∧ q.2.1 28 = 1 ∧ toldC N (sd * N + N) f.2 (q.2.2 17) (q.2.2 18)) := by
  unfold f_Re_readSide_1 f_Sc_cells_1
  simp only [Option.bind_some, hx0, hx1, sN_mul, hN]
  exact g_readSide_1 t c r N sd hN hN1 hN2 hs N 0 p A _ X F (by omega) (by omega) rfl rfl rfl h1 hx0 hx1 (fun z => hx3 (by omega)) hA hT
theorem e_readPages_1 (t : Nat → Nat) (c r N : Nat) (hN : c * r = N) (hN1 : 1 ≤ N) (hN2 : N ≤ 16) (p : Nat) (X : Nat → Int32) (F : Nat → Nat → Int32) (hp : p ≤ 18) (h1 : X 1 = sN p) (hx0 : X 25 = sN c) (hx1 : X 26 = sN r) (hT : tapeOK t (X 0) (F 0)) : Go (fun n => f_Re_readPages_1 n X F) (fun q => fr [1, 2, 3, 28] X q.2.1 ∧ fr [17, 18] F q.2.2 ∧ if t p = 61 then (match pgS t N (2 * N) 0 (p + 1) A0 with
      | .inl w => q.1 = 0 ∧ q.2.1 2 = sN w
      | .inr f => q.1 = 1 ∧ q.2.1 1 = sN f.1 ∧ f.1 ≤ 900 ∧ q.2.1 28 = 1 ∧ toldC N (2 * N) f.2 (q.2.2 17) (q.2.2 18)) else (q.1 = 1 ∧ q.2.1 1 = sN p ∧ q.2.1 28 = X 28)) := by
  have hn := tk_next hT h1 (by omega)
  have hr := tk_r hT p
  unfold f_Re_readPages_1
  refine Go_pos (tk_in hT h1 (by omega)) (Go_ite (fun hd => ?_) (fun hd => ?_))
  · rw [hn, wN_61, cw_eq hr (by omega)] at hd
    simp only [if_pos hd]
    rw [pg_rs t N hN1]
    refine Go_bind (e_readSide_1 t c r N 0 hN hN1 hN2 (by omega) (p + 1) A0 (upd X 1 (X 1 + 1)) F (by omega) (by show X 1 + 1 = _; rw [h1]; exact sN_add p 1) hx0 hx1 (fun z => by omega) (fun k hk => by omega) hT) (fun q hq => ?_)
    obtain ⟨a1, a2, a3⟩ := hq
    have f0 : fr [1, 2, 3, 28] X q.2.1 := fr_trans (fr_upd fr_rfl (by decide)) a1
    cases hz : rsS t N 0 N 0 (p + 1) A0 with
    | inl w =>
      rw [hz] at a3
      exact Go_pos a3.1 (Go_ret ⟨f0, a2, rfl, a3.2⟩)
    | inr f =>
      rw [hz] at a3
      have rf := rsS_r hz
      refine Go_neg (by rw [a3.1]; decide) ?_
      simp only [sb_inr]
      have hT1 : tapeOK t (q.2.1 0) (q.2.2 0) := by rw [f0 0 (by decide), a2 0 (by decide)]; exact hT
      refine Go_bind (e_expect t f.1 47 (by omega) (by omega) q.2.1 q.2.2 a3.2.1 hT1) (fun q2 hq2 => ?_)
      obtain ⟨b1, b2, b3⟩ := hq2
      have g0 : fr [1, 2, 3, 28] X q2.2.1 := fr_trans f0 (fr_mono b2 (by decide))
      unfold sepS
      by_cases hx : t f.1 = 47
      · rw [if_pos hx] at b3 ⊢
        refine Go_neg (by rw [b3.1]; decide) ?_
        simp only [sb_inr]
        have hT2 : tapeOK t (q2.2.1 0) (q2.2.2 0) := by rw [b1, b2 0 (by decide)]; exact hT1
        refine Go_bind (e_readSide_1 t c r N 1 hN hN1 hN2 (by omega) (f.1 + 1) f.2 q2.2.1 q2.2.2 (by omega) b3.2 ((g0 25 (by decide)).trans hx0) ((g0 26 (by decide)).trans hx1) (fun _ => (b2 28 (by decide)).trans a3.2.2.1) ?_ hT2) (fun q3 hq3 => ?_)
        · rw [b1]
          have := a3.2.2.2
          rw [show 1 * N = 0 * N + N by omega]; exact this
        · obtain ⟨d1, d2, d3⟩ := hq3
          have k0 : fr [1, 2, 3, 28] X q3.2.1 := fr_trans g0 d1
          have k1 : fr [17, 18] F q3.2.2 := fr_trans (by rw [b1]; exact a2) d2
          cases hy : rsS t N 1 N 0 (f.1 + 1) f.2 with
          | inl w =>
            rw [hy] at d3
            exact Go_pos d3.1 (Go_ret ⟨k0, k1, rfl, d3.2⟩)
          | inr g =>
            rw [hy] at d3
            have rg := rsS_r hy
            refine Go_neg (by rw [d3.1]; decide) (Go_ret ⟨k0, k1, rfl, d3.2.1, by omega, d3.2.2.1, ?_⟩)
            rw [show 2 * N = 1 * N + N by omega]; exact d3.2.2.2
      · rw [if_neg hx] at b3 ⊢
        exact Go_pos b3.1 (Go_ret ⟨g0, by rw [b1]; exact a2, rfl, b3.2⟩)
  · rw [hn, wN_61, cw_eq hr (by omega)] at hd
    simp only [if_neg hd]
    exact Go_ret ⟨fr_rfl, fr_rfl, rfl, h1, rfl⟩
