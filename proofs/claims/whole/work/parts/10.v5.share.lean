/-! sharing agrees -/
theorem finS_tr {J W : Nat} {cp : Nat → Nat} {X X1 : Nat → Int32} {F F1 : Nat → Nat → Int32} {Y Y1 : Nat → Int32} {G G1 : Nat → Nat → Int32} {rc rm : Res} (h : finS J cp W X1 F1 Y1 G1 rc rm) (hX : fr [17, 18, 20] X X1) (hF : fr [7, 8, 9, 10, 11] F F1) (hY : fr [22, 23, 24, 25, 26, 27] Y Y1) (hG : fr [23, 24, 25, 26] G G1) : finS J cp W X F Y G rc rm := by
  obtain ⟨f1, f2, f3, f4, f5, f6, f7, f8, f9⟩ := h
  exact ⟨f1, f2, f3, f4, fr_trans hX f5, fr_trans hF f6, fr_trans hY f7, fr_trans hG f8, f9⟩
theorem lg_m1 : lg_cmp (-1) 0 < 0 := by decide
theorem lg_p {c : Nat} (hc : c ≤ 10000000) : ¬ lg_cmp (jN c) 0 < 0 := by
  rw [jN_0, jN_cmp (by omega) (by omega)]
  split
  · decide
  · split
    · decide
    · omega
theorem lg_le {a b : Nat} (ha : a ≤ 10000000) (hb : b ≤ 10000000) : (0 ≤ lg_cmp (jN a) (jN b)) = (b ≤ a) := by
  rw [jN_cmp (by omega) (by omega)]
  split
  · exact propext ⟨fun _ => by omega, fun _ => by decide⟩
  · split
    · exact propext ⟨fun _ => by omega, fun _ => by decide⟩
    · exact propext ⟨fun z => absurd z (by decide), fun z => by omega⟩
theorem seek_all {J S C W : Nat} {cp : Nat → Nat} (hJ1 : 1 ≤ J) (hJ : J ≤ 8) (hS : S ≤ 16) (hC : C ≤ 100000) (hW : W ≤ 1000) (hcp : ∀ j, j < J → cp j ≤ 100000) : ∀ m, seekP J S C W cp m
  | 0 => by
    intro L w o X F Y G lv lv' hm hL hs hw x18 ht hb l2 l3 l4 m1 m2 m3 m7
    obtain ⟨x15, x16, x17, y21, y26, h6, h22, h8, h23, h7⟩ := hs
    refine ⟨(bI o, X, F), ((bJ o).toInt32, upd (upd Y 27 0) 23 1, G), ?_, ?_, ?_⟩
    · refine Go_S ?_
      simp only [L_Sh_seekLeastCost, ↓reduceIte]
      exact Go_pos (by rw [l3, x17, sN_le (by omega) (by omega)]; omega) (Go_ret (by rw [l4]))
    · refine Go_S ?_
      simp only [L_Mo_share, ↓reduceIte, Nat.reduceEqDiff]
      refine Go_neg (by rw [m7]; decide) (Go_pos (by rw [m3, y26, sN_le (by omega) (by omega)]; omega) (Go_pos (by rw [m7]; decide) (Go_ret rfl)))
    · exact ⟨(bJ_I hb).symm, ⟨L, by omega, by omega, x17, y26⟩, ⟨0, by omega, x18, rfl⟩, rfl, fr_rfl, fr_rfl, fr_upd (fr_upd fr_rfl (by decide)) (by decide), fr_rfl, o, tkn_cg ht rfl ⟨rfl, rfl⟩ ⟨rfl, rfl, rfl⟩ ⟨rfl, rfl, rfl⟩⟩
  | m + 1 => by
    intro L w o X F Y G lv lv' hm hL hs hw x18 ht hb l2 l3 l4 m1 m2 m3 m7
    have ih := seek_all hJ1 hJ hS hC hW hcp m
    obtain ⟨x15, x16, x17, y21, y26, h6, h22, h8, h23, h7⟩ := hs
    have hg := gb_le hw.1 J
    obtain ⟨N, q, hq, q1, q2, q3, q4, q5⟩ := e_costC hJ1 hJ hS hC hcp hw.1 (upd X 17 (X 17 + 1)) F x15 x16 h6 h8 h7
    obtain ⟨N', q', hq', q1'⟩ := e_costM hJ1 hJ hS hC hw.1 hcp (upd Y 26 (Y 26 + 1)) G y21 h22 h23
    have gC : Go (fun n => f_Sh_costOfWay n (upd X 17 (X 17 + 1)) F (sN C)) (fun z => z = q) := ⟨N, q, hq, rfl⟩
    have gM : Go (fun n => f_Mo_costOf n (upd Y 26 (Y 26 + 1)) G (sN S) (sN C)) (fun z => z = q') := ⟨N', q', hq', rfl⟩
    have eX : X 17 + 1 = sN (L + 1) := by rw [x17]; exact sN_add L 1
    have eY : Y 26 + 1 = sN (L + 1) := by rw [y26]; exact sN_add L 1
    -- the first steps of both
    have stC : ∀ P : Res → Prop, Go (fun n => if q.1 = (-1) then ((f_Sh_goToNextWay n q.2.1 q.2.2 ).bind (fun q2 => if ¬ q2.1 = 0 then (L_Sh_seekLeastCost n 47 (upd (upd (upd (upd am_lv0 1 (lv 1)) 2 (lv 2)) 3 (lv 3)) 4 (lv 4)) (upd q2.2.1 18 (0)) q2.2.2) else (L_Sh_seekLeastCost n 47 (upd (upd (upd (upd am_lv0 1 (lv 1)) 2 (lv 2)) 3 (lv 3)) 4 (lv 4)) (upd q2.2.1 18 (1)) q2.2.2))) else (if (lv 4) = (-1) then ((f_Sh_takeWay n q.2.1 q.2.2 ).bind (fun q3 => (f_Sh_goToNextWay n q3.2.1 q3.2.2 ).bind (fun q4 => if ¬ q4.1 = 0 then (L_Sh_seekLeastCost n 47 (upd (upd (upd (upd am_lv0 1 (lv 1)) 2 (lv 2)) 3 (lv 3)) 4 q.1) (upd q4.2.1 18 (0)) q4.2.2) else (L_Sh_seekLeastCost n 47 (upd (upd (upd (upd am_lv0 1 (lv 1)) 2 (lv 2)) 3 (lv 3)) 4 q.1) (upd q4.2.1 18 (1)) q4.2.2)))) else (if (lv 4) ≤ q.1 then ((f_Sh_goToNextWay n q.2.1 q.2.2 ).bind (fun q5 => if ¬ q5.1 = 0 then (L_Sh_seekLeastCost n 47 (upd (upd (upd (upd am_lv0 1 (lv 1)) 2 (lv 2)) 3 (lv 3)) 4 (lv 4)) (upd q5.2.1 18 (0)) q5.2.2) else (L_Sh_seekLeastCost n 47 (upd (upd (upd (upd am_lv0 1 (lv 1)) 2 (lv 2)) 3 (lv 3)) 4 (lv 4)) (upd q5.2.1 18 (1)) q5.2.2))) else ((f_Sh_takeWay n q.2.1 q.2.2 ).bind (fun q6 => (f_Sh_goToNextWay n q6.2.1 q6.2.2 ).bind (fun q7 => if ¬ q7.1 = 0 then (L_Sh_seekLeastCost n 47 (upd (upd (upd (upd am_lv0 1 (lv 1)) 2 (lv 2)) 3 (lv 3)) 4 q.1) (upd q7.2.1 18 (0)) q7.2.2) else (L_Sh_seekLeastCost n 47 (upd (upd (upd (upd am_lv0 1 (lv 1)) 2 (lv 2)) 3 (lv 3)) 4 q.1) (upd q7.2.1 18 (1)) q7.2.2))))))) P → Go (fun n => L_Sh_seekLeastCost n 47 lv X F) P := by
      intro P hP
      refine Go_S ?_
      simp only [L_Sh_seekLeastCost, ↓reduceIte]
      refine Go_neg (by rw [l3, x17, sN_le (by omega) (by omega)]; omega) (Go_neg (fun z => z x18) ?_)
      rw [l2]
      refine Go_bind gC (fun z hz => ?_)
      rw [hz, ← l2]
      exact hP
    have stM : ∀ P : Res → Prop, Go (fun n => if (lg_cmp q'.1 0) < 0 then ((f_Mo_nextWay n q'.2.1 q'.2.2 ).bind (fun q2 => L_Mo_share n 118 (upd (upd (upd (upd (upd am_lv0 1 (lv' 1)) 2 (lv' 2)) 3 (lv' 3)) 4 (lv' 4)) 7 q2.1) (bJ o) q2.2.1 q2.2.2)) else (if (lg_cmp (bJ o) 0) < 0 then ((f_Mo_take n q'.2.1 q'.2.2 (sN S)).bind (fun q3 => (f_Mo_nextWay n q3.2.1 q3.2.2 ).bind (fun q4 => L_Mo_share n 118 (upd (upd (upd (upd (upd am_lv0 1 (lv' 1)) 2 (lv' 2)) 3 (lv' 3)) 4 (lv' 4)) 7 q4.1) q'.1 q4.2.1 q4.2.2))) else (if 0 ≤ (lg_cmp q'.1 (bJ o)) then ((f_Mo_nextWay n q'.2.1 q'.2.2 ).bind (fun q5 => L_Mo_share n 118 (upd (upd (upd (upd (upd am_lv0 1 (lv' 1)) 2 (lv' 2)) 3 (lv' 3)) 4 (lv' 4)) 7 q5.1) (bJ o) q5.2.1 q5.2.2)) else ((f_Mo_take n q'.2.1 q'.2.2 (sN S)).bind (fun q6 => (f_Mo_nextWay n q6.2.1 q6.2.2 ).bind (fun q7 => L_Mo_share n 118 (upd (upd (upd (upd (upd am_lv0 1 (lv' 1)) 2 (lv' 2)) 3 (lv' 3)) 4 (lv' 4)) 7 q7.1) q'.1 q7.2.1 q7.2.2)))))) P → Go (fun n => L_Mo_share n 118 lv' (bJ o) Y G) P := by
      intro P hP
      refine Go_S ?_
      simp only [L_Mo_share, ↓reduceIte, Nat.reduceEqDiff]
      refine Go_neg (by rw [m7]; decide) (Go_neg (by rw [m3, y26, sN_le (by omega) (by omega)]; omega) ?_)
      rw [m1, m2]
      refine Go_bind gM (fun z hz => ?_)
      rw [hz, ← m2]
      rw [m1] at hP
      exact hP
    have eq2 : q'.2.1 = upd Y 26 (Y 26 + 1) := by rw [q1']
    have eq3 : q'.2.2 = G := by rw [q1']
    have eq1 : q'.1 = cvJ 0 (csR cp w J S (gb w J + 1) 0) (C * (gb w J + 1)) := by rw [q1']
    -- without taking
    have keep : ∃ rc rm : Res, Go (fun n => (f_Sh_goToNextWay n q.2.1 q.2.2).bind (fun z => if ¬ z.1 = 0 then L_Sh_seekLeastCost n 47 (upd (upd (upd (upd am_lv0 1 (lv 1)) 2 (lv 2)) 3 (lv 3)) 4 (lv 4)) (upd z.2.1 18 0) z.2.2 else L_Sh_seekLeastCost n 47 (upd (upd (upd (upd am_lv0 1 (lv 1)) 2 (lv 2)) 3 (lv 3)) 4 (lv 4)) (upd z.2.1 18 1) z.2.2)) (fun z => z = rc) ∧ Go (fun n => (f_Mo_nextWay n q'.2.1 q'.2.2).bind (fun z => L_Mo_share n 118 (upd (upd (upd (upd (upd am_lv0 1 (lv' 1)) 2 (lv' 2)) 3 (lv' 3)) 4 (lv' 4)) 7 z.1) (bJ o) z.2.1 z.2.2)) (fun z => z = rm) ∧ finS J cp W X F Y G rc rm := by
      rw [q2, eq2, eq3]
      obtain ⟨rc, rm, r1, r2, r3⟩ := nst hJ1 hJ hW ih (L + 1) w o (upd X 17 (X 17 + 1)) q.2.2 (upd Y 26 (Y 26 + 1)) G (upd (upd (upd (upd am_lv0 1 (lv 1)) 2 (lv 2)) 3 (lv 3)) 4 (lv 4)) (upd (upd (upd (upd am_lv0 1 (lv 1)) 2 (lv 2)) 3 (lv 3)) 4 (lv 4)) (fun x => upd (upd (upd (upd (upd am_lv0 1 (lv' 1)) 2 (lv' 2)) 3 (lv' 3)) 4 (lv' 4)) 7 x) (by omega) (by omega) ⟨x15, x16, eX, y21, eY, by rw [q3 6 (by decide)]; exact h6, h22, by rw [q3 8 (by decide)]; exact h8, h23, q4⟩ hw (tkn_cg ht rfl ⟨q3 10 (by decide), q3 11 (by decide)⟩ ⟨rfl, rfl, rfl⟩ ⟨rfl, rfl, rfl⟩) hb l2 l3 l4 l4 (fun _ => m1) (fun _ => m2) (fun _ => m3) (fun _ => rfl)
      exact ⟨rc, rm, r1, r2, finS_tr r3 (fr_upd fr_rfl (by decide)) (fr_mono q3 (by decide)) (fr_upd fr_rfl (by decide)) fr_rfl⟩
    cases hc : csR cp w J S (gb w J + 1) 0 with
    | none =>
      rw [hc] at q1 eq1
      obtain ⟨rc, rm, r1, r2, r3⟩ := keep
      refine ⟨rc, rm, stC _ (Go_pos q1 r1), stM _ (Go_pos (by rw [eq1]; exact lg_m1) r2), r3⟩
    | some t =>
      rw [hc] at q1 eq1
      have ht1 := csR_le _ _ _ hc
      have hCP : C * (gb w J + 1) ≤ 100000 * 8 := Nat.mul_le_mul hC (by omega)
      change q.1 = sN (0 + t + C * (gb w J + 1)) at q1
      change q'.1 = jN (C * (gb w J + 1) + t) at eq1
      generalize hcc : C * (gb w J + 1) + t = c at eq1
      rw [show 0 + t + C * (gb w J + 1) = c by omega] at q1
      have hc2 : c ≤ 2000000 := by omega
      have n1 : ¬ q.1 = -1 := by rw [q1]; exact nm1 (by omega)
      -- with taking
      have take : ∃ rc rm : Res, Go (fun n => (f_Sh_takeWay n q.2.1 q.2.2).bind (fun y => (f_Sh_goToNextWay n y.2.1 y.2.2).bind (fun z => if ¬ z.1 = 0 then L_Sh_seekLeastCost n 47 (upd (upd (upd (upd am_lv0 1 (lv 1)) 2 (lv 2)) 3 (lv 3)) 4 q.1) (upd z.2.1 18 0) z.2.2 else L_Sh_seekLeastCost n 47 (upd (upd (upd (upd am_lv0 1 (lv 1)) 2 (lv 2)) 3 (lv 3)) 4 q.1) (upd z.2.1 18 1) z.2.2))) (fun z => z = rc) ∧ Go (fun n => (f_Mo_take n q'.2.1 q'.2.2 (sN S)).bind (fun y => (f_Mo_nextWay n y.2.1 y.2.2).bind (fun z => L_Mo_share n 118 (upd (upd (upd (upd (upd am_lv0 1 (lv' 1)) 2 (lv' 2)) 3 (lv' 3)) 4 (lv' 4)) 7 z.1) q'.1 z.2.1 z.2.2))) (fun z => z = rm) ∧ finS J cp W X F Y G rc rm := by
        rw [q2, eq2, eq3, q1, eq1]
        have h6' : ∀ j, j < J → q.2.2 6 j = sN (cp j) := by rw [q3 6 (by decide)]; exact h6
        have h8' : ∀ j, j < J → q.2.2 8 j = sN (w j) := by rw [q3 8 (by decide)]; exact h8
        obtain ⟨M, y, hy, y1, y2, y3, y4⟩ := e_takeC hJ hS hcp hw.1 (upd X 17 (X 17 + 1)) q.2.2 x15 x16 h6' h8' q5 q4
        obtain ⟨M', y', hy', u1, u2, u3, u4⟩ := e_takeM hJ1 hJ hS hw.1 hcp (upd Y 26 (Y 26 + 1)) G y21 h22 h23
        have tk : tkn (some c) J cp y.2.1 y.2.2 y'.2.1 y'.2.2 := by
          show takI J cp y.2.1 y.2.2 y'.2.1 y'.2.2
          refine ⟨by rw [u1]; rfl, by rw [u1]; rfl, gb w J + 1, by omega, by omega, by rw [y1]; rfl, by rw [u1]; rfl, fun j hj => ?_⟩
          have hwj := hw.1 j
          have hwg := gb_ge (w := w) J j hj
          have hnz := csR_n _ _ _ hc (w j) (by omega) (by omega)
          have zr := zN_r (cp := cp) (w := w) (J := J) (S := S) (p := w j)
          have a := y4 j hj
          have b := u3 j hj
          have d := u4 (w j) (by omega)
          rw [zz_n hnz] at a d
          exact ⟨w j, zN cp w J S (w j), by omega, zr.1, zr.2, a.1, b.1, a.2, d, b.2⟩
        obtain ⟨rc, rm, r1, r2, r3⟩ := nst hJ1 hJ hW ih (L + 1) w (some c) y.2.1 y.2.2 y'.2.1 y'.2.2 (upd (upd (upd (upd am_lv0 1 (lv 1)) 2 (lv 2)) 3 (lv 3)) 4 (sN c)) (upd (upd (upd (upd am_lv0 1 (lv 1)) 2 (lv 2)) 3 (lv 3)) 4 (sN c)) (fun x => upd (upd (upd (upd (upd am_lv0 1 (lv' 1)) 2 (lv' 2)) 3 (lv' 3)) 4 (lv' 4)) 7 x) (by omega) (by omega) ⟨by rw [y1]; exact x15, by rw [y1]; exact x16, by rw [y1]; exact eX, by rw [u1]; exact y21, by rw [u1]; exact eY, by rw [y2 6 (by decide)]; exact h6', by rw [u2 22 (by decide)]; exact h22, by rw [y2 8 (by decide)]; exact h8', by rw [u2 23 (by decide)]; exact h23, y3⟩ hw tk (fun b hb' => by cases hb'; exact hc2) l2 l3 rfl rfl (fun _ => m1) (fun _ => m2) (fun _ => m3) (fun _ => rfl)
        refine ⟨rc, rm, ?_, ?_, finS_tr r3 ?_ (fr_trans (fr_mono q3 (by decide)) (fr_mono y2 (by decide))) ?_ (fr_mono u2 (by decide))⟩
        · exact Go_bind (⟨M, y, hy, rfl⟩ : Go (fun n => f_Sh_takeWay n (upd X 17 (X 17 + 1)) q.2.2) (fun z => z = y)) (fun z hz => by rw [hz]; exact r1)
        · exact Go_bind (⟨M', y', hy', rfl⟩ : Go (fun n => f_Mo_take n (upd Y 26 (Y 26 + 1)) G (sN S)) (fun z => z = y')) (fun z hz => by rw [hz]; exact r2)
        · rw [y1]; exact fr_upd (fr_upd fr_rfl (by decide)) (by decide)
        · rw [u1]; exact fr_upd (fr_upd (fr_upd (fr_upd fr_rfl (by decide)) (by decide)) (by decide)) (by decide)
      have np : ¬ lg_cmp q'.1 0 < 0 := by rw [eq1]; exact lg_p (by omega)
      cases o with
      | none =>
        obtain ⟨rc, rm, r1, r2, r3⟩ := take
        exact ⟨rc, rm, stC _ (Go_neg n1 (Go_pos l4 r1)), stM _ (Go_neg np (Go_pos lg_m1 r2)), r3⟩
      | some b =>
        have hb2 := hb b rfl
        have l4' : lv 4 = sN b := l4
        have n2 : ¬ lv 4 = -1 := by rw [l4']; exact nm1 (by omega)
        have np2 : ¬ lg_cmp (bJ (some b)) 0 < 0 := lg_p (by omega)
        have el : (0 ≤ lg_cmp q'.1 (bJ (some b))) = (b ≤ c) := by rw [eq1]; exact lg_le (by omega) (by omega)
        have ec : (lv 4 ≤ q.1) = (b ≤ c) := by rw [l4', q1, sN_le (by omega) (by omega)]
        by_cases hbc : b ≤ c
        · obtain ⟨rc, rm, r1, r2, r3⟩ := keep
          exact ⟨rc, rm, stC _ (Go_neg n1 (Go_neg n2 (Go_pos (by rw [ec]; exact hbc) r1))), stM _ (Go_neg np (Go_neg np2 (Go_pos (by rw [el]; exact hbc) r2))), r3⟩
        · obtain ⟨rc, rm, r1, r2, r3⟩ := take
          exact ⟨rc, rm, stC _ (Go_neg n1 (Go_neg n2 (Go_neg (by rw [ec]; exact hbc) r1))), stM _ (Go_neg np (Go_neg np2 (Go_neg (by rw [el]; exact hbc) r2))), r3⟩
