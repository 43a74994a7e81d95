/-! sharing: the search, side by side -/
theorem g_nw71 {J : Nat} (hJ : J ≤ 8) (Y : Nat → Int32) (y21 : Y 21 = sN J) : ∀ (m k : Nat) (lv : Nat → Int32) (G : Nat → Nat → Int32), k + m = J → lv 3 = sN k → Go (fun n => L_Mo_nextWay n 71 lv Y G) (fun q => q.1 = 1 ∧ q.2.1 = Y ∧ fr [23] G q.2.2 ∧ (∀ j, j < k → q.2.2 23 j = G 23 j) ∧ ∀ j, k ≤ j → j < J → q.2.2 23 j = 0)
  | 0, k, lv, G, hm, l3 => by
    refine Go_S ?_
    simp only [L_Mo_nextWay, ↓reduceIte, Nat.reduceEqDiff]
    exact Go_pos (by rw [y21, l3, sN_le (by omega) (by omega)]; omega) (Go_ret ⟨rfl, rfl, fr_rfl, fun j hj => rfl, fun j a b => by omega⟩)
  | m + 1, k, lv, G, hm, l3 => by
    refine Go_S ?_
    simp only [L_Mo_nextWay, ↓reduceIte, Nat.reduceEqDiff]
    have e3 : (lv 3).toNatClampNeg = k := by rw [l3, sN_nat (by omega)]
    rw [e3]
    refine Go_neg (by rw [y21, l3, sN_le (by omega) (by omega)]; omega) (Go_pos (by rw [l3, wN_0, sN_lt (by omega) (by omega)]; omega) ?_)
    refine Go_mono (g_nw71 hJ Y y21 m (k + 1) _ (va_up G 23 (upd (G 23) k 0)) (by omega) (by show lv 3 + Int32.ofInt 1 = _; rw [l3]; exact sN_add k 1)) (fun q hq => ?_)
    obtain ⟨q1, q2, q3, q4, q5⟩ := hq
    refine ⟨q1, q2, fr_trans (fr_vup fr_rfl (by decide)) q3, fun j hj => ?_, fun j a b => ?_⟩
    · rw [q4 j (by omega)]
      show upd (G 23) k 0 j = _
      rw [upd_app, if_neg (by omega)]
    · by_cases e : j = k
      · rw [q4 j (by omega)]
        show upd (G 23) k 0 j = _
        rw [upd_app, if_pos e]
      · exact q5 j (by omega) b
theorem g_nw15 {J i : Nat} {w : Nat → Nat} {Q : Res → Prop} (hi : i < J) (hJ : J ≤ 8) (hw : ∀ j, w j ≤ j) (Y : Nat → Int32) (G : Nat → Nat → Int32) (h23 : ∀ j, j < J → G 23 j = sN (w j)) (K : ∀ lv' : Nat → Int32, lv' 1 = sN i → lv' 2 = sN (gb w i) → lv' 3 = sN i → Go (fun n => L_Mo_nextWay n 15 lv' Y G) Q) : ∀ (m k : Nat) (lv : Nat → Int32), k + m = i → lv 1 = sN i → lv 2 = sN (gb w k) → lv 3 = sN k → Go (fun n => L_Mo_nextWay n 15 lv Y G) Q
  | 0, k, lv, hm, l1, l2, l3 => K lv l1 (by rw [l2, show k = i by omega]) (by rw [l3, show k = i by omega])
  | m + 1, k, lv, hm, l1, l2, l3 => by
    have hwk := hw k
    have hg := gb_le hw k
    refine Go_S ?_
    simp only [L_Mo_nextWay, ↓reduceIte, Nat.reduceEqDiff]
    have e3 : (lv 3).toNatClampNeg = k := by rw [l3, sN_nat (by omega)]
    have nx : lv 3 + Int32.ofInt 1 = sN (k + 1) := by rw [l3]; exact sN_add k 1
    have c3 : ¬ (lv 3 < 0 ∨ 8 ≤ k) := by rw [l3, wN_0, sN_lt (by omega) (by omega)]; omega
    rw [e3, h23 k (by omega), l2]
    refine Go_neg (by rw [l1, l3, sN_le (by omega) (by omega)]; omega) (Go_pos c3 (Go_ite (fun z => ?_) (fun z => Go_pos c3 ?_)))
    · rw [sN_le (by omega) (by omega)] at z
      refine g_nw15 hi hJ hw Y G h23 K m (k + 1) _ (by omega) l1 ?_ nx
      show sN (gb w k) = sN (max (gb w k) (w k))
      rw [Nat.max_eq_left z]
    · rw [sN_le (by omega) (by omega)] at z
      refine g_nw15 hi hJ hw Y G h23 K m (k + 1) _ (by omega) l1 ?_ nx
      show sN (w k) = sN (max (gb w k) (w k))
      rw [Nat.max_eq_right (by omega)]
theorem g_nw7 {J : Nat} {w : Nat → Nat} (hJ : J ≤ 8) (hw : ∀ j, w j ≤ j) (Y : Nat → Int32) (G : Nat → Nat → Int32) (y21 : Y 21 = sN J) (h23 : ∀ j, j < J → G 23 j = sN (w j)) : ∀ (i : Nat) (lv : Nat → Int32), i < J → lv 1 = sN i → Go (fun n => L_Mo_nextWay n 7 lv Y G) (fun q => q.2.1 = Y ∧ fr [23] G q.2.2 ∧ match nwS i (zer i w) with
    | none => q.1 = 0
    | some w2 => q.1 = 1 ∧ ∀ j, j < J → q.2.2 23 j = sN (w2 j))
  | 0, lv, hi, l1 => by
    refine Go_S ?_
    simp only [L_Mo_nextWay, ↓reduceIte]
    exact Go_pos (by rw [l1]; decide) (Go_ret ⟨rfl, fr_rfl, rfl⟩)
  | i + 1, lv, hi, l1 => by
    have hg := gb_le hw (i + 1)
    have hwi := hw (i + 1)
    refine Go_S ?_
    simp only [L_Mo_nextWay, ↓reduceIte]
    refine Go_neg (by rw [l1, wN_0, sN_le (by omega) (by omega)]; omega) ?_
    refine g_nw15 hi hJ hw Y G h23 (fun lv' m1 m2 m3 => ?_) (i + 1) 0 _ (by omega) l1 rfl rfl
    have e1 : (lv' 1).toNatClampNeg = i + 1 := by rw [m1, sN_nat (by omega)]
    have c1 : ¬ (lv' 1 < 0 ∨ 8 ≤ i + 1) := by rw [m1, wN_0, sN_lt (by omega) (by omega)]; omega
    refine Go_S ?_
    simp only [L_Mo_nextWay, ↓reduceIte, Nat.reduceEqDiff]
    rw [e1, h23 (i + 1) hi]
    refine Go_pos (by rw [m1, m3, sN_le (by omega) (by omega)]; omega) (Go_pos c1 ?_)
    have eg : gb (zer (i + 1) w) (i + 1) = gb w (i + 1) := gb_cg (i + 1) (fun j hj => by show (if i + 1 < j then 0 else w j) = w j; rw [if_neg (by omega)])
    have ew : zer (i + 1) w (i + 1) = w (i + 1) := by show (if i + 1 < i + 1 then 0 else w (i + 1)) = _; rw [if_neg (by omega)]
    unfold nwS
    rw [eg, ew]
    by_cases hz : gb w (i + 1) < w (i + 1)
    · rw [if_pos hz]
      have ez : (fun j => if j = i + 1 then 0 else zer (i + 1) w j) = zer i w := by
        funext j
        show (if j = i + 1 then 0 else if i + 1 < j then 0 else w j) = if i < j then 0 else w j
        by_cases a : j = i + 1
        · rw [if_pos a, if_pos (by omega)]
        · rw [if_neg a]
          by_cases b : i + 1 < j
          · rw [if_pos b, if_pos (by omega)]
          · rw [if_neg b, if_neg (by omega)]
      rw [ez]
      refine Go_pos (by rw [m2, sN_lt (by omega) (by omega)]; exact hz) ?_
      refine g_nw7 hJ hw Y G y21 h23 i _ (by omega) ?_
      show lv' 1 + sI (-1) = sN i
      rw [m1, sN_sI, sI_add, sN_sI]; exact congrArg sI (by omega)
    · rw [if_neg hz]
      refine Go_neg (by rw [m2, sN_lt (by omega) (by omega)]; exact hz) (Go_pos c1 (Go_pos c1 ?_))
      refine Go_mono (g_nw71 hJ Y y21 (J - (i + 2)) (i + 2) _ _ (by omega) (by show lv' 1 + 1 = _; rw [m1]; exact sN_add (i + 1) 1)) (fun q hq => ?_)
      obtain ⟨q1, q2, q3, q4, q5⟩ := hq
      refine ⟨q2, fr_trans (fr_vup fr_rfl (by decide)) q3, q1, fun j hj => ?_⟩
      show q.2.2 23 j = sN (if j = i + 1 then (if i + 1 < j then 0 else w j) + 1 else if i + 1 < j then 0 else w j)
      by_cases a : j < i + 2
      · rw [q4 j a]
        show upd (G 23) (i + 1) (sN (w (i + 1)) + 1) j = _
        rw [upd_app]
        by_cases b : j = i + 1
        · rw [if_pos b, if_pos b, if_neg (by omega), wN_1, sN_add, b]
        · rw [if_neg b, if_neg b, if_neg (by omega)]; exact h23 j hj
      · rw [q5 j (by omega) hj, if_neg (by omega), if_pos (by omega)]; rfl
theorem e_nextM {J : Nat} {w : Nat → Nat} (hJ1 : 1 ≤ J) (hJ : J ≤ 8) (hw : wOK w J) (Y : Nat → Int32) (G : Nat → Nat → Int32) (y21 : Y 21 = sN J) (h23 : ∀ j, j < J → G 23 j = sN (w j)) : Go (fun n => f_Mo_nextWay n Y G) (fun q => q.2.1 = Y ∧ fr [23] G q.2.2 ∧ match nwS (J - 1) w with
    | none => q.1 = 0
    | some w2 => q.1 = 1 ∧ ∀ j, j < J → q.2.2 23 j = sN (w2 j)) := by
  have ez : zer (J - 1) w = w := by
    funext j
    show (if J - 1 < j then 0 else w j) = w j
    split
    · exact (hw.2 j (by omega)).symm
    · rfl
  have := g_nw7 hJ hw.1 Y G y21 h23 (J - 1) (upd am_lv0 1 (Y 21 - 1)) (by omega) (by show Y 21 - 1 = _; rw [y21, wN_1, sN_sub (by omega)])
  rw [ez] at this
  exact this
theorem e_nextC {J : Nat} {w : Nat → Nat} (hJ1 : 1 ≤ J) (hJ : J ≤ 8) (hw : wOK w J) (X : Nat → Int32) (F : Nat → Nat → Int32) (x15 : X 15 = sN J) (h8 : ∀ j, j < J → F 8 j = sN (w j)) : Go (fun n => f_Sh_goToNextWay n X F) (fun q => q.2.1 = X ∧ fr [8] F q.2.2 ∧ match nwS (J - 1) w with
    | none => q.1 = 0
    | some w2 => q.1 = 1 ∧ ∀ j, j < J → q.2.2 8 j = sN (w2 j)) :=
  g_nextC hJ X (J - 1) w _ F (by omega) hw.1 (by show f_Ma_min (X 15) 8 - 1 = _; rw [x15, wN_8, sN_min _ _ (by omega) (by omega), Nat.min_eq_left hJ, wN_1, sN_sub (by omega)]) h8
def takI (M : Nat) (cp : Nat → Nat) (X : Nat → Int32) (F : Nat → Nat → Int32) (Y : Nat → Int32) (G : Nat → Nat → Int32) : Prop := Y 22 = 1 ∧ Y 24 = sN M ∧ ∃ P, 1 ≤ P ∧ P ≤ 8 ∧ X 20 = sN P ∧ Y 25 = sN P ∧ ∀ j, j < M → ∃ t z, t < 8 ∧ 1 ≤ z ∧ z ≤ 100000 ∧ F 10 j = sN t ∧ G 24 j = sN t ∧ F 11 j = sN z ∧ G 25 t = sN z ∧ G 26 j = sN (cp j)
def tkn (o : Option Nat) (J : Nat) (cp : Nat → Nat) (X : Nat → Int32) (F : Nat → Nat → Int32) (Y : Nat → Int32) (G : Nat → Nat → Int32) : Prop := match o with
  | none => X 20 = 0 ∧ Y 22 = 0
  | some _ => takI J cp X F Y G
theorem tkn_cg {o : Option Nat} {J : Nat} {cp : Nat → Nat} {X X' : Nat → Int32} {F F' : Nat → Nat → Int32} {Y Y' : Nat → Int32} {G G' : Nat → Nat → Int32} (h : tkn o J cp X F Y G) (hX : X' 20 = X 20) (hF : F' 10 = F 10 ∧ F' 11 = F 11) (hY : Y' 22 = Y 22 ∧ Y' 24 = Y 24 ∧ Y' 25 = Y 25) (hG : G' 24 = G 24 ∧ G' 25 = G 25 ∧ G' 26 = G 26) : tkn o J cp X' F' Y' G' := by
  unfold tkn takI at *
  rw [hX, hF.1, hF.2, hY.1, hY.2.1, hY.2.2, hG.1, hG.2.1, hG.2.2]
  exact h
def shS (J S : Nat) (cp w : Nat → Nat) (L : Nat) (X : Nat → Int32) (F : Nat → Nat → Int32) (Y : Nat → Int32) (G : Nat → Nat → Int32) : Prop := X 15 = sN J ∧ X 16 = sN S ∧ X 17 = sN L ∧ Y 21 = sN J ∧ Y 26 = sN L ∧ (∀ j, j < J → F 6 j = sN (cp j)) ∧ (∀ j, j < J → G 22 j = sN (cp j)) ∧ (∀ j, j < J → F 8 j = sN (w j)) ∧ (∀ j, j < J → G 23 j = sN (w j)) ∧ mem7 cp J S (F 7)
def bI (o : Option Nat) : Int32 := match o with
  | none => -1
  | some b => sN b
def bJ (o : Option Nat) : Int64 := match o with
  | none => -1
  | some b => jN b
def finS (J : Nat) (cp : Nat → Nat) (W : Nat) (X : Nat → Int32) (F : Nat → Nat → Int32) (Y : Nat → Int32) (G : Nat → Nat → Int32) (rc rm : Res) : Prop := rc.1 = rm.1 ∧ (∃ L, 1 ≤ L ∧ L ≤ W ∧ rc.2.1 17 = sN L ∧ rm.2.1 26 = sN L) ∧ (∃ a, a ≤ 1 ∧ rc.2.1 18 = sN a ∧ rm.2.1 27 = sN a) ∧ rm.2.1 23 = 1 ∧ fr [17, 18, 20] X rc.2.1 ∧ fr [7, 8, 9, 10, 11] F rc.2.2 ∧ fr [22, 23, 24, 25, 26, 27] Y rm.2.1 ∧ fr [23, 24, 25, 26] G rm.2.2 ∧ ∃ o, tkn o J cp rc.2.1 rc.2.2 rm.2.1 rm.2.2
def seekP (J S C W : Nat) (cp : Nat → Nat) (m : Nat) : Prop := ∀ (L : Nat) (w : Nat → Nat) (o : Option Nat) (X : Nat → Int32) (F : Nat → Nat → Int32) (Y : Nat → Int32) (G : Nat → Nat → Int32) (lv lv' : Nat → Int32), L + m = W → (1 ≤ L ∨ 1 ≤ m) → shS J S cp w L X F Y G → wOK w J → X 18 = 0 → tkn o J cp X F Y G → (∀ b, o = some b → b ≤ 2000000) → lv 2 = sN C → lv 3 = sN W → lv 4 = bI o → lv' 1 = sN S → lv' 2 = sN C → lv' 3 = sN W → lv' 7 = 1 → ∃ rc rm : Res, Go (fun n => L_Sh_seekLeastCost n 47 lv X F) (fun q => q = rc) ∧ Go (fun n => L_Mo_share n 118 lv' (bJ o) Y G) (fun q => q = rm) ∧ finS J cp W X F Y G rc rm
theorem bJ_I {o : Option Nat} (h : ∀ b, o = some b → b ≤ 2000000) : (bJ o).toInt32 = bI o := by
  cases o with
  | none => rfl
  | some b => exact jN_s (by have := h b rfl; omega)
/-- the next way, and on -/
theorem nst {J S C W m : Nat} {cp : Nat → Nat} (hJ1 : 1 ≤ J) (hJ : J ≤ 8) (hW : W ≤ 1000) (ih : seekP J S C W cp m) (L : Nat) (w : Nat → Nat) (o : Option Nat) (X : Nat → Int32) (F : Nat → Nat → Int32) (Y : Nat → Int32) (G : Nat → Nat → Int32) (lvA lvB : Nat → Int32) (lvM : Int32 → Nat → Int32) (hL : L + m = W) (hL1 : 1 ≤ L) (hs : shS J S cp w L X F Y G) (hw : wOK w J) (ht : tkn o J cp X F Y G) (hb : ∀ b, o = some b → b ≤ 2000000) (a2 : lvA 2 = sN C) (a3 : lvA 3 = sN W) (a4 : lvA 4 = bI o) (b4 : lvB 4 = bI o) (m1 : ∀ x, lvM x 1 = sN S) (m2 : ∀ x, lvM x 2 = sN C) (m3 : ∀ x, lvM x 3 = sN W) (m7 : ∀ x, lvM x 7 = x) : ∃ rc rm : Res, Go (fun n => (f_Sh_goToNextWay n X F).bind (fun q => if ¬ q.1 = 0 then L_Sh_seekLeastCost n 47 lvA (upd q.2.1 18 0) q.2.2 else L_Sh_seekLeastCost n 47 lvB (upd q.2.1 18 1) q.2.2)) (fun q => q = rc) ∧ Go (fun n => (f_Mo_nextWay n Y G).bind (fun q => L_Mo_share n 118 (lvM q.1) (bJ o) q.2.1 q.2.2)) (fun q => q = rm) ∧ finS J cp W X F Y G rc rm := by
  obtain ⟨x15, x16, x17, y21, y26, h6, h22, h8, h23, h7⟩ := hs
  obtain ⟨N, q, hq, q1, q2, q3⟩ := e_nextC hJ1 hJ hw X F x15 h8
  obtain ⟨N', q', hq', q1', q2', q3'⟩ := e_nextM hJ1 hJ hw Y G y21 h23
  have gC : Go (fun n => f_Sh_goToNextWay n X F) (fun z => z = q) := ⟨N, q, hq, rfl⟩
  have gM : Go (fun n => f_Mo_nextWay n Y G) (fun z => z = q') := ⟨N', q', hq', rfl⟩
  have htk : ∀ v, tkn o J cp (upd q.2.1 18 v) q.2.2 q'.2.1 q'.2.2 := fun v => tkn_cg ht (by show q.2.1 20 = _; rw [q1]) ⟨q2 10 (by decide), q2 11 (by decide)⟩ ⟨by rw [q1'], by rw [q1'], by rw [q1']⟩ ⟨q2' 24 (by decide), q2' 25 (by decide), q2' 26 (by decide)⟩
  cases hn : nwS (J - 1) w with
  | none =>
    rw [hn] at q3 q3'
    refine ⟨(bI o, upd q.2.1 18 1, q.2.2), ((bJ o).toInt32, upd (upd q'.2.1 27 1) 23 1, q'.2.2), ?_, ?_, ?_⟩
    · refine Go_bind gC (fun z hz => ?_)
      rw [hz]
      refine Go_neg (fun y => y q3) (Go_S ?_)
      simp only [L_Sh_seekLeastCost, ↓reduceIte]
      rw [b4]
      refine Go_ite (fun _ => Go_ret rfl) (fun _ => Go_pos ?_ (Go_ret rfl))
      show ¬ (1 : Int32) = 0
      decide
    · refine Go_bind gM (fun z hz => ?_)
      rw [hz]
      refine Go_S ?_
      simp only [L_Mo_share, ↓reduceIte, Nat.reduceEqDiff]
      rw [m7, q3']
      exact Go_pos rfl (Go_neg (fun y => y rfl) (Go_ret rfl))
    · refine ⟨(bJ_I hb).symm, ⟨L, hL1, by omega, by show q.2.1 17 = _; rw [q1]; exact x17, by show q'.2.1 26 = _; rw [q1']; exact y26⟩, ⟨1, by omega, rfl, rfl⟩, rfl, ?_, ?_, ?_, ?_, o, ?_⟩
      · show fr _ X (upd q.2.1 18 1); rw [q1]; exact fr_upd fr_rfl (by decide)
      · exact fr_mono q2 (by decide)
      · show fr _ Y (upd (upd q'.2.1 27 1) 23 1); rw [q1']; exact fr_upd (fr_upd fr_rfl (by decide)) (by decide)
      · exact fr_mono q2' (by decide)
      · exact tkn_cg (htk 1) rfl ⟨rfl, rfl⟩ ⟨rfl, rfl, rfl⟩ ⟨rfl, rfl, rfl⟩
  | some w2 =>
    rw [hn] at q3 q3'
    obtain ⟨c1, c2⟩ := q3
    obtain ⟨d1, d2⟩ := q3'
    have hw2 : wOK w2 J := nwS_ok (J - 1) w w2 (by omega) hw hn
    obtain ⟨rc, rm, r1, r2, r3⟩ := ih L w2 o (upd q.2.1 18 0) q.2.2 q'.2.1 q'.2.2 lvA (lvM q'.1) hL (Or.inl hL1) ⟨by show q.2.1 15 = _; rw [q1]; exact x15, by show q.2.1 16 = _; rw [q1]; exact x16, by show q.2.1 17 = _; rw [q1]; exact x17, by rw [q1']; exact y21, by rw [q1']; exact y26, by rw [q2 6 (by decide)]; exact h6, by rw [q2' 22 (by decide)]; exact h22, c2, d2, by rw [q2 7 (by decide)]; exact h7⟩ hw2 rfl (htk 0) hb a2 a3 a4 (m1 _) (m2 _) (m3 _) (by rw [m7]; exact d1)
    refine ⟨rc, rm, ?_, ?_, ?_⟩
    · refine Go_bind gC (fun z hz => ?_)
      rw [hz]
      exact Go_pos (by rw [c1]; decide) r1
    · refine Go_bind gM (fun z hz => ?_)
      rw [hz]
      exact r2
    · obtain ⟨f1, f2, f3, f4, f5, f6, f7, f8, f9⟩ := r3
      refine ⟨f1, f2, f3, f4, fr_trans ?_ f5, fr_trans (fr_mono q2 (by decide)) f6, fr_trans ?_ f7, fr_trans (fr_mono q2' (by decide)) f8, f9⟩
      · rw [q1]; exact fr_upd fr_rfl (by decide)
      · rw [q1']; exact fr_rfl
