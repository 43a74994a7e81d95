/-! scheme, broken, run agree (object 0) -/
theorem ag_scheme_t {X : Nat → Int32} {F : Nat → Nat → Int32} {Y : Nat → Int32} {G : Nat → Nat → Int32} (h : tapI X F Y G) (hs : schB true X F Y G) : ∃ w b' X' F' Y' G', Go (fun n => f_Im_scheme_t n X F) (fun q => q = ((w, b'), X', F')) ∧ Go (fun n => f_Mo_scheme n Y G) (fun q => q = (w, Y', G')) ∧ tapI X' F' Y' G' ∧ schB b' X' F' Y' G' ∧ fr [0, 1, 2, 3, 4, 5, 6, 7, 8, 9, 21, 22, 23, 24] X X' ∧ fr [1, 12, 13, 14, 15] F F' ∧ fr [0, 1, 2, 3, 4, 5, 6, 7, 8, 9, 10, 11, 12, 13] Y Y' ∧ fr [1, 2, 3, 4, 5, 6] G G' := by
  obtain ⟨t, t1, t2⟩ := h
  obtain ⟨N, q, hq, q1, q2, q3⟩ := e_readInto_0 t X F t1
  obtain ⟨N', q', hq', r0, r1, r3⟩ := e_Mo_scheme t Y G t2
  have hm : Go (fun n => f_Mo_scheme n Y G) (fun z => z = (q'.1, q'.2.1, q'.2.2)) := ⟨N', q', hq', rfl⟩
  have hc : ∀ b', ((q.1 ≤ 0 ∧ b' = true) ∨ (¬ q.1 ≤ 0 ∧ b' = false)) → Go (fun n => f_Im_scheme_t n X F) (fun z => z = ((q.1, b'), upd q.2.1 0 0, q.2.2)) := by
    intro b' hb
    unfold f_Im_scheme_t
    refine Go_bind (⟨N, q, hq, rfl⟩ : Go (fun n => f_Re_readInto_0 n X F) (fun z => z = q)) (fun z hz => ?_)
    rw [hz]
    unfold f_Ta_empty
    simp only [Option.bind_some]
    rcases hb with ⟨b1, b2⟩ | ⟨b1, b2⟩
    · rw [b2]; exact Go_pos b1 (Go_ret rfl)
    · rw [b2]; exact Go_neg b1 (Go_ret rfl)
  have fX : fr [0, 1, 2, 3, 4, 5, 6, 7, 8, 9, 21, 22, 23, 24] X (upd q.2.1 0 0) := fr_upd (fr_mono q1 (by decide)) (by decide)
  have fY0 : fr [0, 1, 2, 3, 4, 5, 6, 7, 8, 9, 10, 11, 12, 13] Y (upd (upd Y 0 0) 1 0) := fr_upd (fr_upd fr_rfl (by decide)) (by decide)
  have hT : tapI (upd q.2.1 0 0) q.2.2 q'.2.1 q'.2.2 := ⟨fun _ => 1000, tape0 _, by rw [r1]; exact tape0 _⟩
  cases hp : paS t with
  | inl w =>
    rw [hp] at q3 r3
    obtain ⟨u1, u2, u3⟩ := r3
    have hw : w < 1000000 ∨ True := Or.inr trivial
    have hlt : w < 1000 := paS_lt t1 hp
    have e1 : q.1 = sI (-1 - (w : Int)) := by rw [q3, sI_m1, sN_sI, sI_sub]
    have hle : q.1 ≤ 0 := by rw [e1, show (0 : Int32) = sI 0 from rfl, sI_le (by omega) (by omega) (by omega) (by omega)]; omega
    refine ⟨q.1, true, upd q.2.1 0 0, q.2.2, q'.2.1, q'.2.2, hc _ (Or.inl ⟨hle, rfl⟩), by rw [q3, ← u1]; exact hm, hT, ?_, fX, q2, fr_trans fY0 (fr_mono u2 (by decide)), fr_mono u3 (by decide)⟩
    exact schB_sp_t hs q1 q2 u2 u3
  | inr s =>
    rw [hp] at q3 r3
    obtain ⟨u1, u2, u3, u4⟩ := r3
    obtain ⟨v1, v2⟩ := q3
    have hv := paS_v hp
    have hN : s.1 * s.2.1 ≤ 16 := hv.2.2.2.2.1
    have hN1 : 1 ≤ s.1 * s.2.1 := Nat.mul_le_mul hv.1 hv.2.1
    refine ⟨q.1, false, upd q.2.1 0 0, q.2.2, q'.2.1, q'.2.2, hc _ (Or.inr ⟨by rw [v1, wN_0, sN_le (by omega) (by omega)]; omega, rfl⟩), by rw [v1, ← u1]; exact hm, hT, Or.inr ⟨s, hv, v2, u4⟩, fX, q2, fr_trans fY0 (fr_mono u2 (by decide)), u3⟩
theorem ag_broken_f {X : Nat → Int32} {F : Nat → Nat → Int32} {Y : Nat → Int32} {G : Nat → Nat → Int32} (h : setI F G) (hs : schB false X F Y G) : ∃ w Y' G', Go (fun n => f_Im_broken_f n X F) (fun q => q = (w, X, F)) ∧ Go (fun n => f_Mo_broken n Y G) (fun q => q = (w, Y', G')) ∧ fr [0, 14, 15] Y Y' ∧ fr [7, 8, 9, 10, 11, 12, 13] G G' := by
  obtain ⟨st, h1, h2, h3⟩ := h
  have hwy : st 1 = 0 ∨ st 1 = 1 := by have := h1.2.1; omega
  have f21 : F 2 (1 : Int32).toNatClampNeg = sN (st 1) := h2 1 (by omega)
  have g141 : G 14 1 = sN (st 1) := h3 1 (by omega)
  rcases hs with ⟨x0, x1, x3, y5, y6, y7⟩ | ⟨s, hv, hC, hM⟩
  · refine ⟨0, upd Y 0 0, G, ?_, ?_, fr_upd fr_rfl (by decide), fr_rfl⟩
    · unfold f_Im_broken_f f_Sc_firstBroken_0
      refine Go_bind (Q := fun q => q = (0, X, F)) (Go_neg (fun z => z x3) (Go_ret rfl)) (fun q hq => ?_)
      rw [hq]; exact Go_ret rfl
    · unfold f_Mo_broken f_Mo_brokenPage
      refine Go_bind (Q := fun q => q = (0, upd Y 0 0, G)) (Go_pos y5 (Go_ret rfl)) (fun q hq => ?_)
      rw [hq]; exact Go_ret rfl
  · obtain ⟨v1, v2, v3, v4, v5, v6, v7, v8⟩ := hv
    have ok := bkl_ok v1 v2 v3 v4 v5 v7 v8
    obtain ⟨N', q', hq', r1, r2, r3⟩ := e_Mo_brokenPage v1 v2 v3 v4 v5 v6 v7 v8 hwy (upd Y 0 0) G hM g141
    refine ⟨sN (brS s (st 1)), q'.2.1, q'.2.2, ?_, ?_, fr_trans (fr_upd fr_rfl (by decide)) (fr_mono r2 (by decide)), r3⟩
    · unfold f_Im_broken_f
      rw [f21]
      refine Go_bind (e_firstBroken_0 v1 v3 v4 v5 ok hwy X F hC) (fun q hq => ?_)
      rw [hq]; exact Go_ret rfl
    · unfold f_Mo_broken
      refine Go_bind (⟨N', q', hq', rfl⟩ : Go (fun n => f_Mo_brokenPage n (upd Y 0 0) G) (fun z => z = q')) (fun z hz => ?_)
      rw [hz, ← r1]; exact Go_ret rfl
theorem ag_run_f {X : Nat → Int32} {F : Nat → Nat → Int32} {Y : Nat → Int32} {G : Nat → Nat → Int32} (h : setI F G) (hs : schB false X F Y G) (hb : bokI X F Y G) (a : Int32) : ∃ v w X' F' Y' G', Go (fun n => f_Im_run_f n X F a) (fun q => q = (v, X', F')) ∧ Go (fun n => f_Mo_run n Y G a) (fun q => q = (w, Y', G')) ∧ agT (fun k => k) v w (Y' 0) ∧ bokI X' F' Y' G' ∧ fr [10, 11, 12, 13, 14] X X' ∧ fr [3, 4, 5] F F' ∧ fr [0, 14, 15, 16, 17, 18, 19, 20] Y Y' ∧ fr [7, 8, 9, 10, 11, 12, 13, 15, 16, 17, 18, 19, 20, 21] G G' := by
  obtain ⟨z, z1, z2, rfl⟩ := sI_ex a
  have w1 : (1 : Int32) = sI 1 := rfl
  have hbt : ∀ t, bokI X F (upd Y 0 t) G := fun t => bokI_cg hb (fun _ _ => rfl) (fun _ _ => rfl) (fun k hk => (fr_upd (S := [0]) fr_rfl (by decide) : fr [0] Y (upd Y 0 t)) k (by revert k hk; decide)) (fun _ _ => rfl)
  obtain ⟨st, h1, h2, h3⟩ := h
  have hwy : st 1 = 0 ∨ st 1 = 1 := by have := h1.2.1; omega
  have b0 := h1.1
  have f20 : F 2 (0 : Int32).toNatClampNeg = sN (st 0) := h2 0 (by omega)
  have f21 : F 2 (1 : Int32).toNatClampNeg = sN (st 1) := h2 1 (by omega)
  have g141 : G 14 1 = sN (st 1) := h3 1 (by omega)
  have g140 : G 14 (0 : Int32).toNatClampNeg = sN (st 0) := h3 0 (by omega)
  -- the three ways to throw
  have out : ∀ (k : Nat) (t : Int32), (t = sN k ∧ (k = 1 ∨ k = 2)) → Go (fun n => f_Im_run_f n X F (sI z)) (fun q => q = (.inl k, X, F)) → Go (fun n => f_Mo_run n Y G (sI z)) (fun q => q = (0, upd Y 0 t, G)) → ∃ v w X' F' Y' G', Go (fun n => f_Im_run_f n X F (sI z)) (fun q => q = (v, X', F')) ∧ Go (fun n => f_Mo_run n Y G (sI z)) (fun q => q = (w, Y', G')) ∧ agT (fun k => k) v w (Y' 0) ∧ bokI X' F' Y' G' ∧ fr [10, 11, 12, 13, 14] X X' ∧ fr [3, 4, 5] F F' ∧ fr [0, 14, 15, 16, 17, 18, 19, 20] Y Y' ∧ fr [7, 8, 9, 10, 11, 12, 13, 15, 16, 17, 18, 19, 20, 21] G G' :=
    fun k t ht hc hm => ⟨.inl k, 0, X, F, upd Y 0 t, G, hc, hm, ht, hbt t, fr_rfl, fr_rfl, fr_upd fr_rfl (by decide), fr_rfl⟩
  rcases hs with ⟨x0, x1, x3, y5, y6, y7⟩ | ⟨s, hv, hC, hM⟩
  · -- no scheme
    have e0 : X 21 * X 22 ≤ 0 := by rw [x0, x1]; decide
    have hm : ∀ lv : Nat → Int32, lv 3 = 0 → lv 1 = sI z → ∀ t : Int32, ((z < 1 ∧ t = 1) ∨ (¬ z < 1 ∧ t = 2)) → Go (fun n => L_Mo_run n 55 lv Y G) (fun q => q = (0, upd Y 0 t, G)) := by
      intro lv l3 l1 t ht
      refine Go_S ?_
      simp only [L_Mo_run, ↓reduceIte]
      rcases ht with ⟨k1, rfl⟩ | ⟨k1, rfl⟩
      · exact Go_pos (by rw [l1, w1, sI_lt z1 z2 (by omega) (by omega)]; exact k1) (m_run92 _ Y G 1 (by decide))
      · exact Go_neg (by rw [l1, w1, sI_lt z1 z2 (by omega) (by omega)]; exact k1) (Go_pos y5 (Go_neg (fun y => y l3) (m_run92 _ Y G 2 (by decide))))
    by_cases k1 : z < 1
    · refine out 1 1 ⟨rfl, Or.inl rfl⟩ ?_ (Go_pos y5 (hm _ rfl rfl 1 (Or.inl ⟨k1, rfl⟩)))
      unfold f_Im_run_f f_Sc_cells_0
      simp only [Option.bind_some]
      exact Go_pos e0 (Go_pos (by rw [w1, sI_lt z1 z2 (by omega) (by omega)]; exact k1) (Go_ret rfl))
    · refine out 2 2 ⟨rfl, Or.inr rfl⟩ ?_ (Go_pos y5 (hm _ rfl rfl 2 (Or.inr ⟨k1, rfl⟩)))
      unfold f_Im_run_f f_Sc_cells_0
      simp only [Option.bind_some]
      exact Go_pos e0 (Go_neg (by rw [w1, sI_lt z1 z2 (by omega) (by omega)]; exact k1) (Go_ret rfl))
  · have hv' := hv
    obtain ⟨v1, v2, v3, v4, v5, v6, v7, v8⟩ := hv'
    have hN1 : 1 ≤ s.1 * s.2.1 := Nat.mul_le_mul v1 v2
    have ok := bkl_ok v1 v2 v3 v4 v5 v7 v8
    have hC' := hC
    obtain ⟨c0, c1, c2, c3, c4, c5⟩ := hC'
    have hM' := hM
    obtain ⟨m5, m6, m7, m8, m9, m10⟩ := hM'
    have ecl : X 21 * X 22 = sN (s.1 * s.2.1) := by rw [c0, c1, sN_mul]
    have n0 : ¬ sN (s.1 * s.2.1) ≤ 0 := by rw [wN_0, sN_le (by omega) (by omega)]; omega
    have e40 : (20 : Int32) * (2 * sN (s.1 * s.2.1)) = sI ((40 * (s.1 * s.2.1) : Nat) : Int) := by rw [wN_20, wN_2, sN_mul, sN_mul, sN_sI]; exact congrArg sI (by omega)
    have eall : (2 : Int32) * Y 6 * Y 7 = sN (2 * (s.1 * s.2.1)) := by rw [m6, m7, wN_2, sN_mul, sN_mul, Nat.mul_assoc]
    have e40m : (20 : Int32) * sN (2 * (s.1 * s.2.1)) = sI ((40 * (s.1 * s.2.1) : Nat) : Int) := by rw [wN_20, sN_mul, sN_sI]; exact congrArg sI (by omega)
    have ny5 : ¬ Y 5 = 0 := by rw [m5]; decide
    -- the model's first steps
    have hfit : ∀ (P : Res → Prop), (∀ lv : Nat → Int32, lv 1 = sI z → lv 2 = sN (2 * (s.1 * s.2.1)) → lv 3 = (if (st 0 = 2 ↔ s.2.2.1.length = 0) then 1 else 0) → Go (fun n => L_Mo_run n 55 lv Y G) P) → Go (fun n => f_Mo_run n Y G (sI z)) P := by
      intro P hP
      unfold f_Mo_run
      rw [eall, g140, m8]
      refine Go_neg ny5 (Go_ite (fun k => ?_) (fun k => ?_))
      · rw [wN_2, sN_eq (by omega) (by omega)] at k
        refine Go_ite (fun k' => ?_) (fun k' => ?_)
        · rw [wN_0, sN_eq (by omega) (by omega)] at k'
          exact hP _ rfl rfl (by rw [if_pos (by omega)]; rfl)
        · rw [wN_0, sN_eq (by omega) (by omega)] at k'
          exact hP _ rfl rfl (by rw [if_neg (by omega)]; rfl)
      · rw [wN_2, sN_eq (by omega) (by omega)] at k
        refine Go_ite (fun k' => ?_) (fun k' => ?_)
        · rw [wN_0, sN_eq (by omega) (by omega)] at k'
          exact hP _ rfl rfl (by rw [if_neg (by omega)]; rfl)
        · rw [wN_0, sN_eq (by omega) (by omega)] at k'
          exact hP _ rfl rfl (by rw [if_pos (by omega)]; rfl)
    -- the class's first steps
    have hcl : ∀ (P : (Nat ⊕ Int32) × (Nat → Int32) × (Nat → Nat → Int32) → Prop), (z < 1 → P (.inl 1, X, F)) → (¬ z < 1 → ¬ z ≤ ((40 * (s.1 * s.2.1) : Nat) : Int) → P (.inl 1, X, F)) → (¬ z < 1 → z ≤ ((40 * (s.1 * s.2.1) : Nat) : Int) → ¬ (st 0 = 2 ↔ s.2.2.1.length = 0) → P (.inl 2, X, F)) → (¬ z < 1 → z ≤ ((40 * (s.1 * s.2.1) : Nat) : Int) → (st 0 = 2 ↔ s.2.2.1.length = 0) → Go (fun n => (f_Sc_firstBroken_0 n X F (sN (st 1))).bind (fun q => if q.1 = 0 then (f_Bo_lay_0 n q.2.1 q.2.2 (sI z)).bind (fun q5 => some (.inr (f_Bo_sheetCount q5.2.1), q5.2.1, q5.2.2)) else some (.inr 0, q.2.1, q.2.2))) P) → Go (fun n => f_Im_run_f n X F (sI z)) P := by
      intro P p1 p2 p3 p4
      unfold f_Im_run_f f_Sc_pageCount_0 f_Sc_cells_0 f_Sc_isCut_0
      simp only [Option.bind_some]
      rw [ecl, e40, c2]
      refine Go_neg n0 (Go_ite (fun k => ?_) (fun k => Go_ite (fun k' => ?_) (fun k' => ?_)))
      · rw [w1, sI_lt z1 z2 (by omega) (by omega)] at k
        exact Go_ret (p1 k)
      · rw [w1, sI_lt z1 z2 (by omega) (by omega)] at k
        rw [sI_le z1 z2 (by omega) (by omega)] at k'
        by_cases kl : s.2.2.1.length = 0
        · rw [if_neg (by rw [kl]; exact fun y => y rfl)]
          simp only [Option.bind_some]
          rw [f20, f21]
          refine Go_ite (fun k2 => ?_) (fun k2 => ?_)
          · rw [wN_2, sN_eq (by omega) (by omega)] at k2
            exact Go_neg (show ¬ (1 : Int32) = 0 by decide) (Go_ret (p3 k k' (by omega)))
          · rw [wN_2, sN_eq (by omega) (by omega)] at k2
            exact Go_pos (by first | exact trivial | rfl) (p4 k k' (by omega))
        · rw [if_pos (by rw [wN_0, sN_eq (by omega) (by omega)]; exact kl)]
          simp only [Option.bind_some]
          rw [f20, f21]
          refine Go_ite (fun k2 => ?_) (fun k2 => ?_)
          · rw [wN_2, sN_eq (by omega) (by omega)] at k2
            exact Go_pos (by first | exact trivial | rfl) (p4 k k' (by omega))
          · rw [wN_2, sN_eq (by omega) (by omega)] at k2
            exact Go_neg (show ¬ (0 : Int32) = 1 by decide) (Go_ret (p3 k k' (by omega)))
      · rw [w1, sI_lt z1 z2 (by omega) (by omega)] at k
        rw [sI_le z1 z2 (by omega) (by omega)] at k'
        exact Go_ret (p2 k k')
    by_cases k1 : z < 1
    · refine out 1 1 ⟨rfl, Or.inl rfl⟩ (hcl _ (fun _ => rfl) (fun y => absurd k1 y) (fun y => absurd k1 y) (fun y => absurd k1 y)) (hfit _ (fun lv l1 l2 l3 => ?_))
      refine Go_S ?_
      simp only [L_Mo_run, ↓reduceIte]
      exact Go_pos (by rw [l1, w1, sI_lt z1 z2 (by omega) (by omega)]; exact k1) (m_run92 _ Y G 1 (by decide))
    by_cases k2 : z ≤ ((40 * (s.1 * s.2.1) : Nat) : Int)
    · by_cases k3 : (st 0 = 2 ↔ s.2.2.1.length = 0)
      · -- it may be laid
        obtain ⟨n, rfl, hn1, hn2⟩ : ∃ n : Nat, z = (n : Int) ∧ 1 ≤ n ∧ n ≤ 40 * (s.1 * s.2.1) := ⟨z.toNat, by omega, by omega, by omega⟩
        have hfb := e_firstBroken_0 v1 v3 v4 v5 ok hwy X F hC
        have hmb := e_Mo_brokenPage v1 v2 v3 v4 v5 v6 v7 v8 hwy (upd Y 0 0) G hM g141
        have hm55 : ∀ (P : Res → Prop), (∀ lv : Nat → Int32, lv 1 = sI n → lv 2 = sN (2 * (s.1 * s.2.1)) → Go (fun n => L_Mo_run n 92 lv (upd Y 0 0) G) P) → Go (fun k => f_Mo_run k Y G (sI n)) P := by
          intro P hP
          refine hfit P (fun lv l1 l2 l3 => ?_)
          rw [if_pos k3] at l3
          refine Go_S ?_
          simp only [L_Mo_run, ↓reduceIte]
          refine Go_neg (by rw [l1, w1, sI_lt z1 z2 (by omega) (by omega)]; exact k1) (Go_neg ny5 (Go_pos ?_ (Go_pos (by rw [l3]; decide) (hP _ l1 l2))))
          rw [l1, l2, e40m, sI_le z1 z2 (by omega) (by omega)]; exact k2
        have hbr := brS_lt s (st 1) v5
        by_cases kb : brS s (st 1) = 0
        · -- laid
          obtain ⟨N1, q1, hq1, lx, lF, lC, lS⟩ := e_lay_0 v1 v2 v3 v4 v5 ok h1 hn1 hn2 X F hC h2
          obtain ⟨sr1, sr2, sr3, sr4⟩ := shC_r hN1 v5 hn1 hn2
          have hB : bkB s.1 (s.1 * s.2.1) (shC n (s.1 * s.2.1)) n st := ⟨⟨v1, v3⟩, ⟨hN1, v5⟩, sr1, sr2, ⟨hn1, sr3⟩, sr4, h1⟩
          have hmod : Go (fun k => f_Mo_run k Y G (sI n)) (fun q => q.1 = sN (shC n (s.1 * s.2.1)) ∧ q.2.1 0 = 0 ∧ fr [0, 14, 15, 16, 17, 18, 19, 20] Y q.2.1 ∧ fr [7, 8, 9, 10, 11, 12, 13, 15, 16, 17, 18, 19, 20, 21] G q.2.2 ∧ q.2.1 16 = sN (shC n (s.1 * s.2.1)) ∧ q.2.1 17 = sN (2 * (s.1 * s.2.1)) ∧ q.2.1 18 = sN n ∧ q.2.1 19 = sN (shC n (s.1 * s.2.1) * (2 * (s.1 * s.2.1)) - n) ∧ (q.2.1 20 = if (st 3 < st 5 ∨ st 4 < st 6) ∧ st 9 = 0 then 1 else 0) ∧ bkP s.1 s.2.1 (shC n (s.1 * s.2.1)) n (st 1) st s.2.2.2.1 (fun _ _ => True) q.2.2) := by
            refine hm55 _ (fun lv l1 l2 => ?_)
            exact m_run92L s n st hv ok h1 hB kb hwy Y G hM h3 lv (by rw [l1, sN_sI]) l2
          obtain ⟨N2, q2, hq2, o1, o2, o3, o4, o5, o6, o7, o8, o9, o10⟩ := hmod
          refine ⟨.inr (sN (shC n (s.1 * s.2.1))), q2.1, q1.2.1, q1.2.2, q2.2.1, q2.2.2, ?_, ⟨N2, q2, hq2, rfl⟩, ⟨o2, o1⟩, Or.inr ⟨s.1, s.2.1, st 1, n, st, s.2.2.2.1, hB, ok, lC, lS, o5, o6, o7, o8, o9, o10⟩, lx, lF, o3, o4⟩
          refine hcl _ (fun y => absurd y k1) (fun _ y => absurd k2 y) (fun _ _ y => absurd k3 y) (fun _ _ _ => ?_)
          refine Go_bind hfb (fun q hq => ?_)
          rw [hq, kb]
          refine Go_pos rfl ?_
          rw [← sN_sI]
          refine Go_bind (⟨N1, q1, hq1, rfl⟩ : Go (fun k => f_Bo_lay_0 k X F (sN n)) (fun z => z = q1)) (fun z hz => ?_)
          rw [hz]
          refine Go_ret ?_
          unfold f_Bo_sheetCount
          rw [lC.2.2.1]
        · -- broken
          obtain ⟨N2, q2, hq2, o1, o2, o3⟩ := hmb
          have fY : fr [0, 14, 15, 16, 17, 18, 19, 20] Y q2.2.1 := fr_trans (fr_upd fr_rfl (by decide)) (fr_mono o2 (by decide))
          have fY' : fr [0, 14, 15] Y q2.2.1 := fr_trans (fr_upd fr_rfl (by decide)) (fr_mono o2 (by decide))
          refine ⟨.inr 0, 0, X, F, q2.2.1, q2.2.2, ?_, ?_, ⟨o2 0 (by decide), rfl⟩, bokI_cg hb (fun _ _ => rfl) (fun _ _ => rfl) (fun k hk => fY' k (by revert k hk; decide)) (fun k hk => o3 k (by revert k hk; decide)), fr_rfl, fr_rfl, fY, fr_mono o3 (by decide)⟩
          · refine hcl _ (fun y => absurd y k1) (fun _ y => absurd k2 y) (fun _ _ y => absurd k3 y) (fun _ _ _ => ?_)
            refine Go_bind hfb (fun q hq => ?_)
            rw [hq]
            exact Go_neg (by rw [wN_0, sN_eq (by omega) (by omega)]; exact kb) (Go_ret rfl)
          · refine hm55 _ (fun lv l1 l2 => ?_)
            refine Go_S ?_
            simp only [L_Mo_run, ↓reduceIte, Nat.reduceEqDiff]
            refine Go_pos (by show (0 : Int32) ≤ 0; decide) (Go_bind (⟨N2, q2, hq2, rfl⟩ : Go (fun k => f_Mo_brokenPage k (upd Y 0 0) G) (fun z => z = q2)) (fun z hz => ?_))
            rw [hz]
            exact Go_neg (by rw [o1, wN_0, sN_eq (by omega) (by omega)]; exact kb) (Go_ret rfl)
      · refine out 2 2 ⟨rfl, Or.inr rfl⟩ (hcl _ (fun y => absurd y k1) (fun _ y => absurd k2 y) (fun _ _ _ => rfl) (fun _ _ y => absurd y k3)) (hfit _ (fun lv l1 l2 l3 => ?_))
        rw [if_neg k3] at l3
        refine Go_S ?_
        simp only [L_Mo_run, ↓reduceIte]
        refine Go_neg (by rw [l1, w1, sI_lt z1 z2 (by omega) (by omega)]; exact k1) (Go_neg ny5 (Go_pos ?_ (Go_neg (fun y => y l3) (m_run92 _ Y G 2 (by decide)))))
        rw [l1, l2, e40m, sI_le z1 z2 (by omega) (by omega)]; exact k2
    · refine out 1 1 ⟨rfl, Or.inl rfl⟩ (hcl _ (fun y => absurd y k1) (fun _ _ => rfl) (fun _ y => absurd y k2) (fun _ y => absurd y k2)) (hfit _ (fun lv l1 l2 l3 => ?_))
      refine Go_S ?_
      simp only [L_Mo_run, ↓reduceIte]
      refine Go_neg (by rw [l1, w1, sI_lt z1 z2 (by omega) (by omega)]; exact k1) (Go_neg ny5 (Go_neg ?_ (m_run92 _ Y G 1 (by decide))))
      rw [l1, l2, e40m, sI_le z1 z2 (by omega) (by omega)]; exact k2
/-! scheme, broken, run agree (object 1) -/
theorem ag_scheme_f {X : Nat → Int32} {F : Nat → Nat → Int32} {Y : Nat → Int32} {G : Nat → Nat → Int32} (h : tapI X F Y G) (hs : schB false X F Y G) : ∃ w b' X' F' Y' G', Go (fun n => f_Im_scheme_f n X F) (fun q => q = ((w, b'), X', F')) ∧ Go (fun n => f_Mo_scheme n Y G) (fun q => q = (w, Y', G')) ∧ tapI X' F' Y' G' ∧ schB b' X' F' Y' G' ∧ fr [0, 1, 2, 3, 4, 5, 6, 7, 8, 9, 25, 26, 27, 28] X X' ∧ fr [1, 16, 17, 18, 19] F F' ∧ fr [0, 1, 2, 3, 4, 5, 6, 7, 8, 9, 10, 11, 12, 13] Y Y' ∧ fr [1, 2, 3, 4, 5, 6] G G' := by
  obtain ⟨t, t1, t2⟩ := h
  obtain ⟨N, q, hq, q1, q2, q3⟩ := e_readInto_1 t X F t1
  obtain ⟨N', q', hq', r0, r1, r3⟩ := e_Mo_scheme t Y G t2
  have hm : Go (fun n => f_Mo_scheme n Y G) (fun z => z = (q'.1, q'.2.1, q'.2.2)) := ⟨N', q', hq', rfl⟩
  have hc : ∀ b', ((q.1 ≤ 0 ∧ b' = false) ∨ (¬ q.1 ≤ 0 ∧ b' = true)) → Go (fun n => f_Im_scheme_f n X F) (fun z => z = ((q.1, b'), upd q.2.1 0 0, q.2.2)) := by
    intro b' hb
    unfold f_Im_scheme_f
    refine Go_bind (⟨N, q, hq, rfl⟩ : Go (fun n => f_Re_readInto_1 n X F) (fun z => z = q)) (fun z hz => ?_)
    rw [hz]
    unfold f_Ta_empty
    simp only [Option.bind_some]
    rcases hb with ⟨b1, b2⟩ | ⟨b1, b2⟩
    · rw [b2]; exact Go_pos b1 (Go_ret rfl)
    · rw [b2]; exact Go_neg b1 (Go_ret rfl)
  have fX : fr [0, 1, 2, 3, 4, 5, 6, 7, 8, 9, 25, 26, 27, 28] X (upd q.2.1 0 0) := fr_upd (fr_mono q1 (by decide)) (by decide)
  have fY0 : fr [0, 1, 2, 3, 4, 5, 6, 7, 8, 9, 10, 11, 12, 13] Y (upd (upd Y 0 0) 1 0) := fr_upd (fr_upd fr_rfl (by decide)) (by decide)
  have hT : tapI (upd q.2.1 0 0) q.2.2 q'.2.1 q'.2.2 := ⟨fun _ => 1000, tape0 _, by rw [r1]; exact tape0 _⟩
  cases hp : paS t with
  | inl w =>
    rw [hp] at q3 r3
    obtain ⟨u1, u2, u3⟩ := r3
    have hw : w < 1000000 ∨ True := Or.inr trivial
    have hlt : w < 1000 := paS_lt t1 hp
    have e1 : q.1 = sI (-1 - (w : Int)) := by rw [q3, sI_m1, sN_sI, sI_sub]
    have hle : q.1 ≤ 0 := by rw [e1, show (0 : Int32) = sI 0 from rfl, sI_le (by omega) (by omega) (by omega) (by omega)]; omega
    refine ⟨q.1, false, upd q.2.1 0 0, q.2.2, q'.2.1, q'.2.2, hc _ (Or.inl ⟨hle, rfl⟩), by rw [q3, ← u1]; exact hm, hT, ?_, fX, q2, fr_trans fY0 (fr_mono u2 (by decide)), fr_mono u3 (by decide)⟩
    exact schB_sp_f hs q1 q2 u2 u3
  | inr s =>
    rw [hp] at q3 r3
    obtain ⟨u1, u2, u3, u4⟩ := r3
    obtain ⟨v1, v2⟩ := q3
    have hv := paS_v hp
    have hN : s.1 * s.2.1 ≤ 16 := hv.2.2.2.2.1
    have hN1 : 1 ≤ s.1 * s.2.1 := Nat.mul_le_mul hv.1 hv.2.1
    refine ⟨q.1, true, upd q.2.1 0 0, q.2.2, q'.2.1, q'.2.2, hc _ (Or.inr ⟨by rw [v1, wN_0, sN_le (by omega) (by omega)]; omega, rfl⟩), by rw [v1, ← u1]; exact hm, hT, Or.inr ⟨s, hv, v2, u4⟩, fX, q2, fr_trans fY0 (fr_mono u2 (by decide)), u3⟩
theorem ag_broken_t {X : Nat → Int32} {F : Nat → Nat → Int32} {Y : Nat → Int32} {G : Nat → Nat → Int32} (h : setI F G) (hs : schB true X F Y G) : ∃ w Y' G', Go (fun n => f_Im_broken_t n X F) (fun q => q = (w, X, F)) ∧ Go (fun n => f_Mo_broken n Y G) (fun q => q = (w, Y', G')) ∧ fr [0, 14, 15] Y Y' ∧ fr [7, 8, 9, 10, 11, 12, 13] G G' := by
  obtain ⟨st, h1, h2, h3⟩ := h
  have hwy : st 1 = 0 ∨ st 1 = 1 := by have := h1.2.1; omega
  have f21 : F 2 (1 : Int32).toNatClampNeg = sN (st 1) := h2 1 (by omega)
  have g141 : G 14 1 = sN (st 1) := h3 1 (by omega)
  rcases hs with ⟨x0, x1, x3, y5, y6, y7⟩ | ⟨s, hv, hC, hM⟩
  · refine ⟨0, upd Y 0 0, G, ?_, ?_, fr_upd fr_rfl (by decide), fr_rfl⟩
    · unfold f_Im_broken_t f_Sc_firstBroken_1
      refine Go_bind (Q := fun q => q = (0, X, F)) (Go_neg (fun z => z x3) (Go_ret rfl)) (fun q hq => ?_)
      rw [hq]; exact Go_ret rfl
    · unfold f_Mo_broken f_Mo_brokenPage
      refine Go_bind (Q := fun q => q = (0, upd Y 0 0, G)) (Go_pos y5 (Go_ret rfl)) (fun q hq => ?_)
      rw [hq]; exact Go_ret rfl
  · obtain ⟨v1, v2, v3, v4, v5, v6, v7, v8⟩ := hv
    have ok := bkl_ok v1 v2 v3 v4 v5 v7 v8
    obtain ⟨N', q', hq', r1, r2, r3⟩ := e_Mo_brokenPage v1 v2 v3 v4 v5 v6 v7 v8 hwy (upd Y 0 0) G hM g141
    refine ⟨sN (brS s (st 1)), q'.2.1, q'.2.2, ?_, ?_, fr_trans (fr_upd fr_rfl (by decide)) (fr_mono r2 (by decide)), r3⟩
    · unfold f_Im_broken_t
      rw [f21]
      refine Go_bind (e_firstBroken_1 v1 v3 v4 v5 ok hwy X F hC) (fun q hq => ?_)
      rw [hq]; exact Go_ret rfl
    · unfold f_Mo_broken
      refine Go_bind (⟨N', q', hq', rfl⟩ : Go (fun n => f_Mo_brokenPage n (upd Y 0 0) G) (fun z => z = q')) (fun z hz => ?_)
      rw [hz, ← r1]; exact Go_ret rfl
theorem ag_run_t {X : Nat → Int32} {F : Nat → Nat → Int32} {Y : Nat → Int32} {G : Nat → Nat → Int32} (h : setI F G) (hs : schB true X F Y G) (hb : bokI X F Y G) (a : Int32) : ∃ v w X' F' Y' G', Go (fun n => f_Im_run_t n X F a) (fun q => q = (v, X', F')) ∧ Go (fun n => f_Mo_run n Y G a) (fun q => q = (w, Y', G')) ∧ agT (fun k => k) v w (Y' 0) ∧ bokI X' F' Y' G' ∧ fr [10, 11, 12, 13, 14] X X' ∧ fr [3, 4, 5] F F' ∧ fr [0, 14, 15, 16, 17, 18, 19, 20] Y Y' ∧ fr [7, 8, 9, 10, 11, 12, 13, 15, 16, 17, 18, 19, 20, 21] G G' := by
  obtain ⟨z, z1, z2, rfl⟩ := sI_ex a
  have w1 : (1 : Int32) = sI 1 := rfl
  have hbt : ∀ t, bokI X F (upd Y 0 t) G := fun t => bokI_cg hb (fun _ _ => rfl) (fun _ _ => rfl) (fun k hk => (fr_upd (S := [0]) fr_rfl (by decide) : fr [0] Y (upd Y 0 t)) k (by revert k hk; decide)) (fun _ _ => rfl)
  obtain ⟨st, h1, h2, h3⟩ := h
  have hwy : st 1 = 0 ∨ st 1 = 1 := by have := h1.2.1; omega
  have b0 := h1.1
  have f20 : F 2 (0 : Int32).toNatClampNeg = sN (st 0) := h2 0 (by omega)
  have f21 : F 2 (1 : Int32).toNatClampNeg = sN (st 1) := h2 1 (by omega)
  have g141 : G 14 1 = sN (st 1) := h3 1 (by omega)
  have g140 : G 14 (0 : Int32).toNatClampNeg = sN (st 0) := h3 0 (by omega)
  -- the three ways to throw
  have out : ∀ (k : Nat) (t : Int32), (t = sN k ∧ (k = 1 ∨ k = 2)) → Go (fun n => f_Im_run_t n X F (sI z)) (fun q => q = (.inl k, X, F)) → Go (fun n => f_Mo_run n Y G (sI z)) (fun q => q = (0, upd Y 0 t, G)) → ∃ v w X' F' Y' G', Go (fun n => f_Im_run_t n X F (sI z)) (fun q => q = (v, X', F')) ∧ Go (fun n => f_Mo_run n Y G (sI z)) (fun q => q = (w, Y', G')) ∧ agT (fun k => k) v w (Y' 0) ∧ bokI X' F' Y' G' ∧ fr [10, 11, 12, 13, 14] X X' ∧ fr [3, 4, 5] F F' ∧ fr [0, 14, 15, 16, 17, 18, 19, 20] Y Y' ∧ fr [7, 8, 9, 10, 11, 12, 13, 15, 16, 17, 18, 19, 20, 21] G G' :=
    fun k t ht hc hm => ⟨.inl k, 0, X, F, upd Y 0 t, G, hc, hm, ht, hbt t, fr_rfl, fr_rfl, fr_upd fr_rfl (by decide), fr_rfl⟩
  rcases hs with ⟨x0, x1, x3, y5, y6, y7⟩ | ⟨s, hv, hC, hM⟩
  · -- no scheme
    have e0 : X 25 * X 26 ≤ 0 := by rw [x0, x1]; decide
    have hm : ∀ lv : Nat → Int32, lv 3 = 0 → lv 1 = sI z → ∀ t : Int32, ((z < 1 ∧ t = 1) ∨ (¬ z < 1 ∧ t = 2)) → Go (fun n => L_Mo_run n 55 lv Y G) (fun q => q = (0, upd Y 0 t, G)) := by
      intro lv l3 l1 t ht
      refine Go_S ?_
      simp only [L_Mo_run, ↓reduceIte]
      rcases ht with ⟨k1, rfl⟩ | ⟨k1, rfl⟩
      · exact Go_pos (by rw [l1, w1, sI_lt z1 z2 (by omega) (by omega)]; exact k1) (m_run92 _ Y G 1 (by decide))
      · exact Go_neg (by rw [l1, w1, sI_lt z1 z2 (by omega) (by omega)]; exact k1) (Go_pos y5 (Go_neg (fun y => y l3) (m_run92 _ Y G 2 (by decide))))
    by_cases k1 : z < 1
    · refine out 1 1 ⟨rfl, Or.inl rfl⟩ ?_ (Go_pos y5 (hm _ rfl rfl 1 (Or.inl ⟨k1, rfl⟩)))
      unfold f_Im_run_t f_Sc_cells_1
      simp only [Option.bind_some]
      exact Go_pos e0 (Go_pos (by rw [w1, sI_lt z1 z2 (by omega) (by omega)]; exact k1) (Go_ret rfl))
    · refine out 2 2 ⟨rfl, Or.inr rfl⟩ ?_ (Go_pos y5 (hm _ rfl rfl 2 (Or.inr ⟨k1, rfl⟩)))
      unfold f_Im_run_t f_Sc_cells_1
      simp only [Option.bind_some]
      exact Go_pos e0 (Go_neg (by rw [w1, sI_lt z1 z2 (by omega) (by omega)]; exact k1) (Go_ret rfl))
  · have hv' := hv
    obtain ⟨v1, v2, v3, v4, v5, v6, v7, v8⟩ := hv'
    have hN1 : 1 ≤ s.1 * s.2.1 := Nat.mul_le_mul v1 v2
    have ok := bkl_ok v1 v2 v3 v4 v5 v7 v8
    have hC' := hC
    obtain ⟨c0, c1, c2, c3, c4, c5⟩ := hC'
    have hM' := hM
    obtain ⟨m5, m6, m7, m8, m9, m10⟩ := hM'
    have ecl : X 25 * X 26 = sN (s.1 * s.2.1) := by rw [c0, c1, sN_mul]
    have n0 : ¬ sN (s.1 * s.2.1) ≤ 0 := by rw [wN_0, sN_le (by omega) (by omega)]; omega
    have e40 : (20 : Int32) * (2 * sN (s.1 * s.2.1)) = sI ((40 * (s.1 * s.2.1) : Nat) : Int) := by rw [wN_20, wN_2, sN_mul, sN_mul, sN_sI]; exact congrArg sI (by omega)
    have eall : (2 : Int32) * Y 6 * Y 7 = sN (2 * (s.1 * s.2.1)) := by rw [m6, m7, wN_2, sN_mul, sN_mul, Nat.mul_assoc]
    have e40m : (20 : Int32) * sN (2 * (s.1 * s.2.1)) = sI ((40 * (s.1 * s.2.1) : Nat) : Int) := by rw [wN_20, sN_mul, sN_sI]; exact congrArg sI (by omega)
    have ny5 : ¬ Y 5 = 0 := by rw [m5]; decide
    -- the model's first steps
    have hfit : ∀ (P : Res → Prop), (∀ lv : Nat → Int32, lv 1 = sI z → lv 2 = sN (2 * (s.1 * s.2.1)) → lv 3 = (if (st 0 = 2 ↔ s.2.2.1.length = 0) then 1 else 0) → Go (fun n => L_Mo_run n 55 lv Y G) P) → Go (fun n => f_Mo_run n Y G (sI z)) P := by
      intro P hP
      unfold f_Mo_run
      rw [eall, g140, m8]
      refine Go_neg ny5 (Go_ite (fun k => ?_) (fun k => ?_))
      · rw [wN_2, sN_eq (by omega) (by omega)] at k
        refine Go_ite (fun k' => ?_) (fun k' => ?_)
        · rw [wN_0, sN_eq (by omega) (by omega)] at k'
          exact hP _ rfl rfl (by rw [if_pos (by omega)]; rfl)
        · rw [wN_0, sN_eq (by omega) (by omega)] at k'
          exact hP _ rfl rfl (by rw [if_neg (by omega)]; rfl)
      · rw [wN_2, sN_eq (by omega) (by omega)] at k
        refine Go_ite (fun k' => ?_) (fun k' => ?_)
        · rw [wN_0, sN_eq (by omega) (by omega)] at k'
          exact hP _ rfl rfl (by rw [if_neg (by omega)]; rfl)
        · rw [wN_0, sN_eq (by omega) (by omega)] at k'
          exact hP _ rfl rfl (by rw [if_pos (by omega)]; rfl)
    -- the class's first steps
    have hcl : ∀ (P : (Nat ⊕ Int32) × (Nat → Int32) × (Nat → Nat → Int32) → Prop), (z < 1 → P (.inl 1, X, F)) → (¬ z < 1 → ¬ z ≤ ((40 * (s.1 * s.2.1) : Nat) : Int) → P (.inl 1, X, F)) → (¬ z < 1 → z ≤ ((40 * (s.1 * s.2.1) : Nat) : Int) → ¬ (st 0 = 2 ↔ s.2.2.1.length = 0) → P (.inl 2, X, F)) → (¬ z < 1 → z ≤ ((40 * (s.1 * s.2.1) : Nat) : Int) → (st 0 = 2 ↔ s.2.2.1.length = 0) → Go (fun n => (f_Sc_firstBroken_1 n X F (sN (st 1))).bind (fun q => if q.1 = 0 then (f_Bo_lay_1 n q.2.1 q.2.2 (sI z)).bind (fun q5 => some (.inr (f_Bo_sheetCount q5.2.1), q5.2.1, q5.2.2)) else some (.inr 0, q.2.1, q.2.2))) P) → Go (fun n => f_Im_run_t n X F (sI z)) P := by
      intro P p1 p2 p3 p4
      unfold f_Im_run_t f_Sc_pageCount_1 f_Sc_cells_1 f_Sc_isCut_1
      simp only [Option.bind_some]
      rw [ecl, e40, c2]
      refine Go_neg n0 (Go_ite (fun k => ?_) (fun k => Go_ite (fun k' => ?_) (fun k' => ?_)))
      · rw [w1, sI_lt z1 z2 (by omega) (by omega)] at k
        exact Go_ret (p1 k)
      · rw [w1, sI_lt z1 z2 (by omega) (by omega)] at k
        rw [sI_le z1 z2 (by omega) (by omega)] at k'
        by_cases kl : s.2.2.1.length = 0
        · rw [if_neg (by rw [kl]; exact fun y => y rfl)]
          simp only [Option.bind_some]
          rw [f20, f21]
          refine Go_ite (fun k2 => ?_) (fun k2 => ?_)
          · rw [wN_2, sN_eq (by omega) (by omega)] at k2
            exact Go_neg (show ¬ (1 : Int32) = 0 by decide) (Go_ret (p3 k k' (by omega)))
          · rw [wN_2, sN_eq (by omega) (by omega)] at k2
            exact Go_pos (by first | exact trivial | rfl) (p4 k k' (by omega))
        · rw [if_pos (by rw [wN_0, sN_eq (by omega) (by omega)]; exact kl)]
          simp only [Option.bind_some]
          rw [f20, f21]
          refine Go_ite (fun k2 => ?_) (fun k2 => ?_)
          · rw [wN_2, sN_eq (by omega) (by omega)] at k2
            exact Go_pos (by first | exact trivial | rfl) (p4 k k' (by omega))
          · rw [wN_2, sN_eq (by omega) (by omega)] at k2
            exact Go_neg (show ¬ (0 : Int32) = 1 by decide) (Go_ret (p3 k k' (by omega)))
      · rw [w1, sI_lt z1 z2 (by omega) (by omega)] at k
        rw [sI_le z1 z2 (by omega) (by omega)] at k'
        exact Go_ret (p2 k k')
    by_cases k1 : z < 1
    · refine out 1 1 ⟨rfl, Or.inl rfl⟩ (hcl _ (fun _ => rfl) (fun y => absurd k1 y) (fun y => absurd k1 y) (fun y => absurd k1 y)) (hfit _ (fun lv l1 l2 l3 => ?_))
      refine Go_S ?_
      simp only [L_Mo_run, ↓reduceIte]
      exact Go_pos (by rw [l1, w1, sI_lt z1 z2 (by omega) (by omega)]; exact k1) (m_run92 _ Y G 1 (by decide))
    by_cases k2 : z ≤ ((40 * (s.1 * s.2.1) : Nat) : Int)
    · by_cases k3 : (st 0 = 2 ↔ s.2.2.1.length = 0)
      · -- it may be laid
        obtain ⟨n, rfl, hn1, hn2⟩ : ∃ n : Nat, z = (n : Int) ∧ 1 ≤ n ∧ n ≤ 40 * (s.1 * s.2.1) := ⟨z.toNat, by omega, by omega, by omega⟩
        have hfb := e_firstBroken_1 v1 v3 v4 v5 ok hwy X F hC
        have hmb := e_Mo_brokenPage v1 v2 v3 v4 v5 v6 v7 v8 hwy (upd Y 0 0) G hM g141
        have hm55 : ∀ (P : Res → Prop), (∀ lv : Nat → Int32, lv 1 = sI n → lv 2 = sN (2 * (s.1 * s.2.1)) → Go (fun n => L_Mo_run n 92 lv (upd Y 0 0) G) P) → Go (fun k => f_Mo_run k Y G (sI n)) P := by
          intro P hP
          refine hfit P (fun lv l1 l2 l3 => ?_)
          rw [if_pos k3] at l3
          refine Go_S ?_
          simp only [L_Mo_run, ↓reduceIte]
          refine Go_neg (by rw [l1, w1, sI_lt z1 z2 (by omega) (by omega)]; exact k1) (Go_neg ny5 (Go_pos ?_ (Go_pos (by rw [l3]; decide) (hP _ l1 l2))))
          rw [l1, l2, e40m, sI_le z1 z2 (by omega) (by omega)]; exact k2
        have hbr := brS_lt s (st 1) v5
        by_cases kb : brS s (st 1) = 0
        · -- laid
          obtain ⟨N1, q1, hq1, lx, lF, lC, lS⟩ := e_lay_1 v1 v2 v3 v4 v5 ok h1 hn1 hn2 X F hC h2
          obtain ⟨sr1, sr2, sr3, sr4⟩ := shC_r hN1 v5 hn1 hn2
          have hB : bkB s.1 (s.1 * s.2.1) (shC n (s.1 * s.2.1)) n st := ⟨⟨v1, v3⟩, ⟨hN1, v5⟩, sr1, sr2, ⟨hn1, sr3⟩, sr4, h1⟩
          have hmod : Go (fun k => f_Mo_run k Y G (sI n)) (fun q => q.1 = sN (shC n (s.1 * s.2.1)) ∧ q.2.1 0 = 0 ∧ fr [0, 14, 15, 16, 17, 18, 19, 20] Y q.2.1 ∧ fr [7, 8, 9, 10, 11, 12, 13, 15, 16, 17, 18, 19, 20, 21] G q.2.2 ∧ q.2.1 16 = sN (shC n (s.1 * s.2.1)) ∧ q.2.1 17 = sN (2 * (s.1 * s.2.1)) ∧ q.2.1 18 = sN n ∧ q.2.1 19 = sN (shC n (s.1 * s.2.1) * (2 * (s.1 * s.2.1)) - n) ∧ (q.2.1 20 = if (st 3 < st 5 ∨ st 4 < st 6) ∧ st 9 = 0 then 1 else 0) ∧ bkP s.1 s.2.1 (shC n (s.1 * s.2.1)) n (st 1) st s.2.2.2.1 (fun _ _ => True) q.2.2) := by
            refine hm55 _ (fun lv l1 l2 => ?_)
            exact m_run92L s n st hv ok h1 hB kb hwy Y G hM h3 lv (by rw [l1, sN_sI]) l2
          obtain ⟨N2, q2, hq2, o1, o2, o3, o4, o5, o6, o7, o8, o9, o10⟩ := hmod
          refine ⟨.inr (sN (shC n (s.1 * s.2.1))), q2.1, q1.2.1, q1.2.2, q2.2.1, q2.2.2, ?_, ⟨N2, q2, hq2, rfl⟩, ⟨o2, o1⟩, Or.inr ⟨s.1, s.2.1, st 1, n, st, s.2.2.2.1, hB, ok, lC, lS, o5, o6, o7, o8, o9, o10⟩, lx, lF, o3, o4⟩
          refine hcl _ (fun y => absurd y k1) (fun _ y => absurd k2 y) (fun _ _ y => absurd k3 y) (fun _ _ _ => ?_)
          refine Go_bind hfb (fun q hq => ?_)
          rw [hq, kb]
          refine Go_pos rfl ?_
          rw [← sN_sI]
          refine Go_bind (⟨N1, q1, hq1, rfl⟩ : Go (fun k => f_Bo_lay_1 k X F (sN n)) (fun z => z = q1)) (fun z hz => ?_)
          rw [hz]
          refine Go_ret ?_
          unfold f_Bo_sheetCount
          rw [lC.2.2.1]
        · -- broken
          obtain ⟨N2, q2, hq2, o1, o2, o3⟩ := hmb
          have fY : fr [0, 14, 15, 16, 17, 18, 19, 20] Y q2.2.1 := fr_trans (fr_upd fr_rfl (by decide)) (fr_mono o2 (by decide))
          have fY' : fr [0, 14, 15] Y q2.2.1 := fr_trans (fr_upd fr_rfl (by decide)) (fr_mono o2 (by decide))
          refine ⟨.inr 0, 0, X, F, q2.2.1, q2.2.2, ?_, ?_, ⟨o2 0 (by decide), rfl⟩, bokI_cg hb (fun _ _ => rfl) (fun _ _ => rfl) (fun k hk => fY' k (by revert k hk; decide)) (fun k hk => o3 k (by revert k hk; decide)), fr_rfl, fr_rfl, fY, fr_mono o3 (by decide)⟩
          · refine hcl _ (fun y => absurd y k1) (fun _ y => absurd k2 y) (fun _ _ y => absurd k3 y) (fun _ _ _ => ?_)
            refine Go_bind hfb (fun q hq => ?_)
            rw [hq]
            exact Go_neg (by rw [wN_0, sN_eq (by omega) (by omega)]; exact kb) (Go_ret rfl)
          · refine hm55 _ (fun lv l1 l2 => ?_)
            refine Go_S ?_
            simp only [L_Mo_run, ↓reduceIte, Nat.reduceEqDiff]
            refine Go_pos (by show (0 : Int32) ≤ 0; decide) (Go_bind (⟨N2, q2, hq2, rfl⟩ : Go (fun k => f_Mo_brokenPage k (upd Y 0 0) G) (fun z => z = q2)) (fun z hz => ?_))
            rw [hz]
            exact Go_neg (by rw [o1, wN_0, sN_eq (by omega) (by omega)]; exact kb) (Go_ret rfl)
      · refine out 2 2 ⟨rfl, Or.inr rfl⟩ (hcl _ (fun y => absurd y k1) (fun _ y => absurd k2 y) (fun _ _ _ => rfl) (fun _ _ y => absurd y k3)) (hfit _ (fun lv l1 l2 l3 => ?_))
        rw [if_neg k3] at l3
        refine Go_S ?_
        simp only [L_Mo_run, ↓reduceIte]
        refine Go_neg (by rw [l1, w1, sI_lt z1 z2 (by omega) (by omega)]; exact k1) (Go_neg ny5 (Go_pos ?_ (Go_neg (fun y => y l3) (m_run92 _ Y G 2 (by decide)))))
        rw [l1, l2, e40m, sI_le z1 z2 (by omega) (by omega)]; exact k2
    · refine out 1 1 ⟨rfl, Or.inl rfl⟩ (hcl _ (fun y => absurd y k1) (fun _ _ => rfl) (fun _ y => absurd y k2) (fun _ y => absurd y k2)) (hfit _ (fun lv l1 l2 l3 => ?_))
      refine Go_S ?_
      simp only [L_Mo_run, ↓reduceIte]
      refine Go_neg (by rw [l1, w1, sI_lt z1 z2 (by omega) (by omega)]; exact k1) (Go_neg ny5 (Go_neg ?_ (m_run92 _ Y G 1 (by decide))))
      rw [l1, l2, e40m, sI_le z1 z2 (by omega) (by omega)]; exact k2
