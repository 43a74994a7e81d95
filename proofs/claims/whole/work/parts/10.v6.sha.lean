/-! jobs, clear, share, shared agree -/
def shdI (J : Nat) (cp : Nat → Nat) (X : Nat → Int32) (F : Nat → Nat → Int32) (Y : Nat → Int32) (G : Nat → Nat → Int32) : Prop := ∃ (L M a : Nat) (o : Option Nat), (1 ≤ L ∧ L ≤ 1000) ∧ (1 ≤ M ∧ M ≤ J) ∧ a ≤ 1 ∧ X 17 = sN L ∧ Y 26 = sN L ∧ X 18 = sN a ∧ Y 27 = sN a ∧ X 19 = sN M ∧ Y 23 = 1 ∧ tkn o M cp X F Y G
def jobI (J : Nat) (cp : Nat → Nat) (X : Nat → Int32) (F : Nat → Nat → Int32) (Y : Nat → Int32) (G : Nat → Nat → Int32) : Prop := J ≤ 8 ∧ (∀ j, j < J → 1 ≤ cp j ∧ cp j ≤ 100000) ∧ X 15 = sN J ∧ Y 21 = sN J ∧ (∀ j, j < J → F 6 j = sN (cp j)) ∧ (∀ j, j < J → G 22 j = sN (cp j))
def shaI (X : Nat → Int32) (F : Nat → Nat → Int32) (Y : Nat → Int32) (G : Nat → Nat → Int32) : Prop := ∃ J cp, jobI J cp X F Y G ∧ ((X 17 = 0 ∧ Y 22 = 0 ∧ Y 23 = 0) ∨ shdI J cp X F Y G)
theorem shaI_cg {X X' : Nat → Int32} {F F' : Nat → Nat → Int32} {Y Y' : Nat → Int32} {G G' : Nat → Nat → Int32} (h : shaI X F Y G) (hX : ∀ k ∈ [15, 17, 18, 19, 20], X' k = X k) (hF : ∀ k ∈ [6, 10, 11], F' k = F k) (hY : ∀ k ∈ [21, 22, 23, 24, 25, 26, 27], Y' k = Y k) (hG : ∀ k ∈ [22, 24, 25, 26], G' k = G k) : shaI X' F' Y' G' := by
  obtain ⟨J, cp, h1, h2⟩ := h
  refine ⟨J, cp, ?_, ?_⟩
  · unfold jobI at *
    rw [hX 15 (by decide), hY 21 (by decide), hF 6 (by decide), hG 22 (by decide)]; exact h1
  · rcases h2 with h2 | ⟨L, M, a, o, e1, e2, e3, e4, e5, e6, e7, e8, e9, e10⟩
    · rw [hX 17 (by decide), hY 22 (by decide), hY 23 (by decide)]; exact Or.inl h2
    · exact Or.inr ⟨L, M, a, o, e1, e2, e3, by rw [hX 17 (by decide)]; exact e4, by rw [hY 26 (by decide)]; exact e5, by rw [hX 18 (by decide)]; exact e6, by rw [hY 27 (by decide)]; exact e7, by rw [hX 19 (by decide)]; exact e8, by rw [hY 23 (by decide)]; exact e9, tkn_cg e10 (hX 20 (by decide)) ⟨hF 10 (by decide), hF 11 (by decide)⟩ ⟨hY 22 (by decide), hY 24 (by decide), hY 25 (by decide)⟩ ⟨hG 24 (by decide), hG 25 (by decide), hG 26 (by decide)⟩⟩
def jx (k : Nat) : Nat := if k = 1 then 1 else if k = 3 then 2 else 99
theorem takI_cp {o : Option Nat} {M : Nat} {cp cp' : Nat → Nat} {X : Nat → Int32} {F : Nat → Nat → Int32} {Y : Nat → Int32} {G : Nat → Nat → Int32} (h : tkn o M cp X F Y G) (e : ∀ j, j < M → cp' j = cp j) : tkn o M cp' X F Y G := by
  cases o with
  | none => exact h
  | some b =>
    obtain ⟨h1, h2, P, h3, h4, h5, h6, h7⟩ := h
    refine ⟨h1, h2, P, h3, h4, h5, h6, fun j hj => ?_⟩
    obtain ⟨t, z, k⟩ := h7 j hj
    refine ⟨t, z, ?_⟩
    rw [e j hj]; exact k
theorem ag_job {X : Nat → Int32} {F : Nat → Nat → Int32} {Y : Nat → Int32} {G : Nat → Nat → Int32} (h : shaI X F Y G) (a : Int32) : ∃ v w X' F' Y' G', Go (fun n => f_Im_job n X F a) (fun q => q = (v, X', F')) ∧ Go (fun n => f_Mo_job n Y G a) (fun q => q = (w, Y', G')) ∧ agT jx v w (Y' 0) ∧ shaI X' F' Y' G' ∧ fr [15] X X' ∧ fr [6] F F' ∧ fr [0, 21] Y Y' ∧ fr [22] G G' := by
  obtain ⟨z, z1, z2, rfl⟩ := sI_ex a
  have w1 : (1 : Int32) = sI 1 := rfl
  have wL : (100000 : Int32) = sI 100000 := rfl
  have hs : ∀ t, shaI X F (upd Y 0 t) G := fun t => shaI_cg h (fun _ _ => rfl) (fun _ _ => rfl) (fun k hk => (fr_upd (S := [0]) fr_rfl (by decide) : fr [0] Y (upd Y 0 t)) k (by revert k hk; decide)) (fun _ _ => rfl)
  obtain ⟨J, cp, ⟨j1, j2, x15, y21, h6, h22⟩, hsh⟩ := h
  by_cases k1 : 1 ≤ z ∧ z ≤ 100000
  · obtain ⟨m, rfl, hm⟩ : ∃ m : Nat, z = (m : Int) ∧ 1 ≤ m ∧ m ≤ 100000 := ⟨z.toNat, by omega, by omega, by omega⟩
    rw [← sN_sI]
    have a1 : ¬ sN m < 1 := by rw [wN_1, sN_lt (by omega) (by omega)]; omega
    have a2 : sN m ≤ 100000 := by rw [wN_100000, sN_le (by omega) (by omega)]; omega
    by_cases k8 : J = 8
    · refine ⟨.inl 3, 0, X, F, upd Y 0 2, G, ?_, ?_, ⟨rfl, Or.inr rfl⟩, hs 2, fr_rfl, fr_rfl, fr_upd fr_rfl (by decide), fr_rfl⟩
      · exact Go_neg a1 (Go_pos a2 (Go_neg (by show ¬ X 15 < 8; rw [x15, wN_8, sN_lt (by omega) (by omega)]; omega) (Go_ret rfl)))
      · exact Go_neg a1 (Go_pos a2 (Go_neg (fun y => y (by rw [y21, k8]; rfl)) (Go_ret rfl)))
    · have cX : X 15 < 8 := by rw [x15, wN_8, sN_lt (by omega) (by omega)]; omega
      have eX : (X 15).toNatClampNeg = J := by rw [x15, sN_nat (by omega)]
      have eY : (Y 21).toNatClampNeg = J := by rw [y21, sN_nat (by omega)]
      have cJ : ¬ (X 15 < 0 ∨ 8 ≤ J) := by rw [x15, wN_0, sN_lt (by omega) (by omega)]; omega
      have cJ' : ¬ (Y 21 < 0 ∨ 8 ≤ J) := by rw [y21, wN_0, sN_lt (by omega) (by omega)]; omega
      refine ⟨.inr (sN J), sN J, upd X 15 (sN (J + 1)), va_up F 6 (upd (F 6) J (sN m)), upd (upd Y 0 0) 21 (sN (J + 1)), va_up G 22 (upd (G 22) J (sN m)), ?_, ?_, ⟨rfl, rfl⟩, ?_, fr_upd fr_rfl (by decide), fr_vup fr_rfl (by decide), fr_upd (fr_upd fr_rfl (by decide)) (by decide), fr_vup fr_rfl (by decide)⟩
      · unfold f_Im_job f_Sh_addJob
        rw [eX]
        refine Go_neg a1 (Go_pos a2 (Go_pos cX (Go_bind (Q := fun q => q = (sN J, upd X 15 (sN (J + 1)), va_up F 6 (upd (F 6) J (sN m)))) (Go_pos cX (Go_pos cJ (Go_ret ?_))) (fun q hq => ?_))))
        · rw [x15, wN_1, sN_add, sN_sub (by omega)]; rfl
        · rw [hq]; exact Go_ret rfl
      · unfold f_Mo_job
        rw [eY]
        refine Go_neg a1 (Go_pos a2 (Go_pos (by rw [y21, wN_8, sN_eq (by omega) (by omega)]; exact k8) (Go_pos cJ' (Go_ret ?_))))
        rw [y21, wN_1, sN_add, sN_sub (by omega)]; rfl
      · refine ⟨J + 1, fun j => if j = J then m else cp j, ⟨by omega, fun j hj => ?_, rfl, rfl, fun j hj => ?_, fun j hj => ?_⟩, ?_⟩
        · show 1 ≤ (if j = J then m else cp j) ∧ (if j = J then m else cp j) ≤ 100000
          split
          · exact hm
          · exact j2 j (by omega)
        · show upd (F 6) J (sN m) j = sN (if j = J then m else cp j)
          rw [upd_app]
          by_cases e : j = J
          · rw [if_pos e, if_pos e]
          · rw [if_neg e, if_neg e]; exact h6 j (by omega)
        · show upd (G 22) J (sN m) j = sN (if j = J then m else cp j)
          rw [upd_app]
          by_cases e : j = J
          · rw [if_pos e, if_pos e]
          · rw [if_neg e, if_neg e]; exact h22 j (by omega)
        · rcases hsh with hsh | ⟨L, M, a, o, e1, e2, e3, e4, e5, e6, e7, e8, e9, e10⟩
          · exact Or.inl hsh
          · refine Or.inr ⟨L, M, a, o, e1, ⟨e2.1, by omega⟩, e3, e4, e5, e6, e7, e8, e9, ?_⟩
            exact tkn_cg (takI_cp e10 (fun j hj => by rw [if_neg (show ¬ j = J by omega)])) rfl ⟨rfl, rfl⟩ ⟨rfl, rfl, rfl⟩ ⟨rfl, rfl, rfl⟩
  · refine ⟨.inl 1, 0, X, F, upd Y 0 1, G, ?_, ?_, ⟨rfl, Or.inl rfl⟩, hs 1, fr_rfl, fr_rfl, fr_upd fr_rfl (by decide), fr_rfl⟩
    · refine Go_ite (fun _ => Go_ret rfl) (fun k2 => Go_neg ?_ (Go_ret rfl))
      rw [w1, sI_lt z1 z2 (by omega) (by omega)] at k2
      rw [wL, sI_le z1 z2 (by omega) (by omega)]; omega
    · refine Go_ite (fun _ => Go_ret rfl) (fun k2 => Go_neg ?_ (Go_ret rfl))
      rw [w1, sI_lt z1 z2 (by omega) (by omega)] at k2
      rw [wL, sI_le z1 z2 (by omega) (by omega)]; omega
theorem ag_clear {X : Nat → Int32} {F : Nat → Nat → Int32} {Y : Nat → Int32} {G : Nat → Nat → Int32} : ∃ X' Y', Go (fun n => f_Im_clear n X F) (fun q => q = (0, X', F)) ∧ Go (fun n => f_Mo_clear n Y G) (fun q => q = (0, Y', G)) ∧ shaI X' F Y' G ∧ fr [15, 17] X X' ∧ fr [0, 21, 22, 23, 26] Y Y' := by
  refine ⟨upd (upd X 15 0) 17 0, upd (upd (upd (upd (upd Y 0 0) 21 0) 22 0) 23 0) 26 0, ?_, Go_ret rfl, ⟨0, fun _ => 1, ⟨by omega, fun j hj => by omega, rfl, rfl, fun j hj => by omega, fun j hj => by omega⟩, Or.inl ⟨rfl, rfl, rfl⟩⟩, fr_upd (fr_upd fr_rfl (by decide)) (by decide), fr_upd (fr_upd (fr_upd (fr_upd (fr_upd fr_rfl (by decide)) (by decide)) (by decide)) (by decide)) (by decide)⟩
  unfold f_Im_clear f_Sh_forget
  exact Go_ret rfl
def zf (f : Nat → Int32) (i J : Nat) : Nat → Int32 := fun j => if i ≤ j ∧ j < J then 0 else f j
theorem g_sh82 {J : Nat} (hJ : J ≤ 8) (s c k : Int32) (Y : Nat → Int32) (y21 : Y 21 = sN J) {Q : Res → Prop} : ∀ (m i : Nat) (G : Nat → Nat → Int32), i + m = J → Go (fun n => L_Mo_share n 118 (upd (upd (upd (upd (upd am_lv0 1 s) 2 c) 3 k) 4 1) 7 1) (-1) (upd Y 26 0) (va_up G 23 (zf (G 23) i J))) Q → Go (fun n => L_Mo_share n 82 (upd (upd (upd (upd (upd am_lv0 1 s) 2 c) 3 k) 4 1) 5 (sN i)) 0 Y G) Q
  | 0, i, G, hm, K => by
    have ez : va_up G 23 (zf (G 23) i J) = G := by
      have : zf (G 23) i J = G 23 := by
        funext j
        show (if i ≤ j ∧ j < J then 0 else G 23 j) = _
        rw [if_neg (by omega)]
      rw [this, va_up_id]
    rw [ez] at K
    refine Go_S ?_
    simp only [L_Mo_share, ↓reduceIte]
    exact Go_pos (by rw [y21]; show sN J ≤ sN i; rw [sN_le (by omega) (by omega)]; omega) K
  | m + 1, i, G, hm, K => by
    refine Go_S ?_
    simp only [L_Mo_share, ↓reduceIte]
    have e5 : ∀ x : Nat → Int32, (upd x 5 (sN i) 5).toNatClampNeg = i := fun x => by show (sN i).toNatClampNeg = i; rw [sN_nat (by omega)]
    rw [e5]
    refine Go_neg (by rw [y21]; show ¬ sN J ≤ sN i; rw [sN_le (by omega) (by omega)]; omega) (Go_pos (by show ¬ (sN i < 0 ∨ 8 ≤ i); rw [wN_0, sN_lt (by omega) (by omega)]; omega) ?_)
    have el : ∀ x : Nat → Int32, upd x 5 (sN i) 5 + Int32.ofInt 1 = sN (i + 1) := fun x => sN_add i 1
    rw [el]
    refine g_sh82 hJ s c k Y y21 m (i + 1) (va_up G 23 (upd (G 23) i 0)) (by omega) ?_
    rw [va_up_up]
    have ez : zf (va_up G 23 (upd (G 23) i 0) 23) (i + 1) J = zf (G 23) i J := by
      funext j
      show (if i + 1 ≤ j ∧ j < J then 0 else upd (G 23) i 0 j) = if i ≤ j ∧ j < J then 0 else G 23 j
      rw [upd_app]
      by_cases e : j = i
      · rw [if_neg (by omega), if_pos e, if_pos (by omega)]
      · rw [if_neg e]
        by_cases e2 : i ≤ j ∧ j < J
        · rw [if_pos (by omega), if_pos e2]
        · rw [if_neg (by omega), if_neg e2]
    rw [ez]
    exact K
theorem ag_share {X : Nat → Int32} {F : Nat → Nat → Int32} {Y : Nat → Int32} {G : Nat → Nat → Int32} (h : shaI X F Y G) (a b c : Int32) : ∃ v w X' F' Y' G', Go (fun n => f_Im_share n X F a b c) (fun q => q = (v, X', F')) ∧ Go (fun n => f_Mo_share n Y G a b c) (fun q => q = (w, Y', G')) ∧ agT (fun k => k) v w (Y' 0) ∧ shaI X' F' Y' G' ∧ fr [16, 17, 18, 19, 20] X X' ∧ fr [7, 8, 9, 10, 11] F F' ∧ fr [0, 22, 23, 24, 25, 26, 27] Y Y' ∧ fr [23, 24, 25, 26] G G' := by
  obtain ⟨a, a1, a2, rfl⟩ := sI_ex a
  obtain ⟨b, b1, b2, rfl⟩ := sI_ex b
  obtain ⟨c, c1, c2, rfl⟩ := sI_ex c
  have w0 : (0 : Int32) = sI 0 := rfl
  have w1 : (1 : Int32) = sI 1 := rfl
  have w16 : (16 : Int32) = sI 16 := rfl
  have wK : (1000 : Int32) = sI 1000 := rfl
  have wL : (100000 : Int32) = sI 100000 := rfl
  have hs : ∀ t, shaI X F (upd Y 0 t) G := fun t => shaI_cg h (fun _ _ => rfl) (fun _ _ => rfl) (fun k hk => (fr_upd (S := [0]) fr_rfl (by decide) : fr [0] Y (upd Y 0 t)) k (by revert k hk; decide)) (fun _ _ => rfl)
  obtain ⟨J, cp, ⟨j1, j2, x15, y21, h6, h22⟩, hsh⟩ := h
  by_cases hin : (1 ≤ a ∧ a ≤ 16) ∧ (0 ≤ b ∧ b ≤ 100000) ∧ 1 ≤ c ∧ c ≤ 1000
  · have p1 : ¬ sI a < 1 := by rw [w1, sI_lt a1 a2 (by omega) (by omega)]; omega
    have p2 : ¬ 16 < sI a := by rw [w16, sI_lt (by omega) (by omega) a1 a2]; omega
    have p3 : ¬ sI b < 0 := by rw [w0, sI_lt b1 b2 (by omega) (by omega)]; omega
    have p4 : ¬ 100000 < sI b := by rw [wL, sI_lt (by omega) (by omega) b1 b2]; omega
    have p5 : ¬ sI c < 1 := by rw [w1, sI_lt c1 c2 (by omega) (by omega)]; omega
    have p6 : sI c ≤ 1000 := by rw [wK, sI_le c1 c2 (by omega) (by omega)]; omega
    have p7 : ¬ 1000 < sI c := by rw [wK, sI_lt (by omega) (by omega) c1 c2]; omega
    by_cases k0 : J = 0
    · refine ⟨.inl 2, 0, X, F, upd Y 0 2, G, ?_, ?_, ⟨rfl, Or.inr rfl⟩, hs 2, fr_rfl, fr_rfl, fr_upd fr_rfl (by decide), fr_rfl⟩
      · exact Go_neg p1 (Go_neg p2 (Go_neg p3 (Go_neg p4 (Go_neg p5 (Go_pos p6 (Go_neg (fun y => y (by show X 15 = 0; rw [x15, k0]; rfl)) (Go_ret rfl)))))))
      · exact Go_neg p1 (Go_neg p2 (Go_neg p3 (Go_neg p4 (Go_neg p5 (Go_neg p7 (Go_neg (fun y => y (by rw [y21, k0]; rfl)) (Go_ret rfl)))))))
    · obtain ⟨S, rfl, hS⟩ : ∃ m : Nat, a = (m : Int) ∧ 1 ≤ m ∧ m ≤ 16 := ⟨a.toNat, by omega, by omega, by omega⟩
      obtain ⟨C, rfl, hC⟩ : ∃ m : Nat, b = (m : Int) ∧ m ≤ 100000 := ⟨b.toNat, by omega, by omega⟩
      obtain ⟨W, rfl, hW⟩ : ∃ m : Nat, c = (m : Int) ∧ 1 ≤ m ∧ m ≤ 1000 := ⟨c.toNat, by omega, by omega, by omega⟩
      rw [← sN_sI, ← sN_sI, ← sN_sI]
      rw [← sN_sI] at p1 p2 p3 p4 p5 p6 p7
      obtain ⟨N1, f1, hf1, e1, e2, e3⟩ := e_fill_13 (upd (upd (upd (upd (upd X 16 (sN S)) 19 (X 15)) 20 0) 17 0) 18 0) F
      obtain ⟨N2, f2, hf2, g1, g2, g3⟩ := e_fill_14 f1.2.1 f1.2.2
      have eF : fr [7, 8] F f2.2.2 := fr_trans (fr_mono e2 (by decide)) (fr_mono g2 (by decide))
      have eX : f2.2.1 = upd (upd (upd (upd (upd X 16 (sN S)) 19 (X 15)) 20 0) 17 0) 18 0 := by rw [g1, e1]
      have hJ1 : 1 ≤ J := by omega
      obtain ⟨rc, rm, r1, r2, r3⟩ := seek_all (J := J) (S := S) (C := C) (W := W) (cp := cp) hJ1 j1 hS.2 hC hW.2 (fun j hj => (j2 j hj).2) W 0 (fun _ => 0) none f2.2.1 f2.2.2 (upd (upd (upd Y 0 0) 22 0) 26 0) (va_up G 23 (zf (G 23) 0 J)) (upd (upd (upd (upd am_lv0 1 (sN S)) 2 (sN C)) 3 (sN W)) 4 (-1)) (upd (upd (upd (upd (upd am_lv0 1 (sN S)) 2 (sN C)) 3 (sN W)) 4 1) 7 1) (by omega) (Or.inr hW.1) ⟨by rw [eX]; exact x15, by rw [eX]; rfl, by rw [eX]; rfl, y21, rfl, by rw [eF 6 (by decide)]; exact h6, h22, fun j hj => g3 j (by omega), fun j hj => by show (if 0 ≤ j ∧ j < J then 0 else G 23 j) = _; rw [if_pos (by omega)]; rfl, fun u hu => Or.inl (by rw [g2 7 (by decide)]; exact e3 u hu)⟩ ⟨fun j => Nat.zero_le _, fun j _ => rfl⟩ (by rw [eX]; rfl) ⟨by rw [eX]; rfl, rfl⟩ (fun b hb => by cases hb) rfl rfl rfl rfl rfl rfl rfl
      obtain ⟨u1, ⟨L, u2, u3, u4, u5⟩, ⟨a, u6, u7, u8⟩, u9, v1, v2, v3, v4, o, v5⟩ := r3
      have fX : fr [16, 17, 18, 19, 20] X rc.2.1 := fr_trans (by rw [eX]; exact fr_upd (fr_upd (fr_upd (fr_upd (fr_upd fr_rfl (by decide)) (by decide)) (by decide)) (by decide)) (by decide)) (fr_mono v1 (by decide))
      have fF : fr [7, 8, 9, 10, 11] F rc.2.2 := fr_trans (fr_mono eF (by decide)) v2
      have fY : fr [0, 22, 23, 24, 25, 26, 27] Y rm.2.1 := fr_trans (fr_upd (fr_upd (fr_upd fr_rfl (by decide)) (by decide)) (by decide)) (fr_mono v3 (by decide))
      have fG : fr [23, 24, 25, 26] G rm.2.2 := fr_trans (fr_vup fr_rfl (by decide)) v4
      refine ⟨.inr rc.1, rm.1, rc.2.1, rc.2.2, rm.2.1, rm.2.2, ?_, ?_, ⟨v3 0 (by decide), u1.symm⟩, ⟨J, cp, ⟨j1, j2, by rw [fX 15 (by decide)]; exact x15, by rw [fY 21 (by decide)]; exact y21, by rw [fF 6 (by decide)]; exact h6, by rw [fG 22 (by decide)]; exact h22⟩, Or.inr ⟨L, J, a, o, ⟨u2, by omega⟩, ⟨hJ1, by omega⟩, u6, u4, u5, u7, u8, ?_, u9, v5⟩⟩, fX, fF, fY, fG⟩
      · unfold f_Im_share f_Sh_seekLeastCost
        refine Go_neg p1 (Go_neg p2 (Go_neg p3 (Go_neg p4 (Go_neg p5 (Go_pos p6 (Go_pos (by show ¬ X 15 = 0; rw [x15, wN_0, sN_eq (by omega) (by omega)]; exact k0) ?_))))))
        refine Go_bind (Q := fun q => q = rc) ?_ (fun q hq => by rw [hq]; exact Go_ret rfl)
        refine Go_bind (⟨N1, f1, hf1, rfl⟩ : Go (fun n => f_Ar_fill_13 n (upd (upd (upd (upd (upd X 16 (sN S)) 19 (X 15)) 20 0) 17 0) 18 0) F 0) (fun z => z = f1)) (fun z hz => ?_)
        rw [hz]
        refine Go_bind (⟨N2, f2, hf2, rfl⟩ : Go (fun n => f_Ar_fill_14 n f1.2.1 f1.2.2 0) (fun z => z = f2)) (fun z hz => ?_)
        rw [hz]
        exact r1
      · refine Go_neg p1 (Go_neg p2 (Go_neg p3 (Go_neg p4 (Go_neg p5 (Go_neg p7 (Go_pos (by rw [y21, wN_0, sN_eq (by omega) (by omega)]; exact k0) ?_))))))
        exact g_sh82 j1 (sN S) (sN C) (sN W) (upd (upd Y 0 0) 22 0) y21 J 0 G (by omega) r2
      · rw [v1 19 (by decide), eX]; exact x15
  · refine ⟨.inl 1, 0, X, F, upd Y 0 1, G, ?_, ?_, ⟨rfl, Or.inl rfl⟩, hs 1, fr_rfl, fr_rfl, fr_upd fr_rfl (by decide), fr_rfl⟩
    · refine Go_ite (fun _ => Go_ret rfl) (fun k1 => Go_ite (fun _ => Go_ret rfl) (fun k2 => Go_ite (fun _ => Go_ret rfl) (fun k3 => Go_ite (fun _ => Go_ret rfl) (fun k4 => Go_ite (fun _ => Go_ret rfl) (fun k5 => Go_neg ?_ (Go_ret rfl))))))
      rw [w1, sI_lt a1 a2 (by omega) (by omega)] at k1
      rw [w16, sI_lt (by omega) (by omega) a1 a2] at k2
      rw [w0, sI_lt b1 b2 (by omega) (by omega)] at k3
      rw [wL, sI_lt (by omega) (by omega) b1 b2] at k4
      rw [w1, sI_lt c1 c2 (by omega) (by omega)] at k5
      rw [wK, sI_le c1 c2 (by omega) (by omega)]; omega
    · refine Go_ite (fun _ => Go_ret rfl) (fun k1 => Go_ite (fun _ => Go_ret rfl) (fun k2 => Go_ite (fun _ => Go_ret rfl) (fun k3 => Go_ite (fun _ => Go_ret rfl) (fun k4 => Go_ite (fun _ => Go_ret rfl) (fun k5 => Go_pos ?_ (Go_ret rfl))))))
      rw [w1, sI_lt a1 a2 (by omega) (by omega)] at k1
      rw [w16, sI_lt (by omega) (by omega) a1 a2] at k2
      rw [w0, sI_lt b1 b2 (by omega) (by omega)] at k3
      rw [wL, sI_lt (by omega) (by omega) b1 b2] at k4
      rw [w1, sI_lt c1 c2 (by omega) (by omega)] at k5
      rw [wK, sI_lt (by omega) (by omega) c1 c2]; omega
