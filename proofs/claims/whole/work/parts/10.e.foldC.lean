/-! folding: what it makes, and the class's way to it -/
theorem sN_xor (a b : Nat) : sN a ^^^ sN b = sN (a ^^^ b) := by
  apply Int32.toBitVec.inj
  show BitVec.ofNat 32 a ^^^ BitVec.ofNat 32 b = BitVec.ofNat 32 (a ^^^ b)
  apply BitVec.eq_of_toNat_eq
  rw [BitVec.toNat_xor, BitVec.toNat_ofNat, BitVec.toNat_ofNat, BitVec.toNat_ofNat, Nat.xor_mod_two_pow]
theorem xy_inj {c x y x2 y2 : Nat} (h : x < c) (h2 : x2 < c) (e : x + c * y = x2 + c * y2) : x = x2 ∧ y = y2 := by
  have e1 := congrArg (· % c) e
  have e2 := congrArg (· / c) e
  simp only [Nat.add_mul_mod_self_left, Nat.mod_eq_of_lt h, Nat.mod_eq_of_lt h2] at e1
  simp only [Nat.add_mul_div_left _ _ (show 0 < c by omega), Nat.div_eq_of_lt h, Nat.div_eq_of_lt h2] at e2
  omega
/-- piles: column, row, height from below: 4 * cell + marks -/
abbrev Pile : Type := Nat → Nat → Nat → Nat
def fAc (l : Nat) : Bool := l == 82 || l == 76
def fSt (l : Nat) : Bool := l == 82 || l == 66
def fW (l w : Nat) : Nat := if fAc l then w / 2 else w
def fH (l h : Nat) : Nat := if fAc l then h else h / 2
def fAx (l w x : Nat) : Nat := if fAc l && !fSt l then x + w / 2 else x
def fAy (l h y : Nat) : Nat := if !fAc l && !fSt l then y + h / 2 else y
def fBx (l w x : Nat) : Nat := if fAc l then w - 1 - fAx l w x else fAx l w x
def fBy (l h y : Nat) : Nat := if fAc l then fAy l h y else h - 1 - fAy l h y
def fMk (l : Nat) : Nat := if fAc l then 1 else 3
def plF (l w h H : Nat) (pl : Pile) : Pile := fun x y k => if k < H then pl (fAx l w x) (fAy l h y) k else pl (fBx l w x) (fBy l h y) (2 * H - 1 - k) ^^^ fMk l
def pl0 (c : Nat) : Pile := fun x y _ => 4 * (x + c * y)
def fold1 (l w h : Nat) : Bool := (if fAc l then w else h) % 2 == 0
def foldA : List Nat → Nat → Nat → Nat → Pile → Option Pile
  | [], w, h, _, pl => if w = 1 ∧ h = 1 then some pl else none
  | l :: ls, w, h, H, pl => if fold1 l w h = true then foldA ls (fW l w) (fH l h) (2 * H) (plF l w h H pl) else none
/-- the booklet's leaves -/
def bkl (c r : Nat) (ls : List Nat) : Option (Nat → Nat) := match ls with
  | [] => some (fun k => 4 * k)
  | l :: t => (foldA (l :: t) c r 1 (pl0 c)).map (fun pl k => pl 0 0 (c * r - 1 - k))
/-! putOver -/
def poF (f : Nat → Int32) (q1 q2 H i : Nat) (mk : Int32) : Nat → Int32 := fun j => if 16 * q2 + H + i ≤ j ∧ j < 16 * q2 + 2 * H then f (16 * q1 + (2 * H - 1 - (j - 16 * q2))) ^^^ mk else f j
theorem poF_step (f : Nat → Int32) (q1 q2 H i : Nat) (mk : Int32) (hi : i < H) (hH : 2 * H ≤ 16) : poF (upd f (16 * q2 + H + i) (f (16 * q1 + (H - 1 - i)) ^^^ mk)) q1 q2 H (i + 1) mk = poF f q1 q2 H i mk := by
  funext j
  unfold poF
  by_cases h1 : j = 16 * q2 + H + i
  · rw [if_neg (by omega), if_pos (by omega), upd_app, if_pos h1]
    congr 2; omega
  · by_cases h2 : 16 * q2 + H + i ≤ j ∧ j < 16 * q2 + 2 * H
    · rw [if_pos (by omega), if_pos h2, upd_app, if_neg (by omega)]
    · rw [if_neg (by omega), if_neg h2, upd_app, if_neg h1]
theorem poF_end (f : Nat → Int32) (q1 q2 H : Nat) (mk : Int32) : poF f q1 q2 H H mk = f := by
  funext j; unfold poF; rw [if_neg (by omega)]
theorem g_putOver (q1 q2 H : Nat) (mk : Int32) (h1 : q1 < 16) (h2 : q2 < 16) (hH : 2 * H ≤ 16) : ∀ (m i : Nat), i + m = H → ∀ (lv X : Nat → Int32) (F : Nat → Nat → Int32), lv 1 = sN q1 → lv 2 = sN q2 → lv 3 = mk → lv 4 = sN i → X 9 = sN H → Go (fun n => L_Fo_putOver n 35 lv X F) (fun r => r.2 = (X, va_up F 1 (poF (F 1) q1 q2 H i mk)))
  | 0, i, hm, lv, X, F, l1, l2, l3, l4, hX => by
    refine Go_S ?_
    simp (disch := omega) only [L_Fo_putOver, l1, l2, l3, l4, hX, upd_app, vup_app, ↓reduceIte, Nat.reduceEqDiff, sN_add, sN_mul, sN_sub, sN_lt, sN_le, sN_eq, sN_nat, sN_div, sN_mod, sN_1', wN_0, wN_1, wN_2, wN_3, wN_4, wN_5, wN_6, wN_7, wN_8, wN_9, wN_10, wN_11, wN_12, wN_13, wN_14, wN_15, wN_16, wN_17, wN_18, wN_19, wN_20, wN_28, wN_31, wN_32, wN_33, wN_36, wN_40, wN_42, wN_43, wN_44, wN_45, wN_46, wN_47, wN_48, wN_57, wN_61, wN_63, wN_64, wN_66, wN_76, wN_82, wN_84, wN_88, wN_90, wN_100, wN_120, wN_128, wN_200, wN_255, wN_256, wN_512, wN_640, wN_641, wN_1000, wN_1024, wN_10000, wN_100000]
    refine Go_pos (by omega) (Go_ret ?_)
    show (X, F) = _
    rw [show i = H by omega, poF_end, va_up_id]
  | m + 1, i, hm, lv, X, F, l1, l2, l3, l4, hX => by
    refine Go_S ?_
    simp (disch := omega) only [L_Fo_putOver, l1, l2, l3, l4, hX, upd_app, vup_app, ↓reduceIte, Nat.reduceEqDiff, sN_add, sN_mul, sN_sub, sN_lt, sN_le, sN_eq, sN_nat, sN_div, sN_mod, sN_1', wN_0, wN_1, wN_2, wN_3, wN_4, wN_5, wN_6, wN_7, wN_8, wN_9, wN_10, wN_11, wN_12, wN_13, wN_14, wN_15, wN_16, wN_17, wN_18, wN_19, wN_20, wN_28, wN_31, wN_32, wN_33, wN_36, wN_40, wN_42, wN_43, wN_44, wN_45, wN_46, wN_47, wN_48, wN_57, wN_61, wN_63, wN_64, wN_66, wN_76, wN_82, wN_84, wN_88, wN_90, wN_100, wN_120, wN_128, wN_200, wN_255, wN_256, wN_512, wN_640, wN_641, wN_1000, wN_1024, wN_10000, wN_100000]
    refine Go_neg (by omega) (Go_pos (by omega) (Go_pos (by omega) ?_))
    refine Go_mono (g_putOver q1 q2 H mk h1 h2 hH m (i + 1) (by omega) _ X _ rfl rfl rfl rfl hX) (fun r hr => ?_)
    rw [hr, va_up_up, va_up_self, ← poF_step (F 1) q1 q2 H i mk (by omega) hH]
    rw [show 16 * q1 + H - 1 - i = 16 * q1 + (H - 1 - i) by omega]
theorem e_putOver (q1 q2 H : Nat) (mk : Int32) (h1 : q1 < 16) (h2 : q2 < 16) (hH : 2 * H ≤ 16) (X : Nat → Int32) (F : Nat → Nat → Int32) (hX : X 9 = sN H) : Go (fun n => f_Fo_putOver n X F (sN q1) (sN q2) mk) (fun r => r.2 = (X, va_up F 1 (poF (F 1) q1 q2 H 0 mk))) := by
  unfold f_Fo_putOver
  simp (disch := omega) only [hX, upd_app, vup_app, ↓reduceIte, Nat.reduceEqDiff, sN_add, sN_mul, sN_sub, sN_lt, sN_le, sN_eq, sN_nat, sN_div, sN_mod, sN_1', wN_0, wN_1, wN_2, wN_3, wN_4, wN_5, wN_6, wN_7, wN_8, wN_9, wN_10, wN_11, wN_12, wN_13, wN_14, wN_15, wN_16, wN_17, wN_18, wN_19, wN_20, wN_28, wN_31, wN_32, wN_33, wN_36, wN_40, wN_42, wN_43, wN_44, wN_45, wN_46, wN_47, wN_48, wN_57, wN_61, wN_63, wN_64, wN_66, wN_76, wN_82, wN_84, wN_88, wN_90, wN_100, wN_120, wN_128, wN_200, wN_255, wN_256, wN_512, wN_640, wN_641, wN_1000, wN_1024, wN_10000, wN_100000]
  refine Go_neg (by omega) (Go_neg (by omega) (Go_neg (by omega) (Go_neg (by omega) (Go_pos (by omega) ?_))))
  exact g_putOver q1 q2 H mk h1 h2 hH H 0 (by omega) _ X F rfl rfl rfl rfl hX
/-- lower halves as before, upper halves filled where P holds -/
def accA (f0 f : Nat → Int32) (c H : Nat) (src : Nat → Nat → Nat) (mk : Int32) (P : Nat → Nat → Prop) : Prop :=
  (∀ q k, k < H → f (16 * q + k) = f0 (16 * q + k)) ∧ ∀ x y k, P x y → H ≤ k → k < 2 * H → f (16 * (x + c * y) + k) = f0 (16 * src x y + (2 * H - 1 - k)) ^^^ mk
theorem accA_step {f0 f : Nat → Int32} {c H x y : Nat} {src : Nat → Nat → Nat} {mk : Int32} {P : Nat → Nat → Prop} (h : accA f0 f c H src mk P) (hH : 2 * H ≤ 16) (hx : x < c) (hP : ∀ a b, P a b → a < c) : accA f0 (poF f (src x y) (x + c * y) H 0 mk) c H src mk (fun a b => P a b ∨ (a = x ∧ b = y)) := by
  refine ⟨fun q k hk => ?_, fun a b k hab h1 h2 => ?_⟩
  · unfold poF
    rw [if_neg (by omega)]
    exact h.1 q k hk
  · by_cases e : a = x ∧ b = y
    · obtain ⟨rfl, rfl⟩ := e
      unfold poF
      rw [if_pos (by omega), show 16 * (a + c * b) + k - 16 * (a + c * b) = k by omega, h.1 _ _ (by omega)]
    · have hab' : P a b := hab.elim id (fun z => absurd z e)
      unfold poF
      rw [if_neg ?_]
      · exact h.2 a b k hab' h1 h2
      · intro z
        have hq : a + c * b = x + c * y := by omega
        exact e (xy_inj (hP a b hab') hx hq)
theorem accA_mono {f0 f : Nat → Int32} {c H : Nat} {src : Nat → Nat → Nat} {mk : Int32} {P Q : Nat → Nat → Prop} (h : accA f0 f c H src mk P) (hQ : ∀ a b, Q a b → P a b) : accA f0 f c H src mk Q := ⟨h.1, fun x y k hp => h.2 x y k (hQ x y hp)⟩
abbrev Res : Type := Int32 × (Nat → Int32) × (Nat → Nat → Int32)
def prA (st hf tp y x : Nat) : Nat → Nat → Prop := fun a b => st ≤ a ∧ a < st + hf ∧ tp ≤ b ∧ (b < y ∨ (b = y ∧ a < x))
theorem in16 {c x y t : Nat} (hx : x < c) (hy : y < t) (h : c * t ≤ 16) : x + c * y < 16 := by
  have h1 : c * (y + 1) ≤ c * t := Nat.mul_le_mul_left c (by omega)
  rw [Nat.mul_add] at h1
  omega
theorem g_across_in {c H st hf mr tp h : Nat} {f0 : Nat → Int32} {Q : Res → Prop} (hH : 2 * H ≤ 16) (hc : st + hf ≤ c) (hc16 : c ≤ 16) (hmr : st + hf ≤ mr + 1) (hmc : mr - st < c) (hm16 : mr < 64) (hth : c * (tp + h) ≤ 16) (hth2 : tp + h ≤ 16) : ∀ (m x y : Nat), x + m = st + hf → st ≤ x → tp ≤ y → y < tp + h → ∀ (lv X : Nat → Int32) (F : Nat → Nat → Int32), lv 1 = sN st → lv 2 = sN hf → lv 3 = sN mr → lv 4 = sN y → lv 5 = sN x → X 4 = sN c → X 9 = sN H → accA f0 (F 1) c H (fun x y => mr - x + c * y) 1 (prA st hf tp y x) →
    (∀ (lv' : Nat → Int32) (F' : Nat → Nat → Int32), lv' 1 = sN st → lv' 2 = sN hf → lv' 3 = sN mr → lv' 4 = sN (y + 1) → fr [1] F F' → accA f0 (F' 1) c H (fun x y => mr - x + c * y) 1 (prA st hf tp (y + 1) st) → Go (fun n => L_Fo_foldAcross n 27 lv' X F') Q) → Go (fun n => L_Fo_foldAcross n 44 lv X F) Q
  | 0, x, y, hm, hx, hy, hy2, lv, X, F, l1, l2, l3, l4, l5, hX4, hX9, hA, hK => by
    refine Go_S ?_
    simp (disch := omega) only [L_Fo_foldAcross, l1, l2, l3, l4, l5, upd_app, vup_app, ↓reduceIte, Nat.reduceEqDiff, sN_add, sN_mul, sN_sub, sN_lt, sN_le, sN_eq, sN_nat, sN_div, sN_mod, sN_1', wN_0, wN_1, wN_2, wN_3, wN_4, wN_5, wN_6, wN_7, wN_8, wN_9, wN_10, wN_11, wN_12, wN_13, wN_14, wN_15, wN_16, wN_17, wN_18, wN_19, wN_20, wN_28, wN_31, wN_32, wN_33, wN_36, wN_40, wN_42, wN_43, wN_44, wN_45, wN_46, wN_47, wN_48, wN_57, wN_61, wN_63, wN_64, wN_66, wN_76, wN_82, wN_84, wN_88, wN_90, wN_100, wN_120, wN_128, wN_200, wN_255, wN_256, wN_512, wN_640, wN_641, wN_1000, wN_1024, wN_10000, wN_100000]
    refine Go_pos (by omega) ?_
    exact hK _ F rfl rfl rfl rfl fr_rfl (accA_mono hA (fun a b z => by unfold prA at z ⊢; omega))
  | m + 1, x, y, hm, hx, hy, hy2, lv, X, F, l1, l2, l3, l4, l5, hX4, hX9, hA, hK => by
    have b1 : mr - x + c * y < 16 := in16 (t := tp + h) (by omega) hy2 hth
    have b2 : x + c * y < 16 := in16 (t := tp + h) (by omega) hy2 hth
    refine Go_S ?_
    simp (disch := omega) only [L_Fo_foldAcross, l1, l2, l3, l4, l5, hX4, upd_app, vup_app, ↓reduceIte, Nat.reduceEqDiff, sN_add, sN_mul, sN_sub, sN_lt, sN_le, sN_eq, sN_nat, sN_div, sN_mod, sN_1', wN_0, wN_1, wN_2, wN_3, wN_4, wN_5, wN_6, wN_7, wN_8, wN_9, wN_10, wN_11, wN_12, wN_13, wN_14, wN_15, wN_16, wN_17, wN_18, wN_19, wN_20, wN_28, wN_31, wN_32, wN_33, wN_36, wN_40, wN_42, wN_43, wN_44, wN_45, wN_46, wN_47, wN_48, wN_57, wN_61, wN_63, wN_64, wN_66, wN_76, wN_82, wN_84, wN_88, wN_90, wN_100, wN_120, wN_128, wN_200, wN_255, wN_256, wN_512, wN_640, wN_641, wN_1000, wN_1024, wN_10000, wN_100000]
    refine Go_neg (by omega) (Go_bind (e_putOver (mr - x + c * y) (x + c * y) H 1 b1 b2 hH X F hX9) (fun q hq => ?_))
    rw [hq]
    refine g_across_in hH hc hc16 hmr hmc hm16 hth hth2 m (x + 1) y (by omega) (by omega) hy hy2 _ X _ rfl rfl rfl rfl rfl hX4 hX9 ?_ (fun lv' F' a1 a2 a3 a4 a5 a6 => hK lv' F' a1 a2 a3 a4 (fr_trans (fr_vup fr_rfl (by decide)) a5) a6)
    exact accA_mono (accA_step (x := x) (y := y) hA hH (by omega) (fun a b z => by unfold prA at z; omega)) (fun a b z => by unfold prA at z ⊢; omega)
theorem g_across {c H st hf mr tp h : Nat} {f0 : Nat → Int32} {Q : Res → Prop} (hH : 2 * H ≤ 16) (hc : st + hf ≤ c) (hc16 : c ≤ 16) (hmr : st + hf ≤ mr + 1) (hmc : mr - st < c) (hm16 : mr < 64) (hth : c * (tp + h) ≤ 16) (hth2 : tp + h ≤ 16) : ∀ (m y : Nat), y + m = tp + h → tp ≤ y → ∀ (lv X : Nat → Int32) (F : Nat → Nat → Int32), lv 1 = sN st → lv 2 = sN hf → lv 3 = sN mr → lv 4 = sN y → X 4 = sN c → X 6 = sN tp → X 8 = sN h → X 9 = sN H → accA f0 (F 1) c H (fun x y => mr - x + c * y) 1 (prA st hf tp y st) →
    (∀ (F' : Nat → Nat → Int32), fr [1] F F' → accA f0 (F' 1) c H (fun x y => mr - x + c * y) 1 (prA st hf tp (tp + h) st) → Q (0, upd (upd X 5 (sN st)) 7 (sN hf), F')) → Go (fun n => L_Fo_foldAcross n 27 lv X F) Q
  | 0, y, hm, hy, lv, X, F, l1, l2, l3, l4, hX4, hX6, hX8, hX9, hA, hK => by
    refine Go_S ?_
    simp (disch := omega) only [L_Fo_foldAcross, l1, l2, l3, l4, hX6, hX8, upd_app, vup_app, ↓reduceIte, Nat.reduceEqDiff, sN_add, sN_mul, sN_sub, sN_lt, sN_le, sN_eq, sN_nat, sN_div, sN_mod, sN_1', wN_0, wN_1, wN_2, wN_3, wN_4, wN_5, wN_6, wN_7, wN_8, wN_9, wN_10, wN_11, wN_12, wN_13, wN_14, wN_15, wN_16, wN_17, wN_18, wN_19, wN_20, wN_28, wN_31, wN_32, wN_33, wN_36, wN_40, wN_42, wN_43, wN_44, wN_45, wN_46, wN_47, wN_48, wN_57, wN_61, wN_63, wN_64, wN_66, wN_76, wN_82, wN_84, wN_88, wN_90, wN_100, wN_120, wN_128, wN_200, wN_255, wN_256, wN_512, wN_640, wN_641, wN_1000, wN_1024, wN_10000, wN_100000]
    refine Go_pos (by omega) (Go_ret (hK F fr_rfl ?_))
    rw [show tp + h = y by omega]; exact hA
  | m + 1, y, hm, hy, lv, X, F, l1, l2, l3, l4, hX4, hX6, hX8, hX9, hA, hK => by
    refine Go_S ?_
    simp (disch := omega) only [L_Fo_foldAcross, l1, l2, l3, l4, hX6, hX8, upd_app, vup_app, ↓reduceIte, Nat.reduceEqDiff, sN_add, sN_mul, sN_sub, sN_lt, sN_le, sN_eq, sN_nat, sN_div, sN_mod, sN_1', wN_0, wN_1, wN_2, wN_3, wN_4, wN_5, wN_6, wN_7, wN_8, wN_9, wN_10, wN_11, wN_12, wN_13, wN_14, wN_15, wN_16, wN_17, wN_18, wN_19, wN_20, wN_28, wN_31, wN_32, wN_33, wN_36, wN_40, wN_42, wN_43, wN_44, wN_45, wN_46, wN_47, wN_48, wN_57, wN_61, wN_63, wN_64, wN_66, wN_76, wN_82, wN_84, wN_88, wN_90, wN_100, wN_120, wN_128, wN_200, wN_255, wN_256, wN_512, wN_640, wN_641, wN_1000, wN_1024, wN_10000, wN_100000]
    refine Go_neg (by omega) ?_
    refine g_across_in hH hc hc16 hmr hmc hm16 hth hth2 hf st y rfl (by omega) hy (by omega) _ X F rfl rfl rfl rfl rfl hX4 hX9 hA (fun lv' F' a1 a2 a3 a4 a5 a6 => ?_)
    exact g_across hH hc hc16 hmr hmc hm16 hth hth2 m (y + 1) (by omega) (by omega) lv' X F' a1 a2 a3 a4 hX4 hX6 hX8 hX9 a6 (fun F2 b1 b2 => hK F2 (fr_trans a5 b1) b2)
def prD (l st y x : Nat) (w : Nat) : Nat → Nat → Prop := fun a b => l ≤ a ∧ a < l + w ∧ st ≤ b ∧ (b < y ∨ (b = y ∧ a < x))
theorem g_down_in {c H st hf mr l w : Nat} {f0 : Nat → Int32} {Q : Res → Prop} (hH : 2 * H ≤ 16) (hc : l + w ≤ c) (hc16 : c ≤ 16) (hmr : st + hf ≤ mr + 1) (hm16 : mr < 64) (hth : c * (mr - st + 1) ≤ 16) (hth2 : c * (st + hf) ≤ 16) (hs16 : st + hf ≤ 16) : ∀ (m x y : Nat), x + m = l + w → l ≤ x → st ≤ y → y < st + hf → ∀ (lv X : Nat → Int32) (F : Nat → Nat → Int32), lv 1 = sN st → lv 2 = sN hf → lv 3 = sN mr → lv 4 = sN y → lv 5 = sN x → X 4 = sN c → X 5 = sN l → X 7 = sN w → X 9 = sN H → accA f0 (F 1) c H (fun x y => x + c * (mr - y)) 3 (prD l st y x w) →
    (∀ (lv' : Nat → Int32) (F' : Nat → Nat → Int32), lv' 1 = sN st → lv' 2 = sN hf → lv' 3 = sN mr → lv' 4 = sN (y + 1) → fr [1] F F' → accA f0 (F' 1) c H (fun x y => x + c * (mr - y)) 3 (prD l st (y + 1) l w) → Go (fun n => L_Fo_foldDown n 24 lv' X F') Q) → Go (fun n => L_Fo_foldDown n 38 lv X F) Q
  | 0, x, y, hm, hx, hy, hy2, lv, X, F, l1, l2, l3, l4, l5, hX4, hX5, hX7, hX9, hA, hK => by
    refine Go_S ?_
    simp (disch := omega) only [L_Fo_foldDown, l1, l2, l3, l4, l5, hX5, hX7, upd_app, vup_app, ↓reduceIte, Nat.reduceEqDiff, sN_add, sN_mul, sN_sub, sN_lt, sN_le, sN_eq, sN_nat, sN_div, sN_mod, sN_1', wN_0, wN_1, wN_2, wN_3, wN_4, wN_5, wN_6, wN_7, wN_8, wN_9, wN_10, wN_11, wN_12, wN_13, wN_14, wN_15, wN_16, wN_17, wN_18, wN_19, wN_20, wN_28, wN_31, wN_32, wN_33, wN_36, wN_40, wN_42, wN_43, wN_44, wN_45, wN_46, wN_47, wN_48, wN_57, wN_61, wN_63, wN_64, wN_66, wN_76, wN_82, wN_84, wN_88, wN_90, wN_100, wN_120, wN_128, wN_200, wN_255, wN_256, wN_512, wN_640, wN_641, wN_1000, wN_1024, wN_10000, wN_100000]
    refine Go_pos (by omega) ?_
    exact hK _ F rfl rfl rfl rfl fr_rfl (accA_mono hA (fun a b z => by unfold prD at z ⊢; omega))
  | m + 1, x, y, hm, hx, hy, hy2, lv, X, F, l1, l2, l3, l4, l5, hX4, hX5, hX7, hX9, hA, hK => by
    have b1 : x + c * (mr - y) < 16 := in16 (t := mr - st + 1) (by omega) (by omega) hth
    have b2 : x + c * y < 16 := in16 (t := st + hf) (by omega) hy2 hth2
    refine Go_S ?_
    simp (disch := omega) only [L_Fo_foldDown, l1, l2, l3, l4, l5, hX4, hX5, hX7, upd_app, vup_app, ↓reduceIte, Nat.reduceEqDiff, sN_add, sN_mul, sN_sub, sN_lt, sN_le, sN_eq, sN_nat, sN_div, sN_mod, sN_1', wN_0, wN_1, wN_2, wN_3, wN_4, wN_5, wN_6, wN_7, wN_8, wN_9, wN_10, wN_11, wN_12, wN_13, wN_14, wN_15, wN_16, wN_17, wN_18, wN_19, wN_20, wN_28, wN_31, wN_32, wN_33, wN_36, wN_40, wN_42, wN_43, wN_44, wN_45, wN_46, wN_47, wN_48, wN_57, wN_61, wN_63, wN_64, wN_66, wN_76, wN_82, wN_84, wN_88, wN_90, wN_100, wN_120, wN_128, wN_200, wN_255, wN_256, wN_512, wN_640, wN_641, wN_1000, wN_1024, wN_10000, wN_100000]
    refine Go_neg (by omega) (Go_bind (e_putOver (x + c * (mr - y)) (x + c * y) H 3 b1 b2 hH X F hX9) (fun q hq => ?_))
    rw [hq]
    refine g_down_in hH hc hc16 hmr hm16 hth hth2 hs16 m (x + 1) y (by omega) (by omega) hy hy2 _ X _ rfl rfl rfl rfl rfl hX4 hX5 hX7 hX9 ?_ (fun lv' F' a1 a2 a3 a4 a5 a6 => hK lv' F' a1 a2 a3 a4 (fr_trans (fr_vup fr_rfl (by decide)) a5) a6)
    exact accA_mono (accA_step (x := x) (y := y) hA hH (by omega) (fun a b z => by unfold prD at z; omega)) (fun a b z => by unfold prD at z ⊢; omega)
theorem g_down {c H st hf mr l w : Nat} {f0 : Nat → Int32} {Q : Res → Prop} (hH : 2 * H ≤ 16) (hc : l + w ≤ c) (hc16 : c ≤ 16) (hmr : st + hf ≤ mr + 1) (hm16 : mr < 64) (hth : c * (mr - st + 1) ≤ 16) (hth2 : c * (st + hf) ≤ 16) (hs16 : st + hf ≤ 16) : ∀ (m y : Nat), y + m = st + hf → st ≤ y → ∀ (lv X : Nat → Int32) (F : Nat → Nat → Int32), lv 1 = sN st → lv 2 = sN hf → lv 3 = sN mr → lv 4 = sN y → X 4 = sN c → X 5 = sN l → X 7 = sN w → X 9 = sN H → accA f0 (F 1) c H (fun x y => x + c * (mr - y)) 3 (prD l st y l w) →
    (∀ (F' : Nat → Nat → Int32), fr [1] F F' → accA f0 (F' 1) c H (fun x y => x + c * (mr - y)) 3 (prD l st (st + hf) l w) → Q (0, upd (upd X 6 (sN st)) 8 (sN hf), F')) → Go (fun n => L_Fo_foldDown n 24 lv X F) Q
  | 0, y, hm, hy, lv, X, F, l1, l2, l3, l4, hX4, hX5, hX7, hX9, hA, hK => by
    refine Go_S ?_
    simp (disch := omega) only [L_Fo_foldDown, l1, l2, l3, l4, upd_app, vup_app, ↓reduceIte, Nat.reduceEqDiff, sN_add, sN_mul, sN_sub, sN_lt, sN_le, sN_eq, sN_nat, sN_div, sN_mod, sN_1', wN_0, wN_1, wN_2, wN_3, wN_4, wN_5, wN_6, wN_7, wN_8, wN_9, wN_10, wN_11, wN_12, wN_13, wN_14, wN_15, wN_16, wN_17, wN_18, wN_19, wN_20, wN_28, wN_31, wN_32, wN_33, wN_36, wN_40, wN_42, wN_43, wN_44, wN_45, wN_46, wN_47, wN_48, wN_57, wN_61, wN_63, wN_64, wN_66, wN_76, wN_82, wN_84, wN_88, wN_90, wN_100, wN_120, wN_128, wN_200, wN_255, wN_256, wN_512, wN_640, wN_641, wN_1000, wN_1024, wN_10000, wN_100000]
    refine Go_pos (by omega) (Go_ret (hK F fr_rfl ?_))
    rw [show st + hf = y by omega]; exact hA
  | m + 1, y, hm, hy, lv, X, F, l1, l2, l3, l4, hX4, hX5, hX7, hX9, hA, hK => by
    refine Go_S ?_
    simp (disch := omega) only [L_Fo_foldDown, l1, l2, l3, l4, hX5, upd_app, vup_app, ↓reduceIte, Nat.reduceEqDiff, sN_add, sN_mul, sN_sub, sN_lt, sN_le, sN_eq, sN_nat, sN_div, sN_mod, sN_1', wN_0, wN_1, wN_2, wN_3, wN_4, wN_5, wN_6, wN_7, wN_8, wN_9, wN_10, wN_11, wN_12, wN_13, wN_14, wN_15, wN_16, wN_17, wN_18, wN_19, wN_20, wN_28, wN_31, wN_32, wN_33, wN_36, wN_40, wN_42, wN_43, wN_44, wN_45, wN_46, wN_47, wN_48, wN_57, wN_61, wN_63, wN_64, wN_66, wN_76, wN_82, wN_84, wN_88, wN_90, wN_100, wN_120, wN_128, wN_200, wN_255, wN_256, wN_512, wN_640, wN_641, wN_1000, wN_1024, wN_10000, wN_100000]
    refine Go_neg (by omega) ?_
    refine g_down_in hH hc hc16 hmr hm16 hth hth2 hs16 w l y rfl (by omega) hy (by omega) _ X F rfl rfl rfl rfl rfl hX4 hX5 hX7 hX9 hA (fun lv' F' a1 a2 a3 a4 a5 a6 => ?_)
    exact g_down hH hc hc16 hmr hm16 hth hth2 hs16 m (y + 1) (by omega) (by omega) lv' X F' a1 a2 a3 a4 hX4 hX5 hX7 hX9 a6 (fun F2 b1 b2 => hK F2 (fr_trans a5 b1) b2)
/-- the class's piles -/
def pilC (c l tp w h H : Nat) (pl : Pile) (X : Nat → Int32) (f : Nat → Int32) : Prop :=
  X 4 = sN c ∧ X 5 = sN l ∧ X 6 = sN tp ∧ X 7 = sN w ∧ X 8 = sN h ∧ X 9 = sN H ∧ l + w ≤ c ∧ c ≤ 16 ∧ tp + h ≤ 16 ∧ c * (tp + h) ≤ 16 ∧ 1 ≤ w ∧ 1 ≤ h ∧ 1 ≤ H ∧ w * h * H ≤ 16 ∧ ∀ x y k, x < w → y < h → k < H → f (16 * (l + x + c * (tp + y)) + k) = sN (pl x y k)
theorem pil_ev {w h H : Nat} (hw : 1 ≤ w) (hh : 1 ≤ h) (he : w % 2 = 0) (hb : w * h * H ≤ 16) : 2 * H ≤ 16 ∧ w / 2 * h * (2 * H) ≤ 16 ∧ 1 ≤ w / 2 := by
  have h1 : 2 ≤ w * h := Nat.le_trans (show 2 ≤ w * 1 by omega) (Nat.mul_le_mul_left w hh)
  have h2 : 2 * H ≤ w * h * H := Nat.mul_le_mul_right H h1
  refine ⟨by omega, ?_, by omega⟩
  have h3 : w / 2 * h * (2 * H) = w * h * H := by
    have h4 : w = w / 2 * 2 := by omega
    calc w / 2 * h * (2 * H) = w / 2 * 2 * h * H := by rw [Nat.mul_assoc (w / 2) 2 h, Nat.mul_comm 2 h, ← Nat.mul_assoc (w / 2) h 2, Nat.mul_assoc _ 2 H]
      _ = w * h * H := by rw [← h4]
  omega
theorem pil_ev2 {w h H : Nat} (hw : 1 ≤ w) (hh : 1 ≤ h) (he : h % 2 = 0) (hb : w * h * H ≤ 16) : 2 * H ≤ 16 ∧ w * (h / 2) * (2 * H) ≤ 16 ∧ 1 ≤ h / 2 := by
  have := pil_ev hh hw he (show h * w * H ≤ 16 by rw [Nat.mul_comm h w]; exact hb)
  exact ⟨this.1, by rw [Nat.mul_comm w (h / 2)]; exact this.2.1, this.2.2⟩
/-- across, either way -/
theorem e_across {c l tp w h H st : Nat} {pl : Pile} {X : Nat → Int32} {F : Nat → Nat → Int32} {lt : Nat} (hp : pilC c l tp w h H pl X (F 1)) (he : w % 2 = 0) (ha : fAc lt = true) (hst : st = l + fAx lt w 0) : Go (fun n => f_Fo_foldAcross n X F (sN st)) (fun r => fr [1] F r.2.2 ∧ fr [4, 5, 6, 7, 8, 9] X r.2.1 ∧ r.2.1 9 = sN H ∧ ∀ X', fr [9] r.2.1 X' → X' 9 = sN (2 * H) → pilC c st tp (fW lt w) (fH lt h) (2 * H) (plF lt w h H pl) X' (r.2.2 1)) := by
  obtain ⟨h4, h5, h6, h7, h8, h9, b1, b2, b3, b4, b5, b6, b7, b8, hP⟩ := hp
  obtain ⟨e1, e2, e3⟩ := pil_ev b5 b6 he b8
  have hax : ∀ x, fAx lt w x = x + fAx lt w 0 := fun x => by unfold fAx; split <;> omega
  have ha0 : fAx lt w 0 = 0 ∨ fAx lt w 0 = w / 2 := by unfold fAx; split <;> omega
  have hW : fW lt w = w / 2 := by unfold fW; rw [ha]; rfl
  have hHh : fH lt h = h := by unfold fH; rw [ha]; rfl
  have hAy : ∀ y, fAy lt h y = y := fun y => by unfold fAy; rw [ha]; rfl
  have hBy : ∀ y, fBy lt h y = y := fun y => by unfold fBy; rw [ha]; exact hAy y
  have hBx : ∀ x, fBx lt w x = w - 1 - (x + fAx lt w 0) := fun x => by unfold fBx; rw [ha, hax x]; rfl
  have hMk : fMk lt = 1 := by unfold fMk; rw [ha]; rfl
  unfold f_Fo_foldAcross
  simp (disch := omega) only [h5, h6, h7, sN_add, sN_mul, sN_sub, sN_lt, sN_le, sN_eq, sN_nat, sN_div, sN_mod, sN_1', wN_0, wN_1, wN_2, wN_3, wN_4, wN_5, wN_6, wN_7, wN_8, wN_9, wN_10, wN_11, wN_12, wN_13, wN_14, wN_15, wN_16, wN_17, wN_18, wN_19, wN_20, wN_28, wN_31, wN_32, wN_33, wN_36, wN_40, wN_42, wN_43, wN_44, wN_45, wN_46, wN_47, wN_48, wN_57, wN_61, wN_63, wN_64, wN_66, wN_76, wN_82, wN_84, wN_88, wN_90, wN_100, wN_120, wN_128, wN_200, wN_255, wN_256, wN_512, wN_640, wN_641, wN_1000, wN_1024, wN_10000, wN_100000]
  refine g_across (c := c) (H := H) (st := st) (hf := w / 2) (mr := 2 * l + w - 1) (tp := tp) (h := h) (f0 := F 1) e1 (by omega) b2 (by omega) (by omega) (by omega) b4 b3 h tp rfl (by omega) _ X F rfl rfl rfl rfl h4 h6 h8 h9 ⟨fun _ _ _ => rfl, fun a b k z => by unfold prA at z; omega⟩ (fun F' hf hA => ?_)
  refine ⟨hf, fr_upd (fr_upd fr_rfl (by decide)) (by decide), h9, fun X' hX' h9' => ?_⟩
  rw [hW, hHh]
  refine ⟨(hX' 4 (by decide)).trans h4, (hX' 5 (by decide)).trans rfl, (hX' 6 (by decide)).trans h6, (hX' 7 (by decide)).trans rfl, (hX' 8 (by decide)).trans h8, h9', by omega, b2, b3, b4, e3, b6, by omega, e2, fun x y k hx hy hk => ?_⟩
  unfold plF
  rw [hax, hAy, hBx, hBy, hMk]
  by_cases hkH : k < H
  · rw [if_pos hkH]
    refine (hA.1 _ k hkH).trans ?_
    rw [hst, show l + fAx lt w 0 + x = l + (x + fAx lt w 0) by omega]
    exact hP _ y k (by omega) hy hkH
  · rw [if_neg hkH]
    refine (hA.2 (st + x) (tp + y) k (by unfold prA; omega) (by omega) hk).trans ?_
    show F 1 (16 * (2 * l + w - 1 - (st + x) + c * (tp + y)) + (2 * H - 1 - k)) ^^^ 1 = _
    rw [show 2 * l + w - 1 - (st + x) = l + (w - 1 - (x + fAx lt w 0)) by omega, hP _ y _ (by omega) hy (by omega)]
    exact sN_xor _ 1
theorem e_down {c l tp w h H st : Nat} {pl : Pile} {X : Nat → Int32} {F : Nat → Nat → Int32} {lt : Nat} (hp : pilC c l tp w h H pl X (F 1)) (he : h % 2 = 0) (ha : fAc lt = false) (hst : st = tp + fAy lt h 0) : Go (fun n => f_Fo_foldDown n X F (sN st)) (fun r => fr [1] F r.2.2 ∧ fr [4, 5, 6, 7, 8, 9] X r.2.1 ∧ r.2.1 9 = sN H ∧ ∀ X', fr [9] r.2.1 X' → X' 9 = sN (2 * H) → pilC c l st (fW lt w) (fH lt h) (2 * H) (plF lt w h H pl) X' (r.2.2 1)) := by
  obtain ⟨h4, h5, h6, h7, h8, h9, b1, b2, b3, b4, b5, b6, b7, b8, hP⟩ := hp
  obtain ⟨e1, e2, e3⟩ := pil_ev2 b5 b6 he b8
  have hay : ∀ y, fAy lt h y = y + fAy lt h 0 := fun x => by unfold fAy; split <;> omega
  have ha0 : fAy lt h 0 = 0 ∨ fAy lt h 0 = h / 2 := by unfold fAy; split <;> omega
  have hW : fW lt w = w := by unfold fW; rw [ha]; rfl
  have hHh : fH lt h = h / 2 := by unfold fH; rw [ha]; rfl
  have hAx : ∀ y, fAx lt w y = y := fun y => by unfold fAx; rw [ha]; rfl
  have hBx : ∀ y, fBx lt w y = y := fun y => by unfold fBx; rw [ha]; exact hAx y
  have hBy : ∀ x, fBy lt h x = h - 1 - (x + fAy lt h 0) := fun x => by unfold fBy; rw [ha, hay x]; rfl
  have hMk : fMk lt = 3 := by unfold fMk; rw [ha]; rfl
  unfold f_Fo_foldDown
  simp (disch := omega) only [h5, h6, h8, sN_add, sN_mul, sN_sub, sN_lt, sN_le, sN_eq, sN_nat, sN_div, sN_mod, sN_1', wN_0, wN_1, wN_2, wN_3, wN_4, wN_5, wN_6, wN_7, wN_8, wN_9, wN_10, wN_11, wN_12, wN_13, wN_14, wN_15, wN_16, wN_17, wN_18, wN_19, wN_20, wN_28, wN_31, wN_32, wN_33, wN_36, wN_40, wN_42, wN_43, wN_44, wN_45, wN_46, wN_47, wN_48, wN_57, wN_61, wN_63, wN_64, wN_66, wN_76, wN_82, wN_84, wN_88, wN_90, wN_100, wN_120, wN_128, wN_200, wN_255, wN_256, wN_512, wN_640, wN_641, wN_1000, wN_1024, wN_10000, wN_100000]
  refine g_down (c := c) (H := H) (st := st) (hf := h / 2) (mr := 2 * tp + h - 1) (l := l) (w := w) (f0 := F 1) e1 (by omega) b2 (by omega) (by omega) (Nat.le_trans (Nat.mul_le_mul_left c (by omega)) b4) (Nat.le_trans (Nat.mul_le_mul_left c (by omega)) b4) (by omega) (h / 2) st rfl (by omega) _ X F rfl rfl rfl rfl h4 h5 h7 h9 ⟨fun _ _ _ => rfl, fun a b k z => by unfold prD at z; omega⟩ (fun F' hf hA => ?_)
  refine ⟨hf, fr_upd (fr_upd fr_rfl (by decide)) (by decide), h9, fun X' hX' h9' => ?_⟩
  rw [hW, hHh]
  refine ⟨(hX' 4 (by decide)).trans h4, (hX' 5 (by decide)).trans h5, (hX' 6 (by decide)).trans rfl, (hX' 7 (by decide)).trans h7, (hX' 8 (by decide)).trans rfl, h9', by omega, b2, by omega, Nat.le_trans (Nat.mul_le_mul_left c (by omega)) b4, b5, e3, by omega, e2, fun x y k hx hy hk => ?_⟩
  unfold plF
  rw [hAx, hay, hBx, hBy, hMk]
  by_cases hkH : k < H
  · rw [if_pos hkH]
    refine (hA.1 _ k hkH).trans ?_
    rw [hst, show tp + fAy lt h 0 + y = tp + (y + fAy lt h 0) by omega]
    exact hP x _ k hx (by omega) hkH
  · rw [if_neg hkH]
    refine (hA.2 (l + x) (st + y) k (by unfold prD; omega) (by omega) hk).trans ?_
    show F 1 (16 * (l + x + c * (2 * tp + h - 1 - (st + y))) + (2 * H - 1 - k)) ^^^ 3 = _
    rw [show 2 * tp + h - 1 - (st + y) = tp + (h - 1 - (y + fAy lt h 0)) by omega, hP x _ _ hx (by omega) (by omega)]
    exact sN_xor _ 3
def isLt (l : Nat) : Prop := l = 82 ∨ l = 76 ∨ l = 84 ∨ l = 66
theorem e_foldOnce {c l tp w h H : Nat} {pl : Pile} {X : Nat → Int32} {F : Nat → Nat → Int32} {lt : Nat} (hp : pilC c l tp w h H pl X (F 1)) (hl : isLt lt) : Go (fun n => f_Fo_foldOnce n X F (sN lt)) (fun r => fr [1] F r.2.2 ∧ fr [4, 5, 6, 7, 8, 9] X r.2.1 ∧ if fold1 lt w h = true then r.1 = 1 ∧ ∃ l' tp', pilC c l' tp' (fW lt w) (fH lt h) (2 * H) (plF lt w h H pl) r.2.1 (r.2.2 1) else r.1 = 0) := by
  obtain ⟨h4, h5, h6, h7, h8, h9, b1, b2, b3, b4, b5, b6, b7, b8, hP⟩ := id hp
  unfold f_Fo_foldOnce
  have hev : ∀ z : Nat, ((z - z / 2 * 2 = 0) ↔ z % 2 = 0) := fun z => by omega
  rcases hl with rfl | rfl | rfl | rfl
  all_goals
    simp (disch := omega) only [h5, h6, h7, h8, eq_self, not_true_eq_false, not_false_eq_true, upd_app, vup_app, ↓reduceIte, Nat.reduceEqDiff, sN_add, sN_mul, sN_sub, sN_lt, sN_le, sN_eq, sN_nat, sN_div, sN_mod, sN_1', wN_0, wN_1, wN_2, wN_3, wN_4, wN_5, wN_6, wN_7, wN_8, wN_9, wN_10, wN_11, wN_12, wN_13, wN_14, wN_15, wN_16, wN_17, wN_18, wN_19, wN_20, wN_28, wN_31, wN_32, wN_33, wN_36, wN_40, wN_42, wN_43, wN_44, wN_45, wN_46, wN_47, wN_48, wN_57, wN_61, wN_63, wN_64, wN_66, wN_76, wN_82, wN_84, wN_88, wN_90, wN_100, wN_120, wN_128, wN_200, wN_255, wN_256, wN_512, wN_640, wN_641, wN_1000, wN_1024, wN_10000, wN_100000]
    refine Go_ite (fun hd => ?_) (fun hd => Go_ret ⟨fr_rfl, fr_rfl, ?_⟩)
  · refine Go_bind (e_across (lt := 82) hp (by omega) rfl rfl) (fun q hq => ?_)
    refine Go_ret ⟨hq.1, fr_upd hq.2.1 (by decide), ?_⟩
    rw [if_pos (by unfold fold1; exact beq_iff_eq.mpr ((hev w).mp hd))]
    exact ⟨rfl, l + 0, tp, hq.2.2.2 _ (fr_upd fr_rfl (by decide)) (by show q.2.1 9 * sN 2 = _; rw [hq.2.2.1, sN_mul, Nat.mul_comm])⟩
  · rw [if_neg (by unfold fold1; intro z; exact hd ((hev w).mpr (beq_iff_eq.mp z)))]
  · refine Go_bind (e_across (lt := 76) hp (by omega) rfl (by show _ = l + (0 + w / 2); omega)) (fun q hq => ?_)
    refine Go_ret ⟨hq.1, fr_upd hq.2.1 (by decide), ?_⟩
    rw [if_pos (by unfold fold1; exact beq_iff_eq.mpr ((hev w).mp hd))]
    exact ⟨rfl, l + w / 2, tp, hq.2.2.2 _ (fr_upd fr_rfl (by decide)) (by show q.2.1 9 * sN 2 = _; rw [hq.2.2.1, sN_mul, Nat.mul_comm])⟩
  · rw [if_neg (by unfold fold1; intro z; exact hd ((hev w).mpr (beq_iff_eq.mp z)))]
  · refine Go_bind (e_down (lt := 84) hp (by omega) rfl (by show _ = tp + (0 + h / 2); omega)) (fun q hq => ?_)
    refine Go_ret ⟨hq.1, fr_upd hq.2.1 (by decide), ?_⟩
    rw [if_pos (by unfold fold1; exact beq_iff_eq.mpr ((hev h).mp hd))]
    exact ⟨rfl, l, tp + h / 2, hq.2.2.2 _ (fr_upd fr_rfl (by decide)) (by show q.2.1 9 * sN 2 = _; rw [hq.2.2.1, sN_mul, Nat.mul_comm])⟩
  · rw [if_neg (by unfold fold1; intro z; exact hd ((hev h).mpr (beq_iff_eq.mp z)))]
  · refine Go_bind (e_down (lt := 66) hp (by omega) rfl rfl) (fun q hq => ?_)
    refine Go_ret ⟨hq.1, fr_upd hq.2.1 (by decide), ?_⟩
    rw [if_pos (by unfold fold1; exact beq_iff_eq.mpr ((hev h).mp hd))]
    exact ⟨rfl, l, tp + 0, hq.2.2.2 _ (fr_upd fr_rfl (by decide)) (by show q.2.1 9 * sN 2 = _; rw [hq.2.2.1, sN_mul, Nat.mul_comm])⟩
  · rw [if_neg (by unfold fold1; intro z; exact hd ((hev h).mpr (beq_iff_eq.mp z)))]
