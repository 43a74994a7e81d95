/-! words as numbers; runs with fuel (gen/lib10.py) -/
def sI (z : Int) : Int32 := Int32.ofInt z
def sN (n : Nat) : Int32 := Int32.ofNat n
theorem sI_toInt {z : Int} (h1 : -2147483648 ≤ z) (h2 : z < 2147483648) : (sI z).toInt = z := Int32.toInt_ofInt_of_le (by omega) (by omega)
theorem sN_sI (n : Nat) : sN n = sI n := (Int32.ofInt_eq_ofNat).symm
theorem sN_toInt {n : Nat} (h : n < 2147483648) : (sN n).toInt = n := by rw [sN_sI, sI_toInt (by omega) (by omega)]
theorem sI_of (x : Int32) : x = sI x.toInt := (Int32.ofInt_toInt x).symm
theorem sI_ex (x : Int32) : ∃ z : Int, -2147483648 ≤ z ∧ z < 2147483648 ∧ x = sI z := ⟨x.toInt, by have := x.le_toInt; omega, by have := x.toInt_lt; omega, sI_of x⟩
theorem sN_ex {x : Int32} (h : 0 ≤ x.toInt) : ∃ n : Nat, n < 2147483648 ∧ x = sN n := ⟨x.toInt.toNat, by have := x.toInt_lt; omega, by rw [sN_sI, Int.toNat_of_nonneg h]; exact sI_of x⟩
theorem sI_add (a b : Int) : sI a + sI b = sI (a + b) := (Int32.ofInt_add a b).symm
theorem sI_sub (a b : Int) : sI a - sI b = sI (a - b) := (Int32.ofInt_sub a b).symm
theorem sI_mul (a b : Int) : sI a * sI b = sI (a * b) := (Int32.ofInt_mul a b).symm
theorem sI_neg (a : Int) : -sI a = sI (-a) := (Int32.ofInt_neg a).symm
theorem sI_lt {a b : Int} (h1 : -2147483648 ≤ a) (h2 : a < 2147483648) (h3 : -2147483648 ≤ b) (h4 : b < 2147483648) : (sI a < sI b) = (a < b) := by rw [Int32.lt_iff_toInt_lt, sI_toInt h1 h2, sI_toInt h3 h4]
theorem sI_le {a b : Int} (h1 : -2147483648 ≤ a) (h2 : a < 2147483648) (h3 : -2147483648 ≤ b) (h4 : b < 2147483648) : (sI a ≤ sI b) = (a ≤ b) := by rw [Int32.le_iff_toInt_le, sI_toInt h1 h2, sI_toInt h3 h4]
theorem sI_eq {a b : Int} (h1 : -2147483648 ≤ a) (h2 : a < 2147483648) (h3 : -2147483648 ≤ b) (h4 : b < 2147483648) : (sI a = sI b) = (a = b) := by rw [← Int32.toInt_inj, sI_toInt h1 h2, sI_toInt h3 h4]
theorem sI_nat {a : Int} (h1 : -2147483648 ≤ a) (h2 : a < 2147483648) : (sI a).toNatClampNeg = a.toNat := by show (sI a).toInt.toNat = _; rw [sI_toInt h1 h2]
theorem sN_add (a b : Nat) : sN a + sN b = sN (a + b) := by rw [sN_sI, sN_sI, sN_sI, sI_add]; rfl
theorem sN_mul (a b : Nat) : sN a * sN b = sN (a * b) := by rw [sN_sI, sN_sI, sN_sI, sI_mul]; rfl
theorem sN_sub {a b : Nat} (h : b ≤ a) : sN a - sN b = sN (a - b) := by rw [sN_sI, sN_sI, sN_sI, sI_sub, Int.ofNat_sub h]
theorem sN_lt {a b : Nat} (h2 : a < 2147483648) (h4 : b < 2147483648) : (sN a < sN b) = (a < b) := by rw [sN_sI, sN_sI, sI_lt (by omega) (by omega) (by omega) (by omega)]; exact propext Int.ofNat_lt
theorem sN_le {a b : Nat} (h2 : a < 2147483648) (h4 : b < 2147483648) : (sN a ≤ sN b) = (a ≤ b) := by rw [sN_sI, sN_sI, sI_le (by omega) (by omega) (by omega) (by omega)]; exact propext Int.ofNat_le
theorem sN_eq {a b : Nat} (h2 : a < 2147483648) (h4 : b < 2147483648) : (sN a = sN b) = (a = b) := by rw [sN_sI, sN_sI, sI_eq (by omega) (by omega) (by omega) (by omega)]; exact propext Int.ofNat_inj
theorem sN_nat {a : Nat} (h2 : a < 2147483648) : (sN a).toNatClampNeg = a := by rw [sN_sI, sI_nat (by omega) (by omega)]; exact Int.toNat_natCast a
theorem sI_div {a b : Int} (h1 : -2147483648 ≤ a) (h2 : a < 2147483648) (h3 : 0 < b) (h4 : b < 2147483648) : sI a / sI b = sI (a.tdiv b) := by
  apply Int32.toInt.inj
  rw [Int32.toInt_div, sI_toInt h1 h2, sI_toInt (by omega) h4]
  show _ = (Int32.ofInt (a.tdiv b)).toInt
  rw [Int32.toInt_ofInt]
theorem sN_div {a b : Nat} (h2 : a < 2147483648) (h3 : 0 < b) (h4 : b < 2147483648) : sN a / sN b = sN (a / b) := by rw [sN_sI, sN_sI, sI_div (by omega) (by omega) (by omega) (by omega), sN_sI]; rfl
theorem sN_mod (a b : Nat) : sN a - sN (a / b * b) = sN (a % b) := by
  have h := Nat.div_add_mod a b
  have h2 : a / b * b = b * (a / b) := Nat.mul_comm _ _
  rw [sN_sub (by omega)]
  congr 1
  omega
theorem sN_1' : Int32.ofInt 1 = sN 1 := rfl
theorem sI_m1 : (-1 : Int32) = sI (-1) := rfl
theorem sI_m2 : (-2 : Int32) = sI (-2) := rfl
theorem sI_m3 : (-3 : Int32) = sI (-3) := rfl
theorem wN_0 : (0 : Int32) = sN 0 := rfl
theorem wN_1 : (1 : Int32) = sN 1 := rfl
theorem wN_2 : (2 : Int32) = sN 2 := rfl
theorem wN_3 : (3 : Int32) = sN 3 := rfl
theorem wN_4 : (4 : Int32) = sN 4 := rfl
theorem wN_5 : (5 : Int32) = sN 5 := rfl
theorem wN_6 : (6 : Int32) = sN 6 := rfl
theorem wN_7 : (7 : Int32) = sN 7 := rfl
theorem wN_8 : (8 : Int32) = sN 8 := rfl
theorem wN_9 : (9 : Int32) = sN 9 := rfl
theorem wN_10 : (10 : Int32) = sN 10 := rfl
theorem wN_11 : (11 : Int32) = sN 11 := rfl
theorem wN_12 : (12 : Int32) = sN 12 := rfl
theorem wN_13 : (13 : Int32) = sN 13 := rfl
theorem wN_14 : (14 : Int32) = sN 14 := rfl
theorem wN_15 : (15 : Int32) = sN 15 := rfl
theorem wN_16 : (16 : Int32) = sN 16 := rfl
theorem wN_17 : (17 : Int32) = sN 17 := rfl
theorem wN_18 : (18 : Int32) = sN 18 := rfl
theorem wN_19 : (19 : Int32) = sN 19 := rfl
theorem wN_20 : (20 : Int32) = sN 20 := rfl
theorem wN_28 : (28 : Int32) = sN 28 := rfl
theorem wN_31 : (31 : Int32) = sN 31 := rfl
theorem wN_32 : (32 : Int32) = sN 32 := rfl
theorem wN_33 : (33 : Int32) = sN 33 := rfl
theorem wN_36 : (36 : Int32) = sN 36 := rfl
theorem wN_40 : (40 : Int32) = sN 40 := rfl
theorem wN_42 : (42 : Int32) = sN 42 := rfl
theorem wN_43 : (43 : Int32) = sN 43 := rfl
theorem wN_44 : (44 : Int32) = sN 44 := rfl
theorem wN_45 : (45 : Int32) = sN 45 := rfl
theorem wN_46 : (46 : Int32) = sN 46 := rfl
theorem wN_47 : (47 : Int32) = sN 47 := rfl
theorem wN_48 : (48 : Int32) = sN 48 := rfl
theorem wN_57 : (57 : Int32) = sN 57 := rfl
theorem wN_61 : (61 : Int32) = sN 61 := rfl
theorem wN_63 : (63 : Int32) = sN 63 := rfl
theorem wN_64 : (64 : Int32) = sN 64 := rfl
theorem wN_66 : (66 : Int32) = sN 66 := rfl
theorem wN_76 : (76 : Int32) = sN 76 := rfl
theorem wN_82 : (82 : Int32) = sN 82 := rfl
theorem wN_84 : (84 : Int32) = sN 84 := rfl
theorem wN_88 : (88 : Int32) = sN 88 := rfl
theorem wN_90 : (90 : Int32) = sN 90 := rfl
theorem wN_100 : (100 : Int32) = sN 100 := rfl
theorem wN_120 : (120 : Int32) = sN 120 := rfl
theorem wN_128 : (128 : Int32) = sN 128 := rfl
theorem wN_200 : (200 : Int32) = sN 200 := rfl
theorem wN_255 : (255 : Int32) = sN 255 := rfl
theorem wN_256 : (256 : Int32) = sN 256 := rfl
theorem wN_512 : (512 : Int32) = sN 512 := rfl
theorem wN_640 : (640 : Int32) = sN 640 := rfl
theorem wN_641 : (641 : Int32) = sN 641 := rfl
theorem wN_1000 : (1000 : Int32) = sN 1000 := rfl
theorem wN_1024 : (1024 : Int32) = sN 1024 := rfl
theorem wN_10000 : (10000 : Int32) = sN 10000 := rfl
theorem wN_100000 : (100000 : Int32) = sN 100000 := rfl
theorem upd_app (f : Nat → Int32) (k : Nat) (v : Int32) (j : Nat) : upd f k v j = if j = k then v else f j := rfl
theorem vup_app {α : Type} (f : Nat → α) (k : Nat) (v : α) (j : Nat) : va_up f k v j = if j = k then v else f j := rfl
/-- with fuel enough it ends, at something of which P holds -/
def Go {α : Type} (g : Nat → Option α) (P : α → Prop) : Prop := ∃ (N : Nat) (r : α), (∀ n, N ≤ n → g n = some r) ∧ P r
theorem Go_ret {α : Type} {P : α → Prop} {r : α} (h : P r) : Go (fun _ => some r) P := ⟨0, r, fun _ _ => rfl, h⟩
theorem Go_bind {α β : Type} {g : Nat → Option α} {f : Nat → α → Option β} {Q : α → Prop} {P : β → Prop} (h : Go g Q) (k : ∀ q, Q q → Go (fun n => f n q) P) : Go (fun n => (g n).bind (fun q => f n q)) P := by
  obtain ⟨N, q, h1, h2⟩ := h
  obtain ⟨M, r, k1, k2⟩ := k q h2
  exact ⟨max N M, r, fun n hn => by show (g n).bind (fun q => f n q) = _; rw [h1 n (by omega)]; exact k1 n (by omega), k2⟩
theorem Go_pos {α : Type} {c : Prop} {d : Decidable c} {a b : Nat → Option α} {P : α → Prop} (h : c) (k : Go a P) : Go (fun n => @ite _ c d (a n) (b n)) P := by
  have e : (fun n => @ite _ c d (a n) (b n)) = a := funext fun n => if_pos h
  rw [e]; exact k
theorem Go_neg {α : Type} {c : Prop} {d : Decidable c} {a b : Nat → Option α} {P : α → Prop} (h : ¬ c) (k : Go b P) : Go (fun n => @ite _ c d (a n) (b n)) P := by
  have e : (fun n => @ite _ c d (a n) (b n)) = b := funext fun n => if_neg h
  rw [e]; exact k
theorem Go_ite {α : Type} {c : Prop} {d : Decidable c} {a b : Nat → Option α} {P : α → Prop} (h : c → Go a P) (k : ¬ c → Go b P) : Go (fun n => @ite _ c d (a n) (b n)) P := by
  by_cases hc : c
  · exact Go_pos hc (h hc)
  · exact Go_neg hc (k hc)
theorem Go_S {α : Type} {g : Nat → Option α} {P : α → Prop} (h : Go (fun n => g (n + 1)) P) : Go g P := by
  obtain ⟨N, r, h1, h2⟩ := h
  refine ⟨N + 1, r, fun n hn => ?_, h2⟩
  have := h1 (n - 1) (by omega)
  change g (n - 1 + 1) = some r at this
  rwa [show n - 1 + 1 = n by omega] at this
theorem Go_mono {α : Type} {g : Nat → Option α} {P Q : α → Prop} (h : Go g P) (k : ∀ r, P r → Q r) : Go g Q := by
  obtain ⟨N, r, h1, h2⟩ := h
  exact ⟨N, r, h1, k r h2⟩
theorem Go_use {α : Type} {g : Nat → Option α} {P : α → Prop} (h : Go g P) : ∃ n r, g n = some r ∧ P r := by
  obtain ⟨N, r, h1, h2⟩ := h
  exact ⟨N, r, h1 N (Nat.le_refl N), h2⟩
theorem Go_congr {α : Type} {g g' : Nat → Option α} {P : α → Prop} (e : ∀ n, g n = g' n) (h : Go g' P) : Go g P := by
  rw [show g = g' from funext e]; exact h
