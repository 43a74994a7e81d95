theorem sN_and1 (a : Nat) : sN a &&& sN 1 = sN (a % 2) := by
  apply Int32.toBitVec.inj
  show BitVec.ofNat 32 a &&& BitVec.ofNat 32 1 = BitVec.ofNat 32 (a % 2)
  apply BitVec.eq_of_toNat_eq
  rw [BitVec.toNat_and, BitVec.toNat_ofNat, BitVec.toNat_ofNat, BitVec.toNat_ofNat]
  rw [show 1 % 2 ^ 32 = 1 from rfl, Nat.and_one_is_mod]
  omega
theorem and2_all : ∀ v : Fin 64, (sN v.1 &&& 2) / 2 = sN (v.1 / 2 % 2) := by decide +kernel
/-- a page is told where it lies -/
def okB (c r wy : Nat) (lf : Nat → Nat) (A : Told) (p : Nat) : Bool := decide (sN (A (pgSd lf p * (c * r) + pgPl c r wy lf p)).1 = sN p) && decide (sN (A (pgSd lf p * (c * r) + pgPl c r wy lf p)).2 = sN (pgDn wy lf p))
def fbS (ok : Nat → Bool) : Nat → Nat → Nat
  | 0, _ => 0
  | m + 1, p => if ok p = true then fbS ok m (p + 1) else p
theorem fbS_le (ok : Nat → Bool) : ∀ (m p : Nat), fbS ok m p ≤ p + m
  | 0, p => Nat.zero_le _
  | m + 1, p => by
    unfold fbS
    split
    · have := fbS_le ok m (p + 1); omega
    · omega
def brS (s : Sch) (wy : Nat) : Nat := match s.2.2.2.2 with
  | none => 0
  | some A => fbS (okB s.1 s.2.1 wy s.2.2.2.1 A) (2 * (s.1 * s.2.1)) 1
theorem brS_lt (s : Sch) (wy : Nat) (h : s.1 * s.2.1 ≤ 16) : brS s wy < 100 := by
  unfold brS
  split
  · omega
  · have := fbS_le (okB s.1 s.2.1 wy s.2.2.2.1 (by assumption)) (2 * (s.1 * s.2.1)) 1
    omega
