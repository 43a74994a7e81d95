/-! THE ABSTRACT MACHINE. A method's bytecode as a table of predicate transformers over (locals, operand stack, abstract heap); a reference is a PLACE of the abstract heap. Its soundness over the kit's W, an instruction once; a method's contract out of its table. -/
abbrev am_E : Type := (Nat × vp_A) ⊕ (Nat × List Value)
abbrev am_H : Type := List am_E
abbrev am_L : Type := List (Option Value)
abbrev am_O : Type := Nat ⊕ Option Value
abbrev am_K : Type := Nat → am_L → List Value → am_H → Prop
abbrev am_P : Type := am_O → am_H → Prop
abbrev am_A : Type := am_L → List Value → am_H → am_K → am_P → Prop
def am_v (A : Nat → Nat) (v : Value) : Value := match v with
  | .ref k => .ref (A k)
  | w => w
def am_e (dA : Nat → ClassId) (A : Nat → Nat) (x : am_E) : va_E := match x with
  | .inl a => .inl (dA a.1, a.2)
  | .inr o => .inr (o.1, o.2.map (am_v A))
def am_c (dA : Nat → ClassId) (A : Nat → Nat) : Nat → am_H → va_W
  | _, [] => []
  | k, e :: t => (A k, am_e dA A e) :: am_c dA A (k + 1) t
theorem am_c_get (dA : Nat → ClassId) (A : Nat → Nat) : ∀ (h : am_H) (k0 k : Nat), (am_c dA A k0 h)[k]? = (h[k]?).map (fun e => (A (k0 + k), am_e dA A e))
  | [], k0, k => by simp [am_c]
  | e :: t, k0, 0 => by simp [am_c]
  | e :: t, k0, k + 1 => by
    simp only [am_c, List.getElem?_cons_succ]
    rw [am_c_get dA A t (k0 + 1) k, show k0 + 1 + k = k0 + (k + 1) by omega]
theorem am_c_at {dA : Nat → ClassId} {A : Nat → Nat} {h : am_H} {k : Nat} {x : am_E} (e : h[k]? = some x) : (am_c dA A 0 h)[k]? = some (A k, am_e dA A x) := by
  rw [am_c_get, e, Nat.zero_add]; rfl
theorem am_c_set (dA : Nat → ClassId) (A : Nat → Nat) (x : am_E) : ∀ (h : am_H) (k0 k : Nat), (am_c dA A k0 h).set k (A (k0 + k), am_e dA A x) = am_c dA A k0 (h.set k x)
  | [], k0, k => by simp [am_c]
  | e :: t, k0, 0 => by simp [am_c]
  | e :: t, k0, k + 1 => by
    simp only [am_c, List.set_cons_succ]
    rw [← am_c_set dA A x t (k0 + 1) k, show k0 + 1 + k = k0 + (k + 1) by omega]
theorem am_c_put {dA : Nat → ClassId} {A : Nat → Nat} {x : am_E} {h : am_H} {k : Nat} {y : Nat × va_E} (e : y = (A k, am_e dA A x)) : (am_c dA A 0 h).set k y = am_c dA A 0 (h.set k x) := by
  have := am_c_set dA A x h 0 k
  rw [Nat.zero_add] at this
  rw [e, this]
theorem am_v_cat (A : Nat → Nat) (v : Value) : (am_v A v).category = v.category := by cases v <;> rfl
theorem am_v_int (A : Nat → Nat) (x : Int32) : am_v A (.int x) = .int x := rfl
def am_lv (A : Nat → Nat) : Nat → am_L → List (Nat × Value)
  | _, [] => []
  | i, none :: t => am_lv A (i + 1) t
  | i, some v :: t => (i, am_v A v) :: am_lv A (i + 1) t
theorem am_lv_mem (A : Nat → Nat) (q : Nat × Value) : ∀ (l : am_L) (i : Nat), q ∈ am_lv A i l ↔ ∃ (j : Nat) (v : Value), l[j]? = some (some v) ∧ q = (i + j, am_v A v)
  | [], i => by simp [am_lv]
  | none :: t, i => by
    simp only [am_lv]
    rw [am_lv_mem A q t (i + 1)]
    constructor
    · rintro ⟨j, v, h, e⟩
      exact ⟨j + 1, v, by simpa using h, by rw [e, show i + 1 + j = i + (j + 1) by omega]⟩
    · rintro ⟨j, v, h, e⟩
      cases j with
      | zero => simp at h
      | succ j => exact ⟨j, v, by simpa using h, by rw [e, show i + 1 + j = i + (j + 1) by omega]⟩
  | some w :: t, i => by
    simp only [am_lv, List.mem_cons]
    rw [am_lv_mem A q t (i + 1)]
    constructor
    · rintro (e | ⟨j, v, h, e⟩)
      · exact ⟨0, w, rfl, e⟩
      · exact ⟨j + 1, v, by simpa using h, by rw [e, show i + 1 + j = i + (j + 1) by omega]⟩
    · rintro ⟨j, v, h, e⟩
      cases j with
      | zero => left; simp at h; rw [e, h]; rfl
      | succ j => right; exact ⟨j, v, by simpa using h, by rw [e, show i + 1 + j = i + (j + 1) by omega]⟩
theorem am_lv_at {A : Nat → Nat} {ls : Array Slot} {nL : Nat} {l : am_L} (h : lv_has ls nL (am_lv A 0 l)) {i : Nat} {v : Value} (e : l[i]? = some (some v)) : ls[i]? = some (.val (am_v A v)) := by
  have := h.2.2 (i, am_v A v) ((am_lv_mem A _ l 0).mpr ⟨i, v, e, by rw [Nat.zero_add]⟩)
  exact this
theorem am_lv_more {ls : Array Slot} {nL : Nat} {l l' : List (Nat × Value)} (h : lv_has ls nL l) (hs : ∀ q ∈ l', q ∈ l) : lv_has ls nL l' := ⟨h.1, h.2.1, fun q hq => h.2.2 q (hs q hq)⟩
/-- the place ahead of i holds no value of two words -/
def am_g2 (l : am_L) (i : Nat) : Bool := (i == 0) || (match l[i - 1]? with
  | some (some v) => v.category == 1
  | _ => true)
theorem am_lv_set {A : Nat → Nat} {l : am_L} {i : Nat} {v : Value} (hg : am_g2 l i = true) : ∀ q ∈ am_lv A 0 (l.set i (some v)), q ∈ (i, am_v A v) :: (am_lv A 0 l).filter (fun q => !(q.1 == i) && !(q.1 + 1 == i && q.2.category == 2)) := by
  intro q hq
  obtain ⟨j, w, h, e⟩ := (am_lv_mem A q _ 0).mp hq
  rw [Nat.zero_add] at e
  by_cases hj : i = j
  · subst hj
    rw [List.getElem?_set] at h
    split at h
    · split at h
      · cases h; rw [e]; exact List.mem_cons_self
      · cases h
    · rename_i hne; exact absurd rfl hne
  · rw [List.getElem?_set_ne hj] at h
    refine List.mem_cons_of_mem _ (List.mem_filter.mpr ⟨(am_lv_mem A q l 0).mpr ⟨j, w, h, by rw [Nat.zero_add]; exact e⟩, ?_⟩)
    rw [e]
    have h1 : (j == i) = false := by simpa using fun z => hj z.symm
    simp only [h1, Bool.not_false, Bool.true_and, am_v_cat]
    cases hc : (j + 1 == i) with
    | false => rfl
    | true =>
      have hi : i = j + 1 := by simp at hc; omega
      subst hi
      have hg2 : (match l[j]? with
        | some (some v) => v.category == 1
        | _ => true) = true := by simpa [am_g2] using hg
      rw [h] at hg2
      have h3 : w.category = 1 := by simpa using hg2
      simp [h3]
def am_le : am_L → am_L → Prop
  | [], [] => True
  | none :: t', _ :: t => am_le t' t
  | some v :: t', w :: t => w = some v ∧ am_le t' t
  | _, _ => False
theorem am_le_at : ∀ (l' l : am_L), am_le l' l → ∀ (j : Nat) (v : Value), l'[j]? = some (some v) → l[j]? = some (some v)
  | [], [], _, j, v, h => by simp at h
  | none :: t', _ :: t, hl, 0, v, h => by simp at h
  | none :: t', _ :: t, hl, j + 1, v, h => by
    have := am_le_at t' t hl j v (by simpa using h)
    simpa using this
  | some w :: t', x :: t, hl, 0, v, h => by
    have e : w = v := by simpa using h
    rw [hl.1, e]; rfl
  | some w :: t', x :: t, hl, j + 1, v, h => by
    have := am_le_at t' t hl.2 j v (by simpa using h)
    simpa using this
theorem am_le_lv {A : Nat → Nat} {l' l : am_L} (hl : am_le l' l) : ∀ q ∈ am_lv A 0 l', q ∈ am_lv A 0 l := by
  intro q hq
  obtain ⟨j, v, h, e⟩ := (am_lv_mem A q _ 0).mp hq
  exact (am_lv_mem A q _ 0).mpr ⟨j, v, am_le_at l' l hl j v h, e⟩
def am_l0 : List Value → Nat → am_L
  | [], n => List.replicate n none
  | v :: vs, n => if v.category = 2 then some v :: none :: am_l0 vs (n - 2) else some v :: am_l0 vs (n - 1)
/-! ## the logic: the least predicate that is closed under going back over a step, and under forgetting of locals -/
def am_Wp (acts : Nat → am_A) (R : am_P) (pc : Nat) (lo : am_L) (st : List Value) (h : am_H) : Prop :=
  ∀ P : am_K, (∀ pc lo st h K, acts pc lo st h K R → (∀ pc' lo' st' h', K pc' lo' st' h' → P pc' lo' st' h') → P pc lo st h) → (∀ pc lo lo' st h, am_le lo' lo → P pc lo' st h → P pc lo st h) → P pc lo st h
theorem am_step {acts : Nat → am_A} {R : am_P} {pc : Nat} {lo : am_L} {st : List Value} {h : am_H} (k : acts pc lo st h (am_Wp acts R) R) : am_Wp acts R pc lo st h :=
  fun P hc hf => hc _ _ _ _ _ k (fun _ _ _ _ k' => k' P hc hf)
theorem am_forget {acts : Nat → am_A} {R : am_P} {pc : Nat} {lo lo' : am_L} {st : List Value} {h : am_H} (hl : am_le lo' lo) (k : am_Wp acts R pc lo' st h) : am_Wp acts R pc lo st h :=
  fun P hc hf => hf _ _ _ _ _ hl (k P hc hf)
/-- n steps at once -/
def am_pre (acts : Nat → am_A) (R : am_P) : Nat → am_K
  | 0 => am_Wp acts R
  | n + 1 => fun pc lo st h => acts pc lo st h (am_pre acts R n) R
theorem am_pres {acts : Nat → am_A} {R : am_P} : ∀ (n : Nat) {pc : Nat} {lo : am_L} {st : List Value} {h : am_H}, am_pre acts R n pc lo st h → am_Wp acts R pc lo st h
  | 0, _, _, _, _, k => k
  | n + 1, _, _, _, _, k => fun P hc hf => hc _ _ _ _ _ k (fun _ _ _ _ k' => am_pres n k' P hc hf)
/-- up to n steps at once, up to the places 'stop' (loops' heads) -/
def am_run (acts : Nat → am_A) (R : am_P) (stop : Nat → Bool) : Nat → am_K
  | 0 => am_Wp acts R
  | n + 1 => fun pc lo st h => match stop pc with
    | true => am_Wp acts R pc lo st h
    | false => acts pc lo st h (am_run acts R stop n) R
theorem am_runs {acts : Nat → am_A} {R : am_P} {stop : Nat → Bool} : ∀ (n : Nat) {pc : Nat} {lo : am_L} {st : List Value} {h : am_H}, am_run acts R stop n pc lo st h → am_Wp acts R pc lo st h
  | 0, _, _, _, _, k => k
  | n + 1, pc, lo, st, h, k => by
    unfold am_run at k
    split at k
    · exact k
    · exact fun P hc hf => hc _ _ _ _ _ k (fun _ _ _ _ k' => am_runs n k' P hc hf)
/-- the first step is taken also at a place of 'stop' -/
theorem am_go {acts : Nat → am_A} {R : am_P} (stop : Nat → Bool) (n : Nat) {pc : Nat} {lo : am_L} {st : List Value} {h : am_H} (k : acts pc lo st h (am_run acts R stop n) R) : am_Wp acts R pc lo st h :=
  fun P hc hf => hc _ _ _ _ _ k (fun _ _ _ _ k' => am_runs n k' P hc hf)
/-! ## the instructions -/
def am_stuck : am_A := fun _ _ _ _ _ => False
def am_push (v : Value) (n : Nat) : am_A := fun lo st h K _ => K n lo (v :: st) h
def am_iload (i n : Nat) : am_A := fun lo st h K _ => match lo[i]? with
  | some (some (.int x)) => K n lo (.int x :: st) h
  | _ => False
def am_lload (i n : Nat) : am_A := fun lo st h K _ => match lo[i]? with
  | some (some (.long x)) => K n lo (.long x :: st) h
  | _ => False
def am_aload (i n : Nat) : am_A := fun lo st h K _ => match lo[i]? with
  | some (some (.ref x)) => K n lo (.ref x :: st) h
  | _ => False
def am_istore (i n : Nat) : am_A := fun lo st h K _ => match st with
  | .int x :: r => (am_g2 lo i = true ∧ i < lo.length) ∧ K n (lo.set i (some (.int x))) r h
  | _ => False
def am_astore (i n : Nat) : am_A := fun lo st h K _ => match st with
  | .ref x :: r => (am_g2 lo i = true ∧ i < lo.length) ∧ K n (lo.set i (some (.ref x))) r h
  | _ => False
def am_iinc (i : Nat) (d : Int) (n : Nat) : am_A := fun lo st h K _ => match lo[i]? with
  | some (some (.int x)) => (am_g2 lo i = true ∧ i < lo.length) ∧ K n (lo.set i (some (.int (x + Int32.ofInt d)))) st h
  | _ => False
def am_i1 (f : Int32 → Int32) (n : Nat) : am_A := fun lo st h K _ => match st with
  | .int x :: r => K n lo (.int (f x) :: r) h
  | _ => False
def am_i2 (f : Int32 → Int32 → Int32) (n : Nat) : am_A := fun lo st h K _ => match st with
  | .int y :: .int x :: r => K n lo (.int (f x y) :: r) h
  | _ => False
def am_idiv (f : Int32 → Int32 → Int32) (n : Nat) : am_A := fun lo st h K _ => match st with
  | .int y :: .int x :: r => ¬ y = 0 ∧ K n lo (.int (f x y) :: r) h
  | _ => False
def am_ldiv (n : Nat) : am_A := fun lo st h K _ => match st with
  | .long y :: .long x :: r => ¬ y = 0 ∧ K n lo (.long (x / y) :: r) h
  | _ => False
def am_lstore (i n : Nat) : am_A := fun lo st h K _ => match st with
  | .long x :: r => (am_g2 lo i = true ∧ i + 1 < lo.length) ∧ K n ((lo.set i (some (.long x))).set (i + 1) none) r h
  | _ => False
def am_l2 (f : Int64 → Int64 → Int64) (n : Nat) : am_A := fun lo st h K _ => match st with
  | .long y :: .long x :: r => K n lo (.long (f x y) :: r) h
  | _ => False
def am_lsh (f : Int64 → Int32 → Int64) (n : Nat) : am_A := fun lo st h K _ => match st with
  | .int y :: .long x :: r => K n lo (.long (f x y) :: r) h
  | _ => False
def am_lcmp (n : Nat) : am_A := fun lo st h K _ => match st with
  | .long y :: .long x :: r => K n lo (.int (lg_cmp x y) :: r) h
  | _ => False
def am_i2l (n : Nat) : am_A := fun lo st h K _ => match st with
  | .int x :: r => K n lo (.long x.toInt64 :: r) h
  | _ => False
def am_l2i (n : Nat) : am_A := fun lo st h K _ => match st with
  | .long x :: r => K n lo (.int x.toInt32 :: r) h
  | _ => False
def am_dup (n : Nat) : am_A := fun lo st h K _ => match st with
  | v :: r => v.category = 1 ∧ K n lo (v :: v :: r) h
  | _ => False
def am_pop (n : Nat) : am_A := fun lo st h K _ => match st with
  | v :: r => v.category = 1 ∧ K n lo r h
  | _ => False
def am_dup_x1 (n : Nat) : am_A := fun lo st h K _ => match st with
  | v :: w :: r => (v.category = 1 ∧ w.category = 1) ∧ K n lo (v :: w :: v :: r) h
  | _ => False
def am_dup_x2 (n : Nat) : am_A := fun lo st h K _ => match st with
  | v :: w :: u :: r => (v.category = 1 ∧ w.category = 1 ∧ u.category = 1) ∧ K n lo (v :: w :: u :: v :: r) h
  | _ => False
def am_dup2 (n : Nat) : am_A := fun lo st h K _ => match st with
  | v :: w :: r => (v.category = 1 ∧ w.category = 1) ∧ K n lo (v :: w :: v :: w :: r) h
  | _ => False
def am_if (q : Int32 → Prop) (t n : Nat) : am_A := fun lo st h K _ => match st with
  | .int x :: r => (q x → K t lo r h) ∧ (¬ q x → K n lo r h)
  | _ => False
def am_if2 (q : Int32 → Int32 → Prop) (t n : Nat) : am_A := fun lo st h K _ => match st with
  | .int y :: .int x :: r => (q x y → K t lo r h) ∧ (¬ q x y → K n lo r h)
  | _ => False
def am_goto (t : Nat) : am_A := fun lo st h K _ => K t lo st h
/-- a switch: the list has the numbers and where they go -/
def am_sw (ps : List (Int32 × Nat)) (t : Nat) : am_A := fun lo st h K _ => match st with
  | .int x :: r => (∀ q ∈ ps, x = q.1 → K q.2 lo r h) ∧ ((∀ q ∈ ps, ¬ x = q.1) → K t lo r h)
  | _ => False
def am_get (ci k n : Nat) : am_A := fun lo st h K _ => match st with
  | .ref a :: r => (match h[a]? with
    | some (.inr (cj, fs)) => cj = ci ∧ (match fs[k]? with
      | some v => K n lo (v :: r) h
      | _ => False)
    | _ => False)
  | _ => False
def am_putI (ci k : Nat) (ty : FieldType) (n : Nat) : am_A := fun lo st h K _ => match st with
  | .int x :: .ref a :: r => (match h[a]? with
    | some (.inr (cj, fs)) => (cj = ci ∧ k < fs.length ∧ narrow ty (.int x) = .int x ∧ fits ty (.int x) = true) ∧ K n lo r (h.set a (.inr (cj, fs.set k (.int x))))
    | _ => False)
  | _ => False
def am_putR (ci k n : Nat) : am_A := fun lo st h K _ => match st with
  | .ref x :: .ref a :: r => (match h[a]? with
    | some (.inr (cj, fs)) => (cj = ci ∧ k < fs.length) ∧ K n lo r (h.set a (.inr (cj, fs.set k (.ref x))))
    | _ => False)
  | _ => False
def am_iald (n : Nat) : am_A := fun lo st h K _ => match st with
  | .int i :: .ref a :: r => (match h[a]? with
    | some (.inl (0, N, .inl f)) => vp_in i N ∧ K n lo (.int (f i.toNatClampNeg) :: r) h
    | _ => False)
  | _ => False
def am_iast (n : Nat) : am_A := fun lo st h K _ => match st with
  | .int x :: .int i :: .ref a :: r => (match h[a]? with
    | some (.inl (0, N, .inl f)) => vp_in i N ∧ K n lo r (h.set a (.inl (0, N, .inl (upd f i.toNatClampNeg x))))
    | _ => False)
  | _ => False
def am_zald (n : Nat) : am_A := fun lo st h K _ => match st with
  | .int i :: .ref a :: r => (match h[a]? with
    | some (.inl (2, N, .inl f)) => vp_in i N ∧ K n lo (.int (f i.toNatClampNeg) :: r) h
    | _ => False)
  | _ => False
def am_zast (n : Nat) : am_A := fun lo st h K _ => match st with
  | .int x :: .int i :: .ref a :: r => (match h[a]? with
    | some (.inl (2, N, .inl f)) => vp_in i N ∧ K n lo r (h.set a (.inl (2, N, .inl (upd f i.toNatClampNeg (vp_nar .boolean x)))))
    | _ => False)
  | _ => False
def am_lald (n : Nat) : am_A := fun lo st h K _ => match st with
  | .int i :: .ref a :: r => (match h[a]? with
    | some (.inl (1, N, .inr (.inl f))) => vp_in i N ∧ K n lo (.long (f i.toNatClampNeg) :: r) h
    | _ => False)
  | _ => False
def am_last (n : Nat) : am_A := fun lo st h K _ => match st with
  | .long x :: .int i :: .ref a :: r => (match h[a]? with
    | some (.inl (1, N, .inr (.inl f))) => vp_in i N ∧ K n lo r (h.set a (.inl (1, N, .inr (.inl (vp_updL f i.toNatClampNeg x)))))
    | _ => False)
  | _ => False
def am_alen (n : Nat) : am_A := fun lo st h K _ => match st with
  | .ref a :: r => (match h[a]? with
    | some (.inl (t, N, _)) => t < 3 ∧ K n lo (.int (Int32.ofNat N) :: r) h
    | _ => False)
  | _ => False
/-- an array that is read alone, at the pretended place t: of length N, holding f -/
def am_sld (t N : Nat) (f : Nat → Int32) (n : Nat) : am_A := fun lo st h K _ => match st with
  | .int i :: .ref a :: r => (a = t ∧ vp_in i N) ∧ K n lo (.int (f i.toNatClampNeg) :: r) h
  | _ => False
def am_slen (t N n : Nat) : am_A := fun lo st h K _ => match st with
  | .ref a :: r => a = t ∧ K n lo (.int (Int32.ofNat N) :: r) h
  | _ => False
def am_iret : am_A := fun _ st h _ R => match st with
  | [.int x] => R (.inr (some (.int x))) h
  | _ => False
def am_lret : am_A := fun _ st h _ R => match st with
  | [.long x] => R (.inr (some (.long x))) h
  | _ => False
def am_vret : am_A := fun _ st h _ R => match st with
  | [] => R (.inr none) h
  | _ => False
/-- 'throw new E("..")', an exception of kind k: the five instructions at once -/
def am_throw (k : Nat) : am_A := fun _ st h _ R => match st with
  | [] => R (.inl k) h
  | _ => False
/-- a callee's meaning: from arguments and heap, what must hold behind it -/
abbrev am_M : Type := List Value → am_H → am_P → Prop
def am_cut : Nat → List Value → List Value → Option (List Value × List Value)
  | 0, acc, st => some (acc, st)
  | _ + 1, _, [] => none
  | n + 1, acc, v :: st => am_cut n (v :: acc) st
def am_on (n : Nat) (lo : am_L) (r : List Value) (K : am_K) : am_P := fun o h => match o with
  | .inr v => K n lo (v.toList ++ r) h
  | .inl _ => False
/-- a call of a method with np words of arguments besides none: static -/
def am_callS (M : am_M) (np n : Nat) : am_A := fun lo st h K _ => match am_cut np [] st with
  | some (as, r) => (r.map fun v => v.category).sum ≤ 8 ∧ M as h (am_on n lo r K)
  | none => False
/-- a call upon an object of class ci: the receiver is the first of np + 1 arguments -/
def am_callV (M : am_M) (ci np n : Nat) : am_A := fun lo st h K _ => match am_cut (np + 1) [] st with
  | some (.ref a :: as, r) => ((r.map fun v => v.category).sum ≤ 8 ∧ (match h[a]? with
    | some (.inr (cj, _)) => cj = ci
    | _ => False)) ∧ M (.ref a :: as) h (am_on n lo r K)
  | _ => False
/-! ## soundness -/
def am_tys (dA : Nat → ClassId) : List (ClassId × FieldType) := [(dA 0, .int), (dA 1, .long), (dA 2, .boolean)]
/-- what an abstract state says of the machine -/
def am_W (p : Program) (l : Launch) (e : Env) (R : Room) (s : State) (m : MethodId) (args : Array Value) (below : List Frame) (meth : Method) (c : Code) (Q : State → Prop) (nL : Nat) (dC : Nat → ClassId) (dI : Nat → Nat → Nat) (dA : Nat → ClassId) (A : Nat → Nat) (A0 : Nat → Prop) (cells slots : Nat) : am_K := fun pc lo st h =>
  ∀ (H : Heap) (ls : Array Slot) (locs : List Loc), lv_has ls nL (am_lv A 0 lo) → va_P (dC, dI) vwCl (am_c dA A 0 h) H → va_D A0 (am_c dA A 0 h) → va_S A0 s.heap H locs → W p l e R s m args below meth c H locs cells slots Q (F0 m pc ls (st.map (am_v A)))
/-- what stands throughout a method's walk -/
def am_C (En : (Nat → Nat) → (Nat → Prop) → State → Prop) (cc : ByteArray) (nL : Nat) (own : String) (d w : Nat) (p : Program) (R : Room) (s : State) (m : MethodId) (args : Array Value) (c : Code) (dC : Nat → ClassId) (dI : Nat → Nat → Nat) (dA : Nat → ClassId) (A : Nat → Nat) (A0 : Nat → Prop) (cells slots : Nat) : Prop :=
  p.tables.exec = Jvm.exec ∧ c.code = cc ∧ c.maxLocals = nL ∧ s.vm.findClass own = some m.cls ∧ (∀ w ∈ lw_good, w.before args s = true) ∧ va_K (dC, dI) vwCl (am_tys dA) s ∧ (∀ q, s.heap.size ≤ q → A0 q) ∧ En A A0 s ∧ (d ≤ R.frames ∧ w ≤ R.locals ∧ cells ≤ R.cells ∧ slots ≤ R.slots)
/-- 'throw new E("..")' stands at pc: new, dup, ldc, invokespecial, athrow; what the tables say of it -/
def am_kind (k : Nat) : String := match k with
  | 0 => "java/lang/IndexOutOfBoundsException"
  | 1 => "java/lang/IllegalArgumentException"
  | 2 => "java/lang/IllegalStateException"
  | _ => "java/lang/UnsupportedOperationException"
def am_up : List String := ["java/lang/RuntimeException", "java/lang/Exception"]
def am_isTh (w : Cond) : Bool := decide (w = .isRef (.static am_thN am_thU.1 am_thU.2)) || decide (w = .isRef (.static am_thN am_thS.1 am_thS.2)) || decide (w = .laysStatic am_thN am_thU.1 am_thU.2) || decide (w = .laysStatic am_thN am_thS.1 am_thS.2)
def am_thr (cc : ByteArray) (own : String) (k pc : Nat) : Prop :=
  ∃ (i1 i2 i3 : Nat) (tx : String), decode cc pc = .ok (.new i1, 3) ∧ decode cc (pc + 3) = .ok (.dup, 1) ∧ decode cc (pc + 4) = .ok (.ldc i2, 2) ∧ decode cc (pc + 6) = .ok (.invokespecial i3, 3) ∧ decode cc (pc + 9) = .ok (.athrow, 1) ∧
    Cond.classLink own i1 (am_kind k) ∈ lw_good ∧ Cond.instantiable (am_kind k) 6 ∈ lw_good ∧ Cond.initialized (am_kind k) ∈ lw_good ∧ (own, i2, tx) ∈ lw_strs ∧ ∀ w ∈ Bundle.ownAtoms own i3 (am_kind k) am_up, w ∈ lw_good ∨ w ∈ lw_nest ∨ am_isTh w = true
/-- how the method's own ends are met -/
def am_End (own : String) (cc : ByteArray) (p : Program) (l : Launch) (e : Env) (R : Room) (s : State) (m : MethodId) (args : Array Value) (below : List Frame) (meth : Method) (c : Code) (Q : State → Prop) (nL : Nat) (dC : Nat → ClassId) (dI : Nat → Nat → Nat) (dA : Nat → ClassId) (A : Nat → Nat) (A0 : Nat → Prop) (cells slots : Nat) (Rp : am_P) : Prop :=
  (∀ (x : Int32) (h : am_H) (H : Heap) (locs : List Loc) (ls : Array Slot) (pc : Nat), Rp (.inr (some (.int x))) h → va_P (dC, dI) vwCl (am_c dA A 0 h) H → va_D A0 (am_c dA A 0 h) → va_S A0 s.heap H locs → decode cc pc = .ok (.ireturn, 1) → W p l e R s m args below meth c H locs cells slots Q (F0 m pc ls [.int x])) ∧
  (∀ (x : Int64) (h : am_H) (H : Heap) (locs : List Loc) (ls : Array Slot) (pc : Nat), Rp (.inr (some (.long x))) h → va_P (dC, dI) vwCl (am_c dA A 0 h) H → va_D A0 (am_c dA A 0 h) → va_S A0 s.heap H locs → decode cc pc = .ok (.lreturn, 1) → W p l e R s m args below meth c H locs cells slots Q (F0 m pc ls [.long x])) ∧
  (∀ (h : am_H) (H : Heap) (locs : List Loc) (ls : Array Slot) (pc : Nat), Rp (.inr none) h → va_P (dC, dI) vwCl (am_c dA A 0 h) H → va_D A0 (am_c dA A 0 h) → va_S A0 s.heap H locs → decode cc pc = .ok (.return_, 1) → W p l e R s m args below meth c H locs cells slots Q (F0 m pc ls [])) ∧
  (∀ (k : Nat) (h : am_H) (H : Heap) (locs : List Loc) (ls : Array Slot) (pc : Nat), Rp (.inl k) h → ls.size = nL → va_P (dC, dI) vwCl (am_c dA A 0 h) H → va_D A0 (am_c dA A 0 h) → va_S A0 s.heap H locs → am_thr cc own k pc → W p l e R s m args below meth c H locs cells slots Q (F0 m pc ls []))
def am_Snd (En : (Nat → Nat) → (Nat → Prop) → State → Prop) (cc : ByteArray) (nL : Nat) (own : String) (d w pc : Nat) (a : am_A) : Prop :=
  ∀ (p : Program) (l : Launch) (e : Env) (R : Room) (s : State) (m : MethodId) (args : Array Value) (below : List Frame) (meth : Method) (c : Code) (Q : State → Prop) (dC : Nat → ClassId) (dI : Nat → Nat → Nat) (dA : Nat → ClassId) (A : Nat → Nat) (A0 : Nat → Prop) (cells slots : Nat) (Rp : am_P),
    am_C En cc nL own d w p R s m args c dC dI dA A A0 cells slots → am_End own cc p l e R s m args below meth c Q nL dC dI dA A A0 cells slots Rp → ∀ (lo : am_L) (st : List Value) (h : am_H) (K : am_K), a lo st h K Rp → (∀ pc' lo' st' h', K pc' lo' st' h' → am_W p l e R s m args below meth c Q nL dC dI dA A A0 cells slots pc' lo' st' h') → am_W p l e R s m args below meth c Q nL dC dI dA A A0 cells slots pc lo st h
section SND
variable {En : (Nat → Nat) → (Nat → Prop) → State → Prop} {cc : ByteArray} {nL d w pc : Nat} {own : String}
theorem am_s_stuck  : am_Snd En cc nL own d w pc (am_stuck) := by
  intro p l e R s m args below meth c Q dC dI dA A A0 cells slots Rp hC hE lo st h K ha hk H ls locs hl hP hD hS
  exact ha.elim
theorem am_s_iconst {n : Int} {v : Int32} (hd : decode cc pc = .ok (.iconst n, 1)) (hv : Int32.ofInt n = v) : am_Snd En cc nL own d w pc (am_push (.int v) (pc + 1)) := by
  intro p l e R s m args below meth c Q dC dI dA A A0 cells slots Rp hC hE lo st h K ha hk H ls locs hl hP hD hS
  exact lv_iconst hC.1 hC.2.1 hd hv (hk _ _ _ _ ha H ls locs hl hP hD hS)
theorem am_s_bipush {n : Int} {v : Int32} (hd : decode cc pc = .ok (.bipush n, 2)) (hv : (Int8.ofInt n).toInt32 = v) : am_Snd En cc nL own d w pc (am_push (.int v) (pc + 2)) := by
  intro p l e R s m args below meth c Q dC dI dA A A0 cells slots Rp hC hE lo st h K ha hk H ls locs hl hP hD hS
  exact lv_bipush hC.1 hC.2.1 hd hv (hk _ _ _ _ ha H ls locs hl hP hD hS)
theorem am_s_sipush {n : Int} {v : Int32} (hd : decode cc pc = .ok (.sipush n, 3)) (hv : (Int16.ofInt n).toInt32 = v) : am_Snd En cc nL own d w pc (am_push (.int v) (pc + 3)) := by
  intro p l e R s m args below meth c Q dC dI dA A A0 cells slots Rp hC hE lo st h K ha hk H ls locs hl hP hD hS
  exact lv_sipush hC.1 hC.2.1 hd hv (hk _ _ _ _ ha H ls locs hl hP hD hS)
theorem am_s_ldc {i : Nat} {v : Int32} (hw : Cond.constant own i v ∈ lw_good) (hd : decode cc pc = .ok (.ldc i, 2)) : am_Snd En cc nL own d w pc (am_push (.int v) (pc + 2)) := by
  intro p l e R s m args below meth c Q dC dI dA A A0 cells slots Rp hC hE lo st h K ha hk H ls locs hl hP hD hS
  exact lv_ldc hC.1 hC.2.1 hC.2.2.2.1 (hC.2.2.2.2.1 _ hw) hd (hk _ _ _ _ ha H ls locs hl hP hD hS)
theorem am_s_ldc2 {i : Nat} {v : Int64} (hw : Cond.constantLong own i v ∈ lw_good) (hd : decode cc pc = .ok (.ldc2_w i, 3)) : am_Snd En cc nL own d w pc (am_push (.long v) (pc + 3)) := by
  intro p l e R s m args below meth c Q dC dI dA A A0 cells slots Rp hC hE lo st h K ha hk H ls locs hl hP hD hS
  exact lv_ldc2 hC.1 hC.2.1 hC.2.2.2.1 (hC.2.2.2.2.1 _ hw) hd (hk _ _ _ _ ha H ls locs hl hP hD hS)
theorem am_s_iload_n {k : Fin 4} (i : Nat) (hd : decode cc pc = .ok (.iload_n k, 1)) (hi : (k : Nat) = i) : am_Snd En cc nL own d w pc (am_iload i (pc + 1)) := by
  intro p l e R s m args below meth c Q dC dI dA A A0 cells slots Rp hC hE lo st h K ha hk H ls locs hl hP hD hS
  unfold am_iload at ha
  split at ha
  · rename_i x hx
    exact lv_iload_n hC.1 hC.2.1 hd hi (am_lv_at hl hx) (hk _ _ _ _ ha H ls locs hl hP hD hS)
  · exact ha.elim
theorem am_s_iload {i : Nat} (hd : decode cc pc = .ok (.iload i, 2)) : am_Snd En cc nL own d w pc (am_iload i (pc + 2)) := by
  intro p l e R s m args below meth c Q dC dI dA A A0 cells slots Rp hC hE lo st h K ha hk H ls locs hl hP hD hS
  unfold am_iload at ha
  split at ha
  · rename_i x hx
    exact lv_iload hC.1 hC.2.1 hd (am_lv_at hl hx) (hk _ _ _ _ ha H ls locs hl hP hD hS)
  · exact ha.elim
theorem am_s_lload_n {k : Fin 4} (i : Nat) (hd : decode cc pc = .ok (.lload_n k, 1)) (hi : (k : Nat) = i) : am_Snd En cc nL own d w pc (am_lload i (pc + 1)) := by
  intro p l e R s m args below meth c Q dC dI dA A A0 cells slots Rp hC hE lo st h K ha hk H ls locs hl hP hD hS
  unfold am_lload at ha
  split at ha
  · rename_i x hx
    exact lv_lload_n hC.1 hC.2.1 hd hi (am_lv_at hl hx) (hk _ _ _ _ ha H ls locs hl hP hD hS)
  · exact ha.elim
theorem am_s_lload {i : Nat} (hd : decode cc pc = .ok (.lload i, 2)) : am_Snd En cc nL own d w pc (am_lload i (pc + 2)) := by
  intro p l e R s m args below meth c Q dC dI dA A A0 cells slots Rp hC hE lo st h K ha hk H ls locs hl hP hD hS
  unfold am_lload at ha
  split at ha
  · rename_i x hx
    exact lv_lload hC.1 hC.2.1 hd (am_lv_at hl hx) (hk _ _ _ _ ha H ls locs hl hP hD hS)
  · exact ha.elim
theorem am_s_aload_n {k : Fin 4} (i : Nat) (hd : decode cc pc = .ok (.aload_n k, 1)) (hi : (k : Nat) = i) : am_Snd En cc nL own d w pc (am_aload i (pc + 1)) := by
  intro p l e R s m args below meth c Q dC dI dA A A0 cells slots Rp hC hE lo st h K ha hk H ls locs hl hP hD hS
  unfold am_aload at ha
  split at ha
  · rename_i x hx
    exact lv_aload_n hC.1 hC.2.1 hd hi (am_lv_at hl hx) (hk _ _ _ _ ha H ls locs hl hP hD hS)
  · exact ha.elim
theorem am_s_aload {i : Nat} (hd : decode cc pc = .ok (.aload i, 2)) : am_Snd En cc nL own d w pc (am_aload i (pc + 2)) := by
  intro p l e R s m args below meth c Q dC dI dA A A0 cells slots Rp hC hE lo st h K ha hk H ls locs hl hP hD hS
  unfold am_aload at ha
  split at ha
  · rename_i x hx
    exact lv_aload hC.1 hC.2.1 hd (am_lv_at hl hx) (hk _ _ _ _ ha H ls locs hl hP hD hS)
  · exact ha.elim
theorem am_s_istore_n {k : Fin 4} (i : Nat) (hd : decode cc pc = .ok (.istore_n k, 1)) (hi : (k : Nat) = i) (hn : i < nL) : am_Snd En cc nL own d w pc (am_istore i (pc + 1)) := by
  intro p l e R s m args below meth c Q dC dI dA A A0 cells slots Rp hC hE lo st h K ha hk H ls locs hl hP hD hS
  unfold am_istore at ha
  split at ha
  · exact lv_istore_n hC.1 hC.2.1 hd hi hl hn rfl (fun ls' hl' => hk _ _ _ _ ha.2 H ls' locs (am_lv_more hl' (am_lv_set ha.1.1)) hP hD hS)
  · exact ha.elim
theorem am_s_istore {i : Nat} (hd : decode cc pc = .ok (.istore i, 2)) (hn : i < nL) : am_Snd En cc nL own d w pc (am_istore i (pc + 2)) := by
  intro p l e R s m args below meth c Q dC dI dA A A0 cells slots Rp hC hE lo st h K ha hk H ls locs hl hP hD hS
  unfold am_istore at ha
  split at ha
  · exact lv_istore hC.1 hC.2.1 hd hl hn rfl (fun ls' hl' => hk _ _ _ _ ha.2 H ls' locs (am_lv_more hl' (am_lv_set ha.1.1)) hP hD hS)
  · exact ha.elim
theorem am_s_astore_n {k : Fin 4} (i : Nat) (hd : decode cc pc = .ok (.astore_n k, 1)) (hi : (k : Nat) = i) (hn : i < nL) : am_Snd En cc nL own d w pc (am_astore i (pc + 1)) := by
  intro p l e R s m args below meth c Q dC dI dA A A0 cells slots Rp hC hE lo st h K ha hk H ls locs hl hP hD hS
  unfold am_astore at ha
  split at ha
  · exact lv_astore_n hC.1 hC.2.1 hd hi hl hn rfl (fun ls' hl' => hk _ _ _ _ ha.2 H ls' locs (am_lv_more hl' (am_lv_set ha.1.1)) hP hD hS)
  · exact ha.elim
theorem am_s_astore {i : Nat} (hd : decode cc pc = .ok (.astore i, 2)) (hn : i < nL) : am_Snd En cc nL own d w pc (am_astore i (pc + 2)) := by
  intro p l e R s m args below meth c Q dC dI dA A A0 cells slots Rp hC hE lo st h K ha hk H ls locs hl hP hD hS
  unfold am_astore at ha
  split at ha
  · exact lv_astore hC.1 hC.2.1 hd hl hn rfl (fun ls' hl' => hk _ _ _ _ ha.2 H ls' locs (am_lv_more hl' (am_lv_set ha.1.1)) hP hD hS)
  · exact ha.elim
theorem am_lv_find {A : Nat → Nat} : ∀ (l : am_L) (i0 i : Nat) (v : Value), l[i]? = some (some v) → ∃ k : Nat, (am_lv A i0 l)[k]? = some (i0 + i, am_v A v)
  | [], i0, i, v, h => by simp at h
  | none :: t, i0, 0, v, h => by simp at h
  | none :: t, i0, i + 1, v, h => by
    obtain ⟨k, e⟩ := am_lv_find t (i0 + 1) i v (by simpa using h)
    exact ⟨k, by simp only [am_lv]; rw [e, show i0 + 1 + i = i0 + (i + 1) by omega]⟩
  | some w :: t, i0, 0, v, h => ⟨0, by have e : w = v := by simpa using h
                                       rw [e]; rfl⟩
  | some w :: t, i0, i + 1, v, h => by
    obtain ⟨k, e⟩ := am_lv_find t (i0 + 1) i v (by simpa using h)
    exact ⟨k + 1, by simp only [am_lv, List.getElem?_cons_succ]; rw [e, show i0 + 1 + i = i0 + (i + 1) by omega]⟩
theorem am_s_iinc {i : Nat} {n : Int} (hd : decode cc pc = .ok (.iinc i n, 3)) (hn : i < nL) : am_Snd En cc nL own d w pc (am_iinc i n (pc + 3)) := by
  intro p l e R s m args below meth c Q dC dI dA A A0 cells slots Rp hC hE lo st h K ha hk H ls locs hl hP hD hS
  unfold am_iinc at ha
  split at ha
  · rename_i x hx
    obtain ⟨k, ek⟩ := am_lv_find (A := A) lo 0 i (.int x) hx
    rw [Nat.zero_add] at ek
    exact lv_iinc (k := k) hC.1 hC.2.1 hd hl ek rfl hn rfl (fun ls' hl' => hk _ _ _ _ ha.2 H ls' locs (am_lv_more hl' (am_lv_set ha.1.1)) hP hD hS)
  · exact ha.elim
theorem am_s_iadd (hd : decode cc pc = .ok (.iadd, 1)) : am_Snd En cc nL own d w pc (am_i2 (fun x y => x + y) (pc + 1)) := by
  intro p l e R s m args below meth c Q dC dI dA A A0 cells slots Rp hC hE lo st h K ha hk H ls locs hl hP hD hS
  unfold am_i2 at ha
  split at ha
  · exact lv_iadd hC.1 hC.2.1 hd (hk _ _ _ _ ha H ls locs hl hP hD hS)
  · exact ha.elim
theorem am_s_isub (hd : decode cc pc = .ok (.isub, 1)) : am_Snd En cc nL own d w pc (am_i2 (fun x y => x - y) (pc + 1)) := by
  intro p l e R s m args below meth c Q dC dI dA A A0 cells slots Rp hC hE lo st h K ha hk H ls locs hl hP hD hS
  unfold am_i2 at ha
  split at ha
  · exact lv_isub hC.1 hC.2.1 hd (hk _ _ _ _ ha H ls locs hl hP hD hS)
  · exact ha.elim
theorem am_s_imul (hd : decode cc pc = .ok (.imul, 1)) : am_Snd En cc nL own d w pc (am_i2 (fun x y => x * y) (pc + 1)) := by
  intro p l e R s m args below meth c Q dC dI dA A A0 cells slots Rp hC hE lo st h K ha hk H ls locs hl hP hD hS
  unfold am_i2 at ha
  split at ha
  · exact lv_imul hC.1 hC.2.1 hd (hk _ _ _ _ ha H ls locs hl hP hD hS)
  · exact ha.elim
theorem am_s_iand (hd : decode cc pc = .ok (.iand, 1)) : am_Snd En cc nL own d w pc (am_i2 (fun x y => x &&& y) (pc + 1)) := by
  intro p l e R s m args below meth c Q dC dI dA A A0 cells slots Rp hC hE lo st h K ha hk H ls locs hl hP hD hS
  unfold am_i2 at ha
  split at ha
  · exact lv_iand hC.1 hC.2.1 hd (hk _ _ _ _ ha H ls locs hl hP hD hS)
  · exact ha.elim
theorem am_s_ior (hd : decode cc pc = .ok (.ior, 1)) : am_Snd En cc nL own d w pc (am_i2 (fun x y => x ||| y) (pc + 1)) := by
  intro p l e R s m args below meth c Q dC dI dA A A0 cells slots Rp hC hE lo st h K ha hk H ls locs hl hP hD hS
  unfold am_i2 at ha
  split at ha
  · exact lv_ior hC.1 hC.2.1 hd (hk _ _ _ _ ha H ls locs hl hP hD hS)
  · exact ha.elim
theorem am_s_ixor (hd : decode cc pc = .ok (.ixor, 1)) : am_Snd En cc nL own d w pc (am_i2 (fun x y => x ^^^ y) (pc + 1)) := by
  intro p l e R s m args below meth c Q dC dI dA A A0 cells slots Rp hC hE lo st h K ha hk H ls locs hl hP hD hS
  unfold am_i2 at ha
  split at ha
  · exact lv_ixor hC.1 hC.2.1 hd (hk _ _ _ _ ha H ls locs hl hP hD hS)
  · exact ha.elim
theorem am_s_ishl (hd : decode cc pc = .ok (.ishl, 1)) : am_Snd En cc nL own d w pc (am_i2 (fun x y => x <<< (y &&& 31)) (pc + 1)) := by
  intro p l e R s m args below meth c Q dC dI dA A A0 cells slots Rp hC hE lo st h K ha hk H ls locs hl hP hD hS
  unfold am_i2 at ha
  split at ha
  · exact lv_ishl hC.1 hC.2.1 hd (hk _ _ _ _ ha H ls locs hl hP hD hS)
  · exact ha.elim
theorem am_s_ishr (hd : decode cc pc = .ok (.ishr, 1)) : am_Snd En cc nL own d w pc (am_i2 (fun x y => x >>> (y &&& 31)) (pc + 1)) := by
  intro p l e R s m args below meth c Q dC dI dA A A0 cells slots Rp hC hE lo st h K ha hk H ls locs hl hP hD hS
  unfold am_i2 at ha
  split at ha
  · exact lv_ishr hC.1 hC.2.1 hd (hk _ _ _ _ ha H ls locs hl hP hD hS)
  · exact ha.elim
theorem am_s_iushr (hd : decode cc pc = .ok (.iushr, 1)) : am_Snd En cc nL own d w pc (am_i2 (fun x y => (x.toUInt32 >>> (y.toUInt32 &&& Int32.toUInt32 31)).toInt32) (pc + 1)) := by
  intro p l e R s m args below meth c Q dC dI dA A A0 cells slots Rp hC hE lo st h K ha hk H ls locs hl hP hD hS
  unfold am_i2 at ha
  split at ha
  · exact lv_iushr hC.1 hC.2.1 hd rfl (hk _ _ _ _ ha H ls locs hl hP hD hS)
  · exact ha.elim
theorem am_s_idiv (hd : decode cc pc = .ok (.idiv, 1)) : am_Snd En cc nL own d w pc (am_idiv (fun x y => x / y) (pc + 1)) := by
  intro p l e R s m args below meth c Q dC dI dA A A0 cells slots Rp hC hE lo st h K ha hk H ls locs hl hP hD hS
  unfold am_idiv at ha
  split at ha
  · exact lv_idiv hC.1 hC.2.1 hd ha.1 (hk _ _ _ _ ha.2 H ls locs hl hP hD hS)
  · exact ha.elim
theorem am_s_irem (hd : decode cc pc = .ok (.irem, 1)) : am_Snd En cc nL own d w pc (am_idiv (fun x y => x - x / y * y) (pc + 1)) := by
  intro p l e R s m args below meth c Q dC dI dA A A0 cells slots Rp hC hE lo st h K ha hk H ls locs hl hP hD hS
  unfold am_idiv at ha
  split at ha
  · exact lv_irem hC.1 hC.2.1 hd ha.1 (hk _ _ _ _ ha.2 H ls locs hl hP hD hS)
  · exact ha.elim
theorem am_s_ineg (hd : decode cc pc = .ok (.ineg, 1)) : am_Snd En cc nL own d w pc (am_i1 (fun x => -x) (pc + 1)) := by
  intro p l e R s m args below meth c Q dC dI dA A A0 cells slots Rp hC hE lo st h K ha hk H ls locs hl hP hD hS
  unfold am_i1 at ha
  split at ha
  · exact lv_ineg hC.1 hC.2.1 hd (hk _ _ _ _ ha H ls locs hl hP hD hS)
  · exact ha.elim
theorem am_s_ladd (hd : decode cc pc = .ok (.ladd, 1)) : am_Snd En cc nL own d w pc (am_l2 (fun x y => x + y) (pc + 1)) := by
  intro p l e R s m args below meth c Q dC dI dA A A0 cells slots Rp hC hE lo st h K ha hk H ls locs hl hP hD hS
  unfold am_l2 at ha
  split at ha
  · exact lv_ladd hC.1 hC.2.1 hd (hk _ _ _ _ ha H ls locs hl hP hD hS)
  · exact ha.elim
theorem am_s_lsub (hd : decode cc pc = .ok (.lsub, 1)) : am_Snd En cc nL own d w pc (am_l2 (fun x y => x - y) (pc + 1)) := by
  intro p l e R s m args below meth c Q dC dI dA A A0 cells slots Rp hC hE lo st h K ha hk H ls locs hl hP hD hS
  unfold am_l2 at ha
  split at ha
  · exact lv_lsub hC.1 hC.2.1 hd (hk _ _ _ _ ha H ls locs hl hP hD hS)
  · exact ha.elim
theorem am_s_lmul (hd : decode cc pc = .ok (.lmul, 1)) : am_Snd En cc nL own d w pc (am_l2 (fun x y => x * y) (pc + 1)) := by
  intro p l e R s m args below meth c Q dC dI dA A A0 cells slots Rp hC hE lo st h K ha hk H ls locs hl hP hD hS
  unfold am_l2 at ha
  split at ha
  · exact lv_lmul hC.1 hC.2.1 hd (hk _ _ _ _ ha H ls locs hl hP hD hS)
  · exact ha.elim
theorem am_s_land (hd : decode cc pc = .ok (.land, 1)) : am_Snd En cc nL own d w pc (am_l2 (fun x y => x &&& y) (pc + 1)) := by
  intro p l e R s m args below meth c Q dC dI dA A A0 cells slots Rp hC hE lo st h K ha hk H ls locs hl hP hD hS
  unfold am_l2 at ha
  split at ha
  · exact lv_land hC.1 hC.2.1 hd (hk _ _ _ _ ha H ls locs hl hP hD hS)
  · exact ha.elim
theorem am_s_lor (hd : decode cc pc = .ok (.lor, 1)) : am_Snd En cc nL own d w pc (am_l2 (fun x y => x ||| y) (pc + 1)) := by
  intro p l e R s m args below meth c Q dC dI dA A A0 cells slots Rp hC hE lo st h K ha hk H ls locs hl hP hD hS
  unfold am_l2 at ha
  split at ha
  · exact lv_lor hC.1 hC.2.1 hd (hk _ _ _ _ ha H ls locs hl hP hD hS)
  · exact ha.elim
theorem am_s_lxor (hd : decode cc pc = .ok (.lxor, 1)) : am_Snd En cc nL own d w pc (am_l2 (fun x y => x ^^^ y) (pc + 1)) := by
  intro p l e R s m args below meth c Q dC dI dA A A0 cells slots Rp hC hE lo st h K ha hk H ls locs hl hP hD hS
  unfold am_l2 at ha
  split at ha
  · exact lv_lxor hC.1 hC.2.1 hd (hk _ _ _ _ ha H ls locs hl hP hD hS)
  · exact ha.elim
theorem am_s_ldiv (hd : decode cc pc = .ok (.ldiv, 1)) : am_Snd En cc nL own d w pc (am_ldiv (pc + 1)) := by
  intro p l e R s m args below meth c Q dC dI dA A A0 cells slots Rp hC hE lo st h K ha hk H ls locs hl hP hD hS
  unfold am_ldiv at ha
  split at ha
  · exact lv_ldiv hC.1 hC.2.1 hd ha.1 (hk _ _ _ _ ha.2 H ls locs hl hP hD hS)
  · exact ha.elim
theorem am_s_lconst {n : Fin 2} {v : Int64} (hd : decode cc pc = .ok (.lconst n, 1)) (hv : Int64.ofNat (n : Nat) = v) : am_Snd En cc nL own d w pc (am_push (.long v) (pc + 1)) := by
  intro p l e R s m args below meth c Q dC dI dA A A0 cells slots Rp hC hE lo st h K ha hk H ls locs hl hP hD hS
  exact lv_lconst hC.1 hC.2.1 hd hv (hk _ _ _ _ ha H ls locs hl hP hD hS)
theorem am_s_ldcw {i : Nat} {v : Int32} (hw : Cond.constant own i v ∈ lw_good) (hd : decode cc pc = .ok (.ldc_w i, 3)) : am_Snd En cc nL own d w pc (am_push (.int v) (pc + 3)) := by
  intro p l e R s m args below meth c Q dC dI dA A A0 cells slots Rp hC hE lo st h K ha hk H ls locs hl hP hD hS
  exact lv_ldcw hC.1 hC.2.1 hC.2.2.2.1 (hC.2.2.2.2.1 _ hw) hd (hk _ _ _ _ ha H ls locs hl hP hD hS)
theorem am_lv_set2 {A : Nat → Nat} {l : am_L} {i : Nat} {x : Int64} (hg : am_g2 l i = true) : ∀ q ∈ am_lv A 0 ((l.set i (some (.long x))).set (i + 1) none), q ∈ (i, Value.long x) :: (am_lv A 0 l).filter (fun q => !(q.1 == i) && (!(q.1 == i + 1) && !(q.1 + 1 == i && q.2.category == 2))) := by
  intro q hq
  obtain ⟨j, v, h, e⟩ := (am_lv_mem A q _ 0).mp hq
  rw [Nat.zero_add] at e
  by_cases hj1 : i + 1 = j
  · subst hj1
    rw [List.getElem?_set] at h
    split at h
    · split at h
      · cases h
      · cases h
    · rename_i hne; exact absurd rfl hne
  · rw [List.getElem?_set_ne hj1] at h
    have h2 := am_lv_set (A := A) (v := .long x) hg q ((am_lv_mem A q _ 0).mpr ⟨j, v, h, by rw [Nat.zero_add]; exact e⟩)
    rcases List.mem_cons.mp h2 with h2 | h2
    · rw [h2]; exact List.mem_cons_self
    · obtain ⟨h3, h4⟩ := List.mem_filter.mp h2
      refine List.mem_cons_of_mem _ (List.mem_filter.mpr ⟨h3, ?_⟩)
      have h5 : (q.1 == i + 1) = false := by rw [e]; simpa using fun z => hj1 z.symm
      simp only [Bool.and_eq_true] at h4 ⊢
      exact ⟨h4.1, by rw [h5]; rfl, h4.2⟩
theorem am_s_lstore_n {k : Fin 4} (i : Nat) (hd : decode cc pc = .ok (.lstore_n k, 1)) (hi : (k : Nat) = i) (hn : i + 1 < nL) : am_Snd En cc nL own d w pc (am_lstore i (pc + 1)) := by
  intro p l e R s m args below meth c Q dC dI dA A A0 cells slots Rp hC hE lo st h K ha hk H ls locs hl hP hD hS
  unfold am_lstore at ha
  split at ha
  · exact lv_lstore_n hC.1 hC.2.1 hd hi hl hn rfl (fun ls' hl' => hk _ _ _ _ ha.2 H ls' locs (am_lv_more hl' (am_lv_set2 ha.1.1)) hP hD hS)
  · exact ha.elim
theorem am_s_lstore {i : Nat} (hd : decode cc pc = .ok (.lstore i, 2)) (hn : i + 1 < nL) : am_Snd En cc nL own d w pc (am_lstore i (pc + 2)) := by
  intro p l e R s m args below meth c Q dC dI dA A A0 cells slots Rp hC hE lo st h K ha hk H ls locs hl hP hD hS
  unfold am_lstore at ha
  split at ha
  · exact lv_lstore hC.1 hC.2.1 hd hl hn rfl (fun ls' hl' => hk _ _ _ _ ha.2 H ls' locs (am_lv_more hl' (am_lv_set2 ha.1.1)) hP hD hS)
  · exact ha.elim
theorem am_s_lushr (hd : decode cc pc = .ok (.lushr, 1)) : am_Snd En cc nL own d w pc (am_lsh (fun x y => (x.toUInt64 >>> (y.toInt64.toUInt64 &&& Int64.toUInt64 63)).toInt64) (pc + 1)) := by
  intro p l e R s m args below meth c Q dC dI dA A A0 cells slots Rp hC hE lo st h K ha hk H ls locs hl hP hD hS
  unfold am_lsh at ha
  split at ha
  · exact lv_lushr hC.1 hC.2.1 hd rfl (hk _ _ _ _ ha H ls locs hl hP hD hS)
  · exact ha.elim
theorem am_s_lshl (hd : decode cc pc = .ok (.lshl, 1)) : am_Snd En cc nL own d w pc (am_lsh (fun x y => x <<< (y.toInt64 &&& 63)) (pc + 1)) := by
  intro p l e R s m args below meth c Q dC dI dA A A0 cells slots Rp hC hE lo st h K ha hk H ls locs hl hP hD hS
  unfold am_lsh at ha
  split at ha
  · exact lv_lshl hC.1 hC.2.1 hd rfl (hk _ _ _ _ ha H ls locs hl hP hD hS)
  · exact ha.elim
theorem am_s_lshr (hd : decode cc pc = .ok (.lshr, 1)) : am_Snd En cc nL own d w pc (am_lsh (fun x y => x >>> (y.toInt64 &&& 63)) (pc + 1)) := by
  intro p l e R s m args below meth c Q dC dI dA A A0 cells slots Rp hC hE lo st h K ha hk H ls locs hl hP hD hS
  unfold am_lsh at ha
  split at ha
  · exact lv_lshr hC.1 hC.2.1 hd rfl (hk _ _ _ _ ha H ls locs hl hP hD hS)
  · exact ha.elim
theorem am_s_lcmp (hd : decode cc pc = .ok (.lcmp, 1)) : am_Snd En cc nL own d w pc (am_lcmp (pc + 1)) := by
  intro p l e R s m args below meth c Q dC dI dA A A0 cells slots Rp hC hE lo st h K ha hk H ls locs hl hP hD hS
  unfold am_lcmp at ha
  split at ha
  · exact W.lcmp hC.1 hC.2.1 hd (hk _ _ _ _ ha H ls locs hl hP hD hS)
  · exact ha.elim
theorem am_s_i2l (hd : decode cc pc = .ok (.i2l, 1)) : am_Snd En cc nL own d w pc (am_i2l (pc + 1)) := by
  intro p l e R s m args below meth c Q dC dI dA A A0 cells slots Rp hC hE lo st h K ha hk H ls locs hl hP hD hS
  unfold am_i2l at ha
  split at ha
  · exact lv_i2l hC.1 hC.2.1 hd rfl (hk _ _ _ _ ha H ls locs hl hP hD hS)
  · exact ha.elim
theorem am_s_l2i (hd : decode cc pc = .ok (.l2i, 1)) : am_Snd En cc nL own d w pc (am_l2i (pc + 1)) := by
  intro p l e R s m args below meth c Q dC dI dA A A0 cells slots Rp hC hE lo st h K ha hk H ls locs hl hP hD hS
  unfold am_l2i at ha
  split at ha
  · exact lv_l2i hC.1 hC.2.1 hd rfl (hk _ _ _ _ ha H ls locs hl hP hD hS)
  · exact ha.elim
theorem am_s_dup (hd : decode cc pc = .ok (.dup, 1)) : am_Snd En cc nL own d w pc (am_dup (pc + 1)) := by
  intro p l e R s m args below meth c Q dC dI dA A A0 cells slots Rp hC hE lo st h K ha hk H ls locs hl hP hD hS
  unfold am_dup at ha
  split at ha
  · exact lv_dup hC.1 hC.2.1 hd ((am_v_cat A _).trans ha.1) (hk _ _ _ _ ha.2 H ls locs hl hP hD hS)
  · exact ha.elim
theorem am_s_pop (hd : decode cc pc = .ok (.pop, 1)) : am_Snd En cc nL own d w pc (am_pop (pc + 1)) := by
  intro p l e R s m args below meth c Q dC dI dA A A0 cells slots Rp hC hE lo st h K ha hk H ls locs hl hP hD hS
  unfold am_pop at ha
  split at ha
  · exact lv_pop hC.1 hC.2.1 hd ((am_v_cat A _).trans ha.1) (hk _ _ _ _ ha.2 H ls locs hl hP hD hS)
  · exact ha.elim
theorem am_s_dup_x1 (hd : decode cc pc = .ok (.dup_x1, 1)) : am_Snd En cc nL own d w pc (am_dup_x1 (pc + 1)) := by
  intro p l e R s m args below meth c Q dC dI dA A A0 cells slots Rp hC hE lo st h K ha hk H ls locs hl hP hD hS
  unfold am_dup_x1 at ha
  split at ha
  · exact lv_dup_x1 hC.1 hC.2.1 hd ((am_v_cat A _).trans ha.1.1) ((am_v_cat A _).trans ha.1.2) (hk _ _ _ _ ha.2 H ls locs hl hP hD hS)
  · exact ha.elim
theorem am_s_dup_x2 (hd : decode cc pc = .ok (.dup_x2, 1)) : am_Snd En cc nL own d w pc (am_dup_x2 (pc + 1)) := by
  intro p l e R s m args below meth c Q dC dI dA A A0 cells slots Rp hC hE lo st h K ha hk H ls locs hl hP hD hS
  unfold am_dup_x2 at ha
  split at ha
  · exact lv_dup_x2 hC.1 hC.2.1 hd ((am_v_cat A _).trans ha.1.1) ((am_v_cat A _).trans ha.1.2.1) ((am_v_cat A _).trans ha.1.2.2) (hk _ _ _ _ ha.2 H ls locs hl hP hD hS)
  · exact ha.elim
theorem am_s_dup2 (hd : decode cc pc = .ok (.dup2, 1)) : am_Snd En cc nL own d w pc (am_dup2 (pc + 1)) := by
  intro p l e R s m args below meth c Q dC dI dA A A0 cells slots Rp hC hE lo st h K ha hk H ls locs hl hP hD hS
  unfold am_dup2 at ha
  split at ha
  · exact lv_dup2_11 hC.1 hC.2.1 hd ((am_v_cat A _).trans ha.1.1) ((am_v_cat A _).trans ha.1.2) (hk _ _ _ _ ha.2 H ls locs hl hP hD hS)
  · exact ha.elim
theorem am_s_if_eq {off : Int} (t : Nat) (hd : decode cc pc = .ok (.ifCond .eq off, 3)) (ht : (pc : Int) + off = (t : Int)) : am_Snd En cc nL own d w pc (am_if (fun x => x = 0) t (pc + 3)) := by
  intro p l e R s m args below meth c Q dC dI dA A A0 cells slots Rp hC hE lo st h K ha hk H ls locs hl hP hD hS
  unfold am_if at ha
  split at ha
  · exact lv_if_eq hC.1 hC.2.1 hd ht (fun q => hk _ _ _ _ (ha.1 q) H ls locs hl hP hD hS) (fun q => hk _ _ _ _ (ha.2 q) H ls locs hl hP hD hS)
  · exact ha.elim
theorem am_s_if_ne {off : Int} (t : Nat) (hd : decode cc pc = .ok (.ifCond .ne off, 3)) (ht : (pc : Int) + off = (t : Int)) : am_Snd En cc nL own d w pc (am_if (fun x => ¬ x = 0) t (pc + 3)) := by
  intro p l e R s m args below meth c Q dC dI dA A A0 cells slots Rp hC hE lo st h K ha hk H ls locs hl hP hD hS
  unfold am_if at ha
  split at ha
  · exact lv_if_ne hC.1 hC.2.1 hd ht (fun q => hk _ _ _ _ (ha.1 q) H ls locs hl hP hD hS) (fun q => hk _ _ _ _ (ha.2 (fun z => z q)) H ls locs hl hP hD hS)
  · exact ha.elim
theorem am_s_if_lt {off : Int} (t : Nat) (hd : decode cc pc = .ok (.ifCond .lt off, 3)) (ht : (pc : Int) + off = (t : Int)) : am_Snd En cc nL own d w pc (am_if (fun x => x < 0) t (pc + 3)) := by
  intro p l e R s m args below meth c Q dC dI dA A A0 cells slots Rp hC hE lo st h K ha hk H ls locs hl hP hD hS
  unfold am_if at ha
  split at ha
  · exact lv_if_lt hC.1 hC.2.1 hd ht (fun q => hk _ _ _ _ (ha.1 q) H ls locs hl hP hD hS) (fun q => hk _ _ _ _ (ha.2 q) H ls locs hl hP hD hS)
  · exact ha.elim
theorem am_s_if_ge {off : Int} (t : Nat) (hd : decode cc pc = .ok (.ifCond .ge off, 3)) (ht : (pc : Int) + off = (t : Int)) : am_Snd En cc nL own d w pc (am_if (fun x => 0 ≤ x) t (pc + 3)) := by
  intro p l e R s m args below meth c Q dC dI dA A A0 cells slots Rp hC hE lo st h K ha hk H ls locs hl hP hD hS
  unfold am_if at ha
  split at ha
  · exact lv_if_ge hC.1 hC.2.1 hd ht (fun q => hk _ _ _ _ (ha.1 q) H ls locs hl hP hD hS) (fun q => hk _ _ _ _ (ha.2 q) H ls locs hl hP hD hS)
  · exact ha.elim
theorem am_s_if_gt {off : Int} (t : Nat) (hd : decode cc pc = .ok (.ifCond .gt off, 3)) (ht : (pc : Int) + off = (t : Int)) : am_Snd En cc nL own d w pc (am_if (fun x => 0 < x) t (pc + 3)) := by
  intro p l e R s m args below meth c Q dC dI dA A A0 cells slots Rp hC hE lo st h K ha hk H ls locs hl hP hD hS
  unfold am_if at ha
  split at ha
  · exact lv_if_gt hC.1 hC.2.1 hd ht (fun q => hk _ _ _ _ (ha.1 q) H ls locs hl hP hD hS) (fun q => hk _ _ _ _ (ha.2 q) H ls locs hl hP hD hS)
  · exact ha.elim
theorem am_s_if_le {off : Int} (t : Nat) (hd : decode cc pc = .ok (.ifCond .le off, 3)) (ht : (pc : Int) + off = (t : Int)) : am_Snd En cc nL own d w pc (am_if (fun x => x ≤ 0) t (pc + 3)) := by
  intro p l e R s m args below meth c Q dC dI dA A A0 cells slots Rp hC hE lo st h K ha hk H ls locs hl hP hD hS
  unfold am_if at ha
  split at ha
  · exact lv_if_le hC.1 hC.2.1 hd ht (fun q => hk _ _ _ _ (ha.1 q) H ls locs hl hP hD hS) (fun q => hk _ _ _ _ (ha.2 q) H ls locs hl hP hD hS)
  · exact ha.elim
theorem am_s_icmp_eq {off : Int} (t : Nat) (hd : decode cc pc = .ok (.if_icmp .eq off, 3)) (ht : (pc : Int) + off = (t : Int)) : am_Snd En cc nL own d w pc (am_if2 (fun x y => x = y) t (pc + 3)) := by
  intro p l e R s m args below meth c Q dC dI dA A A0 cells slots Rp hC hE lo st h K ha hk H ls locs hl hP hD hS
  unfold am_if2 at ha
  split at ha
  · exact lv_icmp_eq hC.1 hC.2.1 hd ht (fun q => hk _ _ _ _ (ha.1 q) H ls locs hl hP hD hS) (fun q => hk _ _ _ _ (ha.2 q) H ls locs hl hP hD hS)
  · exact ha.elim
theorem am_s_icmp_ne {off : Int} (t : Nat) (hd : decode cc pc = .ok (.if_icmp .ne off, 3)) (ht : (pc : Int) + off = (t : Int)) : am_Snd En cc nL own d w pc (am_if2 (fun x y => ¬ x = y) t (pc + 3)) := by
  intro p l e R s m args below meth c Q dC dI dA A A0 cells slots Rp hC hE lo st h K ha hk H ls locs hl hP hD hS
  unfold am_if2 at ha
  split at ha
  · exact lv_icmp_ne hC.1 hC.2.1 hd ht (fun q => hk _ _ _ _ (ha.1 q) H ls locs hl hP hD hS) (fun q => hk _ _ _ _ (ha.2 (fun z => z q)) H ls locs hl hP hD hS)
  · exact ha.elim
theorem am_s_icmp_lt {off : Int} (t : Nat) (hd : decode cc pc = .ok (.if_icmp .lt off, 3)) (ht : (pc : Int) + off = (t : Int)) : am_Snd En cc nL own d w pc (am_if2 (fun x y => x < y) t (pc + 3)) := by
  intro p l e R s m args below meth c Q dC dI dA A A0 cells slots Rp hC hE lo st h K ha hk H ls locs hl hP hD hS
  unfold am_if2 at ha
  split at ha
  · exact lv_icmp_lt hC.1 hC.2.1 hd ht (fun q => hk _ _ _ _ (ha.1 q) H ls locs hl hP hD hS) (fun q => hk _ _ _ _ (ha.2 q) H ls locs hl hP hD hS)
  · exact ha.elim
theorem am_s_icmp_ge {off : Int} (t : Nat) (hd : decode cc pc = .ok (.if_icmp .ge off, 3)) (ht : (pc : Int) + off = (t : Int)) : am_Snd En cc nL own d w pc (am_if2 (fun x y => y ≤ x) t (pc + 3)) := by
  intro p l e R s m args below meth c Q dC dI dA A A0 cells slots Rp hC hE lo st h K ha hk H ls locs hl hP hD hS
  unfold am_if2 at ha
  split at ha
  · exact lv_icmp_ge hC.1 hC.2.1 hd ht (fun q => hk _ _ _ _ (ha.1 q) H ls locs hl hP hD hS) (fun q => hk _ _ _ _ (ha.2 q) H ls locs hl hP hD hS)
  · exact ha.elim
theorem am_s_icmp_gt {off : Int} (t : Nat) (hd : decode cc pc = .ok (.if_icmp .gt off, 3)) (ht : (pc : Int) + off = (t : Int)) : am_Snd En cc nL own d w pc (am_if2 (fun x y => y < x) t (pc + 3)) := by
  intro p l e R s m args below meth c Q dC dI dA A A0 cells slots Rp hC hE lo st h K ha hk H ls locs hl hP hD hS
  unfold am_if2 at ha
  split at ha
  · exact lv_icmp_gt hC.1 hC.2.1 hd ht (fun q => hk _ _ _ _ (ha.1 q) H ls locs hl hP hD hS) (fun q => hk _ _ _ _ (ha.2 q) H ls locs hl hP hD hS)
  · exact ha.elim
theorem am_s_icmp_le {off : Int} (t : Nat) (hd : decode cc pc = .ok (.if_icmp .le off, 3)) (ht : (pc : Int) + off = (t : Int)) : am_Snd En cc nL own d w pc (am_if2 (fun x y => x ≤ y) t (pc + 3)) := by
  intro p l e R s m args below meth c Q dC dI dA A A0 cells slots Rp hC hE lo st h K ha hk H ls locs hl hP hD hS
  unfold am_if2 at ha
  split at ha
  · exact lv_icmp_le hC.1 hC.2.1 hd ht (fun q => hk _ _ _ _ (ha.1 q) H ls locs hl hP hD hS) (fun q => hk _ _ _ _ (ha.2 q) H ls locs hl hP hD hS)
  · exact ha.elim
theorem am_s_goto {off : Int} (t : Nat) (hd : decode cc pc = .ok (.goto off, 3)) (ht : (pc : Int) + off = (t : Int)) : am_Snd En cc nL own d w pc (am_goto t) := by
  intro p l e R s m args below meth c Q dC dI dA A A0 cells slots Rp hC hE lo st h K ha hk H ls locs hl hP hD hS
  exact lv_goto hC.1 hC.2.1 hd ht (hk _ _ _ _ ha H ls locs hl hP hD hS)
def am_tab (pc : Nat) : Int → List Int → List (Int32 × Nat)
  | _, [] => []
  | lo, o :: t => (Int32.ofInt lo, ((pc : Int) + o).toNat) :: am_tab pc (lo + 1) t
theorem am_tab_get (pc : Nat) : ∀ (os : List Int) (lo : Int) (j : Nat) (o : Int), os[j]? = some o → (am_tab pc lo os)[j]? = some (Int32.ofInt (lo + j), ((pc : Int) + o).toNat)
  | [], lo, j, o, h => by simp at h
  | a :: t, lo, 0, o, h => by
    have e : a = o := by simpa using h
    simp [am_tab, e]
  | a :: t, lo, j + 1, o, h => by
    have := am_tab_get pc t (lo + 1) j o (by simpa using h)
    simp only [am_tab, List.getElem?_cons_succ]
    rw [this, show lo + 1 + (j : Int) = lo + ((j + 1 : Nat) : Int) by omega]
theorem am_tab_mem (pc : Nat) : ∀ (os : List Int) (lo : Int) (q : Int32 × Nat), q ∈ am_tab pc lo os → ∃ j : Nat, j < os.length ∧ q.1 = Int32.ofInt (lo + j)
  | [], lo, q, h => by simp [am_tab] at h
  | a :: t, lo, q, h => by
    simp only [am_tab, List.mem_cons] at h
    rcases h with h | h
    · exact ⟨0, by simp, by rw [h]; simp⟩
    · obtain ⟨j, h1, h2⟩ := am_tab_mem pc t (lo + 1) q h
      exact ⟨j + 1, by simp; omega, by rw [h2, show lo + 1 + (j : Int) = lo + ((j + 1 : Nat) : Int) by omega]⟩
theorem am_s_table {dflt a b : Int} {offs : Array Int} {len : Nat} (t : Nat) (hd : decode cc pc = .ok (.tableswitch dflt a b offs, len)) (hb : b = a + (offs.size : Int) - 1) (hr : (-2147483648 : Int) ≤ a ∧ b ≤ 2147483647) (hn : offs.toList.all (fun o => decide (0 ≤ (pc : Int) + o)) = true) (ht : (pc : Int) + dflt = (t : Int)) : am_Snd En cc nL own d w pc (am_sw (am_tab pc a offs.toList) t) := by
  intro p l e R s m args below meth c Q dC dI dA A A0 cells slots Rp hC hE lo st h K ha hk H ls locs hl hP hD hS
  unfold am_sw at ha
  split at ha
  · rename_i x r
    by_cases hx : x.toInt < a ∨ b < x.toInt
    · refine lv_tableOut hC.1 hC.2.1 hd hx ht (hk _ _ _ _ (ha.2 ?_) H ls locs hl hP hD hS)
      intro q hq he
      obtain ⟨j, h1, h2⟩ := am_tab_mem pc _ _ q hq
      rw [h2] at he
      have h3 : x.toInt = a + j := by
        rw [he, Int32.toInt_ofInt_of_le]
        · simp at h1 ⊢; omega
        · simp at h1 ⊢; omega
      simp at h1
      omega
    · have h1 : ¬ x.toInt < a := fun z => hx (Or.inl z)
      have h2 : ¬ b < x.toInt := fun z => hx (Or.inr z)
      have hj : (x.toInt - a).toNat < offs.size := by omega
      have ho : offs[(x.toInt - a).toNat]? = some (offs[(x.toInt - a).toNat]'hj) := by simp [hj]
      have hp : 0 ≤ (pc : Int) + offs[(x.toInt - a).toNat]'hj := by
        have := List.all_eq_true.mp hn (offs[(x.toInt - a).toNat]'hj) (by simp)
        simpa using this
      refine lv_tableIn (tgt := ((pc : Int) + offs[(x.toInt - a).toNat]'hj).toNat) hC.1 hC.2.1 hd h1 h2 ho (by omega) (hk _ _ _ _ (ha.1 _ (List.mem_of_getElem? (am_tab_get pc offs.toList a (x.toInt - a).toNat _ (by rw [Array.getElem?_toList]; exact ho))) ?_) H ls locs hl hP hD hS)
      show x = Int32.ofInt (a + ((x.toInt - a).toNat : Int))
      rw [show a + ((x.toInt - a).toNat : Int) = x.toInt by omega, Int32.ofInt_toInt]
  · exact ha.elim
theorem am_s_get {ci k N index : Nat} {C : String} {T : u_T} (hc : vwCl[ci]? = some (C, T, N)) (hin : ∀ w ∈ u_ws C T N, w ∈ lw_good) (hkN : k < N) (hlink : Cond.fieldLink own index (T k).1 (T k).2.1 (T k).2.2.1 ∈ lw_good) (hd : decode cc pc = .ok (.getfield index, 3)) : am_Snd En cc nL own d w pc (am_get ci k (pc + 3)) := by
  intro p l e R s m args below meth c Q dC dI dA A A0 cells slots Rp hC hE lo st h K ha hk H ls locs hl hP hD hS
  unfold am_get at ha
  split at ha
  · rename_i a r
    split at ha
    · rename_i cj fs ea
      obtain ⟨hcj, ha⟩ := ha
      subst hcj
      split at ha
      · rename_i v ev
        exact va_get hC.1 hC.2.1 hC.2.2.2.2.1 hin hC.2.2.2.1 hC.2.2.2.2.2.1 hP a (am_c_at ea) hc k hkN (hC.2.2.2.2.1 _ hlink) (fun _ z => z) (by show (fs.map (am_v A))[k]? = _; rw [List.getElem?_map, ev]; rfl) hd (hk _ _ _ _ ha H ls locs hl hP hD hS)
      · exact ha.elim
    · exact ha.elim
  · exact ha.elim
theorem am_s_getN {ci k N index : Nat} {C host : String} {T : u_T} (hEn : ∀ A A0 s, En A A0 s → am_En A A0 s) (hc : vwCl[ci]? = some (C, T, N)) (hin : ∀ w ∈ u_ws C T N, w ∈ lw_good) (hkN : k < N) (hlink : Cond.fieldLinkNest own index (T k).1 (T k).2.1 (T k).2.2.1 host ∈ lw_nest) (hd : decode cc pc = .ok (.getfield index, 3)) : am_Snd En cc nL own d w pc (am_get ci k (pc + 3)) := by
  intro p l e R s m args below meth c Q dC dI dA A A0 cells slots Rp hC hE lo st h K ha hk H ls locs hl hP hD hS
  unfold am_get at ha
  split at ha
  · rename_i a r
    split at ha
    · rename_i cj fs ea
      obtain ⟨hcj, ha⟩ := ha
      subst hcj
      split at ha
      · rename_i v ev
        exact va_getN hC.1 hC.2.1 hC.2.2.2.2.1 hin hC.2.2.2.1 hC.2.2.2.2.2.1 hP a (am_c_at ea) hc k hkN (va_Nw.use rfl ((hEn _ _ _ hC.2.2.2.2.2.2.2.1).1 _ hlink)) (fun _ z => z) (by show (fs.map (am_v A))[k]? = _; rw [List.getElem?_map, ev]; rfl) hd (hk _ _ _ _ ha H ls locs hl hP hD hS)
      · exact ha.elim
    · exact ha.elim
  · exact ha.elim
theorem am_putE {dA : Nat → ClassId} {A : Nat → Nat} {a ci k : Nat} {fs : List Value} {v : Value} : ((A a, Sum.inr (ci, (fs.map (am_v A)).set k (am_v A v))) : Nat × va_E) = (A a, am_e dA A (.inr (ci, fs.set k v))) := by
  show _ = (A a, Sum.inr (ci, (fs.set k v).map (am_v A)))
  rw [List.map_set]
theorem am_s_putI {ci k N index : Nat} {C : String} {T : u_T} {tf : Nat → FieldType} (hc : vwCl[ci]? = some (C, T, N)) (hin : ∀ w ∈ u_ws C T N, w ∈ lw_good) (hty : ∀ k, k < N → parseFieldDescriptor (T k).2.2.1 = some (tf k)) (hnm : ∀ a, a < N → ∀ b, b < N → a ≠ b → (T a).2.1 ≠ (T b).2.1) (hkN : k < N) (hlink : Cond.fieldLink own index (T k).1 (T k).2.1 (T k).2.2.1 ∈ lw_good) (hfin : (T k).2.2.2 = false) (hd : decode cc pc = .ok (.putfield index, 3)) : am_Snd En cc nL own d w pc (am_putI ci k (tf k) (pc + 3)) := by
  intro p l e R s m args below meth c Q dC dI dA A A0 cells slots Rp hC hE lo st h K ha hk H ls locs hl hP hD hS
  unfold am_putI at ha
  split at ha
  · rename_i x a r
    split at ha
    · rename_i cj fs ea
      obtain ⟨⟨hcj, hkl, hn, hf⟩, ha⟩ := ha
      subst hcj
      refine va_put hC.1 hC.2.1 hC.2.2.2.2.1 hin tf hty hnm hC.2.2.2.1 hC.2.2.2.2.2.1 hP hD hS a (am_c_at ea) hc k hkN (hC.2.2.2.2.1 _ hlink) (fun _ z => z) hfin (hty k hkN) hn hf (by rw [List.length_map]; exact hkl) hd (fun H1 locs1 hP1 hD1 hS1 => ?_)
      rw [show (Value.int x) = am_v A (.int x) from rfl, am_c_put am_putE] at hP1 hD1
      exact hk _ _ _ _ ha H1 ls locs1 hl hP1 hD1 hS1
    · exact ha.elim
  · exact ha.elim
theorem am_s_putIN {ci k N index : Nat} {C host : String} {T : u_T} {tf : Nat → FieldType} (hEn : ∀ A A0 s, En A A0 s → am_En A A0 s) (hc : vwCl[ci]? = some (C, T, N)) (hin : ∀ w ∈ u_ws C T N, w ∈ lw_good) (hty : ∀ k, k < N → parseFieldDescriptor (T k).2.2.1 = some (tf k)) (hnm : ∀ a, a < N → ∀ b, b < N → a ≠ b → (T a).2.1 ≠ (T b).2.1) (hkN : k < N) (hlink : Cond.fieldLinkNest own index (T k).1 (T k).2.1 (T k).2.2.1 host ∈ lw_nest) (hfin : (T k).2.2.2 = false) (hd : decode cc pc = .ok (.putfield index, 3)) : am_Snd En cc nL own d w pc (am_putI ci k (tf k) (pc + 3)) := by
  intro p l e R s m args below meth c Q dC dI dA A A0 cells slots Rp hC hE lo st h K ha hk H ls locs hl hP hD hS
  unfold am_putI at ha
  split at ha
  · rename_i x a r
    split at ha
    · rename_i cj fs ea
      obtain ⟨⟨hcj, hkl, hn, hf⟩, ha⟩ := ha
      subst hcj
      refine va_putN hC.1 hC.2.1 hC.2.2.2.2.1 hin tf hty hnm hC.2.2.2.1 hC.2.2.2.2.2.1 hP hD hS a (am_c_at ea) hc k hkN (va_Nw.use rfl ((hEn _ _ _ hC.2.2.2.2.2.2.2.1).1 _ hlink)) (fun _ z => z) hfin (hty k hkN) hn hf (by rw [List.length_map]; exact hkl) hd (fun H1 locs1 hP1 hD1 hS1 => ?_)
      rw [show (Value.int x) = am_v A (.int x) from rfl, am_c_put am_putE] at hP1 hD1
      exact hk _ _ _ _ ha H1 ls locs1 hl hP1 hD1 hS1
    · exact ha.elim
  · exact ha.elim
theorem am_s_putR {ci k N index : Nat} {C D : String} {T : u_T} {tf : Nat → FieldType} (hc : vwCl[ci]? = some (C, T, N)) (hin : ∀ w ∈ u_ws C T N, w ∈ lw_good) (hty : ∀ k, k < N → parseFieldDescriptor (T k).2.2.1 = some (tf k)) (hnm : ∀ a, a < N → ∀ b, b < N → a ≠ b → (T a).2.1 ≠ (T b).2.1) (hkN : k < N) (hlink : Cond.fieldLink own index (T k).1 (T k).2.1 (T k).2.2.1 ∈ lw_good) (hfin : (T k).2.2.2 = false) (ho : tf k = .object D) (hd : decode cc pc = .ok (.putfield index, 3)) : am_Snd En cc nL own d w pc (am_putR ci k (pc + 3)) := by
  intro p l e R s m args below meth c Q dC dI dA A A0 cells slots Rp hC hE lo st h K ha hk H ls locs hl hP hD hS
  unfold am_putR at ha
  split at ha
  · rename_i x a r
    split at ha
    · rename_i cj fs ea
      obtain ⟨⟨hcj, hkl⟩, ha⟩ := ha
      subst hcj
      refine va_put hC.1 hC.2.1 hC.2.2.2.2.1 hin tf hty hnm hC.2.2.2.1 hC.2.2.2.2.2.1 hP hD hS a (am_c_at ea) hc k hkN (hC.2.2.2.2.1 _ hlink) (fun _ z => z) hfin (hty k hkN) (by rw [ho]; rfl) (by rw [ho]; rfl) (by rw [List.length_map]; exact hkl) hd (fun H1 locs1 hP1 hD1 hS1 => ?_)
      rw [am_c_put am_putE] at hP1 hD1
      exact hk _ _ _ _ ha H1 ls locs1 hl hP1 hD1 hS1
    · exact ha.elim
  · exact ha.elim
theorem am_s_iald (hd : decode cc pc = .ok (.iaload, 1)) : am_Snd En cc nL own d w pc (am_iald (pc + 1)) := by
  intro p l e R s m args below meth c Q dC dI dA A A0 cells slots Rp hC hE lo st h K ha hk H ls locs hl hP hD hS
  unfold am_iald at ha
  split at ha
  · rename_i i a r
    split at ha
    · rename_i N f ea
      exact va_iald hC.1 hC.2.1 hC.2.2.2.2.2.1 hP a 0 (am_c_at ea) rfl ha.1 hd (hk _ _ _ _ ha.2 H ls locs hl hP hD hS)
    · exact ha.elim
  · exact ha.elim
theorem am_s_iast (hd : decode cc pc = .ok (.iastore, 1)) : am_Snd En cc nL own d w pc (am_iast (pc + 1)) := by
  intro p l e R s m args below meth c Q dC dI dA A A0 cells slots Rp hC hE lo st h K ha hk H ls locs hl hP hD hS
  unfold am_iast at ha
  split at ha
  · rename_i x i a r
    split at ha
    · rename_i N f ea
      refine va_iast hC.1 hC.2.1 hC.2.2.2.2.2.1 hP hD hS a 0 (am_c_at ea) rfl ha.1 hd (fun H1 locs1 hP1 hD1 hS1 => ?_)
      have hP1 : va_P (dC, dI) vwCl (am_c dA A 0 (h.set a (.inl (0, N, .inl (upd f i.toNatClampNeg x))))) H1 := by rw [← am_c_put (x := .inl (0, N, .inl (upd f i.toNatClampNeg x))) rfl]; exact hP1
      have hD1 : va_D A0 (am_c dA A 0 (h.set a (.inl (0, N, .inl (upd f i.toNatClampNeg x))))) := by rw [← am_c_put (x := .inl (0, N, .inl (upd f i.toNatClampNeg x))) rfl]; exact hD1
      exact hk _ _ _ _ ha.2 H1 ls locs1 hl hP1 hD1 hS1
    · exact ha.elim
  · exact ha.elim
theorem am_s_zald (hd : decode cc pc = .ok (.baload, 1)) : am_Snd En cc nL own d w pc (am_zald (pc + 1)) := by
  intro p l e R s m args below meth c Q dC dI dA A A0 cells slots Rp hC hE lo st h K ha hk H ls locs hl hP hD hS
  unfold am_zald at ha
  split at ha
  · rename_i i a r
    split at ha
    · rename_i N f ea
      exact va_zald hC.1 hC.2.1 hC.2.2.2.2.2.1 hP a 2 (am_c_at ea) rfl ha.1 hd (hk _ _ _ _ ha.2 H ls locs hl hP hD hS)
    · exact ha.elim
  · exact ha.elim
theorem am_s_zast (hd : decode cc pc = .ok (.bastore, 1)) : am_Snd En cc nL own d w pc (am_zast (pc + 1)) := by
  intro p l e R s m args below meth c Q dC dI dA A A0 cells slots Rp hC hE lo st h K ha hk H ls locs hl hP hD hS
  unfold am_zast at ha
  split at ha
  · rename_i x i a r
    split at ha
    · rename_i N f ea
      refine va_zast hC.1 hC.2.1 hC.2.2.2.2.2.1 hP hD hS a 2 (am_c_at ea) rfl ha.1 hd (fun H1 locs1 hP1 hD1 hS1 => ?_)
      have hP1 : va_P (dC, dI) vwCl (am_c dA A 0 (h.set a (.inl (2, N, .inl (upd f i.toNatClampNeg (vp_nar .boolean x)))))) H1 := by rw [← am_c_put (x := .inl (2, N, .inl (upd f i.toNatClampNeg (vp_nar .boolean x)))) rfl]; exact hP1
      have hD1 : va_D A0 (am_c dA A 0 (h.set a (.inl (2, N, .inl (upd f i.toNatClampNeg (vp_nar .boolean x)))))) := by rw [← am_c_put (x := .inl (2, N, .inl (upd f i.toNatClampNeg (vp_nar .boolean x)))) rfl]; exact hD1
      exact hk _ _ _ _ ha.2 H1 ls locs1 hl hP1 hD1 hS1
    · exact ha.elim
  · exact ha.elim
theorem am_s_lald (hd : decode cc pc = .ok (.laload, 1)) : am_Snd En cc nL own d w pc (am_lald (pc + 1)) := by
  intro p l e R s m args below meth c Q dC dI dA A A0 cells slots Rp hC hE lo st h K ha hk H ls locs hl hP hD hS
  unfold am_lald at ha
  split at ha
  · rename_i i a r
    split at ha
    · rename_i N f ea
      exact va_lald hC.1 hC.2.1 hC.2.2.2.2.2.1 hP a 1 (am_c_at ea) rfl ha.1 hd (hk _ _ _ _ ha.2 H ls locs hl hP hD hS)
    · exact ha.elim
  · exact ha.elim
theorem am_s_last (hd : decode cc pc = .ok (.lastore, 1)) : am_Snd En cc nL own d w pc (am_last (pc + 1)) := by
  intro p l e R s m args below meth c Q dC dI dA A A0 cells slots Rp hC hE lo st h K ha hk H ls locs hl hP hD hS
  unfold am_last at ha
  split at ha
  · rename_i x i a r
    split at ha
    · rename_i N f ea
      refine va_last hC.1 hC.2.1 hC.2.2.2.2.2.1 hP hD hS a 1 (am_c_at ea) rfl ha.1 hd (fun H1 locs1 hP1 hD1 hS1 => ?_)
      have hP1 : va_P (dC, dI) vwCl (am_c dA A 0 (h.set a (.inl (1, N, .inr (.inl (vp_updL f i.toNatClampNeg x)))))) H1 := by rw [← am_c_put (x := .inl (1, N, .inr (.inl (vp_updL f i.toNatClampNeg x)))) rfl]; exact hP1
      have hD1 : va_D A0 (am_c dA A 0 (h.set a (.inl (1, N, .inr (.inl (vp_updL f i.toNatClampNeg x)))))) := by rw [← am_c_put (x := .inl (1, N, .inr (.inl (vp_updL f i.toNatClampNeg x)))) rfl]; exact hD1
      exact hk _ _ _ _ ha.2 H1 ls locs1 hl hP1 hD1 hS1
    · exact ha.elim
  · exact ha.elim
theorem am_s_alen (hd : decode cc pc = .ok (.arraylength, 1)) : am_Snd En cc nL own d w pc (am_alen (pc + 1)) := by
  intro p l e R s m args below meth c Q dC dI dA A A0 cells slots Rp hC hE lo st h K ha hk H ls locs hl hP hD hS
  unfold am_alen at ha
  split at ha
  · rename_i a r
    split at ha
    · rename_i t N y ea
      obtain ⟨ht, ha⟩ := ha
      rcases (show t = 0 ∨ t = 1 ∨ t = 2 by omega) with rfl | rfl | rfl
      · exact va_alen hC.1 hC.2.1 hC.2.2.2.2.2.1 hP a 0 (am_c_at ea) rfl rfl hd (hk _ _ _ _ ha H ls locs hl hP hD hS)
      · exact va_alen hC.1 hC.2.1 hC.2.2.2.2.2.1 hP a 1 (am_c_at ea) rfl rfl hd (hk _ _ _ _ ha H ls locs hl hP hD hS)
      · exact va_alen hC.1 hC.2.1 hC.2.2.2.2.2.1 hP a 2 (am_c_at ea) rfl rfl hd (hk _ _ _ _ ha H ls locs hl hP hD hS)
    · exact ha.elim
  · exact ha.elim
theorem am_s_sld {t N : Nat} {f : Nat → Int32} (hT : ∀ A A0 s, En A A0 s → va_T .int (A t) N (fun j => .int (f j)) A0 s s.heap) (hd : decode cc pc = .ok (.iaload, 1)) : am_Snd En cc nL own d w pc (am_sld t N f (pc + 1)) := by
  intro p l e R s m args below meth c Q dC dI dA A A0 cells slots Rp hC hE lo st h K ha hk H ls locs hl hP hD hS
  unfold am_sld at ha
  split at ha
  · rename_i i a r
    obtain ⟨⟨rfl, hi⟩, ha⟩ := ha
    exact va_ti hC.1 hC.2.1 (hT _ _ _ hC.2.2.2.2.2.2.2.1) hS hi rfl hd (hk _ _ _ _ ha H ls locs hl hP hD hS)
  · exact ha.elim
theorem am_s_slen {t N : Nat} {f : Nat → Int32} (hT : ∀ A A0 s, En A A0 s → va_T .int (A t) N (fun j => .int (f j)) A0 s s.heap) (hd : decode cc pc = .ok (.arraylength, 1)) : am_Snd En cc nL own d w pc (am_slen t N (pc + 1)) := by
  intro p l e R s m args below meth c Q dC dI dA A A0 cells slots Rp hC hE lo st h K ha hk H ls locs hl hP hD hS
  unfold am_slen at ha
  split at ha
  · rename_i a r
    obtain ⟨rfl, ha⟩ := ha
    exact va_tlen hC.1 hC.2.1 (hT _ _ _ hC.2.2.2.2.2.2.2.1) hS rfl hd (hk _ _ _ _ ha H ls locs hl hP hD hS)
  · exact ha.elim
theorem am_s_gets {t index : Nat} {C n ds : String} (hZ : ∀ A A0 s, En A A0 s → va_Z C n ds (.ref (A t)) A0 s s.heap) (hlink : Cond.fieldLink own index C n ds ∈ lw_good) (hd : decode cc pc = .ok (.getstatic index, 3)) : am_Snd En cc nL own d w pc (am_push (.ref t) (pc + 3)) := by
  intro p l e R s m args below meth c Q dC dI dA A A0 cells slots Rp hC hE lo st h K ha hk H ls locs hl hP hD hS
  exact va_gets hC.1 hC.2.1 (hZ _ _ _ hC.2.2.2.2.2.2.2.1) hS hC.2.2.2.1 (hC.2.2.2.2.1 _ hlink) (fun _ z => z) hd (hk _ _ _ _ ha H ls locs hl hP hD hS)
theorem am_s_iret (hd : decode cc pc = .ok (.ireturn, 1)) : am_Snd En cc nL own d w pc am_iret := by
  intro p l e R s m args below meth c Q dC dI dA A A0 cells slots Rp hC hE lo st h K ha hk H ls locs hl hP hD hS
  unfold am_iret at ha
  split at ha
  · exact hE.1 _ h H locs ls pc ha hP hD hS hd
  · exact ha.elim
theorem am_s_throw {k : Nat} (ht : am_thr cc own k pc) : am_Snd En cc nL own d w pc (am_throw k) := by
  intro p l e R s m args below meth c Q dC dI dA A A0 cells slots Rp hC hE lo st h K ha hk H ls locs hl hP hD hS
  unfold am_throw at ha
  split at ha
  · exact hE.2.2.2 k h H locs ls pc ha hl.1 hP hD hS ht
  · exact ha.elim
theorem am_s_lret (hd : decode cc pc = .ok (.lreturn, 1)) : am_Snd En cc nL own d w pc am_lret := by
  intro p l e R s m args below meth c Q dC dI dA A A0 cells slots Rp hC hE lo st h K ha hk H ls locs hl hP hD hS
  unfold am_lret at ha
  split at ha
  · exact hE.2.1 _ h H locs ls pc ha hP hD hS hd
  · exact ha.elim
theorem am_s_vret (hd : decode cc pc = .ok (.return_, 1)) : am_Snd En cc nL own d w pc am_vret := by
  intro p l e R s m args below meth c Q dC dI dA A A0 cells slots Rp hC hE lo st h K ha hk H ls locs hl hP hD hS
  unfold am_vret at ha
  split at ha
  · exact hE.2.2.1 h H locs ls pc ha hP hD hS hd
  · exact ha.elim
end SND
/-! ## calls and contracts -/
def am_rm (d w : Nat) : Room := { frames := d, cells := 0, slots := 0, locals := w }
def am_ws (y : MethodName) (b : ByteArray) (maxL : Nat) (ret : Option FieldType) : List Cond := .code y b maxL ret :: lw_good
def am_Q (dC : Nat → ClassId) (dI : Nat → Nat → Nat) (dA : Nat → ClassId) (A : Nat → Nat) (Rp : am_P) (ws0 : va_W) (sz : Nat) : Array Value → State → Outcome → State → Prop := fun _ st oc t =>
  (∃ (v : Option Value) (h' : am_H), oc = .returned (v.map (am_v A)) ∧ Rp (.inr v) h' ∧ va_P (dC, dI) vwCl (am_c dA A 0 h') t.heap ∧ va_K (dC, dI) vwCl (am_tys dA) t ∧ va_D (va_A ws0 sz) (am_c dA A 0 h')) ∧ va_F (va_A ws0 sz) st t
def am_B (dC : Nat → ClassId) (dI : Nat → Nat → Nat) (dA : Nat → ClassId) (A : Nat → Nat) (h : am_H) (sz : Nat) (U : State) : Prop :=
  U.heap.size = sz ∧ va_P (dC, dI) vwCl (am_c dA A 0 h) U.heap ∧ va_K (dC, dI) vwCl (am_tys dA) U ∧ va_D (fun _ => True) (am_c dA A 0 h) ∧ am_En A (va_A (am_c dA A 0 h) sz) U
def am_Met (y : MethodName) (b : ByteArray) (maxL : Nat) (ret : Option FieldType) (d w : Nat) (M : am_M) : Prop :=
  ∀ (l : Launch) (dC : Nat → ClassId) (dI : Nat → Nat → Nat) (dA : Nat → ClassId) (A : Nat → Nat) (h : am_H) (as : List Value) (Rp : am_P) (sz : Nat), M as h Rp →
    Met l y (am_ws y b maxL ret) (am_rm d w) (va_Pc (as.map (am_v A)) (am_B dC dI dA A h sz)) (am_Q dC dI dA A Rp (am_c dA A 0 h) sz) 0 0 (va_A (am_c dA A 0 h) sz)
theorem am_cut_spec : ∀ (n : Nat) (acc st as r : List Value), am_cut n acc st = some (as, r) → ∃ pre : List Value, st = pre ++ r ∧ as = pre.reverse ++ acc ∧ pre.length = n
  | 0, acc, st, as, r, h => by
    simp only [am_cut, Option.some.injEq, Prod.mk.injEq] at h
    exact ⟨[], by simp [h.2], by simp [h.1], rfl⟩
  | n + 1, acc, [], as, r, h => by simp [am_cut] at h
  | n + 1, acc, v :: st, as, r, h => by
    obtain ⟨pre, h1, h2, h3⟩ := am_cut_spec n (v :: acc) st as r (by simpa [am_cut] using h)
    exact ⟨v :: pre, by simp [h1], by simp [h2], by simp [h3]⟩
theorem am_cat_sum (A : Nat → Nat) (r : List Value) : ((r.map (am_v A)).map fun v => v.category).sum = (r.map fun v => v.category).sum := by
  induction r with
  | nil => rfl
  | cons v t ih => simp only [List.map_cons, List.sum_cons, am_v_cat, ih]
theorem am_good {w : Cond} (h : w ∈ lw_good) : (w.onTables && w.keeps) = true ∨ ∃ ty, w = .arrayClass ty := good_of_word (List.mem_filter.mp h).2
theorem am_goodIn {y : MethodName} {b : ByteArray} {maxL : Nat} {ret : Option FieldType} (h : Cond.code y b maxL ret ∈ lw_good) : GoodIn lw_good (am_ws y b maxL ret) := by
  intro w hw
  have hm : w ∈ lw_good := by
    rcases List.mem_cons.mp hw with rfl | hw
    · exact h
    · exact hw
  exact ⟨hm, am_good hm⟩
theorem am_B_blind (dC : Nat → ClassId) (dI : Nat → Nat → Nat) (dA : Nat → ClassId) (A : Nat → Nat) (h : am_H) (sz : Nat) (as : List Value) : FrameBlind (va_Pc as (am_B dC dI dA A h sz)) := by
  intro a U g mk q
  obtain ⟨q0, q1, qP, qK, qD, qE⟩ := q
  exact ⟨q0, q1, qP, va_K.moved (u := U) (U := U.calling g mk a) (Vm.Alike.refl U.vm) qK, qD, am_En.same (u := U) (U := U.calling g mk a) rfl rfl qE⟩
section CALL
variable {En : (Nat → Nat) → (Nat → Prop) → State → Prop} {cc : ByteArray} {nL d w pc : Nat} {own : String}
variable {p : Program} {l : Launch} {e : Env} {R : Room} {s : State} {m : MethodId} {args : Array Value} {below : List Frame} {meth : Method} {c : Code} {Q : State → Prop} {dC : Nat → ClassId} {dI : Nat → Nat → Nat} {dA : Nat → ClassId} {A : Nat → Nat} {A0 : Nat → Prop} {cells slots : Nat}
theorem am_free {h : am_H} {H : Heap} {locs : List Loc} (hD : va_D A0 (am_c dA A 0 h)) (hS : va_S A0 s.heap H locs) (hA : ∀ q, s.heap.size ≤ q → A0 q) : ∀ q, va_A (am_c dA A 0 h) H.size q → A0 q := by
  intro q hq
  rcases hq with ⟨k, x, hk⟩ | hq
  · exact hD.2 k _ hk
  · exact hA q (Nat.le_trans hS.1 hq)
theorem am_pre_call {h : am_H} {H : Heap} {locs : List Loc} {as : List Value} (hEn : ∀ A A0 s, En A A0 s → am_En A A0 s) (hC : am_C En cc nL own d w p R s m args c dC dI dA A A0 cells slots) (hP : va_P (dC, dI) vwCl (am_c dA A 0 h) H) (hD : va_D A0 (am_c dA A 0 h)) (hS : va_S A0 s.heap H locs) :
    ∀ U : State, U.heap = H → s.WarmedH U.vm → va_Pc as (am_B dC dI dA A h H.size) as.toArray U := by
  intro U hU hW
  refine ⟨rfl, by rw [hU], by rw [hU]; exact hP, va_K.moved hW.alike hC.2.2.2.2.2.1, hD.weaken (fun _ _ _ _ => trivial), ?_⟩
  exact am_En.call (hEn _ _ _ hC.2.2.2.2.2.2.2.1) hW (by rw [hU]; exact hS) (am_free hD hS hC.2.2.2.2.2.2.1)
/-- behind a call -/
theorem am_behind {h : am_H} {H : Heap} {locs : List Loc} {ls : Array Slot} {lo : am_L} {r st0 : List Value} {M' : am_K} {a : Array Value} (hC : am_C En cc nL own d w p R s m args c dC dI dA A A0 cells slots)
    (hr : va_Run p l e R s m args below meth c H locs cells slots 0 0 (F0 m pc ls st0) (r.map (am_v A)) (am_Q dC dI dA A (am_on (pc + 3) lo r M') (am_c dA A 0 h) H.size a) (va_A (am_c dA A 0 h) H.size)) (hl : lv_has ls nL (am_lv A 0 lo)) (hD : va_D A0 (am_c dA A 0 h)) (hS : va_S A0 s.heap H locs)
    (hk : ∀ pc' lo' st' h', M' pc' lo' st' h' → am_W p l e R s m args below meth c Q nL dC dI dA A A0 cells slots pc' lo' st' h') : W p l e R s m args below meth c H locs cells slots Q (F0 m pc ls st0) := by
  have hA := am_free hD hS hC.2.2.2.2.2.2.1
  intro T hT X
  obtain ⟨v0, st₀, t, T', L, h0, X', hL, e1, e2, ⟨⟨v, h', hv, hp, hP1, hK1, hD1⟩, hz, hk1⟩, st⟩ := hr T hT X
  cases hv
  rw [h0] at hz hk1
  have hS' : va_S A0 s.heap T'.heap (locs ++ L) := ⟨Nat.le_trans hS.1 (by rw [e1]; exact hz), fun q h1 h2 => by rw [e1, hk1 q (Nat.lt_of_lt_of_le h1 hS.1) (fun z => h2 (hA q z))]; exact hS.2.1 q h1 h2, fun q hq => by
      rcases List.mem_append.mp hq with h | h
      · exact hS.2.2 q h
      · exact hA _ (hL q h)⟩
  obtain ⟨t2, a1, b1⟩ := hk _ _ _ _ hp T'.heap ls (locs ++ L) hl (by rw [e1]; exact hP1) (hD1.weaken (fun _ q _ z => hA q.1 z)) hS' T' rfl X'
  refine ⟨t2, st t2 ?_, b1⟩
  have es : (v.toList ++ r).map (am_v A) = (v.map (am_v A)).toList ++ r.map (am_v A) := by cases v <;> simp
  rw [es] at a1
  exact a1
theorem am_s_callS {M : am_M} {d' w' index np maxL : Nat} {y : MethodName} {b : ByteArray} {ret : Option FieldType} (hEn : ∀ A A0 s, En A A0 s → am_En A A0 s) (hM : am_Met y b maxL ret d' w' M) (hd' : d' < d) (hmx : 19 + maxL + w' ≤ w) (hcode : Cond.code y b maxL ret ∈ lw_good) (hini : Cond.initialized y.cls ∈ lw_good) (hlink : Cond.methodLink own index y ∈ lw_good) (hst : Cond.static y ∈ lw_good)
    (hdesc : y.cls ≠ "java/lang/invoke/MethodHandle" ∧ y.cls ≠ "java/lang/invoke/VarHandle" ∧ (parseMethodDescriptor y.desc).map (fun d => d.parameters.length) = some np) (hdg : decode cc pc = .ok (.invokestatic index, 3)) : am_Snd En cc nL own d w pc (am_callS M np (pc + 3)) := by
  intro p l e R s m args below meth c Q dC dI dA A A0 cells slots Rp hC hE lo st h K ha hk H ls locs hl hP hD hS
  unfold am_callS at ha
  split at ha
  · rename_i as r hcut
    obtain ⟨pre, h1, h2, h3⟩ := am_cut_spec _ _ _ _ _ hcut
    rw [List.append_nil] at h2
    obtain ⟨hx, hb, hml, hown, hts, hK, hA, hEnv, hf, hlo, hcl, hsl⟩ := id hC
    have cb : CallB R s args own index y b maxL ret (am_ws y b maxL ret) (am_rm d' w') 0 0 np := callB_of np hts (am_goodIn hcode) rfl rfl rfl (hts _ hini) (hts _ hlink) hdesc ⟨by show d' + 1 ≤ R.frames; omega, by show 8 + (maxL + 11) + w' ≤ R.locals; omega⟩
    exact am_behind hC (va_runS (As := as.map (am_v A)) (rest := r.map (am_v A)) ⟨hx, hb, hml, hown, hts⟩ (hM l dC dI dA A h as _ H.size ha.2) ⟨cb, hts _ hst⟩ ⟨am_B_blind dC dI dA A h H.size _, am_pre_call hEn hC hP hD hS⟩ rfl (by rw [List.length_map, h2, List.length_reverse, h3]) hl.1 (by show st.map (am_v A) = _; rw [h1, h2, List.map_append, List.map_reverse, List.reverse_reverse]) (lv_room (by rw [am_cat_sum]; exact ha.1)) hdg ⟨hcl, hsl⟩) hl hD hS hk
  · exact ha.elim
theorem am_s_callSN {M : am_M} {d' w' index np maxL : Nat} {y : MethodName} {b : ByteArray} {ret : Option FieldType} {host : String} (hEn : ∀ A A0 s, En A A0 s → am_En A A0 s) (hM : am_Met y b maxL ret d' w' M) (hd' : d' < d) (hmx : 19 + maxL + w' ≤ w) (hcode : Cond.code y b maxL ret ∈ lw_good) (hini : Cond.initialized y.cls ∈ lw_good) (hlink : Cond.methodLinkNest own index y host ∈ lw_nest) (hst : Cond.static y ∈ lw_good)
    (hdesc : y.cls ≠ "java/lang/invoke/MethodHandle" ∧ y.cls ≠ "java/lang/invoke/VarHandle" ∧ (parseMethodDescriptor y.desc).map (fun d => d.parameters.length) = some np) (hdg : decode cc pc = .ok (.invokestatic index, 3)) : am_Snd En cc nL own d w pc (am_callS M np (pc + 3)) := by
  intro p l e R s m args below meth c Q dC dI dA A A0 cells slots Rp hC hE lo st h K ha hk H ls locs hl hP hD hS
  unfold am_callS at ha
  split at ha
  · rename_i as r hcut
    obtain ⟨pre, h1, h2, h3⟩ := am_cut_spec _ _ _ _ _ hcut
    rw [List.append_nil] at h2
    obtain ⟨hx, hb, hml, hown, hts, hK, hA, hEnv, hf, hlo, hcl, hsl⟩ := id hC
    have cb : va_CN R s args own index y host b maxL ret (am_ws y b maxL ret) (am_rm d' w') 0 0 np := va_cnB np hts (am_goodIn hcode) rfl rfl rfl ((hEn _ _ _ hEnv).1 _ hlink) (hts _ hini) hdesc ⟨by show d' + 1 ≤ R.frames; omega, by show 8 + (maxL + 11) + w' ≤ R.locals; omega⟩
    exact am_behind hC (va_runSN (As := as.map (am_v A)) (rest := r.map (am_v A)) ⟨hx, hb, hml, hown, hts⟩ (hM l dC dI dA A h as _ H.size ha.2) ⟨cb, hts _ hst, trivial⟩ ⟨am_B_blind dC dI dA A h H.size _, am_pre_call hEn hC hP hD hS⟩ rfl (by rw [List.length_map, h2, List.length_reverse, h3]) hl.1 (by show st.map (am_v A) = _; rw [h1, h2, List.map_append, List.map_reverse, List.reverse_reverse]) (lv_room (by rw [am_cat_sum]; exact ha.1)) hdg ⟨hcl, hsl⟩) hl hD hS hk
  · exact ha.elim
theorem am_s_callV {M : am_M} {ci d' w' index np maxL N : Nat} {T : u_T} {y : MethodName} {b : ByteArray} {ret : Option FieldType} (hEn : ∀ A A0 s, En A A0 s → am_En A A0 s) (hc : vwCl[ci]? = some (y.cls, T, N)) (hM : am_Met y b maxL ret d' w' M) (hd' : d' < d) (hmx : 19 + maxL + w' ≤ w) (hcode : Cond.code y b maxL ret ∈ lw_good) (hini : Cond.initialized y.cls ∈ lw_good) (hlink : Cond.methodLink own index y ∈ lw_good) (hin : Cond.instanceMethod y ∈ lw_good) (hse : Cond.selects y.cls y y ∈ lw_good)
    (hdesc : y.cls ≠ "java/lang/invoke/MethodHandle" ∧ y.cls ≠ "java/lang/invoke/VarHandle" ∧ (parseMethodDescriptor y.desc).map (fun d => d.parameters.length) = some np) (hdg : decode cc pc = .ok (.invokevirtual index, 3)) : am_Snd En cc nL own d w pc (am_callV M ci np (pc + 3)) := by
  intro p l e R s m args below meth c Q dC dI dA A A0 cells slots Rp hC hE lo st h K ha hk H ls locs hl hP hD hS
  unfold am_callV at ha
  split at ha
  · rename_i a as r hcut
    obtain ⟨pre, h1, h2, h3⟩ := am_cut_spec _ _ _ _ _ hcut
    rw [List.append_nil] at h2
    obtain ⟨hx, hb, hml, hown, hts, hK, hA, hEnv, hf, hlo, hcl, hsl⟩ := id hC
    obtain ⟨⟨hroom, hrecv⟩, ha⟩ := ha
    split at hrecv
    · rename_i cj fs ea
      subst hrecv
      have cb : CallB R s args own index y b maxL ret (am_ws y b maxL ret) (am_rm d' w') 0 0 np := callB_of np hts (am_goodIn hcode) rfl rfl rfl (hts _ hini) (hts _ hlink) hdesc ⟨by show d' + 1 ≤ R.frames; omega, by show 8 + (maxL + 11) + w' ≤ R.locals; omega⟩
      have hst : st = as.reverse ++ .ref a :: r := by
        have : pre = (Value.ref a :: as).reverse := by rw [h2, List.reverse_reverse]
        rw [h1, this]; simp
      exact am_behind hC (va_runV (C := y.cls) (b := A a) (As := as.map (am_v A)) (rest := r.map (am_v A)) ⟨hx, hb, hml, hown, hts⟩ (hM l dC dI dA A h (.ref a :: as) _ H.size ha) ⟨cb, hts _ hin, hts _ hse⟩ ⟨am_B_blind dC dI dA A h H.size _, va_recv hK hP hc (am_c_at ea), am_pre_call hEn hC hP hD hS⟩ rfl (by rw [List.length_map]; have := congrArg List.length h2; simp at this; omega) hl.1 (by show st.map (am_v A) = _; rw [hst, List.map_append, List.map_reverse]; rfl) (lv_room (by rw [am_cat_sum]; exact hroom)) hdg ⟨hcl, hsl⟩) hl hD hS hk
    · exact hrecv.elim
  · exact ha.elim
theorem am_s_callVN {M : am_M} {ci d' w' index np maxL N : Nat} {T : u_T} {y : MethodName} {b : ByteArray} {ret : Option FieldType} {host : String} (hEn : ∀ A A0 s, En A A0 s → am_En A A0 s) (hc : vwCl[ci]? = some (y.cls, T, N)) (hM : am_Met y b maxL ret d' w' M) (hd' : d' < d) (hmx : 19 + maxL + w' ≤ w) (hcode : Cond.code y b maxL ret ∈ lw_good) (hini : Cond.initialized y.cls ∈ lw_good) (hlink : Cond.methodLinkNest own index y host ∈ lw_nest) (hin : Cond.instanceMethod y ∈ lw_good) (hse : Cond.selects y.cls y y ∈ lw_good)
    (hdesc : y.cls ≠ "java/lang/invoke/MethodHandle" ∧ y.cls ≠ "java/lang/invoke/VarHandle" ∧ (parseMethodDescriptor y.desc).map (fun d => d.parameters.length) = some np) (hdg : decode cc pc = .ok (.invokevirtual index, 3)) : am_Snd En cc nL own d w pc (am_callV M ci np (pc + 3)) := by
  intro p l e R s m args below meth c Q dC dI dA A A0 cells slots Rp hC hE lo st h K ha hk H ls locs hl hP hD hS
  unfold am_callV at ha
  split at ha
  · rename_i a as r hcut
    obtain ⟨pre, h1, h2, h3⟩ := am_cut_spec _ _ _ _ _ hcut
    rw [List.append_nil] at h2
    obtain ⟨hx, hb, hml, hown, hts, hK, hA, hEnv, hf, hlo, hcl, hsl⟩ := id hC
    obtain ⟨⟨hroom, hrecv⟩, ha⟩ := ha
    split at hrecv
    · rename_i cj fs ea
      subst hrecv
      have cb : va_CN R s args own index y host b maxL ret (am_ws y b maxL ret) (am_rm d' w') 0 0 np := va_cnB np hts (am_goodIn hcode) rfl rfl rfl ((hEn _ _ _ hEnv).1 _ hlink) (hts _ hini) hdesc ⟨by show d' + 1 ≤ R.frames; omega, by show 8 + (maxL + 11) + w' ≤ R.locals; omega⟩
      have hst : st = as.reverse ++ .ref a :: r := by
        have : pre = (Value.ref a :: as).reverse := by rw [h2, List.reverse_reverse]
        rw [h1, this]; simp
      exact am_behind hC (va_runVN (C := y.cls) (b := A a) (As := as.map (am_v A)) (rest := r.map (am_v A)) ⟨hx, hb, hml, hown, hts⟩ (hM l dC dI dA A h (.ref a :: as) _ H.size ha) ⟨cb, hts _ hin, hts _ hse⟩ ⟨am_B_blind dC dI dA A h H.size _, va_recv hK hP hc (am_c_at ea), am_pre_call hEn hC hP hD hS⟩ rfl (by rw [List.length_map]; have := congrArg List.length h2; simp at this; omega) hl.1 (by show st.map (am_v A) = _; rw [hst, List.map_append, List.map_reverse]; rfl) (lv_room (by rw [am_cat_sum]; exact hroom)) hdg ⟨hcl, hsl⟩) hl hD hS hk
    · exact hrecv.elim
  · exact ha.elim
end CALL
/-! ## a method's contract out of its table -/
def am_fitL (as : List Value) (n : Nat) : Prop := (lg_sl as).length ≤ n
theorem am_l0_args (A : Nat → Nat) : ∀ (as : List Value) (n : Nat) (i : Nat) (q : Nat × Value), q ∈ am_lv A i (am_l0 as n) → q ∈ lv_args i (as.map (am_v A))
  | [], n, i, q, h => by
    obtain ⟨j, v, h1, h2⟩ := (am_lv_mem A q _ i).mp h
    have := List.eq_of_mem_replicate (List.mem_of_getElem? h1)
    cases this
  | v :: vs, n, i, q, h => by
    by_cases hc : v.category = 2
    · simp only [am_l0, hc, if_true, am_lv, List.mem_cons] at h
      simp only [List.map_cons, lv_args, am_v_cat, hc, if_true, List.mem_cons]
      rcases h with h | h
      · exact Or.inl h
      · exact Or.inr (am_l0_args A vs (n - 2) (i + 2) q h)
    · simp only [am_l0, hc, if_false, am_lv, List.mem_cons] at h
      simp only [List.map_cons, lv_args, am_v_cat, hc, if_false, List.mem_cons]
      rcases h with h | h
      · exact Or.inl h
      · exact Or.inr (am_l0_args A vs (n - 1) (i + 1) q h)
theorem am_sl_len (A : Nat → Nat) (as : List Value) : (lg_sl (as.map (am_v A))).length = (lg_sl as).length := by
  induction as with
  | nil => rfl
  | cons v t ih =>
    simp only [lg_sl, List.map_cons, List.flatMap_cons, List.length_append, am_v_cat] at ih ⊢
    rw [ih]
    congr 1
    by_cases hc : v.category = 2 <;> simp [hc]
def am_ok (ret : Option FieldType) (o : am_O) : Prop := match ret, o with
  | none, .inr none => True
  | some .int, .inr (some (.int _)) => True
  | some .long, .inr (some (.long _)) => True
  | some .boolean, .inr (some (.int x)) => narrow .boolean (.int x) = .int x
  | _, _ => False
/-- the meaning of a method that its table has -/
def am_Mof (acts : Nat → am_A) (maxL : Nat) (ret : Option FieldType) : am_M := fun as h Rp => (lg_sl as).length ≤ maxL ∧ am_Wp acts (fun o h' => am_ok ret o ∧ Rp o h') 0 (am_l0 as maxL) [] h
set_option maxHeartbeats 1000000 in
theorem am_met {y : MethodName} {b : ByteArray} {maxL d w : Nat} {ret : Option FieldType} {acts : Nat → am_A} (hy : plainFor y = true) (hs : ∀ pc, am_Snd am_En b maxL y.cls d w pc (acts pc)) : am_Met y b maxL ret d w (am_Mof acts maxL ret) := by
  intro l dC dI dA A h as Rp sz hM
  obtain ⟨hfit, hM⟩ := hM
  refine va_MetF (cc := b) (maxL := maxL) (ret := ret) hy rfl ?_
  intro p e s m args below meth c s₁ B hml hpc
  obtain ⟨rfl, hsz, hP, hK, hD, hE⟩ := hpc
  subst hsz
  have hts : ∀ w ∈ am_ws y b maxL ret, w.before (as.map (am_v A)).toArray s = true := atoms_spec (ws := am_ws y b maxL ret) B.pre
  have hown : s.vm.findClass y.cls = some m.cls := findClass_of_methodNamed B.named
  have hr : meth.sig.returnType = ret := B.returns
  have hlk : meth.locks = false := B.notSynchronized
  have hx := B.exec
  have hb := B.bytes
  have hC : am_C am_En b maxL y.cls d w p (headSpec (am_ws y b maxL ret) (am_rm d w)).room s m (as.map (am_v A)).toArray c dC dI dA A (va_A (am_c dA A 0 h) s.heap.size) 0 0 :=
    ⟨hx, hb, hml, hown, fun w hw => hts w (List.mem_cons_of_mem _ hw), hK, fun q hq => Or.inr hq, hE, Nat.le_refl _, Nat.le_refl _, Nat.le_refl _, Nat.le_refl _⟩
  have hEnd : am_End y.cls b p l e (headSpec (am_ws y b maxL ret) (am_rm d w)).room s m (as.map (am_v A)).toArray below meth c (MQ below (am_Q dC dI dA A Rp (am_c dA A 0 h) s.heap.size) (as.map (am_v A)).toArray s 0 0 (va_A (am_c dA A 0 h) s.heap.size)) maxL dC dI dA A (va_A (am_c dA A 0 h) s.heap.size) 0 0 (fun o h' => am_ok ret o ∧ Rp o h') := by
    refine ⟨fun x h' H locs ls pc hR hP' hD' hS' hd => ?_, fun x h' H locs ls pc hR hP' hD' hS' hd => ?_, fun h' H locs ls pc hR hP' hD' hS' hd => ?_, fun k h' H locs ls pc hR => ?_⟩
    · obtain ⟨hok, hR⟩ := hR
      have hq : ∀ t : State, t.heap = H → s.WarmedH t.vm → am_Q dC dI dA A Rp (am_c dA A 0 h) s.heap.size (as.map (am_v A)).toArray s (.returned (some (.int x))) t := fun t ht hW => ⟨⟨some (.int x), h', rfl, hR, by rw [ht]; exact hP', va_K.moved hW.alike hK, hD'⟩, hS'.F ht⟩
      cases ret with
      | none => exact hok.elim
      | some ty => cases ty <;> first | exact hok.elim | exact W.iret hx hb hr hq hS'.2.2 hd hlk | exact W.zret hx hb hr hok hq hS'.2.2 hd hlk
    · obtain ⟨hok, hR⟩ := hR
      have hq : ∀ t : State, t.heap = H → s.WarmedH t.vm → am_Q dC dI dA A Rp (am_c dA A 0 h) s.heap.size (as.map (am_v A)).toArray s (.returned (some (.long x))) t := fun t ht hW => ⟨⟨some (.long x), h', rfl, hR, by rw [ht]; exact hP', va_K.moved hW.alike hK, hD'⟩, hS'.F ht⟩
      cases ret with
      | none => exact hok.elim
      | some ty => cases ty <;> first | exact hok.elim | exact W.lret hx hb hr hq hS'.2.2 hd hlk
    · obtain ⟨hok, hR⟩ := hR
      have hq : ∀ t : State, t.heap = H → s.WarmedH t.vm → am_Q dC dI dA A Rp (am_c dA A 0 h) s.heap.size (as.map (am_v A)).toArray s (.returned none) t := fun t ht hW => ⟨⟨none, h', rfl, hR, by rw [ht]; exact hP', va_K.moved hW.alike hK, hD'⟩, hS'.F ht⟩
      cases ret with
      | none => exact W.vret hx hb hr hq hS'.2.2 hd hlk
      | some ty => cases ty <;> exact hok.elim
    · exact (by have h0 := hR.1; cases ret with
        | none => exact h0.elim
        | some ty => cases ty <;> exact h0.elim)
  have key := hM (am_W p l e (headSpec (am_ws y b maxL ret) (am_rm d w)).room s m (as.map (am_v A)).toArray below meth c (MQ below (am_Q dC dI dA A Rp (am_c dA A 0 h) s.heap.size) (as.map (am_v A)).toArray s 0 0 (va_A (am_c dA A 0 h) s.heap.size)) maxL dC dI dA A (va_A (am_c dA A 0 h) s.heap.size) 0 0)
    (fun pc lo st h K ha hk => hs pc p l e _ s m _ below meth c _ dC dI dA A _ 0 0 _ hC hEnd lo st h K ha hk)
    (fun pc lo lo' st h hle hk H ls locs hl hP hD hS => hk H ls locs (am_lv_more hl (am_le_lv hle)) hP hD hS)
  rw [lg_entry_eq]
  exact key s.heap _ [] (am_lv_more (lv_entry _ (by rw [am_sl_len]; exact hfit)) (fun q hq => am_l0_args A as maxL 0 q hq)) hP hD.self va_S.rf
