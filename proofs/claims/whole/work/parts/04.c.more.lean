/-! more instructions; trees of instructions -/
section MORE
variable {En : (Nat → Nat) → (Nat → Prop) → State → Prop} {cc : ByteArray} {nL d w pc : Nat} {own : String}
theorem am_node {P : am_A → Prop} {b : Bool} {x y : am_A} (hx : P x) (hy : P y) : P (cond b x y) := by cases b <;> assumption
theorem am_leaf {k : Nat} {a : am_A} (h : am_Snd En cc nL own d w k a) : am_Snd En cc nL own d w pc (cond (Nat.beq pc k) a am_stuck) := by
  cases hb : Nat.beq pc k with
  | false => exact am_s_stuck
  | true =>
    have e := Nat.eq_of_beq_eq_true hb
    subst e
    exact h
/-- System.arraycopy between two arrays of ints -/
def am_copy (n : Nat) : am_A := fun lo st h K _ => match st with
  | .int k :: .int dp :: .ref b :: .int sp :: .ref a :: r => (match h[a]?, h[b]? with
    | some (.inl (0, n0, .inl f)), some (.inl (0, n1, .inl g)) => ((r.map fun v => v.category).sum ≤ 8 ∧ ¬ sp < 0 ∧ ¬ dp < 0 ∧ ¬ k < 0 ∧ sp.toNatClampNeg + k.toNatClampNeg ≤ n0 ∧ dp.toNatClampNeg + k.toNatClampNeg ≤ n1) ∧ K n lo r (h.set b (.inl (0, n1, .inl (va_cpy f g sp.toNatClampNeg dp.toNatClampNeg k.toNatClampNeg))))
    | _, _ => False)
  | _ => False
theorem am_s_copy {index : Nat} (hlink : Cond.methodLink own index arraycopyName ∈ lw_good) (hnat : Cond.native arraycopyName ∈ lw_good) (hst : Cond.static arraycopyName ∈ lw_good) (hini : Cond.initialized "java/lang/System" ∈ lw_good) (hd1 : 1 ≤ d) (hw1 : 8 + (nativeFrameWords "java/lang/System" "arraycopy" 5 + 11) ≤ w) (hd : decode cc pc = .ok (.invokestatic index, 3)) : am_Snd En cc nL own d w pc (am_copy (pc + 3)) := by
  intro p l e R s m args below meth c Q dC dI dA A A0 cells slots Rp hC hE lo st h K ha hk H ls locs hl hP hD hS
  obtain ⟨hx, hb, hml, hown, hts, hK, hA, hEnv, hf, hlo, hcl, hsl⟩ := id hC
  unfold am_copy at ha
  split at ha
  · rename_i k dp b sp a r
    split at ha
    · rename_i n0 f n1 g ea eb
      obtain ⟨⟨h0, h1, h2, h3, h4, h5⟩, ha⟩ := ha
      refine va_copyi hx hb (by rw [hml, hl.1]) hown (hts _ hlink) (hts _ hnat) (hts _ hst) (hts _ hini) hK hP hD hS a b 0 0 (am_c_at ea) (am_c_at eb) rfl rfl rfl h1 h2 h3 h4 h5 (fun _ _ => rfl) (by omega) (by rw [am_cat_sum]; omega) hd (fun H1 locs1 hP1 hD1 hS1 => ?_)
      have hP1 : va_P (dC, dI) vwCl (am_c dA A 0 (h.set b (.inl (0, n1, .inl (va_cpy f g sp.toNatClampNeg dp.toNatClampNeg k.toNatClampNeg))))) H1 := by rw [← am_c_put (x := .inl (0, n1, .inl (va_cpy f g sp.toNatClampNeg dp.toNatClampNeg k.toNatClampNeg))) rfl]; exact hP1
      have hD1 : va_D A0 (am_c dA A 0 (h.set b (.inl (0, n1, .inl (va_cpy f g sp.toNatClampNeg dp.toNatClampNeg k.toNatClampNeg))))) := by rw [← am_c_put (x := .inl (0, n1, .inl (va_cpy f g sp.toNatClampNeg dp.toNatClampNeg k.toNatClampNeg))) rfl]; exact hD1
      exact hk _ _ _ _ ha H1 ls locs1 hl hP1 hD1 hS1
    · exact ha.elim
  · exact ha.elim
def am_prs (pc : Nat) (ps : List (Int × Int)) : List (Int32 × Nat) := ps.map (fun q => (Int32.ofInt q.1, ((pc : Int) + q.2).toNat))
theorem am_off (pc : Nat) (x : Int32) (dflt : Int) : ∀ ps : List (Int × Int), (∀ q ∈ ps, (-2147483648 : Int) ≤ q.1 ∧ q.1 ≤ 2147483647) →
    (∃ q ∈ ps, Op.lookupswitch.offset ps dflt x.toInt = q.2 ∧ x = Int32.ofInt q.1) ∨ (Op.lookupswitch.offset ps dflt x.toInt = dflt ∧ ∀ q ∈ ps, ¬ x = Int32.ofInt q.1)
  | [], _ => Or.inr ⟨rfl, fun q h => by cases h⟩
  | (a, o) :: t, hb => by
    have hk : (Int32.ofInt a).toInt = a := by
      have := hb (a, o) List.mem_cons_self
      rw [Int32.toInt_ofInt_of_le (by simpa using this.1) (by have := this.2; omega)]
    by_cases hx : x = Int32.ofInt a
    · refine Or.inl ⟨(a, o), List.mem_cons_self, ?_, hx⟩
      rw [hx]
      simp [Op.lookupswitch.offset, hk]
    · rw [lv_osw hx hk]
      rcases am_off pc x dflt t (fun q hq => hb q (List.mem_cons_of_mem _ hq)) with ⟨q, hq, h1, h2⟩ | ⟨h1, h2⟩
      · exact Or.inl ⟨q, List.mem_cons_of_mem _ hq, h1, h2⟩
      · refine Or.inr ⟨h1, fun q hq => ?_⟩
        rcases List.mem_cons.mp hq with rfl | hq
        · exact hx
        · exact h2 q hq
theorem am_s_lookup {dflt : Int} {ps : Array (Int × Int)} {len : Nat} (t : Nat) (hd : decode cc pc = .ok (.lookupswitch dflt ps, len)) (hp : (ps.toList.zip (ps.toList.drop 1)).all (fun (a, next) => a.1 < next.1) = true) (hb : ps.toList.all (fun q => decide ((-2147483648 : Int) ≤ q.1 ∧ q.1 ≤ 2147483647 ∧ 0 ≤ (pc : Int) + q.2)) = true) (ht : (pc : Int) + dflt = (t : Int)) : am_Snd En cc nL own d w pc (am_sw (am_prs pc ps.toList) t) := by
  intro p l e R s m args below meth c Q dC dI dA A A0 cells slots Rp hC hE lo st h K ha hk H ls locs hl hP hD hS
  have hb' : ∀ q ∈ ps.toList, (-2147483648 : Int) ≤ q.1 ∧ q.1 ≤ 2147483647 ∧ 0 ≤ (pc : Int) + q.2 := fun q hq => by simpa using List.all_eq_true.mp hb q hq
  unfold am_sw at ha
  split at ha
  · rename_i x r
    rcases am_off pc x dflt ps.toList (fun q hq => ⟨(hb' q hq).1, (hb' q hq).2.1⟩) with ⟨q, hq, h1, h2⟩ | ⟨h1, h2⟩
    · refine lv_lookup (tgt := ((pc : Int) + q.2).toNat) hC.1 hC.2.1 hd hp h1 (by have := (hb' q hq).2.2; omega) (hk _ _ _ _ (ha.1 _ (List.mem_map.mpr ⟨q, hq, rfl⟩) h2) H ls locs hl hP hD hS)
    · refine lv_lookup hC.1 hC.2.1 hd hp h1 ht (hk _ _ _ _ (ha.2 ?_) H ls locs hl hP hD hS)
      intro q hq
      obtain ⟨q', hq', rfl⟩ := List.mem_map.mp hq
      exact h2 q' hq'
  · exact ha.elim
end MORE
