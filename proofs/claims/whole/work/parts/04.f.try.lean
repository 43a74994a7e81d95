/-! runs with exits; a call within a handler's range -/
def am_Wx (acts : Nat → am_A) (R : am_P) (X : am_K) : am_K := fun pc lo st h =>
  ∀ P : am_K, (∀ pc lo st h K, acts pc lo st h K R → (∀ pc' lo' st' h', K pc' lo' st' h' → P pc' lo' st' h') → P pc lo st h) → (∀ pc lo lo' st h, am_le lo' lo → P pc lo' st h → P pc lo st h) → (∀ pc lo st h, X pc lo st h → P pc lo st h) → P pc lo st h
theorem am_exit {acts : Nat → am_A} {R : am_P} {X : am_K} {pc : Nat} {lo : am_L} {st : List Value} {h : am_H} (k : X pc lo st h) : am_Wx acts R X pc lo st h := fun _ _ _ hx => hx _ _ _ _ k
theorem am_xforget {acts : Nat → am_A} {R : am_P} {X : am_K} {pc : Nat} {lo lo' : am_L} {st : List Value} {h : am_H} (hl : am_le lo' lo) (k : am_Wx acts R X pc lo' st h) : am_Wx acts R X pc lo st h := fun P hc hf hx => hf _ _ _ _ _ hl (k P hc hf hx)
def am_xrun (acts : Nat → am_A) (R : am_P) (X : am_K) (stop : Nat → Bool) : Nat → am_K
  | 0 => am_Wx acts R X
  | n + 1 => fun pc lo st h => match stop pc with
    | true => am_Wx acts R X pc lo st h
    | false => acts pc lo st h (am_xrun acts R X stop n) R
theorem am_xruns {acts : Nat → am_A} {R : am_P} {X : am_K} {stop : Nat → Bool} : ∀ (n : Nat) {pc : Nat} {lo : am_L} {st : List Value} {h : am_H}, am_xrun acts R X stop n pc lo st h → am_Wx acts R X pc lo st h
  | 0, _, _, _, _, k => k
  | n + 1, pc, lo, st, h, k => by
    unfold am_xrun at k
    split at k
    · exact k
    · exact fun P hc hf hx => hc _ _ _ _ _ k (fun _ _ _ _ k' => am_xruns n k' P hc hf hx)
theorem am_xgo {acts : Nat → am_A} {R : am_P} {X : am_K} (stop : Nat → Bool) (n : Nat) {pc : Nat} {lo : am_L} {st : List Value} {h : am_H} (k : acts pc lo st h (am_xrun acts R X stop n) R) : am_Wx acts R X pc lo st h :=
  fun P hc hf hx => hc _ _ _ _ _ k (fun _ _ _ _ k' => am_xruns n k' P hc hf hx)
section TRY
variable {p : Program} {l : Launch} {e : Env} {R : Room} {s : State} {m : MethodId} {args : Array Value} {below : List Frame} {meth : Method} {c : Code} {Q : State → Prop} {dC : Nat → ClassId} {dI : Nat → Nat → Nat} {dA : Nat → ClassId} {A : Nat → Nat} {A0 : Nat → Prop} {cc : ByteArray} {nL d w pc cells slots : Nat} {own : String} {En : (Nat → Nat) → (Nat → Prop) → State → Prop}
theorem am_soundX {acts : Nat → am_A} {Rp : am_P} {X : am_K} (hs : ∀ pc, am_Snd En cc nL own d w pc (acts pc)) (hC : am_C En cc nL own d w p R s m args c dC dI dA A A0 cells slots) (hE : am_End own cc p l e R s m args below meth c Q nL dC dI dA A A0 cells slots Rp)
    (hX : ∀ pc lo st h, X pc lo st h → am_W p l e R s m args below meth c Q nL dC dI dA A A0 cells slots pc lo st h) {lo : am_L} {st : List Value} {h : am_H} (k : am_Wx acts Rp X pc lo st h) : am_W p l e R s m args below meth c Q nL dC dI dA A A0 cells slots pc lo st h :=
  k (am_W p l e R s m args below meth c Q nL dC dI dA A A0 cells slots) (fun pc lo st h K ha hk => hs pc p l e R s m args below meth c Q dC dI dA A A0 cells slots Rp hC hE lo st h K ha hk) (fun pc lo lo' st h hle hk H ls locs hl hP hD hS => hk H ls locs (am_lv_more hl (am_le_lv hle)) hP hD hS) hX
/-- a row that takes class 'name' at the entry ct -/
theorem am_row_yes {name thrown : String} {y : ExceptionTableEntry} {t : List ExceptionTableEntry} {cX : ClassId} {hpc : Nat} (hpl : e.platform.magicAccessors = ({} : Platform).magicAccessors) (hown : s.vm.findClass own = some m.cls) (hcov : covers y pc = true) (h0 : y.catchType ≠ 0) (hlink : (Cond.classLink own y.catchType name).before args s = true) (hc : va_Nw (.castable thrown name) s) (hX : s.vm.findClass thrown = some cX) (hh : y.handlerPc = hpc) : am_Rows e.platform s m.cls pc cX hpc (y :: t) := by
  obtain ⟨c', hc', hcl⟩ := Cond.classLink_spec hown hlink e.platform hpl
  obtain ⟨c3, t3, w1, w2, w3⟩ := Cond.castable_spec (args := #[]) hc
  cases hX.symm.trans w1
  cases hc'.symm.trans w2
  exact ⟨hcov, h0, c', hcl, Or.inl ⟨w3, hh⟩⟩
theorem am_row_no {name thrown : String} {y : ExceptionTableEntry} {t : List ExceptionTableEntry} {cX : ClassId} {hpc : Nat} (hpl : e.platform.magicAccessors = ({} : Platform).magicAccessors) (hown : s.vm.findClass own = some m.cls) (hcov : covers y pc = true) (h0 : y.catchType ≠ 0) (hlink : (Cond.classLink own y.catchType name).before args s = true) (hc : va_Nc thrown name s) (hX : s.vm.findClass thrown = some cX) (hr : am_Rows e.platform s m.cls pc cX hpc t) : am_Rows e.platform s m.cls pc cX hpc (y :: t) := by
  obtain ⟨c', hc', hcl⟩ := Cond.classLink_spec hown hlink e.platform hpl
  obtain ⟨c3, t3, w1, w2, w3⟩ := hc
  cases hX.symm.trans w1
  cases hc'.symm.trans w2
  exact ⟨hcov, h0, c', hcl, Or.inr ⟨w3, hr⟩⟩
theorem am_set_none {lo : am_L} {j : Nat} {x : Value} {A : Nat → Nat} (hg : am_g2 lo j = true) : ∀ q ∈ am_lv A 0 (lo.set j none), q ∈ (j, x) :: (am_lv A 0 lo).filter (fun q => !(q.1 == j) && !(q.1 + 1 == j && q.2.category == 2)) := by
  intro q hq
  obtain ⟨i, v, h, e⟩ := (am_lv_mem A q _ 0).mp hq
  rw [Nat.zero_add] at e
  by_cases hj : j = i
  · subst hj
    rw [List.getElem?_set] at h
    split at h
    · split at h <;> cases h
    · rename_i hne; exact absurd rfl hne
  · rw [List.getElem?_set_ne hj] at h
    have h2 : q ∈ am_lv A 0 (lo.set j (some (.int 0))) := (am_lv_mem A q _ 0).mpr ⟨i, v, by rw [List.getElem?_set_ne hj]; exact h, by rw [Nat.zero_add]; exact e⟩
    rcases List.mem_cons.mp (am_lv_set hg q h2) with h3 | h3
    · exact absurd (by have := congrArg Prod.fst (e.symm.trans h3); exact this.symm) hj
    · exact List.mem_cons_of_mem _ h3
set_option maxHeartbeats 1000000 in
theorem am_try {M : am_M} {ci d' w' index maxL N : Nat} {T0 : u_T} {y : MethodName} {b : ByteArray} {ret : Option FieldType} (hC : am_C am_En cc nL own d w p R s m args c dC dI dA A A0 0 0) (hc : vwCl[ci]? = some (y.cls, T0, N)) (hM : am_MetX l y b maxL ret d' w' M) (hd' : d' < d) (hmx : 19 + maxL + w' ≤ w) (hR1 : 1 ≤ R.cells) (hR2 : 6 ≤ R.slots)
    (hcode : Cond.code y b maxL ret ∈ lw_good) (hini : Cond.initialized y.cls ∈ lw_good) (hlink : Cond.methodLink own index y ∈ lw_good) (hin : Cond.instanceMethod y ∈ lw_good) (hse : Cond.selects y.cls y y ∈ lw_good) {np : Nat}
    (hdesc : y.cls ≠ "java/lang/invoke/MethodHandle" ∧ y.cls ≠ "java/lang/invoke/VarHandle" ∧ (parseMethodDescriptor y.desc).map (fun d => d.parameters.length) = some np) (hdg : decode cc pc = .ok (.invokevirtual index, 3))
    {lo : am_L} {st as r : List Value} {h : am_H} {a : Nat} {fs : List Value} (hst : st = as.reverse ++ .ref a :: r) (hnp : as.length = np) (ea : h[a]? = some (.inr (ci, fs))) (hroom : (r.map fun v => v.category).sum ≤ 8) {Rp : am_P} (ha : M (.ref a :: as) h Rp)
    (hret : ∀ v h', Rp (.inr v) h' → am_W p l e R s m args below meth c Q nL dC dI dA A A0 1 6 (pc + 3) lo (v.toList ++ r) h')
    (hthr : ∀ k h', Rp (.inl k) h' → ∃ (hpc j t : Nat), (∀ cX, s.vm.findClass (am_kind k) = some cX → am_Rows e.platform s m.cls pc cX hpc c.exceptionTable.toList) ∧ ((∃ i : Fin 4, decode cc hpc = .ok (.astore_n i, 1) ∧ (i : Nat) = j ∧ t = hpc + 1) ∨ (decode cc hpc = .ok (.astore j, 2) ∧ t = hpc + 2)) ∧ j < nL ∧ am_g2 lo j = true ∧ am_W p l e R s m args below meth c Q nL dC dI dA A A0 1 6 t (lo.set j none) [] h') :
    am_W p l e R s m args below meth c Q nL dC dI dA A A0 0 0 pc lo st h := by
  obtain ⟨hx, hb, hml, hown, hts, hK, hA, hEnv, hf, hlo, -, -⟩ := id hC
  intro H ls locs hl hP hD hS T hT X
  have hfree := am_free hD hS hA
  obtain ⟨cellB, hcB, hoB, hclB⟩ := va_recv hK hP hc (am_c_at ea)
  have hws : ∀ w ∈ am_ws y b maxL ret, ∀ (a' : Array Value) (U : State), s.WarmedH U.vm → w.before a' U = true := pay_in hts (am_goodIn hcode)
  obtain ⟨vm₁, mk, o, t, hW1, X1, hend, hq, hgo⟩ := am_invokeV X hx (C := y.cls) (bytes := b) (maxL := maxL) (ret := ret) hown (hts _ hlink) (hts _ hin) (hts _ hse) (hts _ hini) (hts _ hcode) ⟨hdesc.1, hdesc.2.1⟩ (hM dC dI dA A h (.ref a :: as) Rp H.size ha) hws
    (by show d' + 1 ≤ R.frames; omega) (by show 8 + (maxL + 11) + w' ≤ R.locals; omega) (by show 0 + 1 ≤ R.cells; omega) (by show 0 + 6 ≤ R.slots; omega) (by rw [hT]; exact hcB) hoB hclB (g := F0 m pc ls (st.map (am_v A))) rfl (by show ls.size = c.maxLocals; rw [hl.1, hml]) (argsL := as.map (am_v A)) (rest := r.map (am_v A))
    (fun sig hsig => by rw [List.length_map, hnp]; have h2 := hdesc.2.2; rw [hsig] at h2; exact (Option.some.inj h2).symm) (by show st.map (am_v A) = _; rw [hst, List.map_append, List.map_reverse]; rfl) (lv_room (by rw [am_cat_sum]; exact hroom)) (by rw [hb]; exact hdg)
    (fun U hU hW => am_pre_call (as := (Value.ref a :: as).map (am_v A)) (fun _ _ _ h => h) hC hP hD hS U (hU.trans hT) hW)
  have hheap : (T.setVm vm₁).heap = H := hT
  have hAt : At (T.setVm vm₁) ({ (F0 m pc ls (st.map (am_v A))) with stack := r.map (am_v A) } : JFrame).method c below := X1.here
  have hfr : ∀ {z : Nat} {L : List Loc}, H.size ≤ t.heap.size → (∀ q : Nat, q < H.size → ¬ va_A (am_c dA A 0 h) H.size q → t.heap[q]? = H[q]?) → (∀ q ∈ L, va_A (am_c dA A 0 h) H.size q.base) → va_S A0 s.heap t.heap (locs ++ L) := by
    intro z L h1 h2 h3
    refine ⟨Nat.le_trans hS.1 h1, fun q g1 g2 => ?_, fun q hq => ?_⟩
    · rw [h2 q (Nat.lt_of_lt_of_le g1 hS.1) (fun z => g2 (hfree q z))]
      exact hS.2.1 q g1 g2
    · rcases List.mem_append.mp hq with h | h
      · exact hS.2.2 q h
      · exact hfree _ (h3 q h)
  rcases hq with ⟨⟨⟨v, h', hv, hR, hP1, hK1, hD1⟩, hz, hk1⟩, L, ⟨-, hW2, hs2⟩, hL⟩ | ⟨k, x, h', ce, L, ho, hR, hP1, hD1, ⟨hz, hk1⟩, hW2, hs2, hL, hce, hcls, hvm⟩
  · obtain ⟨b1, -, b3⟩ := am_back hAt hend hW2 hs2
    have X2 := am_stand_left X1 hW2 b1
    have et := b3 _ _ _ hv (by show decode c.code pc = _; rw [hb]; exact hdg)
    have hz' : H.size ≤ t.heap.size := by rw [← hheap]; exact hz
    have hk' : ∀ q : Nat, q < H.size → ¬ va_A (am_c dA A 0 h) H.size q → t.heap[q]? = H[q]? := fun q g1 g2 => (hk1 q (by show q < T.heap.size; rw [hT]; exact g1) g2).trans (by show T.heap[q]? = H[q]?; rw [hT])
    obtain ⟨t2, a1, b2⟩ := hret v h' hR t.heap ls (locs ++ L) hl hP1 (hD1.weaken (fun _ q _ z => hfree q.1 z)) (hfr (z := 0) hz' hk' hL) (am_left (T.setVm vm₁) t) rfl X2
    refine ⟨t2, hgo t2 ?_, b2⟩
    rw [et]
    have es : (v.toList ++ r).map (am_v A) = (v.map (am_v A)).toList ++ r.map (am_v A) := by cases v <;> simp
    rw [es] at a1
    exact a1
  · obtain ⟨b1, b2, -⟩ := am_back hAt hend hW2 hs2
    have X2 := am_stand_left X1 hW2 b1
    have et := b2 x ho
    have hz' : H.size ≤ t.heap.size := by rw [← hheap]; exact hz
    have hk' : ∀ q : Nat, q < H.size → ¬ va_A (am_c dA A 0 h) H.size q → t.heap[q]? = H[q]? := fun q g1 g2 => (hk1 q (by show q < T.heap.size; rw [hT]; exact g1) g2).trans (by show T.heap[q]? = H[q]?; rw [hT])
    obtain ⟨hpc, j, tt, hrows, hast, hj, hg2, hWt⟩ := hthr k h' hR
    have hcls' : s.vm.findClass (am_kind k) = some ce.cls := by rw [← X1.warmed.alike.findClass]; exact hcls
    obtain ⟨vm', X3, hgo3⟩ := am_caught X2 x (g := { (F0 m pc ls (st.map (am_v A))) with stack := r.map (am_v A) }) rfl (cell := ce) (hpc := hpc) hce (by rw [hvm]; rfl) (by
      obtain ⟨kC, hkC, -⟩ := Vm.findClass_spec hcls'
      exact ⟨kC, hkC⟩) (hrows _ hcls')
    have hS' := hfr (z := 0) (L := L) hz' hk' hL
    have K : W p l e R s m args below meth c t.heap (locs ++ L) (0 + 1) (0 + 6) Q (F0 m hpc ls [.ref x]) := by
      rcases hast with ⟨i, d1, d2, rfl⟩ | ⟨d1, rfl⟩
      · exact lv_astore_n hx hb d1 d2 hl hj rfl (fun ls' hl' => hWt t.heap ls' (locs ++ L) (am_lv_more hl' (am_set_none hg2)) hP1 (hD1.weaken (fun _ q _ z => hfree q.1 z)) hS')
      · exact lv_astore hx hb d1 hl hj rfl (fun ls' hl' => hWt t.heap ls' (locs ++ L) (am_lv_more hl' (am_set_none hg2)) hP1 (hD1.weaken (fun _ q _ z => hfree q.1 z)) hS')
    obtain ⟨t2, a1, b2⟩ := K ((am_left (T.setVm vm₁) t).setVm vm') rfl X3
    refine ⟨t2, hgo t2 ?_, b2⟩
    rw [et]
    exact hgo3 t2 a1
end TRY
