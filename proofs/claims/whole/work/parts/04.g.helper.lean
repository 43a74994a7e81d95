/-! the law's helpers: static methods with handlers round one call -/
abbrev am_Hs : Type := List (Nat × Nat × Nat × Nat)
def am_wsH (y : MethodName) (b : ByteArray) (nL : Nat) (hs : am_Hs) : List Cond := .codeWith y b nL (some .int) hs :: lw_good
def am_QH (dC : Nat → ClassId) (dI : Nat → Nat → Nat) (dA : Nat → ClassId) (A : Nat → Nat) (Rp : am_P) (ws0 : va_W) (sz : Nat) : Array Value → State → Outcome → State → Prop := fun a st oc t =>
  am_Q dC dI dA A Rp ws0 sz a st oc t ∧ ∃ L, FrameEnd st oc t L 1 6 ∧ ∀ q ∈ L, va_A ws0 sz q.base
def am_MetH (l : Launch) (y : MethodName) (b : ByteArray) (nL : Nat) (hs : am_Hs) (d w : Nat) (M : am_M) : Prop :=
  ∀ (dC : Nat → ClassId) (dI : Nat → Nat → Nat) (dA : Nat → ClassId) (A : Nat → Nat) (h : am_H) (as : List Value) (Rp : am_P) (sz : Nat), M as h Rp →
    MetFree l y (headSpec (am_wsH y b nL hs) (am_rmX d w)) (va_Pc (as.map (am_v A)) (am_B dC dI dA A h sz)) (fun _ _ _ _ _ => True) (am_QH dC dI dA A Rp (am_c dA A 0 h) sz)
/-- where a handler's table goes for a kind of exception: (the handler's pc, the local that takes the object, the pc behind the store) -/
abbrev am_Tb : Type := Nat → Option (Nat × Nat × Nat)
/-- behind the call: its answer, or the handler -/
def am_cont (acts : Nat → am_A) (Rp : am_P) (tb : am_Tb) (n : Nat) (lo : am_L) (r : List Value) : am_P := fun o h => match o with
  | .inr v => am_Wp acts (fun o h' => am_ok (some .int) o ∧ Rp o h') n lo (v.toList ++ r) h
  | .inl k => match tb k with
    | some q => am_g2 lo q.2.1 = true ∧ am_Wp acts (fun o h' => am_ok (some .int) o ∧ Rp o h') q.2.2 (lo.set q.2.1 none) [] h
    | none => False
/-- the state at the call -/
def am_atCall (acts : Nat → am_A) (Rp : am_P) (tb : am_Tb) (M : am_M) (ci np cpc : Nat) : am_K := fun pc lo st h => pc = cpc ∧ ∃ (a : Nat) (as r : List Value) (fs : List Value), st = as.reverse ++ .ref a :: r ∧ as.length = np ∧ h[a]? = some (.inr (ci, fs)) ∧ (r.map fun v => v.category).sum ≤ 8 ∧ M (.ref a :: as) h (am_cont acts Rp tb (cpc + 3) lo r)
def am_MofH (acts : Nat → am_A) (nL : Nat) (tb : am_Tb) (M : am_M) (ci np cpc : Nat) : am_M := fun as h Rp => (lg_sl as).length ≤ nL ∧ am_Wx acts (fun _ _ => False) (am_atCall acts Rp tb M ci np cpc) 0 (am_l0 as nL) [] h
set_option maxHeartbeats 2000000 in
theorem am_metH {y : MethodName} {b : ByteArray} {nL d w ci np cpc index : Nat} {hs : am_Hs} {acts : Nat → am_A} {tb : am_Tb} {M : am_M} {y' : MethodName} {b' : ByteArray} {maxL d' w' N : Nat} {ret' : Option FieldType} {T0 : u_T} {l : Launch} (hy : plainFor y = true) (hsnd : ∀ pc, am_Snd am_En b nL y.cls d w pc (acts pc))
    (hc : vwCl[ci]? = some (y'.cls, T0, N)) (hM : am_MetX l y' b' maxL ret' d' w' M) (hd' : d' < d) (hmx : 19 + maxL + w' ≤ w) (hcode : Cond.code y' b' maxL ret' ∈ lw_good) (hini : Cond.initialized y'.cls ∈ lw_good) (hlink : Cond.methodLink y.cls index y' ∈ lw_good) (hin : Cond.instanceMethod y' ∈ lw_good) (hse : Cond.selects y'.cls y' y' ∈ lw_good)
    (hdesc : y'.cls ≠ "java/lang/invoke/MethodHandle" ∧ y'.cls ≠ "java/lang/invoke/VarHandle" ∧ (parseMethodDescriptor y'.desc).map (fun d => d.parameters.length) = some np) (hdg : decode b cpc = .ok (.invokevirtual index, 3))
    (hrow : ∀ (e : Env) (s : State) (m : MethodId) (args : Array Value) (A : Nat → Nat) (A0 : Nat → Prop), e.platform.magicAccessors = ({} : Platform).magicAccessors → s.vm.findClass y.cls = some m.cls → (∀ w ∈ lw_good, w.before args s = true) → am_En A A0 s → ∀ (k : Nat) (q : Nat × Nat × Nat), tb k = some q → (∀ cX, s.vm.findClass (am_kind k) = some cX → am_Rows e.platform s m.cls cpc cX q.1 (tableOf hs)))
    (hast : ∀ (k : Nat) (q : Nat × Nat × Nat), tb k = some q → ((∃ i : Fin 4, decode b q.1 = .ok (.astore_n i, 1) ∧ (i : Nat) = q.2.1 ∧ q.2.2 = q.1 + 1) ∨ (decode b q.1 = .ok (.astore q.2.1, 2) ∧ q.2.2 = q.1 + 2)) ∧ q.2.1 < nL) : am_MetH l y b nL hs d w (am_MofH acts nL tb M ci np cpc) := by
  intro dC dI dA A h as Rp sz hMM
  obtain ⟨hfit, hMM⟩ := hMM
  refine MetFree.of_bodySF (code := b) (maxLocals := nL) (ret := some .int) hy ?_ ?_
  · intro args s m h hn
    obtain ⟨m', meth, c, hn', h1, h2, h3, h4, -, h5, h6, -⟩ := Cond.codeWith_spec (show (Cond.codeWith y b nL (some .int) hs).holds args s none s [] = true from atoms_spec (ws := am_wsH y b nL hs) h _ List.mem_cons_self)
    cases hn.symm.trans hn'
    exact ⟨meth, c, h1, h2, h3, h4, h5, h6⟩
  intro p e s m args below meth c s₁ B hml hpc _
  obtain ⟨rfl, hsz, hP, hK, hD, hE⟩ := hpc
  subst hsz
  have hts : ∀ w ∈ am_wsH y b nL hs, w.before (as.map (am_v A)).toArray s = true := atoms_spec (ws := am_wsH y b nL hs) B.pre
  have hgood : ∀ w ∈ lw_good, w.before (as.map (am_v A)).toArray s = true := fun w hw => hts w (List.mem_cons_of_mem _ hw)
  have hown : s.vm.findClass y.cls = some m.cls := findClass_of_methodNamed B.named
  have hr : meth.sig.returnType = some .int := B.returns
  have hlk : meth.locks = false := B.notSynchronized
  have hx := B.exec
  have hb := B.bytes
  have hpl : e.platform.magicAccessors = ({} : Platform).magicAccessors := by rw [B.admits.platform]
  have htab : c.exceptionTable.toList = tableOf hs := by
    obtain ⟨m', meth', c', hn', h1, h2, -, -, h3, -⟩ := Cond.codeWith_spec (show (Cond.codeWith y b nL (some .int) hs).holds (as.map (am_v A)).toArray s none s [] = true from hts _ List.mem_cons_self)
    cases B.named.symm.trans hn'
    cases B.method.symm.trans h1
    cases (Stand.of_body B).code.symm.trans h2
    rw [← h3, table_eq]
  have hC0 : am_C am_En b nL y.cls d w p (headSpec (am_wsH y b nL hs) (am_rmX d w)).room s m (as.map (am_v A)).toArray c dC dI dA A (va_A (am_c dA A 0 h) s.heap.size) 0 0 :=
    ⟨hx, hb, hml, hown, hgood, hK, fun q hq => Or.inr hq, hE, Nat.le_refl _, Nat.le_refl _, Nat.zero_le _, Nat.zero_le _⟩
  have hC1 : am_C am_En b nL y.cls d w p (headSpec (am_wsH y b nL hs) (am_rmX d w)).room s m (as.map (am_v A)).toArray c dC dI dA A (va_A (am_c dA A 0 h) s.heap.size) 1 6 :=
    ⟨hx, hb, hml, hown, hgood, hK, fun q hq => Or.inr hq, hE, Nat.le_refl _, Nat.le_refl _, Nat.le_refl _, Nat.le_refl _⟩
  have hE0 : am_End y.cls b p l e (headSpec (am_wsH y b nL hs) (am_rmX d w)).room s m (as.map (am_v A)).toArray below meth c (MQ below (am_Q dC dI dA A Rp (am_c dA A 0 h) s.heap.size) (as.map (am_v A)).toArray s 1 6 (va_A (am_c dA A 0 h) s.heap.size)) nL dC dI dA A (va_A (am_c dA A 0 h) s.heap.size) 0 0 (fun _ _ => False) :=
    ⟨fun x h' H locs ls pc hR => hR.elim, fun x h' H locs ls pc hR => hR.elim, fun h' H locs ls pc hR => hR.elim, fun k h' H locs ls pc hR => hR.elim⟩
  have hE1 : am_End y.cls b p l e (headSpec (am_wsH y b nL hs) (am_rmX d w)).room s m (as.map (am_v A)).toArray below meth c (MQ below (am_Q dC dI dA A Rp (am_c dA A 0 h) s.heap.size) (as.map (am_v A)).toArray s 1 6 (va_A (am_c dA A 0 h) s.heap.size)) nL dC dI dA A (va_A (am_c dA A 0 h) s.heap.size) 1 6 (fun o h' => am_ok (some .int) o ∧ Rp o h') := by
    refine ⟨fun x h' H locs ls pc hR hP' hD' hS' hd => ?_, fun x h' H locs ls pc hR => hR.1.elim, fun h' H locs ls pc hR => hR.1.elim, fun k h' H locs ls pc hR => hR.1.elim⟩
    exact W.iret hx hb hr (fun t ht hW => ⟨⟨some (.int x), h', rfl, hR.2, by rw [ht]; exact hP', va_K.moved hW.alike hK, hD'⟩, hS'.F ht⟩) hS'.2.2 hd hlk
  have hWp : ∀ {pc : Nat} {lo : am_L} {st : List Value} {h' : am_H}, am_Wp acts (fun o h' => am_ok (some .int) o ∧ Rp o h') pc lo st h' → am_W p l e (headSpec (am_wsH y b nL hs) (am_rmX d w)).room s m (as.map (am_v A)).toArray below meth c (MQ below (am_Q dC dI dA A Rp (am_c dA A 0 h) s.heap.size) (as.map (am_v A)).toArray s 1 6 (va_A (am_c dA A 0 h) s.heap.size)) nL dC dI dA A (va_A (am_c dA A 0 h) s.heap.size) 1 6 pc lo st h' := fun k =>
    k _ (fun pc lo st h K ha hk => hsnd pc p l e _ s m _ below meth c _ dC dI dA A _ 1 6 _ hC1 hE1 lo st h K ha hk) (fun pc lo lo' st h hle hk H ls locs hl hP hD hS => hk H ls locs (am_lv_more hl (am_le_lv hle)) hP hD hS)
  have key := am_soundX hsnd hC0 hE0 (fun pc lo st h' hX => by
    obtain ⟨rfl, a, as', r, fs, e1, e2, e3, e4, e5⟩ := hX
    refine am_try hC0 hc hM hd' hmx (Nat.le_refl 1) (Nat.le_refl 6) hcode hini hlink hin hse hdesc hdg e1 e2 e3 e4 e5 (fun v h2 hR => hWp hR) (fun k h2 hR => ?_)
    simp only [am_cont] at hR
    split at hR
    · rename_i q hq
      refine ⟨q.1, q.2.1, q.2.2, ?_, (hast k q hq).1, (hast k q hq).2, hR.1, hWp hR.2⟩
      rw [htab]
      exact hrow e s m _ A _ hpl hown hgood hE k q hq
    · exact hR.elim) hMM
  have X₀ : Stand p l e (headSpec (am_wsH y b nL hs) (am_rmX d w)).room s m (as.map (am_v A)).toArray below meth c s₁ [] 0 0 := Stand.of_body B
  have hh0 : s₁.heap = s.heap := by rw [B.state]; rfl
  rw [lg_entry_eq]
  obtain ⟨t, a1, o, b1, b2, b3, L, b4, b5⟩ := key s.heap _ [] (am_lv_more (lv_entry _ (by rw [am_sl_len]; exact hfit)) (fun q hq => am_l0_args A as nL 0 q hq)) hP hD.self va_S.rf s₁ hh0 X₀
  exact ⟨t, o, a1, b1, b2, b3, L, b4, b5⟩
