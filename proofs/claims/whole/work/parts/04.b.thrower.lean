/-! a method that may throw: its contract out of its table -/
def am_rmX (d w : Nat) : Room := { frames := d, cells := 1, slots := 6, locals := w }
def am_QX (dC : Nat → ClassId) (dI : Nat → Nat → Nat) (dA : Nat → ClassId) (A : Nat → Nat) (Rp : am_P) (ws0 : va_W) (sz : Nat) : Array Value → State → Outcome → State → Prop := fun a st oc t =>
  (am_Q dC dI dA A Rp ws0 sz a st oc t ∧ ∃ L, FrameEnd st oc t L 1 6 ∧ ∀ q ∈ L, va_A ws0 sz q.base) ∨
  (∃ (k : Nat) (x : Addr) (h' : am_H) (ce : Cell) (L : List Loc), oc = .threw x ∧ Rp (.inl k) h' ∧ va_P (dC, dI) vwCl (am_c dA A 0 h') t.heap ∧ va_D (va_A ws0 sz) (am_c dA A 0 h') ∧ va_F (va_A ws0 sz) st t ∧ st.WarmedH t.vm ∧ st.sameButNew ({ t with vm := st.vm } : State) L 1 6 ∧ (∀ q ∈ L, va_A ws0 sz q.base) ∧ t.heap[x]? = some ce ∧ st.vm.findClass (am_kind k) = some ce.cls ∧ ce.vm = .none)
def am_MetX (l : Launch) (y : MethodName) (b : ByteArray) (maxL : Nat) (ret : Option FieldType) (d w : Nat) (M : am_M) : Prop :=
  ∀ (dC : Nat → ClassId) (dI : Nat → Nat → Nat) (dA : Nat → ClassId) (A : Nat → Nat) (h : am_H) (as : List Value) (Rp : am_P) (sz : Nat), M as h Rp →
    MetFree l y (headSpec (am_ws y b maxL ret) (am_rmX d w)) (va_Pc (as.map (am_v A)) (am_B dC dI dA A h sz)) (fun _ _ _ _ _ => True) (am_QX dC dI dA A Rp (am_c dA A 0 h) sz)
def am_okX (ret : Option FieldType) (o : am_O) : Prop := match o with
  | .inl _ => True
  | .inr v => am_ok ret (.inr v)
def am_RX (ret : Option FieldType) (Rp : am_P) : am_P := fun o h => am_okX ret o ∧ Rp o h
def am_MofX (acts : Nat → am_A) (maxL : Nat) (ret : Option FieldType) : am_M := fun as h Rp => (lg_sl as).length ≤ maxL ∧ am_Wp acts (am_RX ret Rp) 0 (am_l0 as maxL) [] h
theorem am_W_mono {p : Program} {l : Launch} {e : Env} {R : Room} {s : State} {m : MethodId} {args : Array Value} {below : List Frame} {meth : Method} {c : Code} {H : Heap} {locs : List Loc} {cells slots : Nat} {Q Q' : State → Prop} {g : JFrame} (h : W p l e R s m args below meth c H locs cells slots Q g) (hq : ∀ t, Q t → Q' t) : W p l e R s m args below meth c H locs cells slots Q' g :=
  fun T hT X => let ⟨t, a, b⟩ := h T hT X; ⟨t, a, hq t b⟩
set_option maxHeartbeats 1000000 in
theorem am_metX {y : MethodName} {b : ByteArray} {maxL d w : Nat} {ret : Option FieldType} {acts : Nat → am_A} (hy : plainFor y = true) (hs : ∀ pc, am_Snd am_En b maxL y.cls d w pc (acts pc)) (hd6 : 6 ≤ d) (hw9 : 90 ≤ w) (l : Launch) (hst : l.stackTraces = false) : am_MetX l y b maxL ret d w (am_MofX acts maxL ret) := by
  intro dC dI dA A h as Rp sz hM
  obtain ⟨hfit, hM⟩ := hM
  refine MetFree.of_bodySF (code := b) (maxLocals := maxL) (ret := ret) hy ?_ ?_
  · intro args s m h hn
    obtain ⟨meth, c, h1, h2, h3, h4, h5, h6, -, -⟩ := Cond.code_spec hn (atoms_spec (ws := am_ws y b maxL ret) h _ List.mem_cons_self)
    exact ⟨meth, c, h1, h2, h3, h4, h5, h6⟩
  intro p e s m args below meth c s₁ B hml hpc _
  obtain ⟨rfl, hsz, hP, hK, hD, hE⟩ := hpc
  subst hsz
  have hts : ∀ w ∈ am_ws y b maxL ret, w.before (as.map (am_v A)).toArray s = true := atoms_spec (ws := am_ws y b maxL ret) B.pre
  have hown : s.vm.findClass y.cls = some m.cls := findClass_of_methodNamed B.named
  have hr : meth.sig.returnType = ret := B.returns
  have hlk : meth.locks = false := B.notSynchronized
  have hx := B.exec
  have hb := B.bytes
  have hnh := B.noHandlers (hts _ List.mem_cons_self)
  have hC : am_C am_En b maxL y.cls d w p (headSpec (am_ws y b maxL ret) (am_rmX d w)).room s m (as.map (am_v A)).toArray c dC dI dA A (va_A (am_c dA A 0 h) s.heap.size) 0 0 :=
    ⟨hx, hb, hml, hown, fun w hw => hts w (List.mem_cons_of_mem _ hw), hK, fun q hq => Or.inr hq, hE, Nat.le_refl _, Nat.le_refl _, Nat.zero_le _, Nat.zero_le _⟩
  have toQ : ∀ t : State, MQ below (am_Q dC dI dA A Rp (am_c dA A 0 h) s.heap.size) (as.map (am_v A)).toArray s 0 0 (va_A (am_c dA A 0 h) s.heap.size) t → ∃ o, t.status = .running ∧ Ended t below o ∧ am_QX dC dI dA A Rp (am_c dA A 0 h) s.heap.size (as.map (am_v A)).toArray s o t := by
    rintro t ⟨o, q1, q2, q3, L, ⟨f1, f2, f3⟩, q5⟩
    exact ⟨o, q1, q2, Or.inl ⟨q3, L, ⟨f1, f2, f3.mono (Nat.zero_le _) (Nat.zero_le _)⟩, q5⟩⟩
  have hEnd : am_End y.cls b p l e (headSpec (am_ws y b maxL ret) (am_rmX d w)).room s m (as.map (am_v A)).toArray below meth c (fun t => ∃ o, t.status = .running ∧ Ended t below o ∧ am_QX dC dI dA A Rp (am_c dA A 0 h) s.heap.size (as.map (am_v A)).toArray s o t) maxL dC dI dA A (va_A (am_c dA A 0 h) s.heap.size) 0 0 (am_RX ret Rp) := by
    refine ⟨fun x h' H locs ls pc hR hP' hD' hS' hd => ?_, fun x h' H locs ls pc hR hP' hD' hS' hd => ?_, fun h' H locs ls pc hR hP' hD' hS' hd => ?_, fun k h' H locs ls pc hR hls hP' hD' hS' ht => ?_⟩
    · obtain ⟨hok, hR⟩ := hR
      have hq : ∀ t : State, t.heap = H → s.WarmedH t.vm → am_Q dC dI dA A Rp (am_c dA A 0 h) s.heap.size (as.map (am_v A)).toArray s (.returned (some (.int x))) t := fun t ht hW => ⟨⟨some (.int x), h', rfl, hR, by rw [ht]; exact hP', va_K.moved hW.alike hK, hD'⟩, hS'.F ht⟩
      refine am_W_mono ?_ toQ
      cases ret with
      | none => exact hok.elim
      | some ty => cases ty <;> first | exact hok.elim | exact W.iret hx hb hr hq hS'.2.2 hd hlk | exact W.zret hx hb hr hok hq hS'.2.2 hd hlk
    · obtain ⟨hok, hR⟩ := hR
      have hq : ∀ t : State, t.heap = H → s.WarmedH t.vm → am_Q dC dI dA A Rp (am_c dA A 0 h) s.heap.size (as.map (am_v A)).toArray s (.returned (some (.long x))) t := fun t ht hW => ⟨⟨some (.long x), h', rfl, hR, by rw [ht]; exact hP', va_K.moved hW.alike hK, hD'⟩, hS'.F ht⟩
      refine am_W_mono ?_ toQ
      cases ret with
      | none => exact hok.elim
      | some ty => cases ty <;> first | exact hok.elim | exact W.lret hx hb hr hq hS'.2.2 hd hlk
    · obtain ⟨hok, hR⟩ := hR
      have hq : ∀ t : State, t.heap = H → s.WarmedH t.vm → am_Q dC dI dA A Rp (am_c dA A 0 h) s.heap.size (as.map (am_v A)).toArray s (.returned none) t := fun t ht hW => ⟨⟨none, h', rfl, hR, by rw [ht]; exact hP', va_K.moved hW.alike hK, hD'⟩, hS'.F ht⟩
      refine am_W_mono ?_ toQ
      cases ret with
      | none => exact W.vret hx hb hr hq hS'.2.2 hd hlk
      | some ty => cases ty <;> exact hok.elim
    · refine am_throws hC hst (covers_of_empty hnh _) hlk (Nat.le_refl 1) (Nat.le_refl 6) hd6 hw9 hls hS' ht (fun x t ce t1 t2 t3 t4 t5 t6 t7 t8 t9 t10 => ⟨.threw x, t1, t2, Or.inr ⟨k, x, h', ce, locs, rfl, hR.2, ?_, hD', ?_, t3, t4, hS'.2.2, t8, t9, t10⟩⟩)
      · exact va_P.kept hP' (fun k q hq => t6 q.1 (hP' k q hq).lt)
      · refine ⟨Nat.le_trans hS'.1 t5, fun q h1 h2 => ?_⟩
        rw [t6 q (Nat.lt_of_lt_of_le h1 hS'.1)]
        exact hS'.2.1 q h1 h2
  have key := hM (am_W p l e (headSpec (am_ws y b maxL ret) (am_rmX d w)).room s m (as.map (am_v A)).toArray below meth c (fun t => ∃ o, t.status = .running ∧ Ended t below o ∧ am_QX dC dI dA A Rp (am_c dA A 0 h) s.heap.size (as.map (am_v A)).toArray s o t) maxL dC dI dA A (va_A (am_c dA A 0 h) s.heap.size) 0 0)
    (fun pc lo st h K ha hk => hs pc p l e _ s m _ below meth c _ dC dI dA A _ 0 0 _ hC hEnd lo st h K ha hk)
    (fun pc lo lo' st h hle hk H ls locs hl hP hD hS => hk H ls locs (am_lv_more hl (am_le_lv hle)) hP hD hS)
  have X₀ : Stand p l e (headSpec (am_ws y b maxL ret) (am_rmX d w)).room s m (as.map (am_v A)).toArray below meth c s₁ [] 0 0 := Stand.of_body B
  have hh0 : s₁.heap = s.heap := by rw [B.state]; rfl
  rw [lg_entry_eq]
  obtain ⟨t, a1, o, b1, b2, b3⟩ := key s.heap _ [] (am_lv_more (lv_entry _ (by rw [am_sl_len]; exact hfit)) (fun q hq => am_l0_args A as maxL 0 q hq)) hP hD.self va_S.rf s₁ hh0 X₀
  exact ⟨t, o, a1, b1, b2, b3⟩
