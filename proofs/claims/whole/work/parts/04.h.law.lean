/-! the law's call of a helper -/
section HC
variable {p : Program} {l : Launch} {e : Env} {R : Room} {s : State} {m : MethodId} {args : Array Value} {below : List Frame} {meth : Method} {c : Code}
theorem am_invokeS {T : State} {locs : List Loc} {cells slots : Nat} (X : Stand p l e R s m args below meth c T locs cells slots) (hexec : p.tables.exec = Jvm.exec) {own : String} {index : Nat} {y : MethodName} {bytes : ByteArray} {maxL : Nat} {ret : Option FieldType} {hs : am_Hs} {ws : List Cond} {rm : Room} {P : Array Value → State → Prop} {Q : Array Value → State → Outcome → State → Prop}
    (hown : s.vm.findClass own = some m.cls) (hlink : (Cond.methodLink own index y).before args s = true) (hstat : (Cond.static y).before args s = true) (hini : (Cond.initialized y.cls).before args s = true)
    (hcode : (Cond.codeWith y bytes maxL ret hs).before args s = true) (hy : y.cls ≠ "java/lang/invoke/MethodHandle" ∧ y.cls ≠ "java/lang/invoke/VarHandle") (hM : MetFree l y (headSpec ws rm) P (fun _ _ _ _ _ => True) Q) (hws : ∀ w ∈ ws, ∀ (a' : Array Value) (U : State), s.WarmedH U.vm → w.before a' U = true)
    (hfr : rm.frames + 1 ≤ R.frames) (hlo : 8 + (maxL + 11) + rm.locals ≤ R.locals) (hce : cells + rm.cells ≤ R.cells) (hsl : slots + rm.slots ≤ R.slots)
    {g : JFrame} (hg : g.method = m) (hsize : g.locals.size = c.maxLocals) {argsL rest : List Value} (hlen : ∀ sig, parseMethodDescriptor y.desc = some sig → argsL.length = sig.parameters.length) (hstack : g.stack = argsL.reverse ++ rest) (hW : 2 * g.monitorRoom + (rest.map fun v => v.category).sum ≤ 8) (hdg : decode c.code g.pc = .ok (.invokestatic index, 3))
    (hP : ∀ (U : State), U.heap = T.heap → s.WarmedH U.vm → P argsL.toArray U) :
    ∃ (vm₁ : Vm) (mk : MethodId) (o : Outcome) (t : State), s.WarmedH vm₁ ∧ Stand p l e R s m args below meth c (T.setVm vm₁) locs cells slots ∧ Ended t ((T.setVm vm₁).setTop { g with stack := rest }).frames o ∧
      Q argsL.toArray ((T.setVm vm₁).calling { g with stack := rest } mk argsL.toArray) o t ∧ ∀ target, Steps p.tables e below t target → Steps p.tables e below (T.setTop g) target := by
  obtain ⟨mk, methM, cM, hnamed, hmethM, hcM, -, hlM, -, -, -, hsigM⟩ := Cond.codeWith_spec (show (Cond.codeWith y bytes maxL ret hs).holds args s none s [] = true from hcode)
  have hstatic : methM.isStatic = true := Cond.static_spec hnamed hmethM hstat
  obtain ⟨kP, hkP, -⟩ := className_of_methodNamed hnamed
  have hinitP : kP.init = .initialized := Cond.initialized_spec (findClass_of_methodNamed hnamed) hkP hini
  obtain ⟨vm₁, X₁, hstep₁⟩ := X.invokestatic hexec hown hlink hnamed hmethM hstatic hkP hinitP hy (g := g) hg (argsL := argsL) (rest := rest) (hlen _ hsigM) hstack hdg
  obtain ⟨kP₁, hkP₁, heP₁⟩ := X₁.warmed.alike.2.2 _ _ hkP
  have hAt : At (T.setVm vm₁) ({ g with stack := rest } : JFrame).method c below := by show At (T.setVm vm₁) g.method c below; rw [hg]; exact X₁.here
  have happ : (headSpec ws rm).appliesLoose y e.platform ((T.setVm vm₁).calling { g with stack := rest } mk argsL.toArray) = true :=
    Spec.appliesLoose_calling (g := { g with stack := rest }) hAt hdg (X₁.named hnamed) hkP₁ (by rw [heP₁]; exact hinitP)
      (X₁.room_calling (g := { g with stack := rest }) (R' := (headSpec ws rm).room) hsize (show (T.setVm vm₁).vm.method? mk = some methM by rw [X₁.warmed.alike.method?]; exact hmethM) hcM hfr (by rw [hlM]; show 2 * ({ g with stack := rest } : JFrame).monitorRoom + (rest.map fun v => v.category).sum + (maxL + 11) + rm.locals ≤ R.locals; have : ({ g with stack := rest } : JFrame).monitorRoom = g.monitorRoom := rfl; omega) hce hsl)
      (atoms_intro fun w hw => hws w hw _ _ X₁.warmed)
  obtain ⟨mid, hmid⟩ := hAt.above
  have hfrm : ((T.setVm vm₁).setTop { g with stack := rest }).frames = (.java { g with stack := rest } :: mid) ++ below := by rw [State.frames_setTop' _ hAt.top, hmid]; rfl
  obtain ⟨o, t, hsteps, -, hend, hq⟩ := Steps.callFree hM p X.admits X.cas X.clock (acts := []) hfrm happ (hP _ rfl X₁.warmed) trivial
  exact ⟨vm₁, mk, o, t, X₁.warmed, X₁, hend, hq, fun target h => hstep₁ _ fun acts => by rw [doInvoke_state]; exact hsteps.trans h⟩
variable {Q : State → Prop} {dC : Nat → ClassId} {dI : Nat → Nat → Nat} {dA : Nat → ClassId} {A : Nat → Nat} {A0 : Nat → Prop} {cc : ByteArray} {nL d w pc cells slots : Nat} {own : String} {En : (Nat → Nat) → (Nat → Prop) → State → Prop}
set_option maxHeartbeats 1000000 in
theorem am_callH {M : am_M} {d' w' index maxL : Nat} {y : MethodName} {b : ByteArray} {hs : am_Hs} (hEn : ∀ A A0 s, En A A0 s → am_En A A0 s) (hC : am_C En cc nL own d w p R s m args c dC dI dA A A0 cells slots) (hM : am_MetH l y b maxL hs d' w' M) (hd' : d' < d) (hmx : 19 + maxL + w' ≤ w) (hR1 : cells + 1 ≤ R.cells) (hR2 : slots + 6 ≤ R.slots)
    (hcode : Cond.codeWith y b maxL (some .int) hs ∈ lw_good) (hini : Cond.initialized y.cls ∈ lw_good) (hlink : Cond.methodLink own index y ∈ lw_good) (hst : Cond.static y ∈ lw_good) {np : Nat}
    (hdesc : y.cls ≠ "java/lang/invoke/MethodHandle" ∧ y.cls ≠ "java/lang/invoke/VarHandle" ∧ (parseMethodDescriptor y.desc).map (fun d => d.parameters.length) = some np) (hdg : decode cc pc = .ok (.invokestatic index, 3))
    {lo : am_L} {st as r : List Value} {h : am_H} (hstk : st = as.reverse ++ r) (hnp : as.length = np) (hroom : (r.map fun v => v.category).sum ≤ 8) {Rp : am_P} (ha : M as h Rp)
    (hret : ∀ v h', Rp (.inr v) h' → am_W p l e R s m args below meth c Q nL dC dI dA A A0 (cells + 1) (slots + 6) (pc + 3) lo (v.toList ++ r) h') :
    am_W p l e R s m args below meth c Q nL dC dI dA A A0 cells slots pc lo st h := by
  obtain ⟨hx, hb, hml, hown, hts, hK, hA, hEnv, hf, hlo, -, -⟩ := id hC
  intro H ls locs hl hP hD hS T hT X
  have hfree := am_free hD hS hA
  have hws : ∀ w ∈ am_wsH y b maxL hs, ∀ (a' : Array Value) (U : State), s.WarmedH U.vm → w.before a' U = true := pay_in hts (fun w hw => by
    have hm : w ∈ lw_good := by
      rcases List.mem_cons.mp hw with rfl | hw
      · exact hcode
      · exact hw
    exact ⟨hm, am_good hm⟩)
  obtain ⟨vm₁, mk, o, t, hW1, X1, hend, hq, hgo⟩ := am_invokeS X hx (bytes := b) (maxL := maxL) (ret := some .int) (hs := hs) hown (hts _ hlink) (hts _ hst) (hts _ hini) (hts _ hcode) ⟨hdesc.1, hdesc.2.1⟩ (hM dC dI dA A h as Rp H.size ha) hws
    (by show d' + 1 ≤ R.frames; omega) (by show 8 + (maxL + 11) + w' ≤ R.locals; omega) hR1 hR2 (g := F0 m pc ls (st.map (am_v A))) rfl (by show ls.size = c.maxLocals; rw [hl.1, hml]) (argsL := as.map (am_v A)) (rest := r.map (am_v A))
    (fun sig hsig => by rw [List.length_map, hnp]; have h2 := hdesc.2.2; rw [hsig] at h2; exact (Option.some.inj h2).symm) (by show st.map (am_v A) = _; rw [hstk, List.map_append, List.map_reverse]) (lv_room (by rw [am_cat_sum]; exact hroom)) (by rw [hb]; exact hdg)
    (fun U hU hW => am_pre_call (as := as.map (am_v A)) hEn hC hP hD hS U (hU.trans hT) hW)
  have hAt : At (T.setVm vm₁) ({ (F0 m pc ls (st.map (am_v A))) with stack := r.map (am_v A) } : JFrame).method c below := X1.here
  obtain ⟨⟨⟨v, h', hv, hR, hP1, hK1, hD1⟩, hz, hk1⟩, L, ⟨-, hW2, hs2⟩, hL⟩ := hq
  obtain ⟨b1, -, b3⟩ := am_back hAt hend hW2 hs2
  have X2 := am_stand_left X1 hW2 b1
  have et := b3 _ _ _ hv (by show decode c.code pc = _; rw [hb]; exact hdg)
  have hz' : H.size ≤ t.heap.size := by rw [← hT]; exact hz
  have hk' : ∀ q : Nat, q < H.size → ¬ va_A (am_c dA A 0 h) H.size q → t.heap[q]? = H[q]? := fun q g1 g2 => (hk1 q (by show q < T.heap.size; rw [hT]; exact g1) g2).trans (by show T.heap[q]? = H[q]?; rw [hT])
  have hS' : va_S A0 s.heap t.heap (locs ++ L) := by
    refine ⟨Nat.le_trans hS.1 hz', fun q g1 g2 => ?_, fun q hq => ?_⟩
    · rw [hk' q (Nat.lt_of_lt_of_le g1 hS.1) (fun z => g2 (hfree q z))]
      exact hS.2.1 q g1 g2
    · rcases List.mem_append.mp hq with h | h
      · exact hS.2.2 q h
      · exact hfree _ (hL q h)
  obtain ⟨t2, a1, b2⟩ := hret v h' hR t.heap ls (locs ++ L) hl hP1 (hD1.weaken (fun _ q _ z => hfree q.1 z)) hS' (am_left (T.setVm vm₁) t) rfl X2
  refine ⟨t2, hgo t2 ?_, b2⟩
  rw [et]
  have es : (v.toList ++ r).map (am_v A) = (v.map (am_v A)).toList ++ r.map (am_v A) := by cases v <;> simp
  rw [es] at a1
  exact a1
end HC
