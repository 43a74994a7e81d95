/-! a throw that the walked method catches: the search through its table, the catch types linked at that moment or before -/
section CT
variable {e : Env} {f : JFrame} {a : Addr}
/-- the rows of a table, as the thrown object's class meets them, each over the throwing instruction, up to the one that takes it -/
def am_Rows (pl : Platform) (s : State) (d : ClassId) (pc : Nat) (thrown : ClassId) (hpc : Nat) : List ExceptionTableEntry → Prop
  | [] => False
  | y :: t => covers y pc = true ∧ y.catchType ≠ 0 ∧ ∃ c, s.vm.ClassLinks pl d y.catchType c ∧ ((s.vm.assignable thrown c = true ∧ y.handlerPc = hpc) ∨ (s.vm.assignable thrown c = false ∧ am_Rows pl s d pc thrown hpc t))
theorem am_find {s : State} {cell : Cell} {hpc : Nat} (hobj : ∀ k, cell.vm ≠ .statics k) (hk0 : ∃ k, s.vm.classes[cell.cls]? = some k) :
    ∀ (ts : List ExceptionTableEntry) (S : State), s.WarmedH S.vm → S.heap[a]? = some cell → am_Rows e.platform s f.method.cls f.pc cell.cls hpc ts →
      ∃ vm', s.WarmedH vm' ∧ ∀ (Q : Handler → Pre) (E : CtlPost) (d : Bool) (acts : List Action), wp (findHandler.go f a ts) Q E e d acts S ↔ Q (.found hpc) d acts (S.setVm vm')
  | [], _, _, _, h => h.elim
  | y :: t, S, hW, hcell, h => by
    obtain ⟨hcov, h0, c, hl, h⟩ := h
    obtain ⟨k0, hk⟩ := hk0
    obtain ⟨k1, hk1, -⟩ := hW.alike.2.2 _ _ hk
    obtain ⟨dk, _, _, kt, hd, _, _, _, _, hkt, _, hopen⟩ := hl.here
    obtain ⟨k2, hk2, -⟩ := hW.alike.2.2 _ _ hkt
    have hl' := hW.classLinks hl
    have hWn := hW.noted hd hopen (State.rightAt_cls hl)
    obtain ⟨ra, rt⟩ := (resolveClass_links e.toSetting hl').op (op := VmOp.resolveClass f.method.cls y.catchType) rfl
    have hal : S.vm.Alike (S.vm.noted f.method.cls y.catchType (.cls c)) := (Vm.Alike.refl S.vm).noted _ _ _
    obtain ⟨k1', hk1', -⟩ := hal.2.2 _ _ hk1
    obtain ⟨k2', hk2', -⟩ := hal.2.2 _ _ hk2
    have hasg : (S.vm.noted f.method.cls y.catchType (.cls c)).assignable cell.cls c = s.vm.assignable cell.cls c := by rw [hal.assignable, hW.alike.assignable]
    have hcov' : (decide (y.startPc ≤ f.pc) && decide (f.pc < y.endPc)) = true := hcov
    rcases h with ⟨hy, rfl⟩ | ⟨hn, h⟩
    · rw [hy] at hasg
      refine ⟨_, hWn, fun Q E d acts => ?_⟩
      simp [findHandler.go, hcov', h0, ra, rt, hcell, hobj, hk1', hk2', hasg, VmOp.dirties, VmOp.acts]
    · rw [hn] at hasg
      obtain ⟨vm', hW', hq⟩ := am_find hobj ⟨k0, hk⟩ t (S.setVm (S.vm.noted f.method.cls y.catchType (.cls c))) hWn hcell h
      refine ⟨vm', hW', fun Q E d acts => ?_⟩
      have := hq Q E d acts
      simp [findHandler.go, hcov', h0, ra, rt, hcell, hobj, hk1', hk2', hasg, VmOp.dirties, VmOp.acts]
      exact this
end CT
section CU
variable {p : Program} {l : Launch} {e : Env} {R : Room} {s : State} {m : MethodId} {args : Array Value} {below : List Frame} {meth : Method} {c : Code} {T : State} {locs : List Loc} {cells slots : Nat}
theorem am_caught (X : Stand p l e R s m args below meth c T locs cells slots) (a : Addr) {g : JFrame} (hg : g.method = m) {cell : Cell} {hpc : Nat} (hcell : T.heap[a]? = some cell) (hobj : cell.vm.isStatics = false) (hk0 : ∃ k, s.vm.classes[cell.cls]? = some k) (hrows : am_Rows e.platform s m.cls g.pc cell.cls hpc c.exceptionTable.toList) :
    ∃ vm', Stand p l e R s m args below meth c (T.setVm vm') locs cells slots ∧ ∀ target, Steps p.tables e below ((T.setVm vm').setTop { g with pc := hpc, stack := [.ref a] }) target → Steps p.tables e below ((T.setTop g).pushFrame (.throwing a)) target := by
  subst hg
  obtain ⟨vm', hW', hf⟩ := am_find (e := e) (f := g) (a := a) (s := s) (VmData.ne_statics_of hobj) hk0 c.exceptionTable.toList ((T.setTop g).pushFrame (.throwing a)) X.warmed hcell hrows
  refine ⟨vm', X.noted hW', fun target hrest => ?_⟩
  have hfind : ∀ (Q : Handler → Pre) (E : CtlPost) (d : Bool) (acts : List Action), wp (findHandler g a) Q E e d acts ((T.setTop g).pushFrame (.throwing a)) ↔ Q (.found hpc) d acts (((T.setTop g).pushFrame (.throwing a)).setVm vm') := fun Q E d acts => by
    rw [W.findHandler_eq (s := (T.setTop g).pushFrame (.throwing a)) (f := g) X.method' X.code]
    exact hf Q E d acts
  obtain ⟨hgo, hw⟩ := X.here.throwing (g := g) a
  refine Steps.head hgo hw ?_
  have hstep : (stepThrowing e ((T.setTop g).pushFrame (.throwing a)) a (.java g :: T.frames.tail)).Is ((((T.setTop g).pushFrame (.throwing a)).setVm vm').setFrames (.java { g with pc := hpc, stack := [.ref a] } :: T.frames.tail)) [] := by
    simp only [stepThrowing, searchFrame, vmDo]
    generalize hr : Sem.go _ e false [] _ = res
    obtain ⟨as, rfl, ha⟩ := Sem.eq_ok_of hr (a := Handler.found hpc) (s' := ((T.setTop g).pushFrame (.throwing a)).setVm vm') (acts' := []) (by simp [hfind _ _ _ _])
    exact ⟨rfl, ha⟩
  rw [stepThread_throwing (frames_entered X.here.top _), hstep.1]
  obtain ⟨g₀, hg0⟩ := Option.isSome_iff_exists.mp X.here.top
  obtain ⟨r, hr⟩ := State.topJava?_eq_some.mp hg0
  have hr' : (T.setVm vm').frames = .java g₀ :: r := hr
  have two : ∀ (u : State) (F G : List Frame), ((u.setFrames F).setVm vm').setFrames G = (u.setVm vm').setFrames G := fun u F G => by
    have h1 : (u.setFrames F).setVm vm' = (u.setVm vm').setFrames F := rfl
    rw [h1, State.setFrames_setFrames]
  rw [State.setTop_of_frames _ hr'] at hrest
  rw [hr, List.tail_cons, State.pushFrame, two, State.setTop_of_frames _ hr, two]
  exact hrest
end CU
