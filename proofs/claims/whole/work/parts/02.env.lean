/-! WHAT STANDS BESIDE THE TABLES' WORDS: links within the nest, arrays that are static -/
def lw_good : List Cond := lw_tbl.filter goodWord
theorem lw_g {w : Cond} (i : Nat) (h : lw_tbl[i]? = some w) (hg : goodWord w = true) : w ∈ lw_good := List.mem_filter.mpr ⟨List.mem_of_getElem? h, hg⟩
def am_isNest (w : Cond) : Bool := match w with
  | .fieldLinkNest .. => true
  | .methodLinkNest .. => true
  | .declares _ => true
  | .castable .. => true
  | _ => false
theorem am_isNest_warm {w : Cond} (h : am_isNest w = true) {s U : State} (hW : s.WarmedH U.vm) (hZ : va_Nw w s) : va_Nw w U := by
  cases w <;> first | exact va_Nw.warmF hW hZ | exact va_Nw.warmM hW hZ | exact va_Nw.warmD hW hZ | exact va_Nw.warmC hW hZ | (simp [am_isNest] at h; done)
theorem am_isNest_tab {w : Cond} (h : am_isNest w = true) : w.onTables = true := by
  cases w <;> first | rfl | (simp [am_isNest] at h; done)
def lw_nest : List Cond := lw_tbl.filter am_isNest
theorem lw_n {w : Cond} (i : Nat) (h : lw_tbl[i]? = some w) (hg : am_isNest w = true) : w ∈ lw_nest := List.mem_filter.mpr ⟨List.mem_of_getElem? h, hg⟩
/-- a static array of ints: (class, field, pretended place, length, contents) -/
abbrev am_St : Type := String × String × Nat × Nat × (Nat → Int32)
def am_StOk (q : am_St) (A : Nat → Nat) (A0 : Nat → Prop) (U : State) (H : Heap) : Prop := va_Z q.1 q.2.1 "[I" (.ref (A q.2.2.1)) A0 U H ∧ va_T .int (A q.2.2.1) q.2.2.2.1 (fun j => .int (q.2.2.2.2 j)) A0 U H
/-- the exceptions' texts -/
def lw_strs : List (String × Nat × String) := [("ImposeSheets", 75, "no such setting"), ("ImposeSheets", 88, "not within the setting's bounds"), ("ImposeSheets", 98, "not a number of pages that can be laid"), ("ImposeSheets", 102, "no scheme"), ("ImposeSheets", 109, "the binding is not one for the scheme"), ("ImposeSheets", 126, "no such place, or nothing of that kind to tell"), ("ImposeSheets", 135, "no such place in the book"), ("ImposeSheets", 144, "the page was not laid"), ("ImposeSheets", 158, "nothing of that kind to tell"), ("ImposeSheets", 161, "not a number of copies"), ("ImposeSheets", 168, "there are as many jobs as there may be"), ("ImposeSheets", 177, "slots, cost or ways not within bounds"), ("ImposeSheets", 179, "no jobs"), ("ImposeSheets", 189, "nothing such was shared out")]
/-- pairs of exceptions' classes of which the first is no kind of the second -/
def lw_nc : List (String × String) := [("java/lang/IllegalArgumentException", "java/lang/IndexOutOfBoundsException"), ("java/lang/IllegalStateException", "java/lang/IllegalArgumentException"), ("java/lang/UnsupportedOperationException", "java/lang/IllegalArgumentException")]
def am_thN : String := "java/lang/Throwable"
def am_thU : String × String := ("UNASSIGNED_STACK", "[Ljava/lang/StackTraceElement;")
def am_thS : String × String := ("SUPPRESSED_SENTINEL", "Ljava/util/List;")
/-- a static field's place, as the tables and the heap have it -/
def am_LS (C n d : String) (A : Nat → Prop) (U : State) (H : Heap) : Prop := ∃ (c : ClassId) (k : Class) (i : Nat) (f : Field) (a : Nat) (cell : Cell), U.vm.findClass C = some c ∧ U.fieldFound? C n d = some (c, k, i, f) ∧ f.isStatic = true ∧ k.statics = some a ∧ cell.vm.isStatics = true ∧ cell.cls = c ∧ f.slot < cell.slots.size ∧ k.staticTypes[f.slot]? = some f.type ∧ H[a]? = some cell ∧ ¬ A a
theorem am_LS.of {C n d : String} {A : Nat → Prop} {U : State} {args : Array Value} (h : (Cond.laysStatic C n d).before args U = true) (hA : ∀ a : Nat, a < U.heap.size → ¬ A a) : am_LS C n d A U U.heap := by
  obtain ⟨c, k, i, f, a, cell, h1, h2, h3, h4, h5, h6, h7, h8, h9⟩ := Cond.laysStatic_spec (show (Cond.laysStatic C n d).holds args U none U [] = true from h)
  exact ⟨c, k, i, f, a, cell, h1, h2, h3, h4, h6, h7, h8, h9, h5, hA a (Array.getElem?_eq_some_iff.mp h5).1⟩
theorem am_LS.moved {C n d : String} {A : Nat → Prop} {u U : State} {H : Heap} (hvm : u.vm.Alike U.vm) (h : am_LS C n d A u H) : am_LS C n d A U H := by
  obtain ⟨c, k, i, f, a, cell, h1, h2, h3, h4, h6, h7, h8, h9, h5, h10⟩ := h
  obtain ⟨k', hi', he⟩ := State.fieldFound?_setVm hvm h2
  exact ⟨c, k', i, f, a, cell, by rw [hvm.findClass]; exact h1, hi', h3, by rw [he]; exact h4, h6, h7, h8, by rw [he]; exact h9, h5, h10⟩
theorem am_LS.kept {C n d : String} {A B : Nat → Prop} {U : State} {H H1 : Heap} (h : am_LS C n d A U H) (hq : ∀ a : Nat, a < H.size → ¬ A a → H1[a]? = H[a]?) (hAB : ∀ q, B q → A q) : am_LS C n d B U H1 := by
  obtain ⟨c, k, i, f, a, cell, h1, h2, h3, h4, h6, h7, h8, h9, h5, h10⟩ := h
  exact ⟨c, k, i, f, a, cell, h1, h2, h3, h4, h6, h7, h8, h9, by rw [hq a (Array.getElem?_eq_some_iff.mp h5).1 h10]; exact h5, fun z => h10 (hAB a z)⟩
theorem am_LS.word {C n d : String} {A : Nat → Prop} {U : State} {args : Array Value} (h : am_LS C n d A U U.heap) : (Cond.laysStatic C n d).before args U = true := by
  obtain ⟨c, k, i, f, a, cell, h1, h2, h3, h4, h6, h7, h8, h9, h5, -⟩ := h
  simp [Cond.before, Cond.holds, Cond.value, h1, h2, h3, h4, h5, h6, h7, h8, h9]
def am_En (A : Nat → Nat) (A0 : Nat → Prop) (U : State) : Prop := (∀ w ∈ lw_nest, va_Nw w U) ∧ (∀ (k : Nat) (q : am_St), lw_stats[k]? = some q → am_StOk q A A0 U U.heap) ∧ (∀ q ∈ lw_strs, ∃ a : Nat, vk_R q.1 q.2.1 q.2.2 a U) ∧ va_Zq am_thN am_thU.1 am_thU.2 A0 U U.heap ∧ va_Zq am_thN am_thS.1 am_thS.2 A0 U U.heap ∧ (∀ q ∈ lw_nc, va_Nc q.1 q.2 U) ∧ am_LS am_thN am_thU.1 am_thU.2 A0 U U.heap ∧ am_LS am_thN am_thS.1 am_thS.2 A0 U U.heap
theorem am_Zq_same {C n d : String} {A : Nat → Prop} {u U : State} (hv : u.vm.Alike U.vm) (hh : u.heap = U.heap) (h : va_Zq C n d A u u.heap) : va_Zq C n d A U U.heap := by
  rw [← hh]
  exact va_Zq.moved hv h
theorem am_En.same {A : Nat → Nat} {A0 : Nat → Prop} {u U : State} (hv : u.vm = U.vm) (hh : u.heap = U.heap) (h : am_En A A0 u) : am_En A A0 U := by
  have ha : u.vm.Alike U.vm := hv ▸ Vm.Alike.refl u.vm
  refine ⟨fun w hw => va_Nw.same (am_isNest_tab (List.mem_filter.mp hw).2) hv (h.1 w hw), fun k q hq => ?_, fun q hq => ?_, am_Zq_same ha hh h.2.2.2.1, am_Zq_same ha hh h.2.2.2.2.1, fun q hq => (h.2.2.2.2.2.1 q hq).moved ha, hh ▸ h.2.2.2.2.2.2.1.moved ha, hh ▸ h.2.2.2.2.2.2.2.moved ha⟩
  · have := h.2.1 k q hq
    rw [← hh]
    exact ⟨this.1.moved ha, this.2.moved ha⟩
  · obtain ⟨a, e⟩ := h.2.2.1 q hq
    exact ⟨a, vk_R.same hv.symm e⟩
theorem am_En.call {A : Nat → Nat} {A0 A1 : Nat → Prop} {s U : State} {locs : List Loc} (h : am_En A A0 s) (hW : s.WarmedH U.vm) (hS : va_S A0 s.heap U.heap locs) (hA : ∀ q, A1 q → A0 q) : am_En A A1 U := by
  refine ⟨fun w hw => am_isNest_warm (List.mem_filter.mp hw).2 hW (h.1 w hw), fun k q hq => ?_, fun q hq => ?_, ?_, ?_, fun q hq => (h.2.2.2.2.2.1 q hq).moved hW.alike, (h.2.2.2.2.2.2.1.moved hW.alike).kept hS.2.1 hA, (h.2.2.2.2.2.2.2.moved hW.alike).kept hS.2.1 hA⟩
  · have := h.2.1 k q hq
    exact ⟨((this.1.moved hW.alike).kept hS.2.1).narrow hA, ((this.2.moved hW.alike).kept hS.2.1).narrow hA⟩
  · obtain ⟨a, e⟩ := h.2.2.1 q hq
    exact ⟨a, e.warm hW⟩
  · exact ((va_Zq.moved hW.alike h.2.2.2.1).kept hS.2.1).narrow hA
  · exact ((va_Zq.moved hW.alike h.2.2.2.2.1).kept hS.2.1).narrow hA
