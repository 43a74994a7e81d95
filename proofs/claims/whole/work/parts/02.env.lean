/-! WHAT STANDS BESIDE THE TABLES' WORDS: links within the nest, arrays that are static -/
def lw_good : List Cond := lw_tbl.filter goodWord
theorem lw_g {w : Cond} (i : Nat) (h : lw_tbl[i]? = some w) (hg : goodWord w = true) : w ∈ lw_good := List.mem_filter.mpr ⟨List.mem_of_getElem? h, hg⟩
def am_isNest (w : Cond) : Bool := match w with
  | .fieldLinkNest .. => true
  | .methodLinkNest .. => true
  | _ => false
theorem am_isNest_warm {w : Cond} (h : am_isNest w = true) {s U : State} (hW : s.WarmedH U.vm) (hZ : va_Nw w s) : va_Nw w U := by
  cases w <;> first | exact va_Nw.warmF hW hZ | exact va_Nw.warmM hW hZ | (simp [am_isNest] at h; done)
theorem am_isNest_tab {w : Cond} (h : am_isNest w = true) : w.onTables = true := by
  cases w <;> first | rfl | (simp [am_isNest] at h; done)
def lw_nest : List Cond := lw_tbl.filter am_isNest
theorem lw_n {w : Cond} (i : Nat) (h : lw_tbl[i]? = some w) (hg : am_isNest w = true) : w ∈ lw_nest := List.mem_filter.mpr ⟨List.mem_of_getElem? h, hg⟩
/-- a static array of ints: (class, field, pretended place, length, contents) -/
abbrev am_St : Type := String × String × Nat × Nat × (Nat → Int32)
def am_StOk (q : am_St) (A : Nat → Nat) (A0 : Nat → Prop) (U : State) (H : Heap) : Prop := va_Z q.1 q.2.1 "[I" (.ref (A q.2.2.1)) A0 U H ∧ va_T .int (A q.2.2.1) q.2.2.2.1 (fun j => .int (q.2.2.2.2 j)) A0 U H
def am_En (A : Nat → Nat) (A0 : Nat → Prop) (U : State) : Prop := (∀ w ∈ lw_nest, va_Nw w U) ∧ ∀ (k : Nat) (q : am_St), lw_stats[k]? = some q → am_StOk q A A0 U U.heap
theorem am_En.same {A : Nat → Nat} {A0 : Nat → Prop} {u U : State} (hv : u.vm = U.vm) (hh : u.heap = U.heap) (h : am_En A A0 u) : am_En A A0 U := by
  refine ⟨fun w hw => va_Nw.same (am_isNest_tab (List.mem_filter.mp hw).2) hv (h.1 w hw), fun k q hq => ?_⟩
  have := h.2 k q hq
  rw [← hh]
  exact ⟨this.1.moved (hv ▸ Vm.Alike.refl u.vm), this.2.moved (hv ▸ Vm.Alike.refl u.vm)⟩
theorem am_En.call {A : Nat → Nat} {A0 A1 : Nat → Prop} {s U : State} {locs : List Loc} (h : am_En A A0 s) (hW : s.WarmedH U.vm) (hS : va_S A0 s.heap U.heap locs) (hA : ∀ q, A1 q → A0 q) : am_En A A1 U := by
  refine ⟨fun w hw => am_isNest_warm (List.mem_filter.mp hw).2 hW (h.1 w hw), fun k q hq => ?_⟩
  have := h.2 k q hq
  exact ⟨((this.1.moved hW.alike).kept hS.2.1).narrow hA, ((this.2.moved hW.alike).kept hS.2.1).narrow hA⟩
