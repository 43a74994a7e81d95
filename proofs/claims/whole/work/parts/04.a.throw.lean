/-! a throw: the walk begun anew at the state where it stands, so that what it leaves untouched is known; then the library's law of 'throw new' -/
def am_re (s T : State) : State := { s with heap := T.heap, slotsUsed := T.slotsUsed }
theorem am_frames_re (s T : State) : (am_re s T).frames = s.frames := rfl
section RB
variable {p : Program} {l : Launch} {e : Env} {R : Room} {s : State} {m : MethodId} {args : Array Value} {below : List Frame} {meth : Method} {c : Code} {T : State} {locs : List Loc}
theorem am_rebase (X : Stand p l e R s m args below meth c T locs 0 0) : Stand p l e R (am_re s T) m args below meth c T [] 0 0 := by
  have hsz : T.heap.size = s.heap.size := Nat.le_antisymm (by simpa using X.heapSize) X.same.2.1
  have hus : T.slotsUsed ≤ s.slotsUsed := by simpa using X.used
  have hbk : T.slotsTrue = true := X.book
  have hdr : T.heap.toList.drop T.heap.size = [] := by rw [List.drop_eq_nil_iff]; simp
  refine ⟨X.admits, X.cas, X.clock, X.frames, ?_, X.hears, X.method, X.code, X.here, X.tail, X.warmed, X.limits, X.bytes, ?_⟩
  · have h := X.room
    simp only [State.hasRoom, Bool.and_eq_true, decide_eq_true_eq] at h ⊢
    obtain ⟨⟨⟨⟨h1, h2⟩, h3⟩, h4⟩, h5⟩ := h
    refine ⟨⟨⟨⟨h1, h2⟩, ?_⟩, ?_⟩, hbk⟩
    · show T.heap.size + R.cells ≤ _
      omega
    · show T.slotsUsed + R.slots ≤ _
      omega
  · have h1 := X.same.1
    refine ⟨?_, Nat.le_refl _, by simp [am_re, State.setVm], ?_, ?_, ?_⟩
    · show T.setVm s.vm = _
      have h2 : T.setVm s.vm = { s.setFrames T.frames with heap := T.heap, slotsUsed := T.slotsUsed } := h1
      rw [h2]
      rfl
    · show T.slotsUsed = T.slotsUsed + ((T.heap.toList.drop T.heap.size).map (·.slots.size)).sum
      rw [hdr]; rfl
    · show ((T.heap.toList.drop T.heap.size).map (·.slots.size)).sum ≤ 0
      rw [hdr]; exact Nat.le_refl _
    · intro a c hc
      exact ⟨c, hc, rfl, rfl, fun _ _ => rfl⟩
theorem am_static_eval {C n ds : String} {v : Value} {A : Nat → Prop} {U : State} {a : Array Value} (h : va_Z C n ds v A U U.heap) : (Term.static C n ds).eval a U none [] U = some v := by
  obtain ⟨cf, kf, fi, f, x, cell, h1, h2, h3, h4, h5, h6, h7, -⟩ := h
  simp [Term.eval, State.fieldNamed?, h1, h2, h4, h5, h6, h7]
theorem am_isRefOf {C n ds : String} {A : Nat → Prop} {U : State} {a : Array Value} (h : va_Zq C n ds A U U.heap) : (Cond.isRef (.static C n ds)).before a U = true := by
  rcases h with h | ⟨t, h⟩
  · simp [Cond.before, Cond.holds, Cond.value, am_static_eval (a := a) h]
  · simp [Cond.before, Cond.holds, Cond.value, am_static_eval (a := a) h]
end RB
section TH
variable {p : Program} {l : Launch} {e : Env} {R : Room} {s : State} {m : MethodId} {args : Array Value} {below : List Frame} {meth : Method} {c : Code} {Q : State → Prop} {dC : Nat → ClassId} {dI : Nat → Nat → Nat} {dA : Nat → ClassId} {A : Nat → Nat} {A0 : Nat → Prop} {cc : ByteArray} {nL d w pc : Nat} {own : String}
theorem am_fits (k : Nat) : Bundle.fit (am_kind k) = true := by
  unfold am_kind; split <;> decide
theorem am_throws {H : Heap} {locs : List Loc} {ls : Array Slot} {k : Nat} (hC : am_C am_En cc nL own d w p R s m args c dC dI dA A A0 0 0) (hst : l.stackTraces = false) (hout : ∀ x ∈ c.exceptionTable.toList, covers x (pc + 9) = false) (hlk : meth.locks = false) (hR1 : 1 ≤ R.cells) (hR2 : 6 ≤ R.slots) (hR3 : 6 ≤ R.frames) (hR4 : 90 ≤ R.locals) (hls : ls.size = nL) (hS : va_S A0 s.heap H locs) (ht : am_thr cc own k pc)
    (hq : ∀ (x : Addr) (t : State) (ce : Cell), t.status = .running → Ended t below (.threw x) → s.WarmedH t.vm → s.sameButNew ({ t with vm := s.vm } : State) locs 1 6 → H.size ≤ t.heap.size → (∀ q, q < H.size → t.heap[q]? = H[q]?) → H.size ≤ x → t.heap[x]? = some ce → s.vm.findClass (am_kind k) = some ce.cls → ce.vm = .none → Q t) : W p l e R s m args below meth c H locs 0 0 Q (F0 m pc ls []) := by
  obtain ⟨hx, hb, hml, hown, hts, hK, hA, hEn, hf, hlo, -, -⟩ := hC
  obtain ⟨i1, i2, i3, tx, d0, d3, d4, d6, d9, w1, w2, w3, w4, w5⟩ := ht
  intro T hT X
  have X' := am_rebase X
  have hWr : s.WarmedH (am_re s T).vm := State.WarmedH.refl s
  have good : ∀ w ∈ lw_good, w.before args (am_re s T) = true := fun w hw => word_at hWr (am_good hw) (hts w hw)
  obtain ⟨str, hstr⟩ := hEn.2.2.1 _ w4
  have htr : e.platform.stackTraces = false := by rw [X.admits.platform]; exact hst
  have hkeep : ∀ a : Nat, a < s.heap.size → ¬ A0 a → T.heap[a]? = s.heap[a]? := by rw [hT]; exact hS.2.1
  have hatoms : ∀ a ∈ Bundle.ownAtoms own i3 (am_kind k) am_up, a.before args (am_re s T) = true := by
    intro a ha
    rcases w5 a ha with h | h | h
    · exact good a h
    · exact va_Nw.use (am_isNest_tab (List.mem_filter.mp h).2) (va_Nw.same (am_isNest_tab (List.mem_filter.mp h).2) (u := s) (U := am_re s T) rfl (hEn.1 a h))
    · unfold am_isTh at h
      simp only [Bool.or_eq_true, decide_eq_true_eq] at h
      rcases h with ((h | h) | h) | h
      · rw [h]
        exact am_isRefOf (A := A0) (va_Zq.kept (U := am_re s T) (va_Zq.moved (U := am_re s T) (Vm.Alike.refl s.vm) hEn.2.2.2.1) hkeep)
      · rw [h]
        exact am_isRefOf (A := A0) (va_Zq.kept (U := am_re s T) (va_Zq.moved (U := am_re s T) (Vm.Alike.refl s.vm) hEn.2.2.2.2.1) hkeep)
      · rw [h]
        exact am_LS.word (A := A0) (U := am_re s T) (am_LS.kept (U := am_re s T) (am_LS.moved (U := am_re s T) (Vm.Alike.refl s.vm) hEn.2.2.2.2.2.2.1) hkeep (fun _ z => z))
      · rw [h]
        exact am_LS.word (A := A0) (U := am_re s T) (am_LS.kept (U := am_re s T) (am_LS.moved (U := am_re s T) (Vm.Alike.refl s.vm) hEn.2.2.2.2.2.2.2) hkeep (fun _ z => z))
  have hK2 : W p l e R (am_re s T) m args below meth c T.heap [] 0 0 Q (F0 m pc ls []) := by
    refine W.newc hx hb (s := am_re s T) hown (good _ w1) (good _ w2) (good _ w3) rfl d0 (by omega) (by omega) (fun cX kX q1 q2 q3 q4 => ?_)
    refine W.eq (g2 := F0 m (pc + 3) ls [.ref T.heap.size]) rfl ?_
    refine lv_dup hx hb d3 rfl ?_
    refine va_ldcS (s := am_re s T) hx hb hown (vk_R.same (u := s) (U := am_re s T) rfl hstr) d4 ?_
    intro T2 hT2 X2
    obtain ⟨U, u1, u2, u3, u4, u5, ce, u6, u7⟩ := X2.ctorThrowS hx htr (own := own) (cls := am_kind k) (names := am_up) (ic := i3) hown (am_fits k) (by decide) hatoms (fun x h => by cases h) q1 q2 (a := T.heap.size)
      (by rw [hT2]; simp [freshCell]) (Nat.le_refl _) (msg := .ref str) rfl (g := F0 m (pc + 6) ls [.ref str, .ref T.heap.size, .ref T.heap.size]) rfl (by show ls.size = c.maxLocals; rw [hls, hml]) rfl rfl (rest := []) rfl
      (by rw [hb]; exact d6) (by rw [hb]; exact d9) hout (by show 2 + 3 < R.frames; omega) (by show 2 * 0 + 1 + (13 * (2 + 1) + 42) ≤ R.locals; omega) hlk
    refine ⟨U, u1, hq T.heap.size U ce u2 u3 u4 ?_ ?_ ?_ ?_ u6 u7.cls u7.vm⟩
    · have h0 : T.setVm s.vm = ({ s.setFrames T.frames with heap := T.heap, slotsUsed := T.slotsUsed } : State) := X.same.1
      have h1 : (T.setVm s.vm).sameButNew ({ U with vm := s.vm } : State) [] 1 6 := by
        obtain ⟨a1, a2, a3, a4, a5, a6⟩ := u5
        refine ⟨?_, a2, a3, a4, a5, a6⟩
        refine a1.trans ?_
        rw [h0]
        have e1 : ∀ F : List Frame, ({ s.setFrames T.frames with heap := T.heap, slotsUsed := T.slotsUsed } : State).setFrames F = ({ (s.setFrames T.frames).setFrames F with heap := T.heap, slotsUsed := T.slotsUsed } : State) := fun _ => rfl
        rw [e1, State.setFrames_setFrames]
        rfl
      have h2 := X.same.trans h1
      rw [List.append_nil] at h2
      exact h2
    · rw [← hT]; exact u5.2.1
    · intro q hq'
      rw [← hT] at hq' ⊢
      have hc : (am_re s T).heap[q]? = some (T.heap[q]'hq') := by show T.heap[q]? = _; simp [hq']
      have := State.sameButNew.old_cell u5 hc
      have h2 : U.heap[q]? = some (T.heap[q]'hq') := this
      rw [h2]; simp [hq']
    · rw [← hT]; exact Nat.le_refl _
  exact hK2 T rfl X'
end TH
