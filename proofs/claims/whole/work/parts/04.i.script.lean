/-! the law's own script -/
def am_scr : Nat := 200000
def am_EnL (L : Nat) (xs : Nat → Int32) (A : Nat → Nat) (A0 : Nat → Prop) (s : State) : Prop := am_En A A0 s ∧ va_X (A am_scr) L xs s s.heap ∧ A am_scr < s.heap.size ∧ ¬ A0 (A am_scr)
section SC
variable {L : Nat} {xs : Nat → Int32} {cc : ByteArray} {nL d w pc : Nat} {own : String}
theorem am_s_xld (hd : decode cc pc = .ok (.iaload, 1)) : am_Snd (am_EnL L xs) cc nL own d w pc (am_sld am_scr L xs (pc + 1)) := by
  intro p l e R s m args below meth c Q dC dI dA A A0 cells slots Rp hC hE lo st h K ha hk H ls locs hl hP hD hS
  unfold am_sld at ha
  split at ha
  · rename_i i a r
    obtain ⟨⟨rfl, hi⟩, ha⟩ := ha
    obtain ⟨-, q1, q2, q3⟩ := hC.2.2.2.2.2.2.2.1
    exact va_sld hC.1 hC.2.1 q1 q2 q3 hS hi hd (hk _ _ _ _ ha H ls locs hl hP hD hS)
  · exact ha.elim
theorem am_s_xlen (hd : decode cc pc = .ok (.arraylength, 1)) : am_Snd (am_EnL L xs) cc nL own d w pc (am_slen am_scr L (pc + 1)) := by
  intro p l e R s m args below meth c Q dC dI dA A A0 cells slots Rp hC hE lo st h K ha hk H ls locs hl hP hD hS
  unfold am_slen at ha
  split at ha
  · rename_i a r
    obtain ⟨rfl, ha⟩ := ha
    obtain ⟨-, q1, q2, q3⟩ := hC.2.2.2.2.2.2.2.1
    exact va_slen hC.1 hC.2.1 q1 q2 q3 hS hd (hk _ _ _ _ ha H ls locs hl hP hD hS)
  · exact ha.elim
end SC
theorem am_atoms {own X : String} {ic : Nat} (h : (Bundle.ownAtoms own ic X am_up).all (fun w => (decide (w ∈ lw_tbl) && (goodWord w || am_isNest w)) || am_isTh w) = true) : ∀ w ∈ Bundle.ownAtoms own ic X am_up, w ∈ lw_good ∨ w ∈ lw_nest ∨ am_isTh w = true := by
  intro w hw
  have h1 := List.all_eq_true.mp h w hw
  simp only [Bool.or_eq_true, Bool.and_eq_true, decide_eq_true_eq] at h1
  rcases h1 with ⟨h2, h3 | h3⟩ | h3
  · exact Or.inl (List.mem_filter.mpr ⟨h2, h3⟩)
  · exact Or.inr (Or.inl (List.mem_filter.mpr ⟨h2, h3⟩))
  · exact Or.inr (Or.inr h3)
