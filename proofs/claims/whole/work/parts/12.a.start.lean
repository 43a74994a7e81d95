/-! the law, from its entry (gen/start12.py) -/
def R_law : String := "ImposeSheetsLaw"
def lw_P (b : Addr) (xs : List Int32) (args : Array Value) (s : State) : Prop := args = #[.ref b] ∧ s.IntsAt b xs ∧ xs.length ≤ 2560 ∧ (Jvm.Cond.and given_1 narrow_1).before args s = true
def lw_Q (_ : Array Value) (s : State) (o : Outcome) (t : State) : Prop := o = .returned (some (.int 1)) ∧ Framed s o t [] 1095 17503
def lw_Z (below : List Frame) (a : Array Value) (s : State) : State → Prop := fun t => ∃ o, t.status = .running ∧ Ended t below o ∧ lw_Q a s o t
/-- the law's own end, with 1 on the stack, nothing written that was there before, its room as the claim has it -/
theorem lw_ret {p : Program} {l : Launch} {e : Env} {s : State} {m : MethodId} {below : List Frame} {meth : Method} {c : Code} {b : Nat} (hx : p.tables.exec = Jvm.exec) (hb : c.code = code) (hr : meth.sig.returnType = ret) (hlocks : meth.locks = false) {pc : Nat} {H : Heap} {ls : Array Slot} (hdg : decode code pc = .ok (.ireturn, 1)) : W p l e room_1 s m #[Value.ref b] below meth c H [] 1095 17503 (lw_Z below #[Value.ref b] s) (F0 m pc ls [.int 1]) := by
  intro T hT X
  obtain ⟨fs, hret, hrun, hended, hW, hframe⟩ := X.leave (v := some (.int 1)) (hlocks := hlocks) (fun h => by rw [hr] at h; cases h)
  have hmeth' : T.vm.method? m = some meth := X.method'
  refine ⟨T.setFrames fs, ?_, .returned (some (.int 1)), hrun, hended, rfl, ⟨_, rfl⟩, hW, hframe⟩
  jvm_step X.here [X.here.top, hx, hb, hdg, hmeth', hr, ret, narrow_b1]
  (try refine ⟨rfl, ?_⟩); (try refine ⟨rfl, ?_⟩)
  first | (intro acts; rw [hret _ acts rfl rfl rfl]) | rw [hret _ _ rfl rfl rfl]
  exact Steps.refl _
/-- what holds at the law's entry: the machine, the code, the tables' words (any of lw_tbl by 'hts w (by decide +kernel)'), the script of L ints xs at the cell b, what the Statement gives of the start (any of its parts by flat_of_before) -/
def lw_At (p : Program) (s : State) (m : MethodId) (meth : Method) (c : Code) (b L : Nat) (xs : Nat → Int32) : Prop :=
  p.tables.exec = Jvm.exec ∧ c.code = code ∧ meth.sig.returnType = ret ∧ c.maxLocals = 7 ∧ s.vm.findClass R_law = some m.cls ∧ (∀ w ∈ lw_tbl, w.before #[Value.ref b] s = true) ∧ va_X b L xs s s.heap ∧ b < s.heap.size ∧ meth.locks = false ∧ (Jvm.Cond.and given_1 narrow_1).before #[Value.ref b] s = true
def ls_F0 : Nat → Nat → Int32 := (fun k => cond (Nat.beq k 2) (va_cpy nS_0 (fun _ => 0) (0 : Int32).toNatClampNeg (0 : Int32).toNatClampNeg (10 : Int32).toNatClampNeg) (fun _ => 0))
def ls_G0 : Nat → Nat → Int32 := (fun k => cond (Nat.beq k 14) (upd (upd (upd (upd (fun _ => 0) (3 : Int32).toNatClampNeg 1000) (4 : Int32).toNatClampNeg 1000) (5 : Int32).toNatClampNeg 1000) (6 : Int32).toNatClampNeg 1000) (fun _ => 0))
theorem ls_beq {k n : Nat} (h : ¬ k = n) : Nat.beq k n = false := by
  cases hb : Nat.beq k n with
  | false => rfl
  | true => exact absurd (Nat.eq_of_beq_eq_true hb) h
theorem ls_Ivr : Ivr false (fun _ => 0) ls_F0 (fun _ => 0) ls_G0 := by
  refine Ivr_0 (fun _ => rfl) (fun k j hk => ?_) (fun j hj => ?_) (fun _ => rfl) (fun k j hk => ?_) (fun j hj => ?_)
  · unfold ls_F0; rw [ls_beq hk]; rfl
  · rcases (show j = 0 ∨ j = 1 ∨ j = 2 ∨ j = 3 ∨ j = 4 ∨ j = 5 ∨ j = 6 ∨ j = 7 ∨ j = 8 ∨ j = 9 by omega) with rfl | rfl | rfl | rfl | rfl | rfl | rfl | rfl | rfl | rfl <;> decide +kernel
  · unfold ls_G0; rw [ls_beq hk]; rfl
  · rcases (show j = 0 ∨ j = 1 ∨ j = 2 ∨ j = 3 ∨ j = 4 ∨ j = 5 ∨ j = 6 ∨ j = 7 ∨ j = 8 ∨ j = 9 by omega) with rfl | rfl | rfl | rfl | rfl | rfl | rfl | rfl | rfl | rfl <;> decide +kernel
/-- the static arrays -/
theorem ls_stat {b : Nat} {s : State} {C n : String} {f : Nat → Int32} {A0 : Nat → Prop} (hl : (Cond.laysStatic C n "[I").before #[Value.ref b] s = true) (hi : (Cond.initialized C).before #[Value.ref b] s = true) (harr : (Cond.arrayOf (.static C n "[I") .int).before #[Value.ref b] s = true) (hlen : (Cond.eq (.length (.static C n "[I")) (.int 10)).before #[Value.ref b] s = true) (hel : ∀ j : Nat, j < 10 → (Cond.eq (.elem (.static C n "[I") (.int (Int32.ofNat j))) (.int (f j))).before #[Value.ref b] s = true) (hA : ∀ a : Nat, a < s.heap.size → ¬ A0 a) : ∃ t : Nat, va_Z C n "[I" (.ref t) A0 s s.heap ∧ va_T .int t 10 (fun j => .int (f j)) A0 s s.heap := by
  obtain ⟨t, ht, hT⟩ := va_Tof (f := fun j => .int (f j)) (A := A0) (N := 10) (by decide) harr (va_eqt hlen) (fun j hj => va_eqt (hel j hj)) hA
  exact ⟨t, va_Zof hl hi ht hA, hT⟩
theorem ls_str1 : ∀ q ∈ lw_strs, Cond.stringRef q.1 q.2.1 q.2.2 ∈ lw_tbl := by
  have h : lw_strs.all (fun q => decide (Cond.stringRef q.1 q.2.1 q.2.2 ∈ lw_tbl)) = true := by decide +kernel
  exact fun q hq => of_decide_eq_true (List.all_eq_true.mp h q hq)
theorem ls_str2 : ∀ q ∈ lw_strs, Cond.exactly (.string q.1 q.2.1) "java/lang/String" ∈ (flatC (Jvm.Cond.and given_1 narrow_1)) := by
  have h : lw_strs.all (fun q => decide (Cond.exactly (.string q.1 q.2.1) "java/lang/String" ∈ (flatC (Jvm.Cond.and given_1 narrow_1)))) = true := by decide +kernel
  exact fun q hq => of_decide_eq_true (List.all_eq_true.mp h q hq)
theorem ls_nc : ∀ q ∈ lw_nc, Cond.not (.castable q.1 q.2) ∈ (flatC (Jvm.Cond.and given_1 narrow_1)) := by
  have h : lw_nc.all (fun q => decide (Cond.not (.castable q.1 q.2) ∈ (flatC (Jvm.Cond.and given_1 narrow_1)))) = true := by decide +kernel
  exact fun q hq => of_decide_eq_true (List.all_eq_true.mp h q hq)
set_option maxHeartbeats 4000000 in
set_option maxRecDepth 100000 in
/-- what stands beside the words, at the entry -/
theorem ls_En {p : Program} {s : State} {m : MethodId} {meth : Method} {c : Code} {b L : Nat} {xs : Nat → Int32} (C0 : lw_At p s m meth c b L xs) : ∃ t0 t1 t2 : Nat, ∀ A : Nat → Nat, A 100000 = t0 → A 100001 = t1 → A 100002 = t2 → am_En A (fun q => s.heap.size ≤ q) s := by
  obtain ⟨hx, hb, hr, hml, hown, htbl, hX, hbl, hlocks, hgv⟩ := C0
  have hs := flat_of_before _ hgv
  obtain ⟨t0, hz0, ht0⟩ := ls_stat (C := "ImposeSheets") (n := "SETTING_FIRST") (f := nS_0) (A0 := fun q : Nat => s.heap.size ≤ q) (htbl _ (by decide +kernel)) (htbl _ (by decide +kernel)) (hs _ (by decide +kernel)) (hs _ (by decide +kernel)) (fun j hj => by
    rcases (show j = 0 ∨ j = 1 ∨ j = 2 ∨ j = 3 ∨ j = 4 ∨ j = 5 ∨ j = 6 ∨ j = 7 ∨ j = 8 ∨ j = 9 by omega) with rfl | rfl | rfl | rfl | rfl | rfl | rfl | rfl | rfl | rfl <;> exact hs _ (by decide +kernel)) (fun a h => Nat.not_le.mpr h)
  obtain ⟨t1, hz1, ht1⟩ := ls_stat (C := "ImposeSheets") (n := "SETTING_LEAST") (f := nS_1) (A0 := fun q : Nat => s.heap.size ≤ q) (htbl _ (by decide +kernel)) (htbl _ (by decide +kernel)) (hs _ (by decide +kernel)) (hs _ (by decide +kernel)) (fun j hj => by
    rcases (show j = 0 ∨ j = 1 ∨ j = 2 ∨ j = 3 ∨ j = 4 ∨ j = 5 ∨ j = 6 ∨ j = 7 ∨ j = 8 ∨ j = 9 by omega) with rfl | rfl | rfl | rfl | rfl | rfl | rfl | rfl | rfl | rfl <;> exact hs _ (by decide +kernel)) (fun a h => Nat.not_le.mpr h)
  obtain ⟨t2, hz2, ht2⟩ := ls_stat (C := "ImposeSheets") (n := "SETTING_MOST") (f := nS_2) (A0 := fun q : Nat => s.heap.size ≤ q) (htbl _ (by decide +kernel)) (htbl _ (by decide +kernel)) (hs _ (by decide +kernel)) (hs _ (by decide +kernel)) (fun j hj => by
    rcases (show j = 0 ∨ j = 1 ∨ j = 2 ∨ j = 3 ∨ j = 4 ∨ j = 5 ∨ j = 6 ∨ j = 7 ∨ j = 8 ∨ j = 9 by omega) with rfl | rfl | rfl | rfl | rfl | rfl | rfl | rfl | rfl | rfl <;> exact hs _ (by decide +kernel)) (fun a h => Nat.not_le.mpr h)
  refine ⟨t0, t1, t2, fun A e0 e1 e2 => ⟨fun w hw => va_Nw.of (am_isNest_tab (List.mem_filter.mp hw).2) (htbl w (List.mem_filter.mp hw).1), fun k q hq => ?_, fun q hq => ?_, ?_, ?_, fun q hq => ?_, ?_, ?_⟩⟩
  · match k, hq with
    | 0, hq => cases hq; exact ⟨by show va_Z _ _ _ (.ref (A 100000)) _ _ _; rw [e0]; exact hz0, by show va_T _ (A 100000) _ _ _ _ _; rw [e0]; exact ht0⟩
    | 1, hq => cases hq; exact ⟨by show va_Z _ _ _ (.ref (A 100001)) _ _ _; rw [e1]; exact hz1, by show va_T _ (A 100001) _ _ _ _ _; rw [e1]; exact ht1⟩
    | 2, hq => cases hq; exact ⟨by show va_Z _ _ _ (.ref (A 100002)) _ _ _; rw [e2]; exact hz2, by show va_T _ (A 100002) _ _ _ _ _; rw [e2]; exact ht2⟩
    | k + 3, hq => cases hq
  · have hst : (Cond.stringRef q.1 q.2.1 q.2.2).before #[Value.ref b] s = true := htbl _ (ls_str1 q hq)
    obtain ⟨a, c', cell, k', h1, -⟩ := Cond.exactly_spec (show (Cond.exactly (.string q.1 q.2.1) "java/lang/String").holds #[Value.ref b] s none s [] = true from hs _ (ls_str2 q hq))
    exact ⟨a, vk_R.of hst h1⟩
  · exact va_Zqof (htbl _ (by decide +kernel)) (htbl _ (by decide +kernel)) (hs _ (by decide +kernel)) (fun a h => Nat.not_le.mpr h)
  · exact va_Zqof (htbl _ (by decide +kernel)) (htbl _ (by decide +kernel)) (hs _ (by decide +kernel)) (fun a h => Nat.not_le.mpr h)
  · exact va_Nc.of (hs _ (ls_nc q hq))
  · exact am_LS.of (htbl _ (by decide +kernel)) (fun a h => Nat.not_le.mpr h)
  · exact am_LS.of (htbl _ (by decide +kernel)) (fun a h => Nat.not_le.mpr h)
theorem ls_arr {b : Nat} {s : State} {ty : FieldType} (h : (Cond.arrayClass ty).before #[Value.ref b] s = true) (hp : ∀ C, ¬ ty = .object C) : ∃ cA : ClassId, ArrOfT s cA ty ∧ va_RA s cA ty := by
  obtain ⟨cA, kA, comp, h1, h2, h3⟩ := Cond.arrayClass_spec h
  refine ⟨cA, fun n z => ⟨fun k h => (by cases h), kA, h2, comp, h3⟩, ?_⟩
  cases ty <;> first | exact h1 | exact absurd rfl (hp _)
set_option maxHeartbeats 8000000 in
set_option maxRecDepth 100000 in
theorem whole_start {p : Program} {e : Env} {s : State} {m : MethodId} {below : List Frame} {meth : Method} {c : Code} (l : Launch) (hst : l.stackTraces = false) {b L : Nat} {xs : Nat → Int32} (hL : L ≤ 2560) (C0 : lw_At p s m meth c b L xs) : W p l e room_1 s m #[Value.ref b] below meth c s.heap [] 0 0 (lw_Z below #[Value.ref b] s) (entryFrame m ([Value.ref b] : List Value).toArray 7) := by
  obtain ⟨t0, t1, t2, hEnA⟩ := ls_En C0
  obtain ⟨hx, hb, hr, hml, hown, htbl, hX, hbl, hlocks, hgv⟩ := C0
  have hts : ∀ w ∈ lw_good, w.before #[Value.ref b] s = true := fun w hw => htbl w (List.mem_filter.mp hw).1
  have hA : ∀ q : Nat, s.heap.size ≤ q → (fun q : Nat => s.heap.size ≤ q) q := fun _ h => h
  have hbA : ¬ (fun q : Nat => s.heap.size ≤ q) b := Nat.not_le.mpr hbl
  obtain ⟨c0, iS0, hKn0⟩ := u_known (C := nR_Im) (T := nT_Im) (N := 7) (n := 7) hts nG_Im (hts _ w_80)
  obtain ⟨c1, iS1, hKn1⟩ := u_known (C := nR_Ta) (T := nT_Ta) (N := 2) (n := 2) hts nG_Ta (hts _ w_88)
  obtain ⟨c2, iS2, hKn2⟩ := u_known (C := nR_Re) (T := nT_Re) (N := 5) (n := 5) hts nG_Re (hts _ w_102)
  obtain ⟨c3, iS3, hKn3⟩ := u_known (C := nR_Fo) (T := nT_Fo) (N := 7) (n := 7) hts nG_Fo (hts _ w_108)
  obtain ⟨c4, iS4, hKn4⟩ := u_known (C := nR_Bo) (T := nT_Bo) (N := 8) (n := 8) hts nG_Bo (hts _ w_157)
  obtain ⟨c5, iS5, hKn5⟩ := u_known (C := nR_Sh) (T := nT_Sh) (N := 12) (n := 12) hts nG_Sh (hts _ w_188)
  obtain ⟨c6, iS6, hKn6⟩ := u_known (C := nR_Sc) (T := nT_Sc) (N := 8) (n := 8) hts nG_Sc (hts _ w_231)
  obtain ⟨c7, iS7, hKn7⟩ := u_known (C := nR_Mo) (T := nT_Mo) (N := 55) (n := 55) hts nG_Mo (hts _ w_826)
  obtain ⟨dC, dI, hKc⟩ : ∃ (dC : Nat → ClassId) (dI : Nat → Nat → Nat), ∀ (k : Nat) (q : vw_C), vwCl[k]? = some q → u_Kn s q.1 q.2.1 q.2.2 (dC k) (dI k) := by
    refine ⟨fun k => cond (Nat.beq k 0) c0 (cond (Nat.beq k 1) c1 (cond (Nat.beq k 2) c2 (cond (Nat.beq k 3) c3 (cond (Nat.beq k 4) c4 (cond (Nat.beq k 5) c5 (cond (Nat.beq k 6) c6 (c7))))))), fun k => cond (Nat.beq k 0) iS0 (cond (Nat.beq k 1) iS1 (cond (Nat.beq k 2) iS2 (cond (Nat.beq k 3) iS3 (cond (Nat.beq k 4) iS4 (cond (Nat.beq k 5) iS5 (cond (Nat.beq k 6) iS6 (iS7))))))), ?_⟩
    intro k q hq
    match k, hq with
    | 0, hq => cases hq; exact hKn0
    | 1, hq => cases hq; exact hKn1
    | 2, hq => cases hq; exact hKn2
    | 3, hq => cases hq; exact hKn3
    | 4, hq => cases hq; exact hKn4
    | 5, hq => cases hq; exact hKn5
    | 6, hq => cases hq; exact hKn6
    | 7, hq => cases hq; exact hKn7
    | k + 8, hq => cases hq
  obtain ⟨cI, hcI⟩ := ls_arr (hts _ w_100) (fun C h => by cases h)
  obtain ⟨cJ, hcJ⟩ := ls_arr (hts _ w_1172) (fun C h => by cases h)
  obtain ⟨cZ, hcZ⟩ := ls_arr (hts _ w_997) (fun C h => by cases h)
  obtain ⟨dA, hdA⟩ : ∃ dA : Nat → ClassId, ∀ (k : Nat) (q : ClassId × FieldType), (am_tys dA)[k]? = some q → ArrOfT s q.1 q.2 ∧ va_RA s q.1 q.2 := by
    refine ⟨fun k => cond (Nat.beq k 0) cI (cond (Nat.beq k 1) cJ cZ), ?_⟩
    intro k q hq
    match k, hq with
    | 0, hq => cases hq; exact hcI
    | 1, hq => cases hq; exact hcJ
    | 2, hq => cases hq; exact hcZ
    | k + 3, hq => cases hq
  obtain ⟨AS, a0, a1, a2⟩ : ∃ AS : Nat → Nat, AS 100000 = t0 ∧ AS 100001 = t1 ∧ AS 100002 = t2 := ⟨fun k => cond (Nat.beq k 100000) t0 (cond (Nat.beq k 100001) t1 t2), rfl, rfl, rfl⟩
  have hEn : am_En AS (fun q : Nat => s.heap.size ≤ q) s := hEnA AS a0 a1 a2
  have hS : va_S (fun q : Nat => s.heap.size ≤ q) s.heap s.heap [] := va_S.rf
  have hK : va_K (dC, dI) vwCl (am_tys dA) s := ⟨hKc, hdA⟩
  have hP : va_P (dC, dI) vwCl [] s.heap := fun k q h => by simp at h
  have hD : va_D (fun q : Nat => s.heap.size ≤ q) [] := ⟨fun i j p q h => by simp at h, fun k q h => by simp at h⟩
  have hl := lv_entry ([.ref b]) (n := 7) (Nat.le_of_ble_eq_true rfl)
  rw [lg_entry_eq]
  generalize (lg_sl ([.ref b]) ++ List.replicate (7 - (lg_sl ([.ref b])).length) Slot.unset).toArray = ls at hl ⊢
  have hl : lv_has ls 7 [(0, .ref b)] := hl
  refine va_new (ci := 0) (fs := [.null, .null, .null, .null, .null, .null, .null]) (C := nR_Im) (T := nT_Im) (N := 7) hx hb hts nG_Im nY_Im nO_Im hown (hts _ w_79) (hts _ w_80) (hts _ w_60) hK hP hD hS hA rfl (by decide +kernel) (Nat.le_of_ble_eq_true rfl) (Nat.le_of_ble_eq_true rfl) d_La_law_0 (fun q0 H hP hD hS => ?_)
  have hP : va_P (dC, dI) vwCl [(q0, .inr (0, [.null, .null, .null, .null, .null, .null, .null]))] H := hP
  have hD : va_D (fun q : Nat => s.heap.size ≤ q) [(q0, .inr (0, [.null, .null, .null, .null, .null, .null, .null]))] := hD
  refine W.widen (k := 1) (n := 7) (by omega) (by omega) ?_
  refine lv_dup hx hb d_La_law_3 rfl ?_
  have hFc := va_free (wc := [(q0, .inr (0, [.null, .null, .null, .null, .null, .null, .null]))]) hD hS hA [0] rfl
  refine va_callv (va_runI (As := []) (rest := [.ref q0]) ⟨hx, hb, hml, hown, hts⟩ (k_Im l dC dI dA AS q0 H.size) ⟨callB_of 0 hts (am_goodIn w_83) rfl rfl rfl (hts _ w_60) (hts _ w_81) (by decide +kernel) ⟨Nat.le_of_ble_eq_true rfl, Nat.le_of_ble_eq_true rfl⟩, rfl, hts _ w_82⟩ ⟨am_BI_blind _ _ _ _ _ _ _, fun U hU hW => ⟨rfl, by rw [hU], by rw [hU]; exact hP, va_K.moved hW.alike hK, hD.weaken (fun _ _ _ _ => trivial), am_En.call hEn hW (by rw [hU]; exact hS) hFc⟩⟩ rfl rfl hl.1 rfl (lv_room (Nat.le_of_ble_eq_true rfl)) d_La_law_4 ⟨Nat.le_of_ble_eq_true rfl, Nat.le_of_ble_eq_true rfl⟩) hS (fun q _ h => hFc q h) hFc (fun u4 t H1 locs ht hvm hw hB hz1 hk1 hS => ?_)
  obtain ⟨hP1, -, hD1⟩ := hB
  rw [ht] at hP1
  obtain ⟨hP, hD⟩ := va_join (wr := []) (w1 := wf_Im dA q0 u4) hP hD [0] [] rfl rfl (by decide) (by decide) hk1 hFc hP1 hD1
  generalize H1 = H at hP hS ⊢
  have hP : va_P (dC, dI) vwCl (wf_Im dA q0 u4) H := hP
  have hD : va_D (fun q : Nat => s.heap.size ≤ q) (wf_Im dA q0 u4) := hD
  refine W.widen (k := 28) (n := 1065) (by omega) (by omega) ?_
  refine lv_astore_n (lv' := [(1, .ref q0), (0, .ref b)]) hx hb d_La_law_7 rfl hl (by decide) rfl (fun ls hl => ?_)
  refine va_new (ci := 7) (fs := [.int 0, .int 0, .null, .int 0, .int 0, .int 0, .int 0, .int 0, .int 0, .int 0, .int 0, .null, .null, .int 0, .int 0, .int 0, .null, .null, .int 0, .null, .null, .null, .null, .null, .null, .int 0, .int 0, .null, .null, .null, .null, .int 0, .int 0, .int 0, .int 0, .int 0, .null, .null, .null, .null, .null, .null, .null, .int 0, .null, .null, .int 0, .int 0, .null, .int 0, .int 0, .null, .int 0, .int 0, .null]) (C := nR_Mo) (T := nT_Mo) (N := 55) hx hb hts nG_Mo nY_Mo nO_Mo hown (hts _ w_825) (hts _ w_826) (hts _ w_68) hK hP hD hS hA rfl (by decide +kernel) (Nat.le_of_ble_eq_true rfl) (Nat.le_of_ble_eq_true rfl) d_La_law_8 (fun q8 H hP hD hS => ?_)
  have hP : va_P (dC, dI) vwCl (wf_Im dA q0 u4 ++ [(q8, .inr (7, [.int 0, .int 0, .null, .int 0, .int 0, .int 0, .int 0, .int 0, .int 0, .int 0, .int 0, .null, .null, .int 0, .int 0, .int 0, .null, .null, .int 0, .null, .null, .null, .null, .null, .null, .int 0, .int 0, .null, .null, .null, .null, .int 0, .int 0, .int 0, .int 0, .int 0, .null, .null, .null, .null, .null, .null, .null, .int 0, .null, .null, .int 0, .int 0, .null, .int 0, .int 0, .null, .int 0, .int 0, .null]))]) H := hP
  have hD : va_D (fun q : Nat => s.heap.size ≤ q) (wf_Im dA q0 u4 ++ [(q8, .inr (7, [.int 0, .int 0, .null, .int 0, .int 0, .int 0, .int 0, .int 0, .int 0, .int 0, .int 0, .null, .null, .int 0, .int 0, .int 0, .null, .null, .int 0, .null, .null, .null, .null, .null, .null, .int 0, .int 0, .null, .null, .null, .null, .int 0, .int 0, .int 0, .int 0, .int 0, .null, .null, .null, .null, .null, .null, .null, .int 0, .null, .null, .int 0, .int 0, .null, .int 0, .int 0, .null, .int 0, .int 0, .null]))]) := hD
  refine W.widen (k := 29) (n := 1120) (by omega) (by omega) ?_
  refine lv_dup hx hb d_La_law_11 rfl ?_
  have hPc := hP.sub (ws' := [(q8, .inr (7, [.int 0, .int 0, .null, .int 0, .int 0, .int 0, .int 0, .int 0, .int 0, .int 0, .int 0, .null, .null, .int 0, .int 0, .int 0, .null, .null, .int 0, .null, .null, .null, .null, .null, .null, .int 0, .int 0, .null, .null, .null, .null, .int 0, .int 0, .int 0, .int 0, .int 0, .null, .null, .null, .null, .null, .null, .null, .int 0, .null, .null, .int 0, .int 0, .null, .int 0, .int 0, .null, .int 0, .int 0, .null]))]) [28] rfl
  have hDc := hD.sub (ws' := [(q8, .inr (7, [.int 0, .int 0, .null, .int 0, .int 0, .int 0, .int 0, .int 0, .int 0, .int 0, .int 0, .null, .null, .int 0, .int 0, .int 0, .null, .null, .int 0, .null, .null, .null, .null, .null, .null, .int 0, .int 0, .null, .null, .null, .null, .int 0, .int 0, .int 0, .int 0, .int 0, .null, .null, .null, .null, .null, .null, .null, .int 0, .null, .null, .int 0, .int 0, .null, .int 0, .int 0, .null, .int 0, .int 0, .null]))]) [28] (by decide) rfl
  have hFc := va_free (wc := [(q8, .inr (7, [.int 0, .int 0, .null, .int 0, .int 0, .int 0, .int 0, .int 0, .int 0, .int 0, .int 0, .null, .null, .int 0, .int 0, .int 0, .null, .null, .int 0, .null, .null, .null, .null, .null, .null, .int 0, .int 0, .null, .null, .null, .null, .int 0, .int 0, .int 0, .int 0, .int 0, .null, .null, .null, .null, .null, .null, .null, .int 0, .null, .null, .int 0, .int 0, .null, .int 0, .int 0, .null, .int 0, .int 0, .null]))]) hD hS hA [28] rfl
  refine va_callv (va_runI (As := []) (rest := [.ref q8]) ⟨hx, hb, hml, hown, hts⟩ (k_Mo l dC dI dA AS q8 H.size) ⟨callB_of 0 hts (am_goodIn w_829) rfl rfl rfl (hts _ w_68) (hts _ w_827) (by decide +kernel) ⟨Nat.le_of_ble_eq_true rfl, Nat.le_of_ble_eq_true rfl⟩, rfl, hts _ w_828⟩ ⟨am_BI_blind _ _ _ _ _ _ _, fun U hU hW => ⟨rfl, by rw [hU], by rw [hU]; exact hPc, va_K.moved hW.alike hK, hDc.weaken (fun _ _ _ _ => trivial), am_En.call hEn hW (by rw [hU]; exact hS) hFc⟩⟩ rfl rfl hl.1 rfl (lv_room (Nat.le_of_ble_eq_true rfl)) d_La_law_12 ⟨Nat.le_of_ble_eq_true rfl, Nat.le_of_ble_eq_true rfl⟩) hS (fun q _ h => hFc q h) hFc (fun u12 t H1 locs ht hvm hw hB hz1 hk1 hS => ?_)
  obtain ⟨hP1, -, hD1⟩ := hB
  rw [ht] at hP1
  obtain ⟨hP, hD⟩ := va_join (wr := wf_Im dA q0 u4) (w1 := wf_Mo dA q8 u12) hP hD [28] [0, 1, 2, 3, 4, 5, 6, 7, 8, 9, 10, 11, 12, 13, 14, 15, 16, 17, 18, 19, 20, 21, 22, 23, 24, 25, 26, 27] rfl rfl (by decide) (by decide) hk1 hFc hP1 hD1
  generalize H1 = H at hP hS ⊢
  refine W.widen (k := 56) (n := 9226) (by omega) (by omega) ?_
  refine lv_astore_n (lv' := [(2, .ref q8), (1, .ref q0), (0, .ref b)]) hx hb d_La_law_15 rfl hl (by decide) rfl (fun ls hl => ?_)
  refine lv_iconst (v := 1) hx hb d_La_law_16 (by decide) ?_
  refine am_newJ hx hb (hts _ w_1172) hK hP hD hS hA 1 (by decide) (by decide) (by decide) (Nat.le_of_ble_eq_true rfl) (Nat.le_of_ble_eq_true rfl) d_La_law_17 (fun q17 H hP hD hS => ?_)
  refine W.widen (k := 57) (n := 9227) (by omega) (by omega) ?_
  refine lv_astore_n (lv' := [(3, .ref q17), (2, .ref q8), (1, .ref q0), (0, .ref b)]) hx hb d_La_law_19 rfl hl (by decide) rfl (fun ls hl => ?_)
  refine lv_iconst (v := 0) hx hb d_La_law_20 (by decide) ?_
  refine lv_istore (lv' := [(4, .int 0), (3, .ref q17), (2, .ref q8), (1, .ref q0), (0, .ref b)]) hx hb d_La_law_21 hl (by decide) rfl (fun ls hl => ?_)
  -- the places' addresses
  let A : Nat → Nat := fun k => cond (Nat.beq k 200000) b (cond (Nat.beq k 100000) t0 (cond (Nat.beq k 100001) t1 (cond (Nat.beq k 100002) t2 (([q0, u4.getD 0 0, u4.getD 1 0, u4.getD 2 0, u4.getD 3 0, u4.getD 4 0, u4.getD 5 0, u4.getD 6 0, u4.getD 7 0, u4.getD 8 0, u4.getD 9 0, u4.getD 10 0, u4.getD 11 0, u4.getD 12 0, u4.getD 13 0, u4.getD 14 0, u4.getD 15 0, u4.getD 16 0, u4.getD 17 0, u4.getD 18 0, u4.getD 19 0, u4.getD 20 0, u4.getD 21 0, u4.getD 22 0, u4.getD 23 0, u4.getD 24 0, u4.getD 25 0, u4.getD 26 0, q8, u12.getD 0 0, u12.getD 1 0, u12.getD 2 0, u12.getD 3 0, u12.getD 4 0, u12.getD 5 0, u12.getD 6 0, u12.getD 7 0, u12.getD 8 0, u12.getD 9 0, u12.getD 10 0, u12.getD 11 0, u12.getD 12 0, u12.getD 13 0, u12.getD 14 0, u12.getD 15 0, u12.getD 16 0, u12.getD 17 0, u12.getD 18 0, u12.getD 19 0, u12.getD 20 0, u12.getD 21 0, u12.getD 22 0, u12.getD 23 0, u12.getD 24 0, u12.getD 25 0, u12.getD 26 0, q17] : List Nat).getD k 0))))
  have hEn2 : am_En A (fun q : Nat => s.heap.size ≤ q) s := hEnA A rfl rfl rfl
  have hC : ∀ k n, k ≤ 1095 → n ≤ 17503 → am_C (am_EnL L xs) code 7 "ImposeSheetsLaw" 10 378 p room_1 s m #[Value.ref b] c dC dI dA A (fun q : Nat => s.heap.size ≤ q) k n := fun k n hk hn => ⟨hx, hb, hml, hown, hts, hK, hA, ⟨hEn2, hX, hbl, hbA⟩, ⟨Nat.le_refl 10, Nat.le_refl 378, hk, hn⟩⟩
  have hE : ∀ k n, k ≤ 1095 → n ≤ 17503 → am_End "ImposeSheetsLaw" code p l e room_1 s m #[Value.ref b] below meth c (lw_Z below #[Value.ref b] s) 7 dC dI dA A (fun q : Nat => s.heap.size ≤ q) k n lwRp := by
    intro k n hk hn
    refine ⟨fun x h H locs ls pc hR hP hD hS hd => ?_, (fun x h H locs ls pc hR => by cases hR), (fun h H locs ls pc hR => by cases hR), (fun kd h H locs ls pc hR => by cases hR)⟩
    cases hR
    exact W.forget (locs := []) (L := locs) hS.2.2 (W.widen hk hn (lw_ret hx hb hr hlocks hd))
  have hW := law_loop (A := A) (A0 := fun q : Nat => s.heap.size ≤ q) hst hC hE hL 512 0 57 9227 false (fun _ => 0) ls_F0 (fun _ => 0) ls_G0 (fun _ => 0) (by omega) (by omega) (by omega) (by omega) ls_Ivr
  exact hW H ls locs (lv_sub hl [4, 3, 2, 1, 0] rfl) hP hD hS
